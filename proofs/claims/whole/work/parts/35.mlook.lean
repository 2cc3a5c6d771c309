/-! ===== the reference sorts, looks ===== -/
def insR : Nat → (Nat → Nat → Int32) → (Nat → Nat → Int32)
  | 0, T => T
  | k + 1, T => if T k 0 ≤ T (k + 1) 0 then T else insR k (u1 (u1 T (k + 1) (T k)) k (T (k + 1)))
def sortT (n : Nat) (T : Nat → Nat → Int32) : Nat → Nat → Int32 := itr insR n T
theorem Md_7 {m0 μ : mMu} {f f' : Nat → Nat → Int32} {l : Nat → Nat → Int64} {r : Nat → Nat → Option Nat} {k z : Nat} {c : Nat → Nat} {S : Nat → Nat → Nat → Int32} {T T' : Nat → Nat → Int32} (h : Md m0 μ f l r k z c (u1 S 7 T)) (hf : ∀ a, a ≠ 145 → a ≠ 151 → f' a = f a) (ht : MRr (f' 145) 10 38 T') : Md m0 μ f' l r k z c (u1 S 7 T') := by
  have h2 := MR_7 h.2.2.2.2 (f' := f') (fun a h1 h3 h4 => hf a (by omega) (by omega)) ht
  rw [y1_y1] at h2
  exact Md_f h (fun a ha => hf a (by omega) (by omega)) h2
theorem O_ins {m0 μ : mMu} {l : Nat → Nat → Int64} {r : Nat → Nat → Option Nat} {k z : Nat} {c : Nat → Nat} {S : Nat → Nat → Nat → Int32} {t : Nat} : ∀ (j : Nat) (f : Nat → Nat → Int32) (T : Nat → Nat → Int32), j < 10 → Md m0 μ f l r k z c (u1 S 7 T) → ∃ f' o, RUN 139 14 [some (.ref 137), some (.int (nI t)), some (.int (nI j))] [] (st μ f l r) = RUN 139 2 [some (.ref 137), some (.int (nI (t + 1))), o] [] (st μ f' l r) ∧ Md m0 μ f' l r k z c (u1 S 7 (insR j T))
  | 0, f, T, hj, h => by
    rw [B_139_14]
    simp (disch := omega) only [st_I, st_L, st_R, st_S, st_N, st_C, st_Z, st_X, st_D, st_st, st_sI, st_sIr, st_sL, st_sR, gfI_st, gfL_st, gfR_st, gfN_st, pfI_st, pfL_st, pfR_st, pfZ_st0, pfZ_st1, ldI_st, ldL_st, stoI_st, stoL_st, aln_st, cpA_st, bq_st, bq_S, oI_s, oL_s, oD_s, oV_s, oR_s, oR_n, oI_e, oL_e, oD_e, Option.bind_some, fa_lit, fa_litL, nI_add, pk_mul, nI_m1, nI_lt', nI_le', nI_eq', lc_ge, lc_le, lc_gt, lc_lt, lc_eq, isZ_0, isZ_1, bI_0, bI_z, decide_eq_true_eq, Bool.not_eq_true', Bool.not_true, Bool.not_false, decide_eq_false_iff_not, if_true, if_false, ite_true, ite_false, eq_self, not_true, not_false_eq_true, C_95, C_96, C_97, C_99, C_100, C_102, C_106, C_107, C_109, C_168, C_171, C_172, C_173, C_174, C_175, yu_ne, yu_eq, up_eq, up_ne, yur_ne, yur_eq, yu_uu, y1_eq, y1_ne, y1_y1, Nat.mul_zero, Nat.zero_mul, Nat.add_zero, Nat.zero_add, Nat.mul_one, Nat.one_mul, Nat.reduceEqDiff, Nat.reduceLT, Nat.reduceLeDiff, Nat.reduceAdd, Nat.reduceMul, decide_true, decide_false, cond_true, cond_false, reduceCtorEq, Bool.false_eq_true, Bool.true_eq_false, Bool.true_and, Bool.and_true, Bool.false_and, Bool.and_false, Nat.le_refl]
    exact ⟨_, _, rfl, h⟩
  | j + 1, f, T, hj, h => by
    have hs := h.1
    have hr := h.2.1
    have h137a : (mS μ 137).1 = 9 := by rw [hs 137 (by decide)]; rfl
    have h145a : (mS μ 145).1 = 20 := by rw [hs 145 (by decide)]; rfl
    have h145b : (mS μ 145).2 = 380 := by rw [hs 145 (by decide)]; rfl
    have h151a : (mS μ 151).1 = 20 := by rw [hs 151 (by decide)]; rfl
    have h151b : (mS μ 151).2 = 38 := by rw [hs 151 (by decide)]; rfl
    have r137_8 : r 137 8 = some 145 := hr 137 8 145 rfl
    have r137_19 : r 137 19 = some 151 := hr 137 19 151 rfl
    have h7 : MRr (f 145) 10 38 T := by
      have := h.2.2.2.2.2.2.2.2.2.2.2.1
      rw [y1_eq] at this
      exact this
    have e1 : nI (j + 1) - nI 1 = nI j := nI_s1 j
    have ea : f 145 (38 * (j + 1)) = T (j + 1) 0 := h7 (j + 1) 0 hj (by decide)
    have eb : f 145 (38 * j) = T j 0 := h7 j 0 (by omega) (by decide)
    have hj0 : ¬ j + 1 ≤ 0 := by omega
    rw [B_139_14]
    simp (disch := omega) only [st_I, st_L, st_R, st_S, st_N, st_C, st_Z, st_X, st_D, st_st, st_sI, st_sIr, st_sL, st_sR, gfI_st, gfL_st, gfR_st, gfN_st, pfI_st, pfL_st, pfR_st, pfZ_st0, pfZ_st1, ldI_st, ldL_st, stoI_st, stoL_st, aln_st, cpA_st, bq_st, bq_S, oI_s, oL_s, oD_s, oV_s, oR_s, oR_n, oI_e, oL_e, oD_e, Option.bind_some, fa_lit, fa_litL, nI_add, pk_mul, nI_m1, nI_lt', nI_le', nI_eq', lc_ge, lc_le, lc_gt, lc_lt, lc_eq, isZ_0, isZ_1, bI_0, bI_z, decide_eq_true_eq, Bool.not_eq_true', Bool.not_true, Bool.not_false, decide_eq_false_iff_not, if_true, if_false, ite_true, ite_false, eq_self, not_true, not_false_eq_true, C_95, C_96, C_97, C_99, C_100, C_102, C_106, C_107, C_109, C_168, C_171, C_172, C_173, C_174, C_175, yu_ne, yu_eq, up_eq, up_ne, yur_ne, yur_eq, yu_uu, y1_eq, y1_ne, y1_y1, Nat.mul_zero, Nat.zero_mul, Nat.add_zero, Nat.zero_add, Nat.mul_one, Nat.one_mul, Nat.reduceEqDiff, Nat.reduceLT, Nat.reduceLeDiff, Nat.reduceAdd, Nat.reduceMul, decide_true, decide_false, cond_true, cond_false, reduceCtorEq, Bool.false_eq_true, Bool.true_eq_false, Bool.true_and, Bool.and_true, Bool.false_and, Bool.and_false, r137_8, r137_19, hj0, e1, C_124r hs hr (t := j + 1) (w := 0) hj (by decide), C_124r hs hr (t := j) (w := 0) (by omega) (by decide), ea, eb]
    unfold insR
    by_cases q : T j 0 ≤ T (j + 1) 0
    · simp (disch := omega) only [st_I, st_L, st_R, st_S, st_N, st_C, st_Z, st_X, st_D, st_st, st_sI, st_sIr, st_sL, st_sR, gfI_st, gfL_st, gfR_st, gfN_st, pfI_st, pfL_st, pfR_st, pfZ_st0, pfZ_st1, ldI_st, ldL_st, stoI_st, stoL_st, aln_st, cpA_st, bq_st, bq_S, oI_s, oL_s, oD_s, oV_s, oR_s, oR_n, oI_e, oL_e, oD_e, Option.bind_some, fa_lit, fa_litL, nI_add, pk_mul, nI_m1, nI_lt', nI_le', nI_eq', lc_ge, lc_le, lc_gt, lc_lt, lc_eq, isZ_0, isZ_1, bI_0, bI_z, decide_eq_true_eq, Bool.not_eq_true', Bool.not_true, Bool.not_false, decide_eq_false_iff_not, if_true, if_false, ite_true, ite_false, eq_self, not_true, not_false_eq_true, C_95, C_96, C_97, C_99, C_100, C_102, C_106, C_107, C_109, C_168, C_171, C_172, C_173, C_174, C_175, yu_ne, yu_eq, up_eq, up_ne, yur_ne, yur_eq, yu_uu, y1_eq, y1_ne, y1_y1, Nat.mul_zero, Nat.zero_mul, Nat.add_zero, Nat.zero_add, Nat.mul_one, Nat.one_mul, Nat.reduceEqDiff, Nat.reduceLT, Nat.reduceLeDiff, Nat.reduceAdd, Nat.reduceMul, decide_true, decide_false, cond_true, cond_false, reduceCtorEq, Bool.false_eq_true, Bool.true_eq_false, Bool.true_and, Bool.and_true, Bool.false_and, Bool.and_false, r137_8, r137_19, q]
      exact ⟨_, _, rfl, h⟩
    · simp (disch := omega) only [st_I, st_L, st_R, st_S, st_N, st_C, st_Z, st_X, st_D, st_st, st_sI, st_sIr, st_sL, st_sR, gfI_st, gfL_st, gfR_st, gfN_st, pfI_st, pfL_st, pfR_st, pfZ_st0, pfZ_st1, ldI_st, ldL_st, stoI_st, stoL_st, aln_st, cpA_st, bq_st, bq_S, oI_s, oL_s, oD_s, oV_s, oR_s, oR_n, oI_e, oL_e, oD_e, Option.bind_some, fa_lit, fa_litL, nI_add, pk_mul, nI_m1, nI_lt', nI_le', nI_eq', lc_ge, lc_le, lc_gt, lc_lt, lc_eq, isZ_0, isZ_1, bI_0, bI_z, decide_eq_true_eq, Bool.not_eq_true', Bool.not_true, Bool.not_false, decide_eq_false_iff_not, if_true, if_false, ite_true, ite_false, eq_self, not_true, not_false_eq_true, C_95, C_96, C_97, C_99, C_100, C_102, C_106, C_107, C_109, C_168, C_171, C_172, C_173, C_174, C_175, yu_ne, yu_eq, up_eq, up_ne, yur_ne, yur_eq, yu_uu, y1_eq, y1_ne, y1_y1, Nat.mul_zero, Nat.zero_mul, Nat.add_zero, Nat.zero_add, Nat.mul_one, Nat.one_mul, Nat.reduceEqDiff, Nat.reduceLT, Nat.reduceLeDiff, Nat.reduceAdd, Nat.reduceMul, decide_true, decide_false, cond_true, cond_false, reduceCtorEq, Bool.false_eq_true, Bool.true_eq_false, Bool.true_and, Bool.and_true, Bool.false_and, Bool.and_false, r137_8, r137_19, q]
      refine O_ins j _ _ (by omega) (Md_7 h (fun a h1 h2 => by simp (disch := omega) only [st_I, st_L, st_R, st_S, st_N, st_C, st_Z, st_X, st_D, st_st, st_sI, st_sIr, st_sL, st_sR, gfI_st, gfL_st, gfR_st, gfN_st, pfI_st, pfL_st, pfR_st, pfZ_st0, pfZ_st1, ldI_st, ldL_st, stoI_st, stoL_st, aln_st, cpA_st, bq_st, bq_S, oI_s, oL_s, oD_s, oV_s, oR_s, oR_n, oI_e, oL_e, oD_e, Option.bind_some, fa_lit, fa_litL, nI_add, pk_mul, nI_m1, nI_lt', nI_le', nI_eq', lc_ge, lc_le, lc_gt, lc_lt, lc_eq, isZ_0, isZ_1, bI_0, bI_z, decide_eq_true_eq, Bool.not_eq_true', Bool.not_true, Bool.not_false, decide_eq_false_iff_not, if_true, if_false, ite_true, ite_false, eq_self, not_true, not_false_eq_true, C_95, C_96, C_97, C_99, C_100, C_102, C_106, C_107, C_109, C_168, C_171, C_172, C_173, C_174, C_175, yu_ne, yu_eq, up_eq, up_ne, yur_ne, yur_eq, yu_uu, y1_eq, y1_ne, y1_y1, Nat.mul_zero, Nat.zero_mul, Nat.add_zero, Nat.zero_add, Nat.mul_one, Nat.one_mul, Nat.reduceEqDiff, Nat.reduceLT, Nat.reduceLeDiff, Nat.reduceAdd, Nat.reduceMul, decide_true, decide_false, cond_true, cond_false, reduceCtorEq, Bool.false_eq_true, Bool.true_eq_false, Bool.true_and, Bool.and_true, Bool.false_and, Bool.and_false, r137_8, r137_19]) ?_)
      simp (disch := omega) only [st_I, st_L, st_R, st_S, st_N, st_C, st_Z, st_X, st_D, st_st, st_sI, st_sIr, st_sL, st_sR, gfI_st, gfL_st, gfR_st, gfN_st, pfI_st, pfL_st, pfR_st, pfZ_st0, pfZ_st1, ldI_st, ldL_st, stoI_st, stoL_st, aln_st, cpA_st, bq_st, bq_S, oI_s, oL_s, oD_s, oV_s, oR_s, oR_n, oI_e, oL_e, oD_e, Option.bind_some, fa_lit, fa_litL, nI_add, pk_mul, nI_m1, nI_lt', nI_le', nI_eq', lc_ge, lc_le, lc_gt, lc_lt, lc_eq, isZ_0, isZ_1, bI_0, bI_z, decide_eq_true_eq, Bool.not_eq_true', Bool.not_true, Bool.not_false, decide_eq_false_iff_not, if_true, if_false, ite_true, ite_false, eq_self, not_true, not_false_eq_true, C_95, C_96, C_97, C_99, C_100, C_102, C_106, C_107, C_109, C_168, C_171, C_172, C_173, C_174, C_175, yu_ne, yu_eq, up_eq, up_ne, yur_ne, yur_eq, yu_uu, y1_eq, y1_ne, y1_y1, Nat.mul_zero, Nat.zero_mul, Nat.add_zero, Nat.zero_add, Nat.mul_one, Nat.one_mul, Nat.reduceEqDiff, Nat.reduceLT, Nat.reduceLeDiff, Nat.reduceAdd, Nat.reduceMul, decide_true, decide_false, cond_true, cond_false, reduceCtorEq, Bool.false_eq_true, Bool.true_eq_false, Bool.true_and, Bool.and_true, Bool.false_and, Bool.and_false, r137_8, r137_19]
      have hh : ∀ w, w < 38 → cpF (f 145) (f 151) (38 * (j + 1)) 0 38 w = T (j + 1) w := fun w hw => by
        unfold cpF
        rw [if_pos (by omega), Nat.sub_zero]
        exact h7 (j + 1) w hj hw
      have h9 := MRr_put (t := cpF (f 145) (f 151) (38 * (j + 1)) 0 38) (p := j) (MRr_mv (i := j) (d := j + 1) h7 (by omega))
      refine MRr_ext h9 fun i w hi hw => ?_
      unfold u1
      by_cases q1 : i = j
      · rw [if_pos q1, if_pos q1]
        exact hh w hw
      · rw [if_neg q1, if_neg q1]
theorem C_139 {m0 μ : mMu} {f : Nat → Nat → Int32} {l : Nat → Nat → Int64} {r : Nat → Nat → Option Nat} {k z : Nat} {c : Nat → Nat} {S : Nat → Nat → Nat → Int32} (h : Md m0 μ f l r k z c S) (hc : CB c) : MV (CALL 139 [.ref 137] (st μ f l r)) m0 k z c (u1 S 7 (sortT (c 4) (S 7))) := by
  have hs := h.1
  have hr := h.2.1
  have h137a : (mS μ 137).1 = 9 := by rw [hs 137 (by decide)]; rfl
  have h138a : (mS μ 138).1 = 20 := by rw [hs 138 (by decide)]; rfl
  have h138b : (mS μ 138).2 = 15 := by rw [hs 138 (by decide)]; rfl
  have r137_1 : r 137 1 = some 138 := hr 137 1 138 rfl
  have hc' := hc
  obtain ⟨c0, c1, c2, c3, c4, c5, c6, c7, c8, c9, c10, c11, c12, c13, c14⟩ := hc
  rw [B_139_0]
  simp (disch := omega) only [st_I, st_L, st_R, st_S, st_N, st_C, st_Z, st_X, st_D, st_st, st_sI, st_sIr, st_sL, st_sR, gfI_st, gfL_st, gfR_st, gfN_st, pfI_st, pfL_st, pfR_st, pfZ_st0, pfZ_st1, ldI_st, ldL_st, stoI_st, stoL_st, aln_st, cpA_st, bq_st, bq_S, oI_s, oL_s, oD_s, oV_s, oR_s, oR_n, oI_e, oL_e, oD_e, Option.bind_some, fa_lit, fa_litL, nI_add, pk_mul, nI_m1, nI_lt', nI_le', nI_eq', lc_ge, lc_le, lc_gt, lc_lt, lc_eq, isZ_0, isZ_1, bI_0, bI_z, decide_eq_true_eq, Bool.not_eq_true', Bool.not_true, Bool.not_false, decide_eq_false_iff_not, if_true, if_false, ite_true, ite_false, eq_self, not_true, not_false_eq_true, C_95, C_96, C_97, C_99, C_100, C_102, C_106, C_107, C_109, C_168, C_171, C_172, C_173, C_174, C_175, yu_ne, yu_eq, up_eq, up_ne, yur_ne, yur_eq, yu_uu, y1_eq, y1_ne, y1_y1, Nat.mul_zero, Nat.zero_mul, Nat.add_zero, Nat.zero_add, Nat.mul_one, Nat.one_mul, Nat.reduceEqDiff, Nat.reduceLT, Nat.reduceLeDiff, Nat.reduceAdd, Nat.reduceMul, decide_true, decide_false, cond_true, cond_false, reduceCtorEq, Bool.false_eq_true, Bool.true_eq_false, Bool.true_and, Bool.and_true, Bool.false_and, Bool.and_false, r137_1]
  refine loopP (fun i o => ∃ f' o2, o = RUN 139 2 [some (.ref 137), some (.int (nI (i + 1))), o2] [] (st μ f' l r) ∧ Md m0 μ f' l r k z c (u1 S 7 (sortT (if i < c 4 then i + 1 else c 4) (S 7)))) (fun o => MV o m0 k z c (u1 S 7 (sortT (c 4) (S 7)))) (c 4) ?_ ?_ 0 _ (Nat.zero_le _) ⟨f, _, rfl, ?_⟩
  · rintro o ⟨f', o2, rfl, h'⟩
    have L4 : f' 138 4 = nI (c 4) := h'.2.2.2.2.1 4 (by decide)
    rw [if_neg (Nat.lt_irrefl _)] at h'
    rw [B_139_2]
    simp (disch := omega) only [st_I, st_L, st_R, st_S, st_N, st_C, st_Z, st_X, st_D, st_st, st_sI, st_sIr, st_sL, st_sR, gfI_st, gfL_st, gfR_st, gfN_st, pfI_st, pfL_st, pfR_st, pfZ_st0, pfZ_st1, ldI_st, ldL_st, stoI_st, stoL_st, aln_st, cpA_st, bq_st, bq_S, oI_s, oL_s, oD_s, oV_s, oR_s, oR_n, oI_e, oL_e, oD_e, Option.bind_some, fa_lit, fa_litL, nI_add, pk_mul, nI_m1, nI_lt', nI_le', nI_eq', lc_ge, lc_le, lc_gt, lc_lt, lc_eq, isZ_0, isZ_1, bI_0, bI_z, decide_eq_true_eq, Bool.not_eq_true', Bool.not_true, Bool.not_false, decide_eq_false_iff_not, if_true, if_false, ite_true, ite_false, eq_self, not_true, not_false_eq_true, C_95, C_96, C_97, C_99, C_100, C_102, C_106, C_107, C_109, C_168, C_171, C_172, C_173, C_174, C_175, yu_ne, yu_eq, up_eq, up_ne, yur_ne, yur_eq, yu_uu, y1_eq, y1_ne, y1_y1, Nat.mul_zero, Nat.zero_mul, Nat.add_zero, Nat.zero_add, Nat.mul_one, Nat.one_mul, Nat.reduceEqDiff, Nat.reduceLT, Nat.reduceLeDiff, Nat.reduceAdd, Nat.reduceMul, decide_true, decide_false, cond_true, cond_false, reduceCtorEq, Bool.false_eq_true, Bool.true_eq_false, Bool.true_and, Bool.and_true, Bool.false_and, Bool.and_false, r137_1, L4, Nat.le_succ]
    exact ⟨_, _, _, _, rfl, h'⟩
  · rintro i o hi ⟨f', o2, rfl, h'⟩
    have L4 : f' 138 4 = nI (c 4) := h'.2.2.2.2.1 4 (by decide)
    rw [if_pos hi] at h'
    rw [B_139_2]
    by_cases q : c 4 ≤ i + 1
    · left
      have e : i + 1 = c 4 := by omega
      rw [e] at h'
      simp (disch := omega) only [st_I, st_L, st_R, st_S, st_N, st_C, st_Z, st_X, st_D, st_st, st_sI, st_sIr, st_sL, st_sR, gfI_st, gfL_st, gfR_st, gfN_st, pfI_st, pfL_st, pfR_st, pfZ_st0, pfZ_st1, ldI_st, ldL_st, stoI_st, stoL_st, aln_st, cpA_st, bq_st, bq_S, oI_s, oL_s, oD_s, oV_s, oR_s, oR_n, oI_e, oL_e, oD_e, Option.bind_some, fa_lit, fa_litL, nI_add, pk_mul, nI_m1, nI_lt', nI_le', nI_eq', lc_ge, lc_le, lc_gt, lc_lt, lc_eq, isZ_0, isZ_1, bI_0, bI_z, decide_eq_true_eq, Bool.not_eq_true', Bool.not_true, Bool.not_false, decide_eq_false_iff_not, if_true, if_false, ite_true, ite_false, eq_self, not_true, not_false_eq_true, C_95, C_96, C_97, C_99, C_100, C_102, C_106, C_107, C_109, C_168, C_171, C_172, C_173, C_174, C_175, yu_ne, yu_eq, up_eq, up_ne, yur_ne, yur_eq, yu_uu, y1_eq, y1_ne, y1_y1, Nat.mul_zero, Nat.zero_mul, Nat.add_zero, Nat.zero_add, Nat.mul_one, Nat.one_mul, Nat.reduceEqDiff, Nat.reduceLT, Nat.reduceLeDiff, Nat.reduceAdd, Nat.reduceMul, decide_true, decide_false, cond_true, cond_false, reduceCtorEq, Bool.false_eq_true, Bool.true_eq_false, Bool.true_and, Bool.and_true, Bool.false_and, Bool.and_false, r137_1, L4, q]
      exact ⟨_, _, _, _, rfl, h'⟩
    · right
      simp (disch := omega) only [st_I, st_L, st_R, st_S, st_N, st_C, st_Z, st_X, st_D, st_st, st_sI, st_sIr, st_sL, st_sR, gfI_st, gfL_st, gfR_st, gfN_st, pfI_st, pfL_st, pfR_st, pfZ_st0, pfZ_st1, ldI_st, ldL_st, stoI_st, stoL_st, aln_st, cpA_st, bq_st, bq_S, oI_s, oL_s, oD_s, oV_s, oR_s, oR_n, oI_e, oL_e, oD_e, Option.bind_some, fa_lit, fa_litL, nI_add, pk_mul, nI_m1, nI_lt', nI_le', nI_eq', lc_ge, lc_le, lc_gt, lc_lt, lc_eq, isZ_0, isZ_1, bI_0, bI_z, decide_eq_true_eq, Bool.not_eq_true', Bool.not_true, Bool.not_false, decide_eq_false_iff_not, if_true, if_false, ite_true, ite_false, eq_self, not_true, not_false_eq_true, C_95, C_96, C_97, C_99, C_100, C_102, C_106, C_107, C_109, C_168, C_171, C_172, C_173, C_174, C_175, yu_ne, yu_eq, up_eq, up_ne, yur_ne, yur_eq, yu_uu, y1_eq, y1_ne, y1_y1, Nat.mul_zero, Nat.zero_mul, Nat.add_zero, Nat.zero_add, Nat.mul_one, Nat.one_mul, Nat.reduceEqDiff, Nat.reduceLT, Nat.reduceLeDiff, Nat.reduceAdd, Nat.reduceMul, decide_true, decide_false, cond_true, cond_false, reduceCtorEq, Bool.false_eq_true, Bool.true_eq_false, Bool.true_and, Bool.and_true, Bool.false_and, Bool.and_false, r137_1, L4, q]
      obtain ⟨f2, o3, q2, h2⟩ := O_ins (t := i + 1) (i + 1) f' _ (by omega) h'
      rw [q2]
      refine ⟨f2, o3, rfl, ?_⟩
      rw [if_pos (by omega)]
      exact h2
  · have e : sortT (if 0 < c 4 then 0 + 1 else c 4) (S 7) = S 7 := by
      split
      · rfl
      · have : c 4 = 0 := by omega
        rw [this]; rfl
    rw [e, y1_id]
    exact h
/-! crossings -/
def p_sd (R : Nat → Int32) (x y : Int64) : Int32 := p_sg ((R 1 - R 10).toInt64 * (y - (R 11).toInt64) - (R 2 - R 11).toInt64 * (x - (R 10).toInt64))
def p_on (R : Nat → Int32) (x y : Int64) : Bool := decide (p_sd R x y = nI 0) && (p_bt x (R 10).toInt64 (R 1).toInt64 && p_bt y (R 11).toInt64 (R 2).toInt64)
def p_cr (A B : Nat → Int32) : Bool := p_on A (B 1).toInt64 (B 2).toInt64 || (p_on A (B 10).toInt64 (B 11).toInt64 || (p_on B (A 1).toInt64 (A 2).toInt64 || (p_on B (A 10).toInt64 (A 11).toInt64 || (!decide (nI 0 ≤ p_sd A (B 1).toInt64 (B 2).toInt64 * p_sd A (B 10).toInt64 (B 11).toInt64) && !decide (nI 0 ≤ p_sd B (A 1).toInt64 (A 2).toInt64 * p_sd B (A 10).toInt64 (A 11).toInt64)))))
theorem C_140 {μ : mMu} {f : Nat → Nat → Int32} {l : Nat → Nat → Int64} {r : Nat → Nat → Option Nat} (hs : Sh μ) (hr : Rf r) {c : Nat → Nat} {S : Nat → Nat → Nat → Int32} (hm : MR f c S) (hc : CB c) {t : Nat} {x y : Int64} (ht : t < 10) : CALL 140 [.ref 137, .int (nI t), .long x, .long y] (st μ f l r) = some (.inl (some (.int (p_sd (S 7 t) x y))), st μ f l r) := by
  have h137a : (mS μ 137).1 = 9 := by rw [hs 137 (by decide)]; rfl
  rw [B_140_0]
  simp (disch := omega) only [st_I, st_L, st_R, st_S, st_N, st_C, st_Z, st_X, st_D, st_st, st_sI, st_sIr, st_sL, st_sR, gfI_st, gfL_st, gfR_st, gfN_st, pfI_st, pfL_st, pfR_st, pfZ_st0, pfZ_st1, ldI_st, ldL_st, stoI_st, stoL_st, aln_st, cpA_st, bq_st, bq_S, oI_s, oL_s, oD_s, oV_s, oR_s, oR_n, oI_e, oL_e, oD_e, Option.bind_some, fa_lit, fa_litL, nI_add, pk_mul, nI_m1, nI_lt', nI_le', nI_eq', lc_ge, lc_le, lc_gt, lc_lt, lc_eq, isZ_0, isZ_1, bI_0, bI_z, decide_eq_true_eq, Bool.not_eq_true', Bool.not_true, Bool.not_false, decide_eq_false_iff_not, if_true, if_false, ite_true, ite_false, eq_self, not_true, not_false_eq_true, C_95, C_96, C_97, C_99, C_100, C_102, C_106, C_107, C_109, C_168, C_171, C_172, C_173, C_174, C_175, yu_ne, yu_eq, up_eq, up_ne, yur_ne, yur_eq, yu_uu, y1_eq, y1_ne, y1_y1, Nat.mul_zero, Nat.zero_mul, Nat.add_zero, Nat.zero_add, Nat.mul_one, Nat.one_mul, Nat.reduceEqDiff, Nat.reduceLT, Nat.reduceLeDiff, Nat.reduceAdd, Nat.reduceMul, decide_true, decide_false, cond_true, cond_false, reduceCtorEq, Bool.false_eq_true, Bool.true_eq_false, Bool.true_and, Bool.and_true, Bool.false_and, Bool.and_false, C_124 hs hr hm hc ht]
  rfl
theorem C_142 {μ : mMu} {f : Nat → Nat → Int32} {l : Nat → Nat → Int64} {r : Nat → Nat → Option Nat} (hs : Sh μ) (hr : Rf r) {c : Nat → Nat} {S : Nat → Nat → Nat → Int32} (hm : MR f c S) (hc : CB c) {t : Nat} {x y : Int64} (ht : t < 10) : CALL 142 [.ref 137, .int (nI t), .long x, .long y] (st μ f l r) = some (.inl (some (.int (bI (p_on (S 7 t) x y)))), st μ f l r) := by
  have h137a : (mS μ 137).1 = 9 := by rw [hs 137 (by decide)]; rfl
  rw [B_142_0]
  simp (disch := omega) only [st_I, st_L, st_R, st_S, st_N, st_C, st_Z, st_X, st_D, st_st, st_sI, st_sIr, st_sL, st_sR, gfI_st, gfL_st, gfR_st, gfN_st, pfI_st, pfL_st, pfR_st, pfZ_st0, pfZ_st1, ldI_st, ldL_st, stoI_st, stoL_st, aln_st, cpA_st, bq_st, bq_S, oI_s, oL_s, oD_s, oV_s, oR_s, oR_n, oI_e, oL_e, oD_e, Option.bind_some, fa_lit, fa_litL, nI_add, pk_mul, nI_m1, nI_lt', nI_le', nI_eq', lc_ge, lc_le, lc_gt, lc_lt, lc_eq, isZ_0, isZ_1, bI_0, bI_z, decide_eq_true_eq, Bool.not_eq_true', Bool.not_true, Bool.not_false, decide_eq_false_iff_not, if_true, if_false, ite_true, ite_false, eq_self, not_true, not_false_eq_true, C_95, C_96, C_97, C_99, C_100, C_102, C_106, C_107, C_109, C_168, C_171, C_172, C_173, C_174, C_175, yu_ne, yu_eq, up_eq, up_ne, yur_ne, yur_eq, yu_uu, y1_eq, y1_ne, y1_y1, Nat.mul_zero, Nat.zero_mul, Nat.add_zero, Nat.zero_add, Nat.mul_one, Nat.one_mul, Nat.reduceEqDiff, Nat.reduceLT, Nat.reduceLeDiff, Nat.reduceAdd, Nat.reduceMul, decide_true, decide_false, cond_true, cond_false, reduceCtorEq, Bool.false_eq_true, Bool.true_eq_false, Bool.true_and, Bool.and_true, Bool.false_and, Bool.and_false, C_124 hs hr hm hc ht, C_140 hs hr hm hc ht, C_141]
  unfold p_on
  by_cases q : p_sd (S 7 t) x y = nI 0
  · simp (disch := omega) only [st_I, st_L, st_R, st_S, st_N, st_C, st_Z, st_X, st_D, st_st, st_sI, st_sIr, st_sL, st_sR, gfI_st, gfL_st, gfR_st, gfN_st, pfI_st, pfL_st, pfR_st, pfZ_st0, pfZ_st1, ldI_st, ldL_st, stoI_st, stoL_st, aln_st, cpA_st, bq_st, bq_S, oI_s, oL_s, oD_s, oV_s, oR_s, oR_n, oI_e, oL_e, oD_e, Option.bind_some, fa_lit, fa_litL, nI_add, pk_mul, nI_m1, nI_lt', nI_le', nI_eq', lc_ge, lc_le, lc_gt, lc_lt, lc_eq, isZ_0, isZ_1, bI_0, bI_z, decide_eq_true_eq, Bool.not_eq_true', Bool.not_true, Bool.not_false, decide_eq_false_iff_not, if_true, if_false, ite_true, ite_false, eq_self, not_true, not_false_eq_true, C_95, C_96, C_97, C_99, C_100, C_102, C_106, C_107, C_109, C_168, C_171, C_172, C_173, C_174, C_175, yu_ne, yu_eq, up_eq, up_ne, yur_ne, yur_eq, yu_uu, y1_eq, y1_ne, y1_y1, Nat.mul_zero, Nat.zero_mul, Nat.add_zero, Nat.zero_add, Nat.mul_one, Nat.one_mul, Nat.reduceEqDiff, Nat.reduceLT, Nat.reduceLeDiff, Nat.reduceAdd, Nat.reduceMul, decide_true, decide_false, cond_true, cond_false, reduceCtorEq, Bool.false_eq_true, Bool.true_eq_false, Bool.true_and, Bool.and_true, Bool.false_and, Bool.and_false, q]
    cases p_bt x (S 7 t 10).toInt64 (S 7 t 1).toInt64 <;> cases p_bt y (S 7 t 11).toInt64 (S 7 t 2).toInt64 <;> rfl
  · simp (disch := omega) only [st_I, st_L, st_R, st_S, st_N, st_C, st_Z, st_X, st_D, st_st, st_sI, st_sIr, st_sL, st_sR, gfI_st, gfL_st, gfR_st, gfN_st, pfI_st, pfL_st, pfR_st, pfZ_st0, pfZ_st1, ldI_st, ldL_st, stoI_st, stoL_st, aln_st, cpA_st, bq_st, bq_S, oI_s, oL_s, oD_s, oV_s, oR_s, oR_n, oI_e, oL_e, oD_e, Option.bind_some, fa_lit, fa_litL, nI_add, pk_mul, nI_m1, nI_lt', nI_le', nI_eq', lc_ge, lc_le, lc_gt, lc_lt, lc_eq, isZ_0, isZ_1, bI_0, bI_z, decide_eq_true_eq, Bool.not_eq_true', Bool.not_true, Bool.not_false, decide_eq_false_iff_not, if_true, if_false, ite_true, ite_false, eq_self, not_true, not_false_eq_true, C_95, C_96, C_97, C_99, C_100, C_102, C_106, C_107, C_109, C_168, C_171, C_172, C_173, C_174, C_175, yu_ne, yu_eq, up_eq, up_ne, yur_ne, yur_eq, yu_uu, y1_eq, y1_ne, y1_y1, Nat.mul_zero, Nat.zero_mul, Nat.add_zero, Nat.zero_add, Nat.mul_one, Nat.one_mul, Nat.reduceEqDiff, Nat.reduceLT, Nat.reduceLeDiff, Nat.reduceAdd, Nat.reduceMul, decide_true, decide_false, cond_true, cond_false, reduceCtorEq, Bool.false_eq_true, Bool.true_eq_false, Bool.true_and, Bool.and_true, Bool.false_and, Bool.and_false, q]
    rfl
theorem C_143 {μ : mMu} {f : Nat → Nat → Int32} {l : Nat → Nat → Int64} {r : Nat → Nat → Option Nat} (hs : Sh μ) (hr : Rf r) {c : Nat → Nat} {S : Nat → Nat → Nat → Int32} (hm : MR f c S) (hc : CB c) {a b : Nat} (ha : a < 10) (hb : b < 10) : CALL 143 [.ref 137, .int (nI a), .int (nI b)] (st μ f l r) = some (.inl (some (.int (bI (p_cr (S 7 a) (S 7 b))))), st μ f l r) := by
  have h137a : (mS μ 137).1 = 9 := by rw [hs 137 (by decide)]; rfl
  rw [B_143_0]
  simp (disch := omega) only [st_I, st_L, st_R, st_S, st_N, st_C, st_Z, st_X, st_D, st_st, st_sI, st_sIr, st_sL, st_sR, gfI_st, gfL_st, gfR_st, gfN_st, pfI_st, pfL_st, pfR_st, pfZ_st0, pfZ_st1, ldI_st, ldL_st, stoI_st, stoL_st, aln_st, cpA_st, bq_st, bq_S, oI_s, oL_s, oD_s, oV_s, oR_s, oR_n, oI_e, oL_e, oD_e, Option.bind_some, fa_lit, fa_litL, nI_add, pk_mul, nI_m1, nI_lt', nI_le', nI_eq', lc_ge, lc_le, lc_gt, lc_lt, lc_eq, isZ_0, isZ_1, bI_0, bI_z, decide_eq_true_eq, Bool.not_eq_true', Bool.not_true, Bool.not_false, decide_eq_false_iff_not, if_true, if_false, ite_true, ite_false, eq_self, not_true, not_false_eq_true, C_95, C_96, C_97, C_99, C_100, C_102, C_106, C_107, C_109, C_168, C_171, C_172, C_173, C_174, C_175, yu_ne, yu_eq, up_eq, up_ne, yur_ne, yur_eq, yu_uu, y1_eq, y1_ne, y1_y1, Nat.mul_zero, Nat.zero_mul, Nat.add_zero, Nat.zero_add, Nat.mul_one, Nat.one_mul, Nat.reduceEqDiff, Nat.reduceLT, Nat.reduceLeDiff, Nat.reduceAdd, Nat.reduceMul, decide_true, decide_false, cond_true, cond_false, reduceCtorEq, Bool.false_eq_true, Bool.true_eq_false, Bool.true_and, Bool.and_true, Bool.false_and, Bool.and_false, C_124 hs hr hm hc ha, C_124 hs hr hm hc hb, C_142 hs hr hm hc ha, C_142 hs hr hm hc hb, C_140 hs hr hm hc ha, C_140 hs hr hm hc hb]
  unfold p_cr
  cases p_on (S 7 a) (S 7 b 1).toInt64 (S 7 b 2).toInt64
  · cases p_on (S 7 a) (S 7 b 10).toInt64 (S 7 b 11).toInt64
    · cases p_on (S 7 b) (S 7 a 1).toInt64 (S 7 a 2).toInt64
      · cases p_on (S 7 b) (S 7 a 10).toInt64 (S 7 a 11).toInt64
        · by_cases q1 : nI 0 ≤ p_sd (S 7 a) (S 7 b 1).toInt64 (S 7 b 2).toInt64 * p_sd (S 7 a) (S 7 b 10).toInt64 (S 7 b 11).toInt64
          · simp (disch := omega) only [st_I, st_L, st_R, st_S, st_N, st_C, st_Z, st_X, st_D, st_st, st_sI, st_sIr, st_sL, st_sR, gfI_st, gfL_st, gfR_st, gfN_st, pfI_st, pfL_st, pfR_st, pfZ_st0, pfZ_st1, ldI_st, ldL_st, stoI_st, stoL_st, aln_st, cpA_st, bq_st, bq_S, oI_s, oL_s, oD_s, oV_s, oR_s, oR_n, oI_e, oL_e, oD_e, Option.bind_some, fa_lit, fa_litL, nI_add, pk_mul, nI_m1, nI_lt', nI_le', nI_eq', lc_ge, lc_le, lc_gt, lc_lt, lc_eq, isZ_0, isZ_1, bI_0, bI_z, decide_eq_true_eq, Bool.not_eq_true', Bool.not_true, Bool.not_false, decide_eq_false_iff_not, if_true, if_false, ite_true, ite_false, eq_self, not_true, not_false_eq_true, C_95, C_96, C_97, C_99, C_100, C_102, C_106, C_107, C_109, C_168, C_171, C_172, C_173, C_174, C_175, yu_ne, yu_eq, up_eq, up_ne, yur_ne, yur_eq, yu_uu, y1_eq, y1_ne, y1_y1, Nat.mul_zero, Nat.zero_mul, Nat.add_zero, Nat.zero_add, Nat.mul_one, Nat.one_mul, Nat.reduceEqDiff, Nat.reduceLT, Nat.reduceLeDiff, Nat.reduceAdd, Nat.reduceMul, decide_true, decide_false, cond_true, cond_false, reduceCtorEq, Bool.false_eq_true, Bool.true_eq_false, Bool.true_and, Bool.and_true, Bool.false_and, Bool.and_false, q1, B_143_186, B_143_187]
            rfl
          · by_cases q2 : nI 0 ≤ p_sd (S 7 b) (S 7 a 1).toInt64 (S 7 a 2).toInt64 * p_sd (S 7 b) (S 7 a 10).toInt64 (S 7 a 11).toInt64
            · simp (disch := omega) only [st_I, st_L, st_R, st_S, st_N, st_C, st_Z, st_X, st_D, st_st, st_sI, st_sIr, st_sL, st_sR, gfI_st, gfL_st, gfR_st, gfN_st, pfI_st, pfL_st, pfR_st, pfZ_st0, pfZ_st1, ldI_st, ldL_st, stoI_st, stoL_st, aln_st, cpA_st, bq_st, bq_S, oI_s, oL_s, oD_s, oV_s, oR_s, oR_n, oI_e, oL_e, oD_e, Option.bind_some, fa_lit, fa_litL, nI_add, pk_mul, nI_m1, nI_lt', nI_le', nI_eq', lc_ge, lc_le, lc_gt, lc_lt, lc_eq, isZ_0, isZ_1, bI_0, bI_z, decide_eq_true_eq, Bool.not_eq_true', Bool.not_true, Bool.not_false, decide_eq_false_iff_not, if_true, if_false, ite_true, ite_false, eq_self, not_true, not_false_eq_true, C_95, C_96, C_97, C_99, C_100, C_102, C_106, C_107, C_109, C_168, C_171, C_172, C_173, C_174, C_175, yu_ne, yu_eq, up_eq, up_ne, yur_ne, yur_eq, yu_uu, y1_eq, y1_ne, y1_y1, Nat.mul_zero, Nat.zero_mul, Nat.add_zero, Nat.zero_add, Nat.mul_one, Nat.one_mul, Nat.reduceEqDiff, Nat.reduceLT, Nat.reduceLeDiff, Nat.reduceAdd, Nat.reduceMul, decide_true, decide_false, cond_true, cond_false, reduceCtorEq, Bool.false_eq_true, Bool.true_eq_false, Bool.true_and, Bool.and_true, Bool.false_and, Bool.and_false, q1, q2, B_143_186, B_143_187]
              rfl
            · simp (disch := omega) only [st_I, st_L, st_R, st_S, st_N, st_C, st_Z, st_X, st_D, st_st, st_sI, st_sIr, st_sL, st_sR, gfI_st, gfL_st, gfR_st, gfN_st, pfI_st, pfL_st, pfR_st, pfZ_st0, pfZ_st1, ldI_st, ldL_st, stoI_st, stoL_st, aln_st, cpA_st, bq_st, bq_S, oI_s, oL_s, oD_s, oV_s, oR_s, oR_n, oI_e, oL_e, oD_e, Option.bind_some, fa_lit, fa_litL, nI_add, pk_mul, nI_m1, nI_lt', nI_le', nI_eq', lc_ge, lc_le, lc_gt, lc_lt, lc_eq, isZ_0, isZ_1, bI_0, bI_z, decide_eq_true_eq, Bool.not_eq_true', Bool.not_true, Bool.not_false, decide_eq_false_iff_not, if_true, if_false, ite_true, ite_false, eq_self, not_true, not_false_eq_true, C_95, C_96, C_97, C_99, C_100, C_102, C_106, C_107, C_109, C_168, C_171, C_172, C_173, C_174, C_175, yu_ne, yu_eq, up_eq, up_ne, yur_ne, yur_eq, yu_uu, y1_eq, y1_ne, y1_y1, Nat.mul_zero, Nat.zero_mul, Nat.add_zero, Nat.zero_add, Nat.mul_one, Nat.one_mul, Nat.reduceEqDiff, Nat.reduceLT, Nat.reduceLeDiff, Nat.reduceAdd, Nat.reduceMul, decide_true, decide_false, cond_true, cond_false, reduceCtorEq, Bool.false_eq_true, Bool.true_eq_false, Bool.true_and, Bool.and_true, Bool.false_and, Bool.and_false, q1, q2, B_143_187]
              rfl
        · simp (disch := omega) only [st_I, st_L, st_R, st_S, st_N, st_C, st_Z, st_X, st_D, st_st, st_sI, st_sIr, st_sL, st_sR, gfI_st, gfL_st, gfR_st, gfN_st, pfI_st, pfL_st, pfR_st, pfZ_st0, pfZ_st1, ldI_st, ldL_st, stoI_st, stoL_st, aln_st, cpA_st, bq_st, bq_S, oI_s, oL_s, oD_s, oV_s, oR_s, oR_n, oI_e, oL_e, oD_e, Option.bind_some, fa_lit, fa_litL, nI_add, pk_mul, nI_m1, nI_lt', nI_le', nI_eq', lc_ge, lc_le, lc_gt, lc_lt, lc_eq, isZ_0, isZ_1, bI_0, bI_z, decide_eq_true_eq, Bool.not_eq_true', Bool.not_true, Bool.not_false, decide_eq_false_iff_not, if_true, if_false, ite_true, ite_false, eq_self, not_true, not_false_eq_true, C_95, C_96, C_97, C_99, C_100, C_102, C_106, C_107, C_109, C_168, C_171, C_172, C_173, C_174, C_175, yu_ne, yu_eq, up_eq, up_ne, yur_ne, yur_eq, yu_uu, y1_eq, y1_ne, y1_y1, Nat.mul_zero, Nat.zero_mul, Nat.add_zero, Nat.zero_add, Nat.mul_one, Nat.one_mul, Nat.reduceEqDiff, Nat.reduceLT, Nat.reduceLeDiff, Nat.reduceAdd, Nat.reduceMul, decide_true, decide_false, cond_true, cond_false, reduceCtorEq, Bool.false_eq_true, Bool.true_eq_false, Bool.true_and, Bool.and_true, Bool.false_and, Bool.and_false, B_143_92]
          rfl
      · simp (disch := omega) only [st_I, st_L, st_R, st_S, st_N, st_C, st_Z, st_X, st_D, st_st, st_sI, st_sIr, st_sL, st_sR, gfI_st, gfL_st, gfR_st, gfN_st, pfI_st, pfL_st, pfR_st, pfZ_st0, pfZ_st1, ldI_st, ldL_st, stoI_st, stoL_st, aln_st, cpA_st, bq_st, bq_S, oI_s, oL_s, oD_s, oV_s, oR_s, oR_n, oI_e, oL_e, oD_e, Option.bind_some, fa_lit, fa_litL, nI_add, pk_mul, nI_m1, nI_lt', nI_le', nI_eq', lc_ge, lc_le, lc_gt, lc_lt, lc_eq, isZ_0, isZ_1, bI_0, bI_z, decide_eq_true_eq, Bool.not_eq_true', Bool.not_true, Bool.not_false, decide_eq_false_iff_not, if_true, if_false, ite_true, ite_false, eq_self, not_true, not_false_eq_true, C_95, C_96, C_97, C_99, C_100, C_102, C_106, C_107, C_109, C_168, C_171, C_172, C_173, C_174, C_175, yu_ne, yu_eq, up_eq, up_ne, yur_ne, yur_eq, yu_uu, y1_eq, y1_ne, y1_y1, Nat.mul_zero, Nat.zero_mul, Nat.add_zero, Nat.zero_add, Nat.mul_one, Nat.one_mul, Nat.reduceEqDiff, Nat.reduceLT, Nat.reduceLeDiff, Nat.reduceAdd, Nat.reduceMul, decide_true, decide_false, cond_true, cond_false, reduceCtorEq, Bool.false_eq_true, Bool.true_eq_false, Bool.true_and, Bool.and_true, Bool.false_and, Bool.and_false, B_143_92]
        rfl
    · simp (disch := omega) only [st_I, st_L, st_R, st_S, st_N, st_C, st_Z, st_X, st_D, st_st, st_sI, st_sIr, st_sL, st_sR, gfI_st, gfL_st, gfR_st, gfN_st, pfI_st, pfL_st, pfR_st, pfZ_st0, pfZ_st1, ldI_st, ldL_st, stoI_st, stoL_st, aln_st, cpA_st, bq_st, bq_S, oI_s, oL_s, oD_s, oV_s, oR_s, oR_n, oI_e, oL_e, oD_e, Option.bind_some, fa_lit, fa_litL, nI_add, pk_mul, nI_m1, nI_lt', nI_le', nI_eq', lc_ge, lc_le, lc_gt, lc_lt, lc_eq, isZ_0, isZ_1, bI_0, bI_z, decide_eq_true_eq, Bool.not_eq_true', Bool.not_true, Bool.not_false, decide_eq_false_iff_not, if_true, if_false, ite_true, ite_false, eq_self, not_true, not_false_eq_true, C_95, C_96, C_97, C_99, C_100, C_102, C_106, C_107, C_109, C_168, C_171, C_172, C_173, C_174, C_175, yu_ne, yu_eq, up_eq, up_ne, yur_ne, yur_eq, yu_uu, y1_eq, y1_ne, y1_y1, Nat.mul_zero, Nat.zero_mul, Nat.add_zero, Nat.zero_add, Nat.mul_one, Nat.one_mul, Nat.reduceEqDiff, Nat.reduceLT, Nat.reduceLeDiff, Nat.reduceAdd, Nat.reduceMul, decide_true, decide_false, cond_true, cond_false, reduceCtorEq, Bool.false_eq_true, Bool.true_eq_false, Bool.true_and, Bool.and_true, Bool.false_and, Bool.and_false, B_143_92]
      rfl
  · simp (disch := omega) only [st_I, st_L, st_R, st_S, st_N, st_C, st_Z, st_X, st_D, st_st, st_sI, st_sIr, st_sL, st_sR, gfI_st, gfL_st, gfR_st, gfN_st, pfI_st, pfL_st, pfR_st, pfZ_st0, pfZ_st1, ldI_st, ldL_st, stoI_st, stoL_st, aln_st, cpA_st, bq_st, bq_S, oI_s, oL_s, oD_s, oV_s, oR_s, oR_n, oI_e, oL_e, oD_e, Option.bind_some, fa_lit, fa_litL, nI_add, pk_mul, nI_m1, nI_lt', nI_le', nI_eq', lc_ge, lc_le, lc_gt, lc_lt, lc_eq, isZ_0, isZ_1, bI_0, bI_z, decide_eq_true_eq, Bool.not_eq_true', Bool.not_true, Bool.not_false, decide_eq_false_iff_not, if_true, if_false, ite_true, ite_false, eq_self, not_true, not_false_eq_true, C_95, C_96, C_97, C_99, C_100, C_102, C_106, C_107, C_109, C_168, C_171, C_172, C_173, C_174, C_175, yu_ne, yu_eq, up_eq, up_ne, yur_ne, yur_eq, yu_uu, y1_eq, y1_ne, y1_y1, Nat.mul_zero, Nat.zero_mul, Nat.add_zero, Nat.zero_add, Nat.mul_one, Nat.one_mul, Nat.reduceEqDiff, Nat.reduceLT, Nat.reduceLeDiff, Nat.reduceAdd, Nat.reduceMul, decide_true, decide_false, cond_true, cond_false, reduceCtorEq, Bool.false_eq_true, Bool.true_eq_false, Bool.true_and, Bool.and_true, Bool.false_and, Bool.and_false, B_143_92]
    rfl
def cr1 (a b : Nat) (s : CS) : CS := if a < b then (bif firm (s.2 7) a && (firm (s.2 7) b && p_cr (s.2 7 a) (s.2 7 b)) then (noteC s.1, noteS s.1 s.2 (nI 6) (s.2 7 a 0) (s.2 7 b 0)) else s) else s
def crs (n : Nat) (s : CS) : CS := itr (fun a s => itr (cr1 a) n s) n s
theorem itr_bd {g : Nat → CS → CS} {e : Nat} (hg : ∀ j s, (∀ q, q ≠ 8 → (g j s).1 q = s.1 q) ∧ (g j s).1 8 ≤ s.1 8 + e) {s : CS} : ∀ n, (∀ q, q ≠ 8 → (itr g n s).1 q = s.1 q) ∧ (itr g n s).1 8 ≤ s.1 8 + e * n
  | 0 => ⟨fun _ _ => rfl, Nat.le_refl _⟩
  | n + 1 => by
    obtain ⟨h1, h2⟩ := itr_bd hg (s := s) n
    obtain ⟨h3, h4⟩ := hg n (itr g n s)
    rw [itr_s', Nat.mul_succ]
    exact ⟨fun q hq => (h3 q hq).trans (h1 q hq), by omega⟩
theorem cr1_bd {a : Nat} : ∀ j s, (∀ q, q ≠ 8 → (cr1 a j s).1 q = s.1 q) ∧ (cr1 a j s).1 8 ≤ s.1 8 + 1 := by
  intro j s
  unfold cr1
  split
  · cases firm (s.2 7) a && (firm (s.2 7) j && p_cr (s.2 7 a) (s.2 7 j))
    · exact ⟨fun _ _ => rfl, by simp only [cond_false]; omega⟩
    · exact ⟨fun q hq => noteC_j hq, by simp only [cond_true, noteC_8]; omega⟩
  · exact ⟨fun _ _ => rfl, by omega⟩
theorem itr_skip {α : Type} {g : Nat → α → α} : ∀ {n : Nat} {s : α}, (∀ j x, j < n → g j x = x) → itr g n s = s
  | 0, _, _ => rfl
  | n + 1, s, h => by rw [itr_s', itr_skip (fun j x hj => h j x (by omega)), h n _ (by omega)]
theorem CB_8 {c c' : Nat → Nat} (hc : CB c) (h : ∀ q, q ≠ 8 → c' q = c q) (h8 : c' 8 ≤ 1000000) : CB c' := CB_of hc (fun j _ h' => h j h') (by rw [h 5 (by decide)]; exact hc.2.2.2.2.2.1) h8
/-! areas -/
def ar1 (area t : Nat) (s : CS) : CS :=
  let was := p_bit (s.2 7 t 9) (nI area)
  let isf := firm (s.2 7) t
  let isin := isf && p_in (s.2 7 t 1) (s.2 7 t 2) (s.2 3 area)
  let T := u1 (s.2 7) t (up (s.2 7 t) 9 (bif isin then s.2 7 t 9 ||| (nI 1 <<< (nI area &&& nI 31)) else s.2 7 t 9 &&& ((nI 1 <<< (nI area &&& nI 31)) ^^^ -nI 1)))
  bif isin && !was then (noteC s.1, u1 (noteS s.1 s.2 (nI 7) (s.2 7 t 0) (nI area)) 7 T)
  else bif was && (isf && !isin) then (noteC s.1, u1 (noteS s.1 s.2 (nI 8) (s.2 7 t 0) (nI area)) 7 T)
  else (s.1, u1 s.2 7 T)
def ars (m n : Nat) (s : CS) : CS := itr (fun area s => itr (ar1 area) n s) m s
theorem ar1_bd {area : Nat} : ∀ j s, (∀ q, q ≠ 8 → (ar1 area j s).1 q = s.1 q) ∧ (ar1 area j s).1 8 ≤ s.1 8 + 1 := by
  intro j s
  unfold ar1
  simp only
  cases (firm (s.2 7) j && p_in (s.2 7 j 1) (s.2 7 j 2) (s.2 3 area)) && !p_bit (s.2 7 j 9) (nI area)
  · cases p_bit (s.2 7 j 9) (nI area) && (firm (s.2 7) j && !(firm (s.2 7) j && p_in (s.2 7 j 1) (s.2 7 j 2) (s.2 3 area)))
    · exact ⟨fun _ _ => rfl, by simp only [cond_false]; omega⟩
    · exact ⟨fun q hq => noteC_j hq, by simp only [cond_true, cond_false, noteC_8]; omega⟩
  · exact ⟨fun q hq => noteC_j hq, by simp only [cond_true, noteC_8]; omega⟩
def look (s : CS) : CS := ars (s.1 2) (s.1 4) (crs (s.1 4) s)
theorem crs_bd {n : Nat} {s : CS} : (∀ q, q ≠ 8 → (crs n s).1 q = s.1 q) ∧ (crs n s).1 8 ≤ s.1 8 + n * n := by
  have h := itr_bd (g := fun a s => itr (cr1 a) n s) (e := n) (fun a s => by
    have := itr_bd (g := cr1 a) (e := 1) cr1_bd (s := s) n
    rw [Nat.one_mul] at this
    exact this) (s := s) n
  exact h
theorem C_146 {m0 μ : mMu} {f : Nat → Nat → Int32} {l : Nat → Nat → Int64} {r : Nat → Nat → Option Nat} {k z : Nat} {c : Nat → Nat} {S : Nat → Nat → Nat → Int32} (h : Md m0 μ f l r k z c S) (hc : CB c) (h8 : c 8 + 200 ≤ 1000000) : MV (CALL 146 [.ref 137] (st μ f l r)) m0 (k + 200) (z + 800) (look (c, S)).1 (look (c, S)).2 := by
  have hc' := hc
  obtain ⟨c0, c1, c2, c3, c4, c5, c6, c7, c8, c9, c10, c11, c12, c13, c14⟩ := hc
  have hs := h.1
  have h137a : (mS μ 137).1 = 9 := by rw [hs 137 (by decide)]; rfl
  rw [B_146_0]
  simp (disch := omega) only [st_I, st_L, st_R, st_S, st_N, st_C, st_Z, st_X, st_D, st_st, st_sI, st_sIr, st_sL, st_sR, gfI_st, gfL_st, gfR_st, gfN_st, pfI_st, pfL_st, pfR_st, pfZ_st0, pfZ_st1, ldI_st, ldL_st, stoI_st, stoL_st, aln_st, cpA_st, bq_st, bq_S, oI_s, oL_s, oD_s, oV_s, oR_s, oR_n, oI_e, oL_e, oD_e, Option.bind_some, fa_lit, fa_litL, nI_add, pk_mul, nI_m1, nI_lt', nI_le', nI_eq', lc_ge, lc_le, lc_gt, lc_lt, lc_eq, isZ_0, isZ_1, bI_0, bI_z, decide_eq_true_eq, Bool.not_eq_true', Bool.not_true, Bool.not_false, decide_eq_false_iff_not, if_true, if_false, ite_true, ite_false, eq_self, not_true, not_false_eq_true, C_95, C_96, C_97, C_99, C_100, C_102, C_106, C_107, C_109, C_168, C_171, C_172, C_173, C_174, C_175, yu_ne, yu_eq, up_eq, up_ne, yur_ne, yur_eq, yu_uu, y1_eq, y1_ne, y1_y1, Nat.mul_zero, Nat.zero_mul, Nat.add_zero, Nat.zero_add, Nat.mul_one, Nat.one_mul, Nat.reduceEqDiff, Nat.reduceLT, Nat.reduceLeDiff, Nat.reduceAdd, Nat.reduceMul, decide_true, decide_false, cond_true, cond_false, reduceCtorEq, Bool.false_eq_true, Bool.true_eq_false, Bool.true_and, Bool.and_true, Bool.false_and, Bool.and_false]
  -- crossings
  refine loopP (fun a o => ∃ μ f l r o2 o3 o4, o = RUN 146 2 [some (.ref 137), some (.int (nI a)), o2, o3, o4] [] (st μ f l r) ∧ Md m0 μ f l r (k + 10 * a) (z + 40 * a) (itr (fun a s => itr (cr1 a) (c 4) s) a (c, S)).1 (itr (fun a s => itr (cr1 a) (c 4) s) a (c, S)).2) (fun o => MV o m0 (k + 200) (z + 800) (look (c, S)).1 (look (c, S)).2) (c 4) ?_ ?_ 0 _ (Nat.zero_le _) ⟨μ, f, l, r, _, _, _, rfl, h⟩
  · rintro o ⟨μ, f, l, r, o2, o3, o4, rfl, h⟩
    have hs := h.1
    have hr := h.2.1
    have h137a : (mS μ 137).1 = 9 := by rw [hs 137 (by decide)]; rfl
    have h138a : (mS μ 138).1 = 20 := by rw [hs 138 (by decide)]; rfl
    have h138b : (mS μ 138).2 = 15 := by rw [hs 138 (by decide)]; rfl
    have r137_1 : r 137 1 = some 138 := hr 137 1 138 rfl
    obtain ⟨b1, b2⟩ := crs_bd (n := c 4) (s := (c, S))
    have hcc : (c, S).1 8 = c 8 := rfl
    have hnn : c 4 * c 4 ≤ 100 := Nat.mul_le_mul c4 c4
    have hL : look (c, S) = ars (c 2) (c 4) (crs (c 4) (c, S)) := rfl
    rw [hL]
    have hcr : itr (fun a s => itr (cr1 a) (c 4) s) (c 4) (c, S) = crs (c 4) (c, S) := rfl
    rw [hcr] at h
    generalize crs (c 4) (c, S) = s at h b1 b2 ⊢
    obtain ⟨c9, S9⟩ := s
    simp only at h b1 b2 ⊢
    have L4 : f 138 4 = nI (c 4) := by rw [h.2.2.2.2.1 4 (by decide), b1 4 (by decide)]
    rw [B_146_2]
    simp (disch := omega) only [st_I, st_L, st_R, st_S, st_N, st_C, st_Z, st_X, st_D, st_st, st_sI, st_sIr, st_sL, st_sR, gfI_st, gfL_st, gfR_st, gfN_st, pfI_st, pfL_st, pfR_st, pfZ_st0, pfZ_st1, ldI_st, ldL_st, stoI_st, stoL_st, aln_st, cpA_st, bq_st, bq_S, oI_s, oL_s, oD_s, oV_s, oR_s, oR_n, oI_e, oL_e, oD_e, Option.bind_some, fa_lit, fa_litL, nI_add, pk_mul, nI_m1, nI_lt', nI_le', nI_eq', lc_ge, lc_le, lc_gt, lc_lt, lc_eq, isZ_0, isZ_1, bI_0, bI_z, decide_eq_true_eq, Bool.not_eq_true', Bool.not_true, Bool.not_false, decide_eq_false_iff_not, if_true, if_false, ite_true, ite_false, eq_self, not_true, not_false_eq_true, C_95, C_96, C_97, C_99, C_100, C_102, C_106, C_107, C_109, C_168, C_171, C_172, C_173, C_174, C_175, yu_ne, yu_eq, up_eq, up_ne, yur_ne, yur_eq, yu_uu, y1_eq, y1_ne, y1_y1, Nat.mul_zero, Nat.zero_mul, Nat.add_zero, Nat.zero_add, Nat.mul_one, Nat.one_mul, Nat.reduceEqDiff, Nat.reduceLT, Nat.reduceLeDiff, Nat.reduceAdd, Nat.reduceMul, decide_true, decide_false, cond_true, cond_false, reduceCtorEq, Bool.false_eq_true, Bool.true_eq_false, Bool.true_and, Bool.and_true, Bool.false_and, Bool.and_false, r137_1, L4, Nat.le_refl]
    have hb1 : ∀ q, q ≠ 8 → c9 q = c q := b1
    refine loopP (fun a o => ∃ μ f l r o2 o3 o4, o = RUN 146 83 [some (.ref 137), some (.int (nI a)), o2, o3, o4] [] (st μ f l r) ∧ Md m0 μ f l r (k + 100 + 10 * a) (z + 400 + 40 * a) (itr (fun area s => itr (ar1 area) (c 4) s) a (c9, S9)).1 (itr (fun area s => itr (ar1 area) (c 4) s) a (c9, S9)).2) (fun o => MV o m0 (k + 200) (z + 800) (ars (c 2) (c 4) (c9, S9)).1 (ars (c 2) (c 4) (c9, S9)).2) (c 2) ?_ ?_ 0 _ (Nat.zero_le _) ⟨μ, f, l, r, _, _, _, rfl, Md_le h (by omega) (by omega)⟩
    · rintro o ⟨μ, f, l, r, o2, o3, o4, rfl, h⟩
      have hs := h.1
      have hr := h.2.1
      have h137a : (mS μ 137).1 = 9 := by rw [hs 137 (by decide)]; rfl
      have h138a : (mS μ 138).1 = 20 := by rw [hs 138 (by decide)]; rfl
      have h138b : (mS μ 138).2 = 15 := by rw [hs 138 (by decide)]; rfl
      have r137_1 : r 137 1 = some 138 := hr 137 1 138 rfl
      have hx := (itr_bd (g := fun area s => itr (ar1 area) (c 4) s) (e := c 4) (fun a s => by
        have := itr_bd (g := ar1 a) (e := 1) ar1_bd (s := s) (c 4)
        rw [Nat.one_mul] at this
        exact this) (s := (c9, S9)) (c 2)).1 2 (by decide)
      have L2 : f 138 2 = nI (c 2) := by rw [h.2.2.2.2.1 2 (by decide), hx]; exact congrArg nI (hb1 2 (by decide))
      rw [B_146_83]
      simp (disch := omega) only [st_I, st_L, st_R, st_S, st_N, st_C, st_Z, st_X, st_D, st_st, st_sI, st_sIr, st_sL, st_sR, gfI_st, gfL_st, gfR_st, gfN_st, pfI_st, pfL_st, pfR_st, pfZ_st0, pfZ_st1, ldI_st, ldL_st, stoI_st, stoL_st, aln_st, cpA_st, bq_st, bq_S, oI_s, oL_s, oD_s, oV_s, oR_s, oR_n, oI_e, oL_e, oD_e, Option.bind_some, fa_lit, fa_litL, nI_add, pk_mul, nI_m1, nI_lt', nI_le', nI_eq', lc_ge, lc_le, lc_gt, lc_lt, lc_eq, isZ_0, isZ_1, bI_0, bI_z, decide_eq_true_eq, Bool.not_eq_true', Bool.not_true, Bool.not_false, decide_eq_false_iff_not, if_true, if_false, ite_true, ite_false, eq_self, not_true, not_false_eq_true, C_95, C_96, C_97, C_99, C_100, C_102, C_106, C_107, C_109, C_168, C_171, C_172, C_173, C_174, C_175, yu_ne, yu_eq, up_eq, up_ne, yur_ne, yur_eq, yu_uu, y1_eq, y1_ne, y1_y1, Nat.mul_zero, Nat.zero_mul, Nat.add_zero, Nat.zero_add, Nat.mul_one, Nat.one_mul, Nat.reduceEqDiff, Nat.reduceLT, Nat.reduceLeDiff, Nat.reduceAdd, Nat.reduceMul, decide_true, decide_false, cond_true, cond_false, reduceCtorEq, Bool.false_eq_true, Bool.true_eq_false, Bool.true_and, Bool.and_true, Bool.false_and, Bool.and_false, r137_1, r137_1, L2, Nat.le_refl]
      exact ⟨_, _, _, _, rfl, Md_le h (by omega) (by omega)⟩
    · rintro a o ha ⟨μ, f, l, r, o2, o3, o4, rfl, h⟩
      have hs := h.1
      have hr := h.2.1
      have h137a : (mS μ 137).1 = 9 := by rw [hs 137 (by decide)]; rfl
      have h138a : (mS μ 138).1 = 20 := by rw [hs 138 (by decide)]; rfl
      have h138b : (mS μ 138).2 = 15 := by rw [hs 138 (by decide)]; rfl
      have r137_1 : r 137 1 = some 138 := hr 137 1 138 rfl
      have ha' : ¬ c 2 ≤ a := by omega
      have ha6 : a < 6 := by omega
      have hx := itr_bd (g := fun area s => itr (ar1 area) (c 4) s) (e := c 4) (fun a s => by
        have := itr_bd (g := ar1 a) (e := 1) ar1_bd (s := s) (c 4)
        rw [Nat.one_mul] at this
        exact this) (s := (c9, S9)) a
      rw [itr_s']
      generalize itr (fun area s => itr (ar1 area) (c 4) s) a (c9, S9) = s at h hx ⊢
      obtain ⟨cx, Sx⟩ := s
      simp only at h hx ⊢
      obtain ⟨x1, x2⟩ := hx
      have x3 : ∀ q, q ≠ 8 → cx q = c q := fun q hq => (x1 q hq).trans (hb1 q hq)
      have x4 : cx 8 ≤ c 8 + 100 + 60 := by
        have : c 4 * a ≤ 10 * 6 := Nat.mul_le_mul c4 (by omega)
        omega
      have L2 : f 138 2 = nI (c 2) := by rw [h.2.2.2.2.1 2 (by decide), x3 2 (by decide)]
      right
      rw [B_146_83]
      simp (disch := omega) only [st_I, st_L, st_R, st_S, st_N, st_C, st_Z, st_X, st_D, st_st, st_sI, st_sIr, st_sL, st_sR, gfI_st, gfL_st, gfR_st, gfN_st, pfI_st, pfL_st, pfR_st, pfZ_st0, pfZ_st1, ldI_st, ldL_st, stoI_st, stoL_st, aln_st, cpA_st, bq_st, bq_S, oI_s, oL_s, oD_s, oV_s, oR_s, oR_n, oI_e, oL_e, oD_e, Option.bind_some, fa_lit, fa_litL, nI_add, pk_mul, nI_m1, nI_lt', nI_le', nI_eq', lc_ge, lc_le, lc_gt, lc_lt, lc_eq, isZ_0, isZ_1, bI_0, bI_z, decide_eq_true_eq, Bool.not_eq_true', Bool.not_true, Bool.not_false, decide_eq_false_iff_not, if_true, if_false, ite_true, ite_false, eq_self, not_true, not_false_eq_true, C_95, C_96, C_97, C_99, C_100, C_102, C_106, C_107, C_109, C_168, C_171, C_172, C_173, C_174, C_175, yu_ne, yu_eq, up_eq, up_ne, yur_ne, yur_eq, yu_uu, y1_eq, y1_ne, y1_y1, Nat.mul_zero, Nat.zero_mul, Nat.add_zero, Nat.zero_add, Nat.mul_one, Nat.one_mul, Nat.reduceEqDiff, Nat.reduceLT, Nat.reduceLeDiff, Nat.reduceAdd, Nat.reduceMul, decide_true, decide_false, cond_true, cond_false, reduceCtorEq, Bool.false_eq_true, Bool.true_eq_false, Bool.true_and, Bool.and_true, Bool.false_and, Bool.and_false, r137_1, r137_1, r137_1, L2, ha']
      refine loopP (fun t o => ∃ μ f l r o3 o4, o = RUN 146 95 [some (.ref 137), some (.int (nI a)), some (.int (nI t)), o3, o4] [] (st μ f l r) ∧ Md m0 μ f l r (k + 100 + 10 * a + t) (z + 400 + 40 * a + 4 * t) (itr (ar1 a) t (cx, Sx)).1 (itr (ar1 a) t (cx, Sx)).2) (fun o => ∃ μ f l r o2 o3 o4, o = RUN 146 83 [some (.ref 137), some (.int (nI (a + 1))), o2, o3, o4] [] (st μ f l r) ∧ Md m0 μ f l r (k + 100 + 10 * (a + 1)) (z + 400 + 40 * (a + 1)) (itr (ar1 a) (c 4) (cx, Sx)).1 (itr (ar1 a) (c 4) (cx, Sx)).2) (c 4) ?_ ?_ 0 _ (Nat.zero_le _) ⟨μ, f, l, r, _, _, rfl, h⟩
      · rintro o ⟨μ, f, l, r, o3, o4, rfl, h⟩
        have hs := h.1
        have hr := h.2.1
        have h137a : (mS μ 137).1 = 9 := by rw [hs 137 (by decide)]; rfl
        have h138a : (mS μ 138).1 = 20 := by rw [hs 138 (by decide)]; rfl
        have h138b : (mS μ 138).2 = 15 := by rw [hs 138 (by decide)]; rfl
        have r137_1 : r 137 1 = some 138 := hr 137 1 138 rfl
        have L4 : f 138 4 = nI (c 4) := by rw [h.2.2.2.2.1 4 (by decide), (itr_bd (g := ar1 a) (e := 1) ar1_bd (s := (cx, Sx)) (c 4)).1 4 (by decide)]; exact congrArg nI (x3 4 (by decide))
        rw [B_146_95]
        simp (disch := omega) only [st_I, st_L, st_R, st_S, st_N, st_C, st_Z, st_X, st_D, st_st, st_sI, st_sIr, st_sL, st_sR, gfI_st, gfL_st, gfR_st, gfN_st, pfI_st, pfL_st, pfR_st, pfZ_st0, pfZ_st1, ldI_st, ldL_st, stoI_st, stoL_st, aln_st, cpA_st, bq_st, bq_S, oI_s, oL_s, oD_s, oV_s, oR_s, oR_n, oI_e, oL_e, oD_e, Option.bind_some, fa_lit, fa_litL, nI_add, pk_mul, nI_m1, nI_lt', nI_le', nI_eq', lc_ge, lc_le, lc_gt, lc_lt, lc_eq, isZ_0, isZ_1, bI_0, bI_z, decide_eq_true_eq, Bool.not_eq_true', Bool.not_true, Bool.not_false, decide_eq_false_iff_not, if_true, if_false, ite_true, ite_false, eq_self, not_true, not_false_eq_true, C_95, C_96, C_97, C_99, C_100, C_102, C_106, C_107, C_109, C_168, C_171, C_172, C_173, C_174, C_175, yu_ne, yu_eq, up_eq, up_ne, yur_ne, yur_eq, yu_uu, y1_eq, y1_ne, y1_y1, Nat.mul_zero, Nat.zero_mul, Nat.add_zero, Nat.zero_add, Nat.mul_one, Nat.one_mul, Nat.reduceEqDiff, Nat.reduceLT, Nat.reduceLeDiff, Nat.reduceAdd, Nat.reduceMul, decide_true, decide_false, cond_true, cond_false, reduceCtorEq, Bool.false_eq_true, Bool.true_eq_false, Bool.true_and, Bool.and_true, Bool.false_and, Bool.and_false, r137_1, r137_1, r137_1, r137_1, L4, Nat.le_refl]
        exact ⟨_, _, _, _, _, _, _, rfl, Md_le h (by omega) (by omega)⟩
      · rintro t o ht ⟨μ, f, l, r, o3, o4, rfl, h⟩
        have ht' : ¬ c 4 ≤ t := by omega
        have ht10 : t < 10 := by omega
        have hy := itr_bd (g := ar1 a) (e := 1) ar1_bd (s := (cx, Sx)) t
        rw [itr_s']
        generalize itr (ar1 a) t (cx, Sx) = s at h hy ⊢
        obtain ⟨cy, Sy⟩ := s
        simp only at h hy ⊢
        have y3 : ∀ q, q ≠ 8 → cy q = c q := fun q hq => (hy.1 q hq).trans (x3 q hq)
        have hcy : CB cy := CB_8 hc' y3 (by omega)
        have hs := h.1
        have hr := h.2.1
        have hm := h.2.2.2.2
        have h137a : (mS μ 137).1 = 9 := by rw [hs 137 (by decide)]; rfl
        have h138a : (mS μ 138).1 = 20 := by rw [hs 138 (by decide)]; rfl
        have h138b : (mS μ 138).2 = 15 := by rw [hs 138 (by decide)]; rfl
        have r137_1 : r 137 1 = some 138 := hr 137 1 138 rfl
        have L4 : f 138 4 = nI (c 4) := by rw [hm.1 4 (by decide), y3 4 (by decide)]
        right
        rw [B_146_95]
        simp (disch := omega) only [st_I, st_L, st_R, st_S, st_N, st_C, st_Z, st_X, st_D, st_st, st_sI, st_sIr, st_sL, st_sR, gfI_st, gfL_st, gfR_st, gfN_st, pfI_st, pfL_st, pfR_st, pfZ_st0, pfZ_st1, ldI_st, ldL_st, stoI_st, stoL_st, aln_st, cpA_st, bq_st, bq_S, oI_s, oL_s, oD_s, oV_s, oR_s, oR_n, oI_e, oL_e, oD_e, Option.bind_some, fa_lit, fa_litL, nI_add, pk_mul, nI_m1, nI_lt', nI_le', nI_eq', lc_ge, lc_le, lc_gt, lc_lt, lc_eq, isZ_0, isZ_1, bI_0, bI_z, decide_eq_true_eq, Bool.not_eq_true', Bool.not_true, Bool.not_false, decide_eq_false_iff_not, if_true, if_false, ite_true, ite_false, eq_self, not_true, not_false_eq_true, C_95, C_96, C_97, C_99, C_100, C_102, C_106, C_107, C_109, C_168, C_171, C_172, C_173, C_174, C_175, yu_ne, yu_eq, up_eq, up_ne, yur_ne, yur_eq, yu_uu, y1_eq, y1_ne, y1_y1, Nat.mul_zero, Nat.zero_mul, Nat.add_zero, Nat.zero_add, Nat.mul_one, Nat.one_mul, Nat.reduceEqDiff, Nat.reduceLT, Nat.reduceLeDiff, Nat.reduceAdd, Nat.reduceMul, decide_true, decide_false, cond_true, cond_false, reduceCtorEq, Bool.false_eq_true, Bool.true_eq_false, Bool.true_and, Bool.and_true, Bool.false_and, Bool.and_false, r137_1, r137_1, r137_1, r137_1, r137_1, L4, ht', C_124 hs hr hm hcy ht10, and1b, B_146_125, C_144 hs hr hm hcy ht10, C_145 hs hr hm hcy ht10 ha6]
        -- the last write
        have fin : ∀ (isin : Bool) (μ : mMu) (f : Nat → Nat → Int32) (l : Nat → Nat → Int64) (r : Nat → Nat → Option Nat) (k' z' : Nat) (c2 : Nat → Nat) (S2 : Nat → Nat → Nat → Int32) (o3 : Option Value), S2 7 = Sy 7 → Md m0 μ f l r k' z' c2 S2 → k' ≤ k + 100 + 10 * a + (t + 1) → z' ≤ z + 400 + 40 * a + 4 * (t + 1) → CB c2 → ∃ μ' f' l' r' p3 p4, RUN 146 202 [some (.ref 137), some (.int (nI a)), some (.int (nI t)), o3, some (.int (bI isin))] [] (st μ f l r) = RUN 146 95 [some (.ref 137), some (.int (nI a)), some (.int (nI (t + 1))), p3, p4] [] (st μ' f' l' r') ∧ Md m0 μ' f' l' r' (k + 100 + 10 * a + (t + 1)) (z + 400 + 40 * a + 4 * (t + 1)) c2 (u1 S2 7 (u1 (Sy 7) t (up (Sy 7 t) 9 (bif isin then Sy 7 t 9 ||| (nI 1 <<< (nI a &&& nI 31)) else Sy 7 t 9 &&& ((nI 1 <<< (nI a &&& nI 31)) ^^^ -nI 1))))) := by
          intro isin μ f l r k' z' c2 S2 o3 e7 h hk hz hc2
          have hs := h.1
          have h137a : (mS μ 137).1 = 9 := by rw [hs 137 (by decide)]; rfl
          have h0 := Md_foc t h
          rw [e7] at h0
          rw [B_146_202]
          cases isin
          · obtain ⟨f1, q1, h1⟩ := sR_e (w := 9) (v := Sy 7 t 9 &&& ((nI 1 <<< (nI a &&& nI 31)) ^^^ -nI 1)) h0 ht10 (by decide)
            simp (disch := omega) only [st_I, st_L, st_R, st_S, st_N, st_C, st_Z, st_X, st_D, st_st, st_sI, st_sIr, st_sL, st_sR, gfI_st, gfL_st, gfR_st, gfN_st, pfI_st, pfL_st, pfR_st, pfZ_st0, pfZ_st1, ldI_st, ldL_st, stoI_st, stoL_st, aln_st, cpA_st, bq_st, bq_S, oI_s, oL_s, oD_s, oV_s, oR_s, oR_n, oI_e, oL_e, oD_e, Option.bind_some, fa_lit, fa_litL, nI_add, pk_mul, nI_m1, nI_lt', nI_le', nI_eq', lc_ge, lc_le, lc_gt, lc_lt, lc_eq, isZ_0, isZ_1, bI_0, bI_z, decide_eq_true_eq, Bool.not_eq_true', Bool.not_true, Bool.not_false, decide_eq_false_iff_not, if_true, if_false, ite_true, ite_false, eq_self, not_true, not_false_eq_true, C_95, C_96, C_97, C_99, C_100, C_102, C_106, C_107, C_109, C_168, C_171, C_172, C_173, C_174, C_175, yu_ne, yu_eq, up_eq, up_ne, yur_ne, yur_eq, yu_uu, y1_eq, y1_ne, y1_y1, Nat.mul_zero, Nat.zero_mul, Nat.add_zero, Nat.zero_add, Nat.mul_one, Nat.one_mul, Nat.reduceEqDiff, Nat.reduceLT, Nat.reduceLeDiff, Nat.reduceAdd, Nat.reduceMul, decide_true, decide_false, cond_true, cond_false, reduceCtorEq, Bool.false_eq_true, Bool.true_eq_false, Bool.true_and, Bool.and_true, Bool.false_and, Bool.and_false, r137_1, r137_1, r137_1, r137_1, r137_1, gR h0 ht10, B_146_238, q1]
            exact ⟨_, _, _, _, _, _, rfl, Md_le h1 hk hz⟩
          · obtain ⟨f1, q1, h1⟩ := sR_e (w := 9) (v := Sy 7 t 9 ||| (nI 1 <<< (nI a &&& nI 31))) h0 ht10 (by decide)
            simp (disch := omega) only [st_I, st_L, st_R, st_S, st_N, st_C, st_Z, st_X, st_D, st_st, st_sI, st_sIr, st_sL, st_sR, gfI_st, gfL_st, gfR_st, gfN_st, pfI_st, pfL_st, pfR_st, pfZ_st0, pfZ_st1, ldI_st, ldL_st, stoI_st, stoL_st, aln_st, cpA_st, bq_st, bq_S, oI_s, oL_s, oD_s, oV_s, oR_s, oR_n, oI_e, oL_e, oD_e, Option.bind_some, fa_lit, fa_litL, nI_add, pk_mul, nI_m1, nI_lt', nI_le', nI_eq', lc_ge, lc_le, lc_gt, lc_lt, lc_eq, isZ_0, isZ_1, bI_0, bI_z, decide_eq_true_eq, Bool.not_eq_true', Bool.not_true, Bool.not_false, decide_eq_false_iff_not, if_true, if_false, ite_true, ite_false, eq_self, not_true, not_false_eq_true, C_95, C_96, C_97, C_99, C_100, C_102, C_106, C_107, C_109, C_168, C_171, C_172, C_173, C_174, C_175, yu_ne, yu_eq, up_eq, up_ne, yur_ne, yur_eq, yu_uu, y1_eq, y1_ne, y1_y1, Nat.mul_zero, Nat.zero_mul, Nat.add_zero, Nat.zero_add, Nat.mul_one, Nat.one_mul, Nat.reduceEqDiff, Nat.reduceLT, Nat.reduceLeDiff, Nat.reduceAdd, Nat.reduceMul, decide_true, decide_false, cond_true, cond_false, reduceCtorEq, Bool.false_eq_true, Bool.true_eq_false, Bool.true_and, Bool.and_true, Bool.false_and, Bool.and_false, r137_1, r137_1, r137_1, r137_1, r137_1, gR h0 ht10, B_146_238, q1, bI_t]
            have n10 : ¬ (nI 1 = nI 0) := by decide
            try simp (disch := omega) only [st_I, st_L, st_R, st_S, st_N, st_C, st_Z, st_X, st_D, st_st, st_sI, st_sIr, st_sL, st_sR, gfI_st, gfL_st, gfR_st, gfN_st, pfI_st, pfL_st, pfR_st, pfZ_st0, pfZ_st1, ldI_st, ldL_st, stoI_st, stoL_st, aln_st, cpA_st, bq_st, bq_S, oI_s, oL_s, oD_s, oV_s, oR_s, oR_n, oI_e, oL_e, oD_e, Option.bind_some, fa_lit, fa_litL, nI_add, pk_mul, nI_m1, nI_lt', nI_le', nI_eq', lc_ge, lc_le, lc_gt, lc_lt, lc_eq, isZ_0, isZ_1, bI_0, bI_z, decide_eq_true_eq, Bool.not_eq_true', Bool.not_true, Bool.not_false, decide_eq_false_iff_not, if_true, if_false, ite_true, ite_false, eq_self, not_true, not_false_eq_true, C_95, C_96, C_97, C_99, C_100, C_102, C_106, C_107, C_109, C_168, C_171, C_172, C_173, C_174, C_175, yu_ne, yu_eq, up_eq, up_ne, yur_ne, yur_eq, yu_uu, y1_eq, y1_ne, y1_y1, Nat.mul_zero, Nat.zero_mul, Nat.add_zero, Nat.zero_add, Nat.mul_one, Nat.one_mul, Nat.reduceEqDiff, Nat.reduceLT, Nat.reduceLeDiff, Nat.reduceAdd, Nat.reduceMul, decide_true, decide_false, cond_true, cond_false, reduceCtorEq, Bool.false_eq_true, Bool.true_eq_false, Bool.true_and, Bool.and_true, Bool.false_and, Bool.and_false, r137_1, r137_1, r137_1, r137_1, r137_1, n10, gR h0 ht10, B_146_238, q1]
            exact ⟨_, _, _, _, _, _, rfl, Md_le h1 hk hz⟩
        have hcn : CB (noteC cy) := CB_8 hc' (fun q hq => (noteC_j hq).trans (y3 q hq)) (by rw [noteC_8]; omega)
        unfold ar1
        simp only
        have n10 : ¬ (nI 1 = nI 0) := by decide
        cases hw : p_bit (Sy 7 t 9) (nI a) <;> cases hf : firm (Sy 7) t <;> cases hp : p_in (Sy 7 t 1) (Sy 7 t 2) (Sy 3 a)
        · try simp (disch := omega) only [st_I, st_L, st_R, st_S, st_N, st_C, st_Z, st_X, st_D, st_st, st_sI, st_sIr, st_sL, st_sR, gfI_st, gfL_st, gfR_st, gfN_st, pfI_st, pfL_st, pfR_st, pfZ_st0, pfZ_st1, ldI_st, ldL_st, stoI_st, stoL_st, aln_st, cpA_st, bq_st, bq_S, oI_s, oL_s, oD_s, oV_s, oR_s, oR_n, oI_e, oL_e, oD_e, Option.bind_some, fa_lit, fa_litL, nI_add, pk_mul, nI_m1, nI_lt', nI_le', nI_eq', lc_ge, lc_le, lc_gt, lc_lt, lc_eq, isZ_0, isZ_1, bI_0, bI_z, decide_eq_true_eq, Bool.not_eq_true', Bool.not_true, Bool.not_false, decide_eq_false_iff_not, if_true, if_false, ite_true, ite_false, eq_self, not_true, not_false_eq_true, C_95, C_96, C_97, C_99, C_100, C_102, C_106, C_107, C_109, C_168, C_171, C_172, C_173, C_174, C_175, yu_ne, yu_eq, up_eq, up_ne, yur_ne, yur_eq, yu_uu, y1_eq, y1_ne, y1_y1, Nat.mul_zero, Nat.zero_mul, Nat.add_zero, Nat.zero_add, Nat.mul_one, Nat.one_mul, Nat.reduceEqDiff, Nat.reduceLT, Nat.reduceLeDiff, Nat.reduceAdd, Nat.reduceMul, decide_true, decide_false, cond_true, cond_false, reduceCtorEq, Bool.false_eq_true, Bool.true_eq_false, Bool.true_and, Bool.and_true, Bool.false_and, Bool.and_false, r137_1, r137_1, r137_1, r137_1, r137_1, B_146_125, C_144 hs hr hm hcy ht10, C_145 hs hr hm hcy ht10 ha6, hw, hf, hp, B_146_147, B_146_148, B_146_172, n10]
          exact fin false μ f l r _ _ cy Sy _ rfl h (by omega) (by omega) hcy
        · try simp (disch := omega) only [st_I, st_L, st_R, st_S, st_N, st_C, st_Z, st_X, st_D, st_st, st_sI, st_sIr, st_sL, st_sR, gfI_st, gfL_st, gfR_st, gfN_st, pfI_st, pfL_st, pfR_st, pfZ_st0, pfZ_st1, ldI_st, ldL_st, stoI_st, stoL_st, aln_st, cpA_st, bq_st, bq_S, oI_s, oL_s, oD_s, oV_s, oR_s, oR_n, oI_e, oL_e, oD_e, Option.bind_some, fa_lit, fa_litL, nI_add, pk_mul, nI_m1, nI_lt', nI_le', nI_eq', lc_ge, lc_le, lc_gt, lc_lt, lc_eq, isZ_0, isZ_1, bI_0, bI_z, decide_eq_true_eq, Bool.not_eq_true', Bool.not_true, Bool.not_false, decide_eq_false_iff_not, if_true, if_false, ite_true, ite_false, eq_self, not_true, not_false_eq_true, C_95, C_96, C_97, C_99, C_100, C_102, C_106, C_107, C_109, C_168, C_171, C_172, C_173, C_174, C_175, yu_ne, yu_eq, up_eq, up_ne, yur_ne, yur_eq, yu_uu, y1_eq, y1_ne, y1_y1, Nat.mul_zero, Nat.zero_mul, Nat.add_zero, Nat.zero_add, Nat.mul_one, Nat.one_mul, Nat.reduceEqDiff, Nat.reduceLT, Nat.reduceLeDiff, Nat.reduceAdd, Nat.reduceMul, decide_true, decide_false, cond_true, cond_false, reduceCtorEq, Bool.false_eq_true, Bool.true_eq_false, Bool.true_and, Bool.and_true, Bool.false_and, Bool.and_false, r137_1, r137_1, r137_1, r137_1, r137_1, B_146_125, C_144 hs hr hm hcy ht10, C_145 hs hr hm hcy ht10 ha6, hw, hf, hp, B_146_147, B_146_148, B_146_172, n10]
          exact fin false μ f l r _ _ cy Sy _ rfl h (by omega) (by omega) hcy
        · try simp (disch := omega) only [st_I, st_L, st_R, st_S, st_N, st_C, st_Z, st_X, st_D, st_st, st_sI, st_sIr, st_sL, st_sR, gfI_st, gfL_st, gfR_st, gfN_st, pfI_st, pfL_st, pfR_st, pfZ_st0, pfZ_st1, ldI_st, ldL_st, stoI_st, stoL_st, aln_st, cpA_st, bq_st, bq_S, oI_s, oL_s, oD_s, oV_s, oR_s, oR_n, oI_e, oL_e, oD_e, Option.bind_some, fa_lit, fa_litL, nI_add, pk_mul, nI_m1, nI_lt', nI_le', nI_eq', lc_ge, lc_le, lc_gt, lc_lt, lc_eq, isZ_0, isZ_1, bI_0, bI_z, decide_eq_true_eq, Bool.not_eq_true', Bool.not_true, Bool.not_false, decide_eq_false_iff_not, if_true, if_false, ite_true, ite_false, eq_self, not_true, not_false_eq_true, C_95, C_96, C_97, C_99, C_100, C_102, C_106, C_107, C_109, C_168, C_171, C_172, C_173, C_174, C_175, yu_ne, yu_eq, up_eq, up_ne, yur_ne, yur_eq, yu_uu, y1_eq, y1_ne, y1_y1, Nat.mul_zero, Nat.zero_mul, Nat.add_zero, Nat.zero_add, Nat.mul_one, Nat.one_mul, Nat.reduceEqDiff, Nat.reduceLT, Nat.reduceLeDiff, Nat.reduceAdd, Nat.reduceMul, decide_true, decide_false, cond_true, cond_false, reduceCtorEq, Bool.false_eq_true, Bool.true_eq_false, Bool.true_and, Bool.and_true, Bool.false_and, Bool.and_false, r137_1, r137_1, r137_1, r137_1, r137_1, B_146_125, C_144 hs hr hm hcy ht10, C_145 hs hr hm hcy ht10 ha6, hw, hf, hp, B_146_147, B_146_148, B_146_172, n10]
          exact fin false μ f l r _ _ cy Sy _ rfl h (by omega) (by omega) hcy
        · try simp (disch := omega) only [st_I, st_L, st_R, st_S, st_N, st_C, st_Z, st_X, st_D, st_st, st_sI, st_sIr, st_sL, st_sR, gfI_st, gfL_st, gfR_st, gfN_st, pfI_st, pfL_st, pfR_st, pfZ_st0, pfZ_st1, ldI_st, ldL_st, stoI_st, stoL_st, aln_st, cpA_st, bq_st, bq_S, oI_s, oL_s, oD_s, oV_s, oR_s, oR_n, oI_e, oL_e, oD_e, Option.bind_some, fa_lit, fa_litL, nI_add, pk_mul, nI_m1, nI_lt', nI_le', nI_eq', lc_ge, lc_le, lc_gt, lc_lt, lc_eq, isZ_0, isZ_1, bI_0, bI_z, decide_eq_true_eq, Bool.not_eq_true', Bool.not_true, Bool.not_false, decide_eq_false_iff_not, if_true, if_false, ite_true, ite_false, eq_self, not_true, not_false_eq_true, C_95, C_96, C_97, C_99, C_100, C_102, C_106, C_107, C_109, C_168, C_171, C_172, C_173, C_174, C_175, yu_ne, yu_eq, up_eq, up_ne, yur_ne, yur_eq, yu_uu, y1_eq, y1_ne, y1_y1, Nat.mul_zero, Nat.zero_mul, Nat.add_zero, Nat.zero_add, Nat.mul_one, Nat.one_mul, Nat.reduceEqDiff, Nat.reduceLT, Nat.reduceLeDiff, Nat.reduceAdd, Nat.reduceMul, decide_true, decide_false, cond_true, cond_false, reduceCtorEq, Bool.false_eq_true, Bool.true_eq_false, Bool.true_and, Bool.and_true, Bool.false_and, Bool.and_false, r137_1, r137_1, r137_1, r137_1, r137_1, B_146_125, C_144 hs hr hm hcy ht10, C_145 hs hr hm hcy ht10 ha6, hw, hf, hp, B_146_147, B_146_148, B_146_172, n10]
          obtain ⟨μ2, f2, l2, r2, q2, h2⟩ := Md_note h hcy (kd := nI 7) (nm := Sy 7 t 0) (ot := nI a)
          have h137na : (mS μ2 137).1 = 9 := by rw [h2.1 137 (by decide)]; rfl
          simp (disch := omega) only [st_I, st_L, st_R, st_S, st_N, st_C, st_Z, st_X, st_D, st_st, st_sI, st_sIr, st_sL, st_sR, gfI_st, gfL_st, gfR_st, gfN_st, pfI_st, pfL_st, pfR_st, pfZ_st0, pfZ_st1, ldI_st, ldL_st, stoI_st, stoL_st, aln_st, cpA_st, bq_st, bq_S, oI_s, oL_s, oD_s, oV_s, oR_s, oR_n, oI_e, oL_e, oD_e, Option.bind_some, fa_lit, fa_litL, nI_add, pk_mul, nI_m1, nI_lt', nI_le', nI_eq', lc_ge, lc_le, lc_gt, lc_lt, lc_eq, isZ_0, isZ_1, bI_0, bI_z, decide_eq_true_eq, Bool.not_eq_true', Bool.not_true, Bool.not_false, decide_eq_false_iff_not, if_true, if_false, ite_true, ite_false, eq_self, not_true, not_false_eq_true, C_95, C_96, C_97, C_99, C_100, C_102, C_106, C_107, C_109, C_168, C_171, C_172, C_173, C_174, C_175, yu_ne, yu_eq, up_eq, up_ne, yur_ne, yur_eq, yu_uu, y1_eq, y1_ne, y1_y1, Nat.mul_zero, Nat.zero_mul, Nat.add_zero, Nat.zero_add, Nat.mul_one, Nat.one_mul, Nat.reduceEqDiff, Nat.reduceLT, Nat.reduceLeDiff, Nat.reduceAdd, Nat.reduceMul, decide_true, decide_false, cond_true, cond_false, reduceCtorEq, Bool.false_eq_true, Bool.true_eq_false, Bool.true_and, Bool.and_true, Bool.false_and, Bool.and_false, r137_1, r137_1, r137_1, r137_1, r137_1, C_124 hs hr hm hcy ht10, q2]
          exact fin true μ2 f2 l2 r2 _ _ (noteC cy) _ _ (noteS_r (by decide)) h2 (by omega) (by omega) hcn
        · try simp (disch := omega) only [st_I, st_L, st_R, st_S, st_N, st_C, st_Z, st_X, st_D, st_st, st_sI, st_sIr, st_sL, st_sR, gfI_st, gfL_st, gfR_st, gfN_st, pfI_st, pfL_st, pfR_st, pfZ_st0, pfZ_st1, ldI_st, ldL_st, stoI_st, stoL_st, aln_st, cpA_st, bq_st, bq_S, oI_s, oL_s, oD_s, oV_s, oR_s, oR_n, oI_e, oL_e, oD_e, Option.bind_some, fa_lit, fa_litL, nI_add, pk_mul, nI_m1, nI_lt', nI_le', nI_eq', lc_ge, lc_le, lc_gt, lc_lt, lc_eq, isZ_0, isZ_1, bI_0, bI_z, decide_eq_true_eq, Bool.not_eq_true', Bool.not_true, Bool.not_false, decide_eq_false_iff_not, if_true, if_false, ite_true, ite_false, eq_self, not_true, not_false_eq_true, C_95, C_96, C_97, C_99, C_100, C_102, C_106, C_107, C_109, C_168, C_171, C_172, C_173, C_174, C_175, yu_ne, yu_eq, up_eq, up_ne, yur_ne, yur_eq, yu_uu, y1_eq, y1_ne, y1_y1, Nat.mul_zero, Nat.zero_mul, Nat.add_zero, Nat.zero_add, Nat.mul_one, Nat.one_mul, Nat.reduceEqDiff, Nat.reduceLT, Nat.reduceLeDiff, Nat.reduceAdd, Nat.reduceMul, decide_true, decide_false, cond_true, cond_false, reduceCtorEq, Bool.false_eq_true, Bool.true_eq_false, Bool.true_and, Bool.and_true, Bool.false_and, Bool.and_false, r137_1, r137_1, r137_1, r137_1, r137_1, B_146_125, C_144 hs hr hm hcy ht10, C_145 hs hr hm hcy ht10 ha6, hw, hf, hp, B_146_147, B_146_148, B_146_172, n10]
          exact fin false μ f l r _ _ cy Sy _ rfl h (by omega) (by omega) hcy
        · try simp (disch := omega) only [st_I, st_L, st_R, st_S, st_N, st_C, st_Z, st_X, st_D, st_st, st_sI, st_sIr, st_sL, st_sR, gfI_st, gfL_st, gfR_st, gfN_st, pfI_st, pfL_st, pfR_st, pfZ_st0, pfZ_st1, ldI_st, ldL_st, stoI_st, stoL_st, aln_st, cpA_st, bq_st, bq_S, oI_s, oL_s, oD_s, oV_s, oR_s, oR_n, oI_e, oL_e, oD_e, Option.bind_some, fa_lit, fa_litL, nI_add, pk_mul, nI_m1, nI_lt', nI_le', nI_eq', lc_ge, lc_le, lc_gt, lc_lt, lc_eq, isZ_0, isZ_1, bI_0, bI_z, decide_eq_true_eq, Bool.not_eq_true', Bool.not_true, Bool.not_false, decide_eq_false_iff_not, if_true, if_false, ite_true, ite_false, eq_self, not_true, not_false_eq_true, C_95, C_96, C_97, C_99, C_100, C_102, C_106, C_107, C_109, C_168, C_171, C_172, C_173, C_174, C_175, yu_ne, yu_eq, up_eq, up_ne, yur_ne, yur_eq, yu_uu, y1_eq, y1_ne, y1_y1, Nat.mul_zero, Nat.zero_mul, Nat.add_zero, Nat.zero_add, Nat.mul_one, Nat.one_mul, Nat.reduceEqDiff, Nat.reduceLT, Nat.reduceLeDiff, Nat.reduceAdd, Nat.reduceMul, decide_true, decide_false, cond_true, cond_false, reduceCtorEq, Bool.false_eq_true, Bool.true_eq_false, Bool.true_and, Bool.and_true, Bool.false_and, Bool.and_false, r137_1, r137_1, r137_1, r137_1, r137_1, B_146_125, C_144 hs hr hm hcy ht10, C_145 hs hr hm hcy ht10 ha6, hw, hf, hp, B_146_147, B_146_148, B_146_172, n10]
          exact fin false μ f l r _ _ cy Sy _ rfl h (by omega) (by omega) hcy
        · try simp (disch := omega) only [st_I, st_L, st_R, st_S, st_N, st_C, st_Z, st_X, st_D, st_st, st_sI, st_sIr, st_sL, st_sR, gfI_st, gfL_st, gfR_st, gfN_st, pfI_st, pfL_st, pfR_st, pfZ_st0, pfZ_st1, ldI_st, ldL_st, stoI_st, stoL_st, aln_st, cpA_st, bq_st, bq_S, oI_s, oL_s, oD_s, oV_s, oR_s, oR_n, oI_e, oL_e, oD_e, Option.bind_some, fa_lit, fa_litL, nI_add, pk_mul, nI_m1, nI_lt', nI_le', nI_eq', lc_ge, lc_le, lc_gt, lc_lt, lc_eq, isZ_0, isZ_1, bI_0, bI_z, decide_eq_true_eq, Bool.not_eq_true', Bool.not_true, Bool.not_false, decide_eq_false_iff_not, if_true, if_false, ite_true, ite_false, eq_self, not_true, not_false_eq_true, C_95, C_96, C_97, C_99, C_100, C_102, C_106, C_107, C_109, C_168, C_171, C_172, C_173, C_174, C_175, yu_ne, yu_eq, up_eq, up_ne, yur_ne, yur_eq, yu_uu, y1_eq, y1_ne, y1_y1, Nat.mul_zero, Nat.zero_mul, Nat.add_zero, Nat.zero_add, Nat.mul_one, Nat.one_mul, Nat.reduceEqDiff, Nat.reduceLT, Nat.reduceLeDiff, Nat.reduceAdd, Nat.reduceMul, decide_true, decide_false, cond_true, cond_false, reduceCtorEq, Bool.false_eq_true, Bool.true_eq_false, Bool.true_and, Bool.and_true, Bool.false_and, Bool.and_false, r137_1, r137_1, r137_1, r137_1, r137_1, B_146_125, C_144 hs hr hm hcy ht10, C_145 hs hr hm hcy ht10 ha6, hw, hf, hp, B_146_147, B_146_148, B_146_172, n10]
          obtain ⟨μ2, f2, l2, r2, q2, h2⟩ := Md_note h hcy (kd := nI 8) (nm := Sy 7 t 0) (ot := nI a)
          have h137na : (mS μ2 137).1 = 9 := by rw [h2.1 137 (by decide)]; rfl
          simp (disch := omega) only [st_I, st_L, st_R, st_S, st_N, st_C, st_Z, st_X, st_D, st_st, st_sI, st_sIr, st_sL, st_sR, gfI_st, gfL_st, gfR_st, gfN_st, pfI_st, pfL_st, pfR_st, pfZ_st0, pfZ_st1, ldI_st, ldL_st, stoI_st, stoL_st, aln_st, cpA_st, bq_st, bq_S, oI_s, oL_s, oD_s, oV_s, oR_s, oR_n, oI_e, oL_e, oD_e, Option.bind_some, fa_lit, fa_litL, nI_add, pk_mul, nI_m1, nI_lt', nI_le', nI_eq', lc_ge, lc_le, lc_gt, lc_lt, lc_eq, isZ_0, isZ_1, bI_0, bI_z, decide_eq_true_eq, Bool.not_eq_true', Bool.not_true, Bool.not_false, decide_eq_false_iff_not, if_true, if_false, ite_true, ite_false, eq_self, not_true, not_false_eq_true, C_95, C_96, C_97, C_99, C_100, C_102, C_106, C_107, C_109, C_168, C_171, C_172, C_173, C_174, C_175, yu_ne, yu_eq, up_eq, up_ne, yur_ne, yur_eq, yu_uu, y1_eq, y1_ne, y1_y1, Nat.mul_zero, Nat.zero_mul, Nat.add_zero, Nat.zero_add, Nat.mul_one, Nat.one_mul, Nat.reduceEqDiff, Nat.reduceLT, Nat.reduceLeDiff, Nat.reduceAdd, Nat.reduceMul, decide_true, decide_false, cond_true, cond_false, reduceCtorEq, Bool.false_eq_true, Bool.true_eq_false, Bool.true_and, Bool.and_true, Bool.false_and, Bool.and_false, r137_1, r137_1, r137_1, r137_1, r137_1, C_124 hs hr hm hcy ht10, q2]
          exact fin false μ2 f2 l2 r2 _ _ (noteC cy) _ _ (noteS_r (by decide)) h2 (by omega) (by omega) hcn
        · try simp (disch := omega) only [st_I, st_L, st_R, st_S, st_N, st_C, st_Z, st_X, st_D, st_st, st_sI, st_sIr, st_sL, st_sR, gfI_st, gfL_st, gfR_st, gfN_st, pfI_st, pfL_st, pfR_st, pfZ_st0, pfZ_st1, ldI_st, ldL_st, stoI_st, stoL_st, aln_st, cpA_st, bq_st, bq_S, oI_s, oL_s, oD_s, oV_s, oR_s, oR_n, oI_e, oL_e, oD_e, Option.bind_some, fa_lit, fa_litL, nI_add, pk_mul, nI_m1, nI_lt', nI_le', nI_eq', lc_ge, lc_le, lc_gt, lc_lt, lc_eq, isZ_0, isZ_1, bI_0, bI_z, decide_eq_true_eq, Bool.not_eq_true', Bool.not_true, Bool.not_false, decide_eq_false_iff_not, if_true, if_false, ite_true, ite_false, eq_self, not_true, not_false_eq_true, C_95, C_96, C_97, C_99, C_100, C_102, C_106, C_107, C_109, C_168, C_171, C_172, C_173, C_174, C_175, yu_ne, yu_eq, up_eq, up_ne, yur_ne, yur_eq, yu_uu, y1_eq, y1_ne, y1_y1, Nat.mul_zero, Nat.zero_mul, Nat.add_zero, Nat.zero_add, Nat.mul_one, Nat.one_mul, Nat.reduceEqDiff, Nat.reduceLT, Nat.reduceLeDiff, Nat.reduceAdd, Nat.reduceMul, decide_true, decide_false, cond_true, cond_false, reduceCtorEq, Bool.false_eq_true, Bool.true_eq_false, Bool.true_and, Bool.and_true, Bool.false_and, Bool.and_false, r137_1, r137_1, r137_1, r137_1, r137_1, B_146_125, C_144 hs hr hm hcy ht10, C_145 hs hr hm hcy ht10 ha6, hw, hf, hp, B_146_147, B_146_148, B_146_172, n10]
          exact fin true μ f l r _ _ cy Sy _ rfl h (by omega) (by omega) hcy
  · rintro a o ha ⟨μ, f, l, r, o2, o3, o4, rfl, h⟩
    have hs := h.1
    have hr := h.2.1
    have h137a : (mS μ 137).1 = 9 := by rw [hs 137 (by decide)]; rfl
    have h138a : (mS μ 138).1 = 20 := by rw [hs 138 (by decide)]; rfl
    have h138b : (mS μ 138).2 = 15 := by rw [hs 138 (by decide)]; rfl
    have r137_1 : r 137 1 = some 138 := hr 137 1 138 rfl
    have ha' : ¬ c 4 ≤ a := by omega
    have ha10 : a < 10 := by omega
    have hx := itr_bd (g := fun a s => itr (cr1 a) (c 4) s) (e := c 4) (fun a s => by
      have := itr_bd (g := cr1 a) (e := 1) cr1_bd (s := s) (c 4)
      rw [Nat.one_mul] at this
      exact this) (s := (c, S)) a
    rw [itr_s']
    generalize itr (fun a s => itr (cr1 a) (c 4) s) a (c, S) = s at h hx ⊢
    obtain ⟨cx, Sx⟩ := s
    simp only at h hx ⊢
    obtain ⟨x1, x2⟩ := hx
    have x4 : cx 8 ≤ c 8 + 100 := by
      have : c 4 * a ≤ 10 * 10 := Nat.mul_le_mul c4 (by omega)
      omega
    have L4 : f 138 4 = nI (c 4) := by rw [h.2.2.2.2.1 4 (by decide), x1 4 (by decide)]
    right
    rw [B_146_2]
    simp (disch := omega) only [st_I, st_L, st_R, st_S, st_N, st_C, st_Z, st_X, st_D, st_st, st_sI, st_sIr, st_sL, st_sR, gfI_st, gfL_st, gfR_st, gfN_st, pfI_st, pfL_st, pfR_st, pfZ_st0, pfZ_st1, ldI_st, ldL_st, stoI_st, stoL_st, aln_st, cpA_st, bq_st, bq_S, oI_s, oL_s, oD_s, oV_s, oR_s, oR_n, oI_e, oL_e, oD_e, Option.bind_some, fa_lit, fa_litL, nI_add, pk_mul, nI_m1, nI_lt', nI_le', nI_eq', lc_ge, lc_le, lc_gt, lc_lt, lc_eq, isZ_0, isZ_1, bI_0, bI_z, decide_eq_true_eq, Bool.not_eq_true', Bool.not_true, Bool.not_false, decide_eq_false_iff_not, if_true, if_false, ite_true, ite_false, eq_self, not_true, not_false_eq_true, C_95, C_96, C_97, C_99, C_100, C_102, C_106, C_107, C_109, C_168, C_171, C_172, C_173, C_174, C_175, yu_ne, yu_eq, up_eq, up_ne, yur_ne, yur_eq, yu_uu, y1_eq, y1_ne, y1_y1, Nat.mul_zero, Nat.zero_mul, Nat.add_zero, Nat.zero_add, Nat.mul_one, Nat.one_mul, Nat.reduceEqDiff, Nat.reduceLT, Nat.reduceLeDiff, Nat.reduceAdd, Nat.reduceMul, decide_true, decide_false, cond_true, cond_false, reduceCtorEq, Bool.false_eq_true, Bool.true_eq_false, Bool.true_and, Bool.and_true, Bool.false_and, Bool.and_false, r137_1, r137_1, r137_1, r137_1, r137_1, r137_1, L4, ha']
    refine loopP (fun b o => ∃ μ f l r o3 o4, o = RUN 146 16 [some (.ref 137), some (.int (nI a)), some (.int (nI b)), o3, o4] [] (st μ f l r) ∧ Md m0 μ f l r (k + 10 * a + b) (z + 40 * a + 4 * b) (itr (cr1 a) b (cx, Sx)).1 (itr (cr1 a) b (cx, Sx)).2 ∧ a < b) (fun o => ∃ μ f l r o2 o3 o4, o = RUN 146 2 [some (.ref 137), some (.int (nI (a + 1))), o2, o3, o4] [] (st μ f l r) ∧ Md m0 μ f l r (k + 10 * (a + 1)) (z + 40 * (a + 1)) (itr (cr1 a) (c 4) (cx, Sx)).1 (itr (cr1 a) (c 4) (cx, Sx)).2) (c 4) ?_ ?_ (a + 1) _ (by omega) ⟨μ, f, l, r, _, _, rfl, ?_, by omega⟩
    · rintro o ⟨μ, f, l, r, o3, o4, rfl, h, hab⟩
      have hs := h.1
      have hr := h.2.1
      have h137a : (mS μ 137).1 = 9 := by rw [hs 137 (by decide)]; rfl
      have h138a : (mS μ 138).1 = 20 := by rw [hs 138 (by decide)]; rfl
      have h138b : (mS μ 138).2 = 15 := by rw [hs 138 (by decide)]; rfl
      have r137_1 : r 137 1 = some 138 := hr 137 1 138 rfl
      have L4 : f 138 4 = nI (c 4) := by rw [h.2.2.2.2.1 4 (by decide), (itr_bd (g := cr1 a) (e := 1) cr1_bd (s := (cx, Sx)) (c 4)).1 4 (by decide)]; exact congrArg nI (x1 4 (by decide))
      rw [B_146_16]
      simp (disch := omega) only [st_I, st_L, st_R, st_S, st_N, st_C, st_Z, st_X, st_D, st_st, st_sI, st_sIr, st_sL, st_sR, gfI_st, gfL_st, gfR_st, gfN_st, pfI_st, pfL_st, pfR_st, pfZ_st0, pfZ_st1, ldI_st, ldL_st, stoI_st, stoL_st, aln_st, cpA_st, bq_st, bq_S, oI_s, oL_s, oD_s, oV_s, oR_s, oR_n, oI_e, oL_e, oD_e, Option.bind_some, fa_lit, fa_litL, nI_add, pk_mul, nI_m1, nI_lt', nI_le', nI_eq', lc_ge, lc_le, lc_gt, lc_lt, lc_eq, isZ_0, isZ_1, bI_0, bI_z, decide_eq_true_eq, Bool.not_eq_true', Bool.not_true, Bool.not_false, decide_eq_false_iff_not, if_true, if_false, ite_true, ite_false, eq_self, not_true, not_false_eq_true, C_95, C_96, C_97, C_99, C_100, C_102, C_106, C_107, C_109, C_168, C_171, C_172, C_173, C_174, C_175, yu_ne, yu_eq, up_eq, up_ne, yur_ne, yur_eq, yu_uu, y1_eq, y1_ne, y1_y1, Nat.mul_zero, Nat.zero_mul, Nat.add_zero, Nat.zero_add, Nat.mul_one, Nat.one_mul, Nat.reduceEqDiff, Nat.reduceLT, Nat.reduceLeDiff, Nat.reduceAdd, Nat.reduceMul, decide_true, decide_false, cond_true, cond_false, reduceCtorEq, Bool.false_eq_true, Bool.true_eq_false, Bool.true_and, Bool.and_true, Bool.false_and, Bool.and_false, r137_1, r137_1, r137_1, r137_1, r137_1, r137_1, r137_1, L4, Nat.le_refl]
      exact ⟨_, _, _, _, _, _, _, rfl, Md_le h (by omega) (by omega)⟩
    · rintro b o hb ⟨μ, f, l, r, o3, o4, rfl, h, hab⟩
      have hb' : ¬ c 4 ≤ b := by omega
      have hb10 : b < 10 := by omega
      have hy := itr_bd (g := cr1 a) (e := 1) cr1_bd (s := (cx, Sx)) b
      rw [itr_s']
      generalize itr (cr1 a) b (cx, Sx) = s at h hy ⊢
      obtain ⟨cy, Sy⟩ := s
      simp only at h hy ⊢
      have y3 : ∀ q, q ≠ 8 → cy q = c q := fun q hq => (hy.1 q hq).trans (x1 q hq)
      have hcy : CB cy := CB_8 hc' y3 (by omega)
      have hs := h.1
      have hr := h.2.1
      have hm := h.2.2.2.2
      have h137a : (mS μ 137).1 = 9 := by rw [hs 137 (by decide)]; rfl
      have h138a : (mS μ 138).1 = 20 := by rw [hs 138 (by decide)]; rfl
      have h138b : (mS μ 138).2 = 15 := by rw [hs 138 (by decide)]; rfl
      have r137_1 : r 137 1 = some 138 := hr 137 1 138 rfl
      have L4 : f 138 4 = nI (c 4) := by rw [hm.1 4 (by decide), y3 4 (by decide)]
      right
      rw [B_146_16]
      simp (disch := omega) only [st_I, st_L, st_R, st_S, st_N, st_C, st_Z, st_X, st_D, st_st, st_sI, st_sIr, st_sL, st_sR, gfI_st, gfL_st, gfR_st, gfN_st, pfI_st, pfL_st, pfR_st, pfZ_st0, pfZ_st1, ldI_st, ldL_st, stoI_st, stoL_st, aln_st, cpA_st, bq_st, bq_S, oI_s, oL_s, oD_s, oV_s, oR_s, oR_n, oI_e, oL_e, oD_e, Option.bind_some, fa_lit, fa_litL, nI_add, pk_mul, nI_m1, nI_lt', nI_le', nI_eq', lc_ge, lc_le, lc_gt, lc_lt, lc_eq, isZ_0, isZ_1, bI_0, bI_z, decide_eq_true_eq, Bool.not_eq_true', Bool.not_true, Bool.not_false, decide_eq_false_iff_not, if_true, if_false, ite_true, ite_false, eq_self, not_true, not_false_eq_true, C_95, C_96, C_97, C_99, C_100, C_102, C_106, C_107, C_109, C_168, C_171, C_172, C_173, C_174, C_175, yu_ne, yu_eq, up_eq, up_ne, yur_ne, yur_eq, yu_uu, y1_eq, y1_ne, y1_y1, Nat.mul_zero, Nat.zero_mul, Nat.add_zero, Nat.zero_add, Nat.mul_one, Nat.one_mul, Nat.reduceEqDiff, Nat.reduceLT, Nat.reduceLeDiff, Nat.reduceAdd, Nat.reduceMul, decide_true, decide_false, cond_true, cond_false, reduceCtorEq, Bool.false_eq_true, Bool.true_eq_false, Bool.true_and, Bool.and_true, Bool.false_and, Bool.and_false, r137_1, r137_1, r137_1, r137_1, r137_1, r137_1, r137_1, r137_1, L4, hb', C_144 hs hr hm hcy ha10, C_144 hs hr hm hcy hb10, C_143 hs hr hm hcy ha10 hb10]
      unfold cr1
      simp only
      rw [if_pos hab]
      cases hf : firm (Sy 7) a
      · simp (disch := omega) only [st_I, st_L, st_R, st_S, st_N, st_C, st_Z, st_X, st_D, st_st, st_sI, st_sIr, st_sL, st_sR, gfI_st, gfL_st, gfR_st, gfN_st, pfI_st, pfL_st, pfR_st, pfZ_st0, pfZ_st1, ldI_st, ldL_st, stoI_st, stoL_st, aln_st, cpA_st, bq_st, bq_S, oI_s, oL_s, oD_s, oV_s, oR_s, oR_n, oI_e, oL_e, oD_e, Option.bind_some, fa_lit, fa_litL, nI_add, pk_mul, nI_m1, nI_lt', nI_le', nI_eq', lc_ge, lc_le, lc_gt, lc_lt, lc_eq, isZ_0, isZ_1, bI_0, bI_z, decide_eq_true_eq, Bool.not_eq_true', Bool.not_true, Bool.not_false, decide_eq_false_iff_not, if_true, if_false, ite_true, ite_false, eq_self, not_true, not_false_eq_true, C_95, C_96, C_97, C_99, C_100, C_102, C_106, C_107, C_109, C_168, C_171, C_172, C_173, C_174, C_175, yu_ne, yu_eq, up_eq, up_ne, yur_ne, yur_eq, yu_uu, y1_eq, y1_ne, y1_y1, Nat.mul_zero, Nat.zero_mul, Nat.add_zero, Nat.zero_add, Nat.mul_one, Nat.one_mul, Nat.reduceEqDiff, Nat.reduceLT, Nat.reduceLeDiff, Nat.reduceAdd, Nat.reduceMul, decide_true, decide_false, cond_true, cond_false, reduceCtorEq, Bool.false_eq_true, Bool.true_eq_false, Bool.true_and, Bool.and_true, Bool.false_and, Bool.and_false, r137_1, r137_1, r137_1, r137_1, r137_1, r137_1, r137_1, r137_1, B_146_69]
        exact ⟨_, _, _, _, _, _, rfl, Md_le h (by omega) (by omega), by omega⟩
      · cases hg : firm (Sy 7) b
        · simp (disch := omega) only [st_I, st_L, st_R, st_S, st_N, st_C, st_Z, st_X, st_D, st_st, st_sI, st_sIr, st_sL, st_sR, gfI_st, gfL_st, gfR_st, gfN_st, pfI_st, pfL_st, pfR_st, pfZ_st0, pfZ_st1, ldI_st, ldL_st, stoI_st, stoL_st, aln_st, cpA_st, bq_st, bq_S, oI_s, oL_s, oD_s, oV_s, oR_s, oR_n, oI_e, oL_e, oD_e, Option.bind_some, fa_lit, fa_litL, nI_add, pk_mul, nI_m1, nI_lt', nI_le', nI_eq', lc_ge, lc_le, lc_gt, lc_lt, lc_eq, isZ_0, isZ_1, bI_0, bI_z, decide_eq_true_eq, Bool.not_eq_true', Bool.not_true, Bool.not_false, decide_eq_false_iff_not, if_true, if_false, ite_true, ite_false, eq_self, not_true, not_false_eq_true, C_95, C_96, C_97, C_99, C_100, C_102, C_106, C_107, C_109, C_168, C_171, C_172, C_173, C_174, C_175, yu_ne, yu_eq, up_eq, up_ne, yur_ne, yur_eq, yu_uu, y1_eq, y1_ne, y1_y1, Nat.mul_zero, Nat.zero_mul, Nat.add_zero, Nat.zero_add, Nat.mul_one, Nat.one_mul, Nat.reduceEqDiff, Nat.reduceLT, Nat.reduceLeDiff, Nat.reduceAdd, Nat.reduceMul, decide_true, decide_false, cond_true, cond_false, reduceCtorEq, Bool.false_eq_true, Bool.true_eq_false, Bool.true_and, Bool.and_true, Bool.false_and, Bool.and_false, r137_1, r137_1, r137_1, r137_1, r137_1, r137_1, r137_1, r137_1, B_146_69]
          exact ⟨_, _, _, _, _, _, rfl, Md_le h (by omega) (by omega), by omega⟩
        · cases hp : p_cr (Sy 7 a) (Sy 7 b)
          · simp (disch := omega) only [st_I, st_L, st_R, st_S, st_N, st_C, st_Z, st_X, st_D, st_st, st_sI, st_sIr, st_sL, st_sR, gfI_st, gfL_st, gfR_st, gfN_st, pfI_st, pfL_st, pfR_st, pfZ_st0, pfZ_st1, ldI_st, ldL_st, stoI_st, stoL_st, aln_st, cpA_st, bq_st, bq_S, oI_s, oL_s, oD_s, oV_s, oR_s, oR_n, oI_e, oL_e, oD_e, Option.bind_some, fa_lit, fa_litL, nI_add, pk_mul, nI_m1, nI_lt', nI_le', nI_eq', lc_ge, lc_le, lc_gt, lc_lt, lc_eq, isZ_0, isZ_1, bI_0, bI_z, decide_eq_true_eq, Bool.not_eq_true', Bool.not_true, Bool.not_false, decide_eq_false_iff_not, if_true, if_false, ite_true, ite_false, eq_self, not_true, not_false_eq_true, C_95, C_96, C_97, C_99, C_100, C_102, C_106, C_107, C_109, C_168, C_171, C_172, C_173, C_174, C_175, yu_ne, yu_eq, up_eq, up_ne, yur_ne, yur_eq, yu_uu, y1_eq, y1_ne, y1_y1, Nat.mul_zero, Nat.zero_mul, Nat.add_zero, Nat.zero_add, Nat.mul_one, Nat.one_mul, Nat.reduceEqDiff, Nat.reduceLT, Nat.reduceLeDiff, Nat.reduceAdd, Nat.reduceMul, decide_true, decide_false, cond_true, cond_false, reduceCtorEq, Bool.false_eq_true, Bool.true_eq_false, Bool.true_and, Bool.and_true, Bool.false_and, Bool.and_false, r137_1, r137_1, r137_1, r137_1, r137_1, r137_1, r137_1, r137_1, B_146_69]
            exact ⟨_, _, _, _, _, _, rfl, Md_le h (by omega) (by omega), by omega⟩
          · obtain ⟨μ2, f2, l2, r2, q2, h2⟩ := Md_note h hcy (kd := nI 6) (nm := Sy 7 a 0) (ot := Sy 7 b 0)
            have h137na : (mS μ2 137).1 = 9 := by rw [h2.1 137 (by decide)]; rfl
            simp (disch := omega) only [st_I, st_L, st_R, st_S, st_N, st_C, st_Z, st_X, st_D, st_st, st_sI, st_sIr, st_sL, st_sR, gfI_st, gfL_st, gfR_st, gfN_st, pfI_st, pfL_st, pfR_st, pfZ_st0, pfZ_st1, ldI_st, ldL_st, stoI_st, stoL_st, aln_st, cpA_st, bq_st, bq_S, oI_s, oL_s, oD_s, oV_s, oR_s, oR_n, oI_e, oL_e, oD_e, Option.bind_some, fa_lit, fa_litL, nI_add, pk_mul, nI_m1, nI_lt', nI_le', nI_eq', lc_ge, lc_le, lc_gt, lc_lt, lc_eq, isZ_0, isZ_1, bI_0, bI_z, decide_eq_true_eq, Bool.not_eq_true', Bool.not_true, Bool.not_false, decide_eq_false_iff_not, if_true, if_false, ite_true, ite_false, eq_self, not_true, not_false_eq_true, C_95, C_96, C_97, C_99, C_100, C_102, C_106, C_107, C_109, C_168, C_171, C_172, C_173, C_174, C_175, yu_ne, yu_eq, up_eq, up_ne, yur_ne, yur_eq, yu_uu, y1_eq, y1_ne, y1_y1, Nat.mul_zero, Nat.zero_mul, Nat.add_zero, Nat.zero_add, Nat.mul_one, Nat.one_mul, Nat.reduceEqDiff, Nat.reduceLT, Nat.reduceLeDiff, Nat.reduceAdd, Nat.reduceMul, decide_true, decide_false, cond_true, cond_false, reduceCtorEq, Bool.false_eq_true, Bool.true_eq_false, Bool.true_and, Bool.and_true, Bool.false_and, Bool.and_false, r137_1, r137_1, r137_1, r137_1, r137_1, r137_1, r137_1, r137_1, C_124 hs hr hm hcy ha10, C_124 hs hr hm hcy hb10, q2, B_146_69]
            exact ⟨_, _, _, _, _, _, rfl, Md_le h2 (by omega) (by omega), by omega⟩
    · rw [itr_skip (g := cr1 a) (n := a + 1) (s := (cx, Sx)) (fun j x hj => by unfold cr1; rw [if_neg (by omega)])]
      exact Md_le h (by omega) (by omega)
