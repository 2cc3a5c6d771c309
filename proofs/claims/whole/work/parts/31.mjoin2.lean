/-! ===== 2. the reference joins, on ===== -/
theorem J_pick {m0 μ : mMu} {f : Nat → Nat → Int32} {l : Nat → Nat → Int64} {r : Nat → Nat → Option Nat} {k z : Nat} {c : Nat → Nat} {S : Nat → Nat → Nat → Int32} (h : Md m0 μ f l r k z c S) (hc : CB c) {o5 o6 o7 : Option Value} {M : Int64} (hM : mny = M) (q : Nat → Nat → Int64)
    (hq : ∀ t k, t < c 4 → k < c 3 → l 149 (10 * t + k) = q t k) (hb : ∀ t tk, t ≤ c 4 → tk < 2 ^ c 3 → l 150 (1024 * t + tk) = bM M q (c 3) (c 4) (c 4 - t) tk) :
    MI (RUN 131 246 [some (.ref 137), some (.int (nI (c 4))), some (.int (nI (c 3))), some (.int (nI 0)), some (.int (nI 0)), o5, o6, o7] [] (st μ f l r)) m0 k z (nI (pop (itr (jst (sel M q (c 3) (c 4))) (c 4) (S, 0)).2)) c (itr (jst (sel M q (c 3) (c 4))) (c 4) (S, 0)).1 := by
  have hs := h.1
  have hr := h.2.1
  have h137a : (mS μ 137).1 = 9 := by rw [hs 137 (by decide)]; rfl
  have h143a : (mS μ 143).1 = 20 := by rw [hs 143 (by decide)]; rfl
  have h143b : (mS μ 143).2 = 50 := by rw [hs 143 (by decide)]; rfl
  have h145a : (mS μ 145).1 = 20 := by rw [hs 145 (by decide)]; rfl
  have h145b : (mS μ 145).2 = 380 := by rw [hs 145 (by decide)]; rfl
  have h149a : (mS μ 149).1 = 21 := by rw [hs 149 (by decide)]; rfl
  have h149b : (mS μ 149).2 = 100 := by rw [hs 149 (by decide)]; rfl
  have h150a : (mS μ 150).1 = 21 := by rw [hs 150 (by decide)]; rfl
  have h150b : (mS μ 150).2 = 11264 := by rw [hs 150 (by decide)]; rfl
  have r137_6 : r 137 6 = some 143 := hr 137 6 143 rfl
  have r137_8 : r 137 8 = some 145 := hr 137 8 145 rfl
  have r137_17 : r 137 17 = some 149 := hr 137 17 149 rfl
  have r137_18 : r 137 18 = some 150 := hr 137 18 150 rfl
  have hc' := hc
  obtain ⟨c0, c1, c2, c3, c4, c5, c6, c7, c8, c9, c10, c11, c12, c13, c14⟩ := hc
  have hp := pow_le10 c3
  have hlt : ∀ n, (itr (jst (sel M q (c 3) (c 4))) n (S, 0)).2 < 2 ^ c 3 := fun n => jst_lt (fun t tk k hh => (ff_is hh).1)
  refine loopP (fun i o => ∃ f' o5 o6 o7, o = RUN 131 246 [some (.ref 137), some (.int (nI (c 4))), some (.int (nI (c 3))), some (.int (nI (itr (jst (sel M q (c 3) (c 4))) i (S, 0)).2)), some (.int (nI i)), o5, o6, o7] [] (st μ f' l r) ∧ Md m0 μ f' l r k z c (itr (jst (sel M q (c 3) (c 4))) i (S, 0)).1) (fun o => MI o m0 k z (nI (pop (itr (jst (sel M q (c 3) (c 4))) (c 4) (S, 0)).2)) c (itr (jst (sel M q (c 3) (c 4))) (c 4) (S, 0)).1) (c 4) ?_ ?_ 0 _ (Nat.zero_le _) ⟨f, _, _, _, rfl, h⟩
  · rintro o ⟨f', o5, o6, o7, rfl, h'⟩
    have := hlt (c 4)
    rw [B_131_246]
    simp (disch := omega) only [st_I, st_L, st_R, st_S, st_N, st_C, st_Z, st_X, st_D, st_st, st_sI, st_sIr, st_sL, st_sR, gfI_st, gfL_st, gfR_st, gfN_st, pfI_st, pfL_st, pfR_st, pfZ_st0, pfZ_st1, ldI_st, ldL_st, stoI_st, stoL_st, aln_st, cpA_st, bq_st, bq_S, oI_s, oL_s, oD_s, oV_s, oR_s, oR_n, oI_e, oL_e, oD_e, Option.bind_some, fa_lit, fa_litL, nI_add, pk_mul, nI_m1, nI_lt', nI_le', nI_eq', lc_ge, lc_le, lc_gt, lc_lt, lc_eq, isZ_0, isZ_1, bI_0, bI_z, decide_eq_true_eq, Bool.not_eq_true', Bool.not_true, Bool.not_false, decide_eq_false_iff_not, if_true, if_false, ite_true, ite_false, eq_self, not_true, not_false_eq_true, C_95, C_96, C_97, C_99, C_100, C_102, C_106, C_107, C_109, C_168, C_171, C_172, C_173, C_174, C_175, yu_ne, yu_eq, up_eq, up_ne, yur_ne, yur_eq, yu_uu, Nat.mul_zero, Nat.zero_mul, Nat.add_zero, Nat.zero_add, Nat.mul_one, Nat.one_mul, Nat.reduceEqDiff, Nat.reduceLT, Nat.reduceLeDiff, Nat.reduceAdd, Nat.reduceMul, decide_true, decide_false, cond_true, cond_false, reduceCtorEq, Bool.false_eq_true, Bool.true_eq_false, Bool.true_and, Bool.and_true, Bool.false_and, Bool.and_false, r137_6, r137_8, r137_17, r137_18, Nat.le_refl, C_167 (n := (itr (jst (sel M q (c 3) (c 4))) (c 4) (S, 0)).2) (by omega)]
    exact ⟨_, _, _, _, rfl, h'⟩
  · rintro i o hi ⟨f', o5, o6, o7, rfl, h'⟩
    have hi' : ¬ c 4 ≤ i := by omega
    have hi10 : i < 10 := by omega
    have hs1 := hlt i
    right
    have hsucc : itr (jst (sel M q (c 3) (c 4))) (i + 1) (S, 0) = jst (sel M q (c 3) (c 4)) i (itr (jst (sel M q (c 3) (c 4))) i (S, 0)) := rfl
    rw [hsucc]
    clear hsucc
    generalize hg : itr (jst (sel M q (c 3) (c 4))) i (S, 0) = sk at h' hs1 ⊢
    obtain ⟨S', tk⟩ := sk
    simp only at h' hs1 ⊢
    have L7 : ∀ w, w < 38 → f' 145 (38 * i + w) = S' 7 i w := fun w hw => h'.2.2.2.2.2.2.2.2.2.2.2.1 i w hi10 hw
    have L70 : f' 145 (38 * i) = S' 7 i 0 := L7 0 (by decide)
    have hset : ∀ v, MR (u2 f' 145 (38 * i + 13) v) c (u1 S' 7 (u1 (S' 7) i (up (up (S' 7 i) 38 v) 13 v))) := fun v => by
      exact MR_gh (MRu_7 (i := i) (j := 13) (v := v) h'.2.2.2.2 (by decide))
    rw [B_131_246]
    simp (disch := omega) only [st_I, st_L, st_R, st_S, st_N, st_C, st_Z, st_X, st_D, st_st, st_sI, st_sIr, st_sL, st_sR, gfI_st, gfL_st, gfR_st, gfN_st, pfI_st, pfL_st, pfR_st, pfZ_st0, pfZ_st1, ldI_st, ldL_st, stoI_st, stoL_st, aln_st, cpA_st, bq_st, bq_S, oI_s, oL_s, oD_s, oV_s, oR_s, oR_n, oI_e, oL_e, oD_e, Option.bind_some, fa_lit, fa_litL, nI_add, pk_mul, nI_m1, nI_lt', nI_le', nI_eq', lc_ge, lc_le, lc_gt, lc_lt, lc_eq, isZ_0, isZ_1, bI_0, bI_z, decide_eq_true_eq, Bool.not_eq_true', Bool.not_true, Bool.not_false, decide_eq_false_iff_not, if_true, if_false, ite_true, ite_false, eq_self, not_true, not_false_eq_true, C_95, C_96, C_97, C_99, C_100, C_102, C_106, C_107, C_109, C_168, C_171, C_172, C_173, C_174, C_175, yu_ne, yu_eq, up_eq, up_ne, yur_ne, yur_eq, yu_uu, Nat.mul_zero, Nat.zero_mul, Nat.add_zero, Nat.zero_add, Nat.mul_one, Nat.one_mul, Nat.reduceEqDiff, Nat.reduceLT, Nat.reduceLeDiff, Nat.reduceAdd, Nat.reduceMul, decide_true, decide_false, cond_true, cond_false, reduceCtorEq, Bool.false_eq_true, Bool.true_eq_false, Bool.true_and, Bool.and_true, Bool.false_and, Bool.and_false, r137_6, r137_8, r137_17, r137_18, hi']
    refine loopP (fun k o => o = RUN 131 255 [some (.ref 137), some (.int (nI (c 4))), some (.int (nI (c 3))), some (.int (nI tk)), some (.int (nI i)), some (.int (nI k)), o6, o7] [] (st μ f' l r) ∧ ∀ j, j < k → (can q i j tk && decide (bw M q (bM M q (c 3) (c 4) (c 4 - 1 - i)) i j tk = bM M q (c 3) (c 4) (c 4 - i) tk)) = false) (fun o => ∃ f' o5 o6 o7, o = RUN 131 246 [some (.ref 137), some (.int (nI (c 4))), some (.int (nI (c 3))), some (.int (nI (jst (sel M q (c 3) (c 4)) i (S', tk)).2)), some (.int (nI (i + 1))), o5, o6, o7] [] (st μ f' l r) ∧ Md m0 μ f' l r k z c (jst (sel M q (c 3) (c 4)) i (S', tk)).1) (c 3) ?_ ?_ 0 _ (Nat.zero_le _) ⟨rfl, fun j hj => absurd hj (Nat.not_lt_zero j)⟩
    · rintro o ⟨rfl, hno⟩
      have hsel : sel M q (c 3) (c 4) i tk = none := ff_none hno
      unfold jst
      rw [hsel, B_131_255]
      simp (disch := omega) only [st_I, st_L, st_R, st_S, st_N, st_C, st_Z, st_X, st_D, st_st, st_sI, st_sIr, st_sL, st_sR, gfI_st, gfL_st, gfR_st, gfN_st, pfI_st, pfL_st, pfR_st, pfZ_st0, pfZ_st1, ldI_st, ldL_st, stoI_st, stoL_st, aln_st, cpA_st, bq_st, bq_S, oI_s, oL_s, oD_s, oV_s, oR_s, oR_n, oI_e, oL_e, oD_e, Option.bind_some, fa_lit, fa_litL, nI_add, pk_mul, nI_m1, nI_lt', nI_le', nI_eq', lc_ge, lc_le, lc_gt, lc_lt, lc_eq, isZ_0, isZ_1, bI_0, bI_z, decide_eq_true_eq, Bool.not_eq_true', Bool.not_true, Bool.not_false, decide_eq_false_iff_not, if_true, if_false, ite_true, ite_false, eq_self, not_true, not_false_eq_true, C_95, C_96, C_97, C_99, C_100, C_102, C_106, C_107, C_109, C_168, C_171, C_172, C_173, C_174, C_175, yu_ne, yu_eq, up_eq, up_ne, yur_ne, yur_eq, yu_uu, Nat.mul_zero, Nat.zero_mul, Nat.add_zero, Nat.zero_add, Nat.mul_one, Nat.one_mul, Nat.reduceEqDiff, Nat.reduceLT, Nat.reduceLeDiff, Nat.reduceAdd, Nat.reduceMul, decide_true, decide_false, cond_true, cond_false, reduceCtorEq, Bool.false_eq_true, Bool.true_eq_false, Bool.true_and, Bool.and_true, Bool.false_and, Bool.and_false, r137_6, r137_8, r137_17, r137_18, Nat.le_refl, C_125 hs hr hi10]
      refine ⟨_, _, _, _, rfl, Md_f h' (fun a ha => ?_) (hset _)⟩
      simp (disch := omega) only [st_I, st_L, st_R, st_S, st_N, st_C, st_Z, st_X, st_D, st_st, st_sI, st_sIr, st_sL, st_sR, gfI_st, gfL_st, gfR_st, gfN_st, pfI_st, pfL_st, pfR_st, pfZ_st0, pfZ_st1, ldI_st, ldL_st, stoI_st, stoL_st, aln_st, cpA_st, bq_st, bq_S, oI_s, oL_s, oD_s, oV_s, oR_s, oR_n, oI_e, oL_e, oD_e, Option.bind_some, fa_lit, fa_litL, nI_add, pk_mul, nI_m1, nI_lt', nI_le', nI_eq', lc_ge, lc_le, lc_gt, lc_lt, lc_eq, isZ_0, isZ_1, bI_0, bI_z, decide_eq_true_eq, Bool.not_eq_true', Bool.not_true, Bool.not_false, decide_eq_false_iff_not, if_true, if_false, ite_true, ite_false, eq_self, not_true, not_false_eq_true, C_95, C_96, C_97, C_99, C_100, C_102, C_106, C_107, C_109, C_168, C_171, C_172, C_173, C_174, C_175, yu_ne, yu_eq, up_eq, up_ne, yur_ne, yur_eq, yu_uu, Nat.mul_zero, Nat.zero_mul, Nat.add_zero, Nat.zero_add, Nat.mul_one, Nat.one_mul, Nat.reduceEqDiff, Nat.reduceLT, Nat.reduceLeDiff, Nat.reduceAdd, Nat.reduceMul, decide_true, decide_false, cond_true, cond_false, reduceCtorEq, Bool.false_eq_true, Bool.true_eq_false, Bool.true_and, Bool.and_true, Bool.false_and, Bool.and_false, r137_6, r137_8, r137_17, r137_18]
    · rintro j o hj ⟨rfl, hno⟩
      have hj' : ¬ c 3 ≤ j := by omega
      have hjn : ¬ j = c 3 := by omega
      have hj10 : j < 10 := by omega
      have ho : tk ||| 2 ^ j < 2 ^ c 3 := or_lt hs1 hj
      have hcan : (!tk.testBit j && !decide (q i j < lN 0)) = can q i j tk := rfl
      have e1 : c 4 - (i + 1) = c 4 - 1 - i := by omega
      rw [B_131_255]
      simp (disch := omega) only [st_I, st_L, st_R, st_S, st_N, st_C, st_Z, st_X, st_D, st_st, st_sI, st_sIr, st_sL, st_sR, gfI_st, gfL_st, gfR_st, gfN_st, pfI_st, pfL_st, pfR_st, pfZ_st0, pfZ_st1, ldI_st, ldL_st, stoI_st, stoL_st, aln_st, cpA_st, bq_st, bq_S, oI_s, oL_s, oD_s, oV_s, oR_s, oR_n, oI_e, oL_e, oD_e, Option.bind_some, fa_lit, fa_litL, nI_add, pk_mul, nI_m1, nI_lt', nI_le', nI_eq', lc_ge, lc_le, lc_gt, lc_lt, lc_eq, isZ_0, isZ_1, bI_0, bI_z, decide_eq_true_eq, Bool.not_eq_true', Bool.not_true, Bool.not_false, decide_eq_false_iff_not, if_true, if_false, ite_true, ite_false, eq_self, not_true, not_false_eq_true, C_95, C_96, C_97, C_99, C_100, C_102, C_106, C_107, C_109, C_168, C_171, C_172, C_173, C_174, C_175, yu_ne, yu_eq, up_eq, up_ne, yur_ne, yur_eq, yu_uu, Nat.mul_zero, Nat.zero_mul, Nat.add_zero, Nat.zero_add, Nat.mul_one, Nat.one_mul, Nat.reduceEqDiff, Nat.reduceLT, Nat.reduceLeDiff, Nat.reduceAdd, Nat.reduceMul, decide_true, decide_false, cond_true, cond_false, reduceCtorEq, Bool.false_eq_true, Bool.true_eq_false, Bool.true_and, Bool.and_true, Bool.false_and, Bool.and_false, r137_6, r137_8, r137_17, r137_18, hj', C_129r hs hr hi10 hj10 (tk := tk) (by omega), C_130r hs hr hi10 hj10 (tk := tk) (by omega), hq i j hi hj, hcan, shl10, hM]
      rw [hb (i + 1) (tk ||| 2 ^ j) (by omega) ho, hb i tk (by omega) hs1, e1]
      cases hcn : can q i j tk
      · right
        simp (disch := omega) only [st_I, st_L, st_R, st_S, st_N, st_C, st_Z, st_X, st_D, st_st, st_sI, st_sIr, st_sL, st_sR, gfI_st, gfL_st, gfR_st, gfN_st, pfI_st, pfL_st, pfR_st, pfZ_st0, pfZ_st1, ldI_st, ldL_st, stoI_st, stoL_st, aln_st, cpA_st, bq_st, bq_S, oI_s, oL_s, oD_s, oV_s, oR_s, oR_n, oI_e, oL_e, oD_e, Option.bind_some, fa_lit, fa_litL, nI_add, pk_mul, nI_m1, nI_lt', nI_le', nI_eq', lc_ge, lc_le, lc_gt, lc_lt, lc_eq, isZ_0, isZ_1, bI_0, bI_z, decide_eq_true_eq, Bool.not_eq_true', Bool.not_true, Bool.not_false, decide_eq_false_iff_not, if_true, if_false, ite_true, ite_false, eq_self, not_true, not_false_eq_true, C_95, C_96, C_97, C_99, C_100, C_102, C_106, C_107, C_109, C_168, C_171, C_172, C_173, C_174, C_175, yu_ne, yu_eq, up_eq, up_ne, yur_ne, yur_eq, yu_uu, Nat.mul_zero, Nat.zero_mul, Nat.add_zero, Nat.zero_add, Nat.mul_one, Nat.one_mul, Nat.reduceEqDiff, Nat.reduceLT, Nat.reduceLeDiff, Nat.reduceAdd, Nat.reduceMul, decide_true, decide_false, cond_true, cond_false, reduceCtorEq, Bool.false_eq_true, Bool.true_eq_false, Bool.true_and, Bool.and_true, Bool.false_and, Bool.and_false, r137_6, r137_8, r137_17, r137_18]
        refine ⟨trivial, fun j' hj' => ?_⟩
        rcases Nat.lt_or_ge j' j with g | g
        · exact hno j' g
        · have : j' = j := by omega
          subst this
          rw [hcn, Bool.false_and]
      · by_cases heq : M - q i j + bM M q (c 3) (c 4) (c 4 - 1 - i) (tk ||| 2 ^ j) = bM M q (c 3) (c 4) (c 4 - i) tk
        · left
          have heq' : bw M q (bM M q (c 3) (c 4) (c 4 - 1 - i)) i j tk = bM M q (c 3) (c 4) (c 4 - i) tk := by unfold bw; exact heq
          have hsel : sel M q (c 3) (c 4) i tk = some j := ff_some hno (by rw [hcn, decide_eq_true heq', Bool.true_and]) hj
          unfold jst
          rw [hsel]
          simp (disch := omega) only [st_I, st_L, st_R, st_S, st_N, st_C, st_Z, st_X, st_D, st_st, st_sI, st_sIr, st_sL, st_sR, gfI_st, gfL_st, gfR_st, gfN_st, pfI_st, pfL_st, pfR_st, pfZ_st0, pfZ_st1, ldI_st, ldL_st, stoI_st, stoL_st, aln_st, cpA_st, bq_st, bq_S, oI_s, oL_s, oD_s, oV_s, oR_s, oR_n, oI_e, oL_e, oD_e, Option.bind_some, fa_lit, fa_litL, nI_add, pk_mul, nI_m1, nI_lt', nI_le', nI_eq', lc_ge, lc_le, lc_gt, lc_lt, lc_eq, isZ_0, isZ_1, bI_0, bI_z, decide_eq_true_eq, Bool.not_eq_true', Bool.not_true, Bool.not_false, decide_eq_false_iff_not, if_true, if_false, ite_true, ite_false, eq_self, not_true, not_false_eq_true, C_95, C_96, C_97, C_99, C_100, C_102, C_106, C_107, C_109, C_168, C_171, C_172, C_173, C_174, C_175, yu_ne, yu_eq, up_eq, up_ne, yur_ne, yur_eq, yu_uu, Nat.mul_zero, Nat.zero_mul, Nat.add_zero, Nat.zero_add, Nat.mul_one, Nat.one_mul, Nat.reduceEqDiff, Nat.reduceLT, Nat.reduceLeDiff, Nat.reduceAdd, Nat.reduceMul, decide_true, decide_false, cond_true, cond_false, reduceCtorEq, Bool.false_eq_true, Bool.true_eq_false, Bool.true_and, Bool.and_true, Bool.false_and, Bool.and_false, r137_6, r137_8, r137_17, r137_18, heq, C_125 hs hr hi10, hjn, C_124r hs hr hi10, L70, shl1, fa_or]
          have h3 := MRu_5 (i := j) (j := 4) (v := S' 7 i 0) (hset (nI j)) (by decide)
          rw [y1_ne (show 5 ≠ 7 by decide)] at h3
          refine ⟨_, _, _, _, rfl, Md_f h' (fun a ha => ?_) h3⟩
          simp (disch := omega) only [st_I, st_L, st_R, st_S, st_N, st_C, st_Z, st_X, st_D, st_st, st_sI, st_sIr, st_sL, st_sR, gfI_st, gfL_st, gfR_st, gfN_st, pfI_st, pfL_st, pfR_st, pfZ_st0, pfZ_st1, ldI_st, ldL_st, stoI_st, stoL_st, aln_st, cpA_st, bq_st, bq_S, oI_s, oL_s, oD_s, oV_s, oR_s, oR_n, oI_e, oL_e, oD_e, Option.bind_some, fa_lit, fa_litL, nI_add, pk_mul, nI_m1, nI_lt', nI_le', nI_eq', lc_ge, lc_le, lc_gt, lc_lt, lc_eq, isZ_0, isZ_1, bI_0, bI_z, decide_eq_true_eq, Bool.not_eq_true', Bool.not_true, Bool.not_false, decide_eq_false_iff_not, if_true, if_false, ite_true, ite_false, eq_self, not_true, not_false_eq_true, C_95, C_96, C_97, C_99, C_100, C_102, C_106, C_107, C_109, C_168, C_171, C_172, C_173, C_174, C_175, yu_ne, yu_eq, up_eq, up_ne, yur_ne, yur_eq, yu_uu, Nat.mul_zero, Nat.zero_mul, Nat.add_zero, Nat.zero_add, Nat.mul_one, Nat.one_mul, Nat.reduceEqDiff, Nat.reduceLT, Nat.reduceLeDiff, Nat.reduceAdd, Nat.reduceMul, decide_true, decide_false, cond_true, cond_false, reduceCtorEq, Bool.false_eq_true, Bool.true_eq_false, Bool.true_and, Bool.and_true, Bool.false_and, Bool.and_false, r137_6, r137_8, r137_17, r137_18]
        · right
          simp (disch := omega) only [st_I, st_L, st_R, st_S, st_N, st_C, st_Z, st_X, st_D, st_st, st_sI, st_sIr, st_sL, st_sR, gfI_st, gfL_st, gfR_st, gfN_st, pfI_st, pfL_st, pfR_st, pfZ_st0, pfZ_st1, ldI_st, ldL_st, stoI_st, stoL_st, aln_st, cpA_st, bq_st, bq_S, oI_s, oL_s, oD_s, oV_s, oR_s, oR_n, oI_e, oL_e, oD_e, Option.bind_some, fa_lit, fa_litL, nI_add, pk_mul, nI_m1, nI_lt', nI_le', nI_eq', lc_ge, lc_le, lc_gt, lc_lt, lc_eq, isZ_0, isZ_1, bI_0, bI_z, decide_eq_true_eq, Bool.not_eq_true', Bool.not_true, Bool.not_false, decide_eq_false_iff_not, if_true, if_false, ite_true, ite_false, eq_self, not_true, not_false_eq_true, C_95, C_96, C_97, C_99, C_100, C_102, C_106, C_107, C_109, C_168, C_171, C_172, C_173, C_174, C_175, yu_ne, yu_eq, up_eq, up_ne, yur_ne, yur_eq, yu_uu, Nat.mul_zero, Nat.zero_mul, Nat.add_zero, Nat.zero_add, Nat.mul_one, Nat.one_mul, Nat.reduceEqDiff, Nat.reduceLT, Nat.reduceLeDiff, Nat.reduceAdd, Nat.reduceMul, decide_true, decide_false, cond_true, cond_false, reduceCtorEq, Bool.false_eq_true, Bool.true_eq_false, Bool.true_and, Bool.and_true, Bool.false_and, Bool.and_false, r137_6, r137_8, r137_17, r137_18, heq]
          refine ⟨trivial, fun j' hj' => ?_⟩
          rcases Nat.lt_or_ge j' j with g | g
          · exact hno j' g
          · have : j' = j := by omega
            subst this
            have heq' : ¬ bw M q (bM M q (c 3) (c 4) (c 4 - 1 - i)) i j' tk = bM M q (c 3) (c 4) (c 4 - i) tk := by unfold bw; exact heq
            rw [hcn, decide_eq_false heq', Bool.and_false]
theorem C_131 {m0 μ : mMu} {f : Nat → Nat → Int32} {l : Nat → Nat → Int64} {r : Nat → Nat → Option Nat} {k z : Nat} {c : Nat → Nat} {S : Nat → Nat → Nat → Int32} (h : Md m0 μ f l r k z c S) (hc : CB c) : MI (CALL 131 [.ref 137] (st μ f l r)) m0 k z (nI (pop (join c S).2)) c (join c S).1 := by
  have hs := h.1
  have hr := h.2.1
  have hm := h.2.2.2.2
  have h137a : (mS μ 137).1 = 9 := by rw [hs 137 (by decide)]; rfl
  have h138a : (mS μ 138).1 = 20 := by rw [hs 138 (by decide)]; rfl
  have h138b : (mS μ 138).2 = 15 := by rw [hs 138 (by decide)]; rfl
  have r137_1 : r 137 1 = some 138 := hr 137 1 138 rfl
  have L0_3 : f 138 3 = nI (c 3) := hm.1 3 (by decide)
  have L0_4 : f 138 4 = nI (c 4) := hm.1 4 (by decide)
  rw [B_131_0]
  simp (disch := omega) only [st_I, st_L, st_R, st_S, st_N, st_C, st_Z, st_X, st_D, st_st, st_sI, st_sIr, st_sL, st_sR, gfI_st, gfL_st, gfR_st, gfN_st, pfI_st, pfL_st, pfR_st, pfZ_st0, pfZ_st1, ldI_st, ldL_st, stoI_st, stoL_st, aln_st, cpA_st, bq_st, bq_S, oI_s, oL_s, oD_s, oV_s, oR_s, oR_n, oI_e, oL_e, oD_e, Option.bind_some, fa_lit, fa_litL, nI_add, pk_mul, nI_m1, nI_lt', nI_le', nI_eq', lc_ge, lc_le, lc_gt, lc_lt, lc_eq, isZ_0, isZ_1, bI_0, bI_z, decide_eq_true_eq, Bool.not_eq_true', Bool.not_true, Bool.not_false, decide_eq_false_iff_not, if_true, if_false, ite_true, ite_false, eq_self, not_true, not_false_eq_true, C_95, C_96, C_97, C_99, C_100, C_102, C_106, C_107, C_109, C_168, C_171, C_172, C_173, C_174, C_175, yu_ne, yu_eq, up_eq, up_ne, yur_ne, yur_eq, yu_uu, Nat.mul_zero, Nat.zero_mul, Nat.add_zero, Nat.zero_add, Nat.mul_one, Nat.one_mul, Nat.reduceEqDiff, Nat.reduceLT, Nat.reduceLeDiff, Nat.reduceAdd, Nat.reduceMul, decide_true, decide_false, cond_true, cond_false, reduceCtorEq, Bool.false_eq_true, Bool.true_eq_false, Bool.true_and, Bool.and_true, Bool.false_and, Bool.and_false, r137_1, L0_3, L0_4]
  refine J_sq h hc (Q := fun o => MI o m0 k z (nI (pop (join c S).2)) c (join c S).1) fun l1 o4 o5 o6 o7 g1 g2 => ?_
  have h1 : Md m0 μ f l1 r k z c S := Md_upd h (fun _ _ => rfl) (fun a ha => g1 a (by omega)) hm
  refine J_zero h1 hc (Q := fun o => MI o m0 k z (nI (pop (join c S).2)) c (join c S).1) fun l2 o4 o5 o6 o7 g3 g4 => ?_
  have h2 : Md m0 μ f l2 r k z c S := Md_upd h1 (fun _ _ => rfl) (fun a ha => g3 a (by omega)) hm
  have g5 : ∀ t k, t < c 4 → k < c 3 → l2 149 (10 * t + k) = jq c S t k := fun t k ht hk => by rw [g3 149 (by decide), g2 t k ht hk]
  refine J_best h2 hc (Q := fun o => MI o m0 k z (nI (pop (join c S).2)) c (join c S).1) rfl (jq c S) g5 g4 fun l3 o5 o6 o7 g6 g7 => ?_
  have h3 : Md m0 μ f l3 r k z c S := Md_upd h2 (fun _ _ => rfl) (fun a ha => g6 a (by omega)) hm
  exact J_pick h3 hc rfl (jq c S) (fun t k ht hk => by rw [g6 149 (by decide), g5 t k ht hk]) g7
