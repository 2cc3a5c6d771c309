/-! ===== the class' areas ===== -/
theorem TM_u10 {f : Nat → Nat → Int32} {A : Nat} {R : Nat → Int32} {v : Int32} (h : TM f A R) : TM (u2 f A 10 v) A (up R 9 v) := by
  obtain ⟨t0, tw, t9, t10, t11, t1, t2, tp⟩ := h
  refine ⟨?_, fun w' h3 h8 => ?_, ?_, ?_, ?_, ?_, ?_, fun b hb hlt => ?_⟩
  · rw [yu_eq, up_ne (by omega), up_ne (by omega), t0]
  · rw [yu_eq, up_ne (by omega), up_ne (by omega), tw w' h3 h8]
  · rw [yu_eq, up_ne (by omega), up_ne (by omega), t9]
  · rw [yu_eq, up_eq, up_eq]
  · rw [yu_eq, up_ne (by omega), up_ne (by omega), t11]
  · rw [yu_ne (by omega), up_ne (by omega), t1]
  · rw [yu_ne (by omega), up_ne (by omega), t2]
  · rw [up_ne (by omega)] at hlt
    rw [yu_ne (by omega), yu_ne (by omega), up_ne (by omega), up_ne (by omega)]
    exact tp b hb hlt
def inw (isin : Bool) (R : Nat → Int32) (a : Nat) : Int32 := bif isin then R 9 ||| (nI 1 <<< (nI a &&& nI 31)) else R 9 &&& ((nI 1 <<< (nI a &&& nI 31)) ^^^ -nI 1)
theorem T99 {μ : mMu} {f : Nat → Nat → Int32} {l : Nat → Nat → Int64} {r : Nat → Nat → Option Nat} (hs : Sh μ) (hr : Rf r) {u a i : Nat} {R : Nat → Int32} {isin : Bool} {o4 : Option Value} (hu : u < 10) (hT : TM f (37 + 3 * u) R) : RUN 52 99 [some (.ref 1), some (.int (nI a)), some (.int (nI i)), some (.ref (37 + 3 * u)), o4, some (.int (bI isin))] [] (st μ f l r) = RUN 52 2 [some (.ref 1), some (.int (nI a)), some (.int (nI (i + 1))), some (.ref (37 + 3 * u)), o4, some (.int (bI isin))] [] (st μ (u2 f (37 + 3 * u) 10 (inw isin R a)) l r) := by
  have s1a : (mS μ (37 + 3 * u)).1 = 7 := by rw [(trk_sh hs hu).1]
  have t10 : f (37 + 3 * u) 10 = R 9 := hT.2.2.2.1
  unfold inw
  rw [B_52_99]
  cases isin
  · simp (disch := omega) only [st_I, st_L, st_R, st_S, st_N, st_C, st_Z, st_X, st_D, st_st, st_sI, st_sIr, st_sL, st_sR, gfI_st, gfL_st, gfR_st, gfN_st, pfI_st, pfL_st, pfR_st, pfZ_st0, pfZ_st1, ldI_st, ldL_st, stoI_st, stoL_st, aln_st, cpA_st, bq_st, bq_S, oI_s, oL_s, oD_s, oV_s, oR_s, oR_n, oI_e, oL_e, oD_e, Option.bind_some, fa_lit, fa_litL, nI_add, pk_mul, nI_m1, nI_lt', nI_le', nI_eq', lc_ge, lc_le, lc_gt, lc_lt, lc_eq, isZ_0, isZ_1, bI_0, bI_z, decide_eq_true_eq, Bool.not_eq_true', Bool.not_true, Bool.not_false, decide_eq_false_iff_not, if_true, if_false, ite_true, ite_false, eq_self, not_true, not_false_eq_true, C_95, C_96, C_97, C_99, C_100, C_102, C_106, C_107, C_109, C_168, C_171, C_172, C_173, C_174, C_175, yu_ne, yu_eq, up_eq, up_ne, yur_ne, yur_eq, yu_uu, y1_eq, y1_ne, y1_y1, Nat.mul_zero, Nat.zero_mul, Nat.add_zero, Nat.zero_add, Nat.mul_one, Nat.one_mul, Nat.reduceEqDiff, Nat.reduceLT, Nat.reduceLeDiff, Nat.reduceAdd, Nat.reduceMul, decide_true, decide_false, cond_true, cond_false, reduceCtorEq, Bool.false_eq_true, Bool.true_eq_false, Bool.true_and, Bool.and_true, Bool.false_and, Bool.and_false, s1a, t10]
    rw [B_52_126]
    simp (disch := omega) only [st_I, st_L, st_R, st_S, st_N, st_C, st_Z, st_X, st_D, st_st, st_sI, st_sIr, st_sL, st_sR, gfI_st, gfL_st, gfR_st, gfN_st, pfI_st, pfL_st, pfR_st, pfZ_st0, pfZ_st1, ldI_st, ldL_st, stoI_st, stoL_st, aln_st, cpA_st, bq_st, bq_S, oI_s, oL_s, oD_s, oV_s, oR_s, oR_n, oI_e, oL_e, oD_e, Option.bind_some, fa_lit, fa_litL, nI_add, pk_mul, nI_m1, nI_lt', nI_le', nI_eq', lc_ge, lc_le, lc_gt, lc_lt, lc_eq, isZ_0, isZ_1, bI_0, bI_z, decide_eq_true_eq, Bool.not_eq_true', Bool.not_true, Bool.not_false, decide_eq_false_iff_not, if_true, if_false, ite_true, ite_false, eq_self, not_true, not_false_eq_true, C_95, C_96, C_97, C_99, C_100, C_102, C_106, C_107, C_109, C_168, C_171, C_172, C_173, C_174, C_175, yu_ne, yu_eq, up_eq, up_ne, yur_ne, yur_eq, yu_uu, y1_eq, y1_ne, y1_y1, Nat.mul_zero, Nat.zero_mul, Nat.add_zero, Nat.zero_add, Nat.mul_one, Nat.one_mul, Nat.reduceEqDiff, Nat.reduceLT, Nat.reduceLeDiff, Nat.reduceAdd, Nat.reduceMul, decide_true, decide_false, cond_true, cond_false, reduceCtorEq, Bool.false_eq_true, Bool.true_eq_false, Bool.true_and, Bool.and_true, Bool.false_and, Bool.and_false, s1a]
  · simp (disch := omega) only [st_I, st_L, st_R, st_S, st_N, st_C, st_Z, st_X, st_D, st_st, st_sI, st_sIr, st_sL, st_sR, gfI_st, gfL_st, gfR_st, gfN_st, pfI_st, pfL_st, pfR_st, pfZ_st0, pfZ_st1, ldI_st, ldL_st, stoI_st, stoL_st, aln_st, cpA_st, bq_st, bq_S, oI_s, oL_s, oD_s, oV_s, oR_s, oR_n, oI_e, oL_e, oD_e, Option.bind_some, fa_lit, fa_litL, nI_add, pk_mul, nI_m1, nI_lt', nI_le', nI_eq', lc_ge, lc_le, lc_gt, lc_lt, lc_eq, isZ_0, isZ_1, bI_0, bI_z, decide_eq_true_eq, Bool.not_eq_true', Bool.not_true, Bool.not_false, decide_eq_false_iff_not, if_true, if_false, ite_true, ite_false, eq_self, not_true, not_false_eq_true, C_95, C_96, C_97, C_99, C_100, C_102, C_106, C_107, C_109, C_168, C_171, C_172, C_173, C_174, C_175, yu_ne, yu_eq, up_eq, up_ne, yur_ne, yur_eq, yu_uu, y1_eq, y1_ne, y1_y1, Nat.mul_zero, Nat.zero_mul, Nat.add_zero, Nat.zero_add, Nat.mul_one, Nat.one_mul, Nat.reduceEqDiff, Nat.reduceLT, Nat.reduceLeDiff, Nat.reduceAdd, Nat.reduceMul, decide_true, decide_false, cond_true, cond_false, reduceCtorEq, Bool.false_eq_true, Bool.true_eq_false, Bool.true_and, Bool.and_true, Bool.false_and, Bool.and_false, s1a, t10]
    rw [B_52_126]
    simp (disch := omega) only [st_I, st_L, st_R, st_S, st_N, st_C, st_Z, st_X, st_D, st_st, st_sI, st_sIr, st_sL, st_sR, gfI_st, gfL_st, gfR_st, gfN_st, pfI_st, pfL_st, pfR_st, pfZ_st0, pfZ_st1, ldI_st, ldL_st, stoI_st, stoL_st, aln_st, cpA_st, bq_st, bq_S, oI_s, oL_s, oD_s, oV_s, oR_s, oR_n, oI_e, oL_e, oD_e, Option.bind_some, fa_lit, fa_litL, nI_add, pk_mul, nI_m1, nI_lt', nI_le', nI_eq', lc_ge, lc_le, lc_gt, lc_lt, lc_eq, isZ_0, isZ_1, bI_0, bI_z, decide_eq_true_eq, Bool.not_eq_true', Bool.not_true, Bool.not_false, decide_eq_false_iff_not, if_true, if_false, ite_true, ite_false, eq_self, not_true, not_false_eq_true, C_95, C_96, C_97, C_99, C_100, C_102, C_106, C_107, C_109, C_168, C_171, C_172, C_173, C_174, C_175, yu_ne, yu_eq, up_eq, up_ne, yur_ne, yur_eq, yu_uu, y1_eq, y1_ne, y1_y1, Nat.mul_zero, Nat.zero_mul, Nat.add_zero, Nat.zero_add, Nat.mul_one, Nat.one_mul, Nat.reduceEqDiff, Nat.reduceLT, Nat.reduceLeDiff, Nat.reduceAdd, Nat.reduceMul, decide_true, decide_false, cond_true, cond_false, reduceCtorEq, Bool.false_eq_true, Bool.true_eq_false, Bool.true_and, Bool.and_true, Bool.false_and, Bool.and_false, s1a]
theorem W52 {r : Nat → Nat → Option Nat} {f f1 : Nat → Nat → Int32} {σ : Nat → Nat} {n i : Nat} {T : Nat → Nat → Int32} {c1 : Nat → Nat} {S1 : Nat → Nat → Nat → Int32} {v : Int32} (hn : n ≤ 10) (hi : i < n) (hp : CPm r 1 σ) (ht : TMs f σ n T) (hz : ∀ u, u < 10 → isZ (f (37 + 3 * u) 11) = true) (g : ∀ a, 36 < a → f1 a = f a) (hA : CRa f1 c1 S1) : CRa (u2 f1 (37 + 3 * σ i) 10 v) c1 (u1 S1 7 (u1 T i (up (T i) 9 v))) ∧ TMs (u2 f1 (37 + 3 * σ i) 10 v) σ n (u1 T i (up (T i) 9 v)) ∧ (∀ u, u < 10 → isZ (u2 f1 (37 + 3 * σ i) 10 v (37 + 3 * u) 11) = true) ∧ ∀ a, 66 < a → u2 f1 (37 + 3 * σ i) 10 v a = f a := by
  have hσ := (hp.1 i (by omega)).1
  have t1 : TMs f1 σ n T := fun u hu => TM_k (ht u hu) (g _ (by omega)) (g _ (by omega)) (g _ (by omega))
  refine ⟨CRa_k hA (fun a _ _ => yu_ne (by omega)) (fun r h => y1_ne h), fun u hu => ?_, fun u hu => ?_, fun a ha => by rw [yu_ne (by omega), g _ (by omega)]⟩
  · by_cases q : u = i
    · rw [q, y1_eq]; exact TM_u10 (t1 i hi)
    · have : σ u ≠ σ i := fun e => q (hp.2 u i (by omega) (by omega) e)
      rw [y1_ne q]
      exact TM_k (t1 u hu) (yu_ne (by omega)) (yu_ne (by omega)) (yu_ne (by omega))
  · by_cases q : u = σ i
    · rw [q, yu_eq, up_ne (by decide), g _ (by omega)]; exact hz _ hσ
    · rw [yu_ne (by omega), g _ (by omega)]; exact hz u hu
