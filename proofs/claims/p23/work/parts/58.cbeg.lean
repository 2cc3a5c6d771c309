/-! ===== the class' sweep: new tracks ===== -/
theorem C_54 {μ : mMu} {f : Nat → Nat → Int32} {l : Nat → Nat → Int64} {r : Nat → Nat → Option Nat} (hs : Sh μ) (hr : Rf r) {a : Nat} {nm x y : Int32} {b : Nat} (ha : a < 10) : ∃ f', CALL 54 [.ref (37 + 3 * a), .int nm, .int x, .int y, .int (nI b)] (st μ f l r) = some (.inl none, st μ f' l r) ∧ (∀ q, q ≠ 37 + 3 * a → q ≠ 37 + 3 * a + 1 → q ≠ 37 + 3 * a + 2 → f' q = f q) ∧ TM f' (37 + 3 * a) (nrc nm x y b) := by
  obtain ⟨s1, s2, s3⟩ := trk_sh hs ha
  obtain ⟨r1, r2⟩ := trk_rf hr ha
  generalize 37 + 3 * a = A at *
  have s1a : (mS μ A).1 = 7 := by rw [s1]
  have s2a : (mS μ (A + 1)).1 = 20 := by rw [s2]
  have s2b : (mS μ (A + 1)).2 = 12 := by rw [s2]
  have s3a : (mS μ (A + 2)).1 = 20 := by rw [s3]
  have s3b : (mS μ (A + 2)).2 = 12 := by rw [s3]
  rw [B_54_0]
  simp (maxSteps := 5000000) (disch := omega) only [st_I, st_L, st_R, st_S, st_N, st_C, st_Z, st_X, st_D, st_st, st_sI, st_sIr, st_sL, st_sR, gfI_st, gfL_st, gfR_st, gfN_st, pfI_st, pfL_st, pfR_st, pfZ_st0, pfZ_st1, ldI_st, ldL_st, stoI_st, stoL_st, aln_st, cpA_st, bq_st, bq_S, oI_s, oL_s, oD_s, oV_s, oR_s, oR_n, oI_e, oL_e, oD_e, Option.bind_some, fa_lit, fa_litL, nI_add, pk_mul, nI_m1, nI_lt', nI_le', nI_eq', lc_ge, lc_le, lc_gt, lc_lt, lc_eq, isZ_0, isZ_1, bI_0, bI_z, decide_eq_true_eq, Bool.not_eq_true', Bool.not_true, Bool.not_false, decide_eq_false_iff_not, if_true, if_false, ite_true, ite_false, eq_self, not_true, not_false_eq_true, C_80, C_81, C_82, C_84, C_85, C_86, C_94, C_95, C_96, C_97, yu_ne, yu_eq, up_eq, up_ne, yur_ne, yur_eq, yu_uu, y1_eq, y1_ne, y1_y1, Nat.mul_zero, Nat.zero_mul, Nat.add_zero, Nat.zero_add, Nat.mul_one, Nat.one_mul, Nat.reduceEqDiff, Nat.reduceLT, Nat.reduceLeDiff, Nat.reduceAdd, Nat.reduceMul, decide_true, decide_false, cond_true, cond_false, reduceCtorEq, Bool.false_eq_true, Bool.true_eq_false, Bool.true_and, Bool.and_true, Bool.false_and, Bool.and_false, r1, r2]
  refine ⟨_, rfl, fun q h1 h2 h3 => ?_, ?_, fun w h3 h8 => ?_, ?_, ?_, ?_, ?_, ?_, fun b hb hlt => ?_⟩
  · simp (disch := omega) only [st_I, st_L, st_R, st_S, st_N, st_C, st_Z, st_X, st_D, st_st, st_sI, st_sIr, st_sL, st_sR, gfI_st, gfL_st, gfR_st, gfN_st, pfI_st, pfL_st, pfR_st, pfZ_st0, pfZ_st1, ldI_st, ldL_st, stoI_st, stoL_st, aln_st, cpA_st, bq_st, bq_S, oI_s, oL_s, oD_s, oV_s, oR_s, oR_n, oI_e, oL_e, oD_e, Option.bind_some, fa_lit, fa_litL, nI_add, pk_mul, nI_m1, nI_lt', nI_le', nI_eq', lc_ge, lc_le, lc_gt, lc_lt, lc_eq, isZ_0, isZ_1, bI_0, bI_z, decide_eq_true_eq, Bool.not_eq_true', Bool.not_true, Bool.not_false, decide_eq_false_iff_not, if_true, if_false, ite_true, ite_false, eq_self, not_true, not_false_eq_true, C_80, C_81, C_82, C_84, C_85, C_86, C_94, C_95, C_96, C_97, yu_ne, yu_eq, up_eq, up_ne, yur_ne, yur_eq, yu_uu, y1_eq, y1_ne, y1_y1, Nat.mul_zero, Nat.zero_mul, Nat.add_zero, Nat.zero_add, Nat.mul_one, Nat.one_mul, Nat.reduceEqDiff, Nat.reduceLT, Nat.reduceLeDiff, Nat.reduceAdd, Nat.reduceMul, decide_true, decide_false, cond_true, cond_false, reduceCtorEq, Bool.false_eq_true, Bool.true_eq_false, Bool.true_and, Bool.and_true, Bool.false_and, Bool.and_false]
  · unfold nrc
    simp (disch := omega) only [st_I, st_L, st_R, st_S, st_N, st_C, st_Z, st_X, st_D, st_st, st_sI, st_sIr, st_sL, st_sR, gfI_st, gfL_st, gfR_st, gfN_st, pfI_st, pfL_st, pfR_st, pfZ_st0, pfZ_st1, ldI_st, ldL_st, stoI_st, stoL_st, aln_st, cpA_st, bq_st, bq_S, oI_s, oL_s, oD_s, oV_s, oR_s, oR_n, oI_e, oL_e, oD_e, Option.bind_some, fa_lit, fa_litL, nI_add, pk_mul, nI_m1, nI_lt', nI_le', nI_eq', lc_ge, lc_le, lc_gt, lc_lt, lc_eq, isZ_0, isZ_1, bI_0, bI_z, decide_eq_true_eq, Bool.not_eq_true', Bool.not_true, Bool.not_false, decide_eq_false_iff_not, if_true, if_false, ite_true, ite_false, eq_self, not_true, not_false_eq_true, C_80, C_81, C_82, C_84, C_85, C_86, C_94, C_95, C_96, C_97, yu_ne, yu_eq, up_eq, up_ne, yur_ne, yur_eq, yu_uu, y1_eq, y1_ne, y1_y1, Nat.mul_zero, Nat.zero_mul, Nat.add_zero, Nat.zero_add, Nat.mul_one, Nat.one_mul, Nat.reduceEqDiff, Nat.reduceLT, Nat.reduceLeDiff, Nat.reduceAdd, Nat.reduceMul, decide_true, decide_false, cond_true, cond_false, reduceCtorEq, Bool.false_eq_true, Bool.true_eq_false, Bool.true_and, Bool.and_true, Bool.false_and, Bool.and_false]
  · have hw' : w = 3 ∨ w = 4 ∨ w = 5 ∨ w = 6 ∨ w = 7 ∨ w = 8 := by omega
    unfold nrc
    rcases hw' with rfl | rfl | rfl | rfl | rfl | rfl <;> simp (disch := omega) only [st_I, st_L, st_R, st_S, st_N, st_C, st_Z, st_X, st_D, st_st, st_sI, st_sIr, st_sL, st_sR, gfI_st, gfL_st, gfR_st, gfN_st, pfI_st, pfL_st, pfR_st, pfZ_st0, pfZ_st1, ldI_st, ldL_st, stoI_st, stoL_st, aln_st, cpA_st, bq_st, bq_S, oI_s, oL_s, oD_s, oV_s, oR_s, oR_n, oI_e, oL_e, oD_e, Option.bind_some, fa_lit, fa_litL, nI_add, pk_mul, nI_m1, nI_lt', nI_le', nI_eq', lc_ge, lc_le, lc_gt, lc_lt, lc_eq, isZ_0, isZ_1, bI_0, bI_z, decide_eq_true_eq, Bool.not_eq_true', Bool.not_true, Bool.not_false, decide_eq_false_iff_not, if_true, if_false, ite_true, ite_false, eq_self, not_true, not_false_eq_true, C_80, C_81, C_82, C_84, C_85, C_86, C_94, C_95, C_96, C_97, yu_ne, yu_eq, up_eq, up_ne, yur_ne, yur_eq, yu_uu, y1_eq, y1_ne, y1_y1, Nat.mul_zero, Nat.zero_mul, Nat.add_zero, Nat.zero_add, Nat.mul_one, Nat.one_mul, Nat.reduceEqDiff, Nat.reduceLT, Nat.reduceLeDiff, Nat.reduceAdd, Nat.reduceMul, decide_true, decide_false, cond_true, cond_false, reduceCtorEq, Bool.false_eq_true, Bool.true_eq_false, Bool.true_and, Bool.and_true, Bool.false_and, Bool.and_false]
  · unfold nrc
    simp (disch := omega) only [st_I, st_L, st_R, st_S, st_N, st_C, st_Z, st_X, st_D, st_st, st_sI, st_sIr, st_sL, st_sR, gfI_st, gfL_st, gfR_st, gfN_st, pfI_st, pfL_st, pfR_st, pfZ_st0, pfZ_st1, ldI_st, ldL_st, stoI_st, stoL_st, aln_st, cpA_st, bq_st, bq_S, oI_s, oL_s, oD_s, oV_s, oR_s, oR_n, oI_e, oL_e, oD_e, Option.bind_some, fa_lit, fa_litL, nI_add, pk_mul, nI_m1, nI_lt', nI_le', nI_eq', lc_ge, lc_le, lc_gt, lc_lt, lc_eq, isZ_0, isZ_1, bI_0, bI_z, decide_eq_true_eq, Bool.not_eq_true', Bool.not_true, Bool.not_false, decide_eq_false_iff_not, if_true, if_false, ite_true, ite_false, eq_self, not_true, not_false_eq_true, C_80, C_81, C_82, C_84, C_85, C_86, C_94, C_95, C_96, C_97, yu_ne, yu_eq, up_eq, up_ne, yur_ne, yur_eq, yu_uu, y1_eq, y1_ne, y1_y1, Nat.mul_zero, Nat.zero_mul, Nat.add_zero, Nat.zero_add, Nat.mul_one, Nat.one_mul, Nat.reduceEqDiff, Nat.reduceLT, Nat.reduceLeDiff, Nat.reduceAdd, Nat.reduceMul, decide_true, decide_false, cond_true, cond_false, reduceCtorEq, Bool.false_eq_true, Bool.true_eq_false, Bool.true_and, Bool.and_true, Bool.false_and, Bool.and_false]
  · unfold nrc
    simp (disch := omega) only [st_I, st_L, st_R, st_S, st_N, st_C, st_Z, st_X, st_D, st_st, st_sI, st_sIr, st_sL, st_sR, gfI_st, gfL_st, gfR_st, gfN_st, pfI_st, pfL_st, pfR_st, pfZ_st0, pfZ_st1, ldI_st, ldL_st, stoI_st, stoL_st, aln_st, cpA_st, bq_st, bq_S, oI_s, oL_s, oD_s, oV_s, oR_s, oR_n, oI_e, oL_e, oD_e, Option.bind_some, fa_lit, fa_litL, nI_add, pk_mul, nI_m1, nI_lt', nI_le', nI_eq', lc_ge, lc_le, lc_gt, lc_lt, lc_eq, isZ_0, isZ_1, bI_0, bI_z, decide_eq_true_eq, Bool.not_eq_true', Bool.not_true, Bool.not_false, decide_eq_false_iff_not, if_true, if_false, ite_true, ite_false, eq_self, not_true, not_false_eq_true, C_80, C_81, C_82, C_84, C_85, C_86, C_94, C_95, C_96, C_97, yu_ne, yu_eq, up_eq, up_ne, yur_ne, yur_eq, yu_uu, y1_eq, y1_ne, y1_y1, Nat.mul_zero, Nat.zero_mul, Nat.add_zero, Nat.zero_add, Nat.mul_one, Nat.one_mul, Nat.reduceEqDiff, Nat.reduceLT, Nat.reduceLeDiff, Nat.reduceAdd, Nat.reduceMul, decide_true, decide_false, cond_true, cond_false, reduceCtorEq, Bool.false_eq_true, Bool.true_eq_false, Bool.true_and, Bool.and_true, Bool.false_and, Bool.and_false]
  · unfold nrc
    simp (disch := omega) only [st_I, st_L, st_R, st_S, st_N, st_C, st_Z, st_X, st_D, st_st, st_sI, st_sIr, st_sL, st_sR, gfI_st, gfL_st, gfR_st, gfN_st, pfI_st, pfL_st, pfR_st, pfZ_st0, pfZ_st1, ldI_st, ldL_st, stoI_st, stoL_st, aln_st, cpA_st, bq_st, bq_S, oI_s, oL_s, oD_s, oV_s, oR_s, oR_n, oI_e, oL_e, oD_e, Option.bind_some, fa_lit, fa_litL, nI_add, pk_mul, nI_m1, nI_lt', nI_le', nI_eq', lc_ge, lc_le, lc_gt, lc_lt, lc_eq, isZ_0, isZ_1, bI_0, bI_z, decide_eq_true_eq, Bool.not_eq_true', Bool.not_true, Bool.not_false, decide_eq_false_iff_not, if_true, if_false, ite_true, ite_false, eq_self, not_true, not_false_eq_true, C_80, C_81, C_82, C_84, C_85, C_86, C_94, C_95, C_96, C_97, yu_ne, yu_eq, up_eq, up_ne, yur_ne, yur_eq, yu_uu, y1_eq, y1_ne, y1_y1, Nat.mul_zero, Nat.zero_mul, Nat.add_zero, Nat.zero_add, Nat.mul_one, Nat.one_mul, Nat.reduceEqDiff, Nat.reduceLT, Nat.reduceLeDiff, Nat.reduceAdd, Nat.reduceMul, decide_true, decide_false, cond_true, cond_false, reduceCtorEq, Bool.false_eq_true, Bool.true_eq_false, Bool.true_and, Bool.and_true, Bool.false_and, Bool.and_false]
  · unfold nrc
    simp (disch := omega) only [st_I, st_L, st_R, st_S, st_N, st_C, st_Z, st_X, st_D, st_st, st_sI, st_sIr, st_sL, st_sR, gfI_st, gfL_st, gfR_st, gfN_st, pfI_st, pfL_st, pfR_st, pfZ_st0, pfZ_st1, ldI_st, ldL_st, stoI_st, stoL_st, aln_st, cpA_st, bq_st, bq_S, oI_s, oL_s, oD_s, oV_s, oR_s, oR_n, oI_e, oL_e, oD_e, Option.bind_some, fa_lit, fa_litL, nI_add, pk_mul, nI_m1, nI_lt', nI_le', nI_eq', lc_ge, lc_le, lc_gt, lc_lt, lc_eq, isZ_0, isZ_1, bI_0, bI_z, decide_eq_true_eq, Bool.not_eq_true', Bool.not_true, Bool.not_false, decide_eq_false_iff_not, if_true, if_false, ite_true, ite_false, eq_self, not_true, not_false_eq_true, C_80, C_81, C_82, C_84, C_85, C_86, C_94, C_95, C_96, C_97, yu_ne, yu_eq, up_eq, up_ne, yur_ne, yur_eq, yu_uu, y1_eq, y1_ne, y1_y1, Nat.mul_zero, Nat.zero_mul, Nat.add_zero, Nat.zero_add, Nat.mul_one, Nat.one_mul, Nat.reduceEqDiff, Nat.reduceLT, Nat.reduceLeDiff, Nat.reduceAdd, Nat.reduceMul, decide_true, decide_false, cond_true, cond_false, reduceCtorEq, Bool.false_eq_true, Bool.true_eq_false, Bool.true_and, Bool.and_true, Bool.false_and, Bool.and_false]
  · unfold nrc
    simp (disch := omega) only [st_I, st_L, st_R, st_S, st_N, st_C, st_Z, st_X, st_D, st_st, st_sI, st_sIr, st_sL, st_sR, gfI_st, gfL_st, gfR_st, gfN_st, pfI_st, pfL_st, pfR_st, pfZ_st0, pfZ_st1, ldI_st, ldL_st, stoI_st, stoL_st, aln_st, cpA_st, bq_st, bq_S, oI_s, oL_s, oD_s, oV_s, oR_s, oR_n, oI_e, oL_e, oD_e, Option.bind_some, fa_lit, fa_litL, nI_add, pk_mul, nI_m1, nI_lt', nI_le', nI_eq', lc_ge, lc_le, lc_gt, lc_lt, lc_eq, isZ_0, isZ_1, bI_0, bI_z, decide_eq_true_eq, Bool.not_eq_true', Bool.not_true, Bool.not_false, decide_eq_false_iff_not, if_true, if_false, ite_true, ite_false, eq_self, not_true, not_false_eq_true, C_80, C_81, C_82, C_84, C_85, C_86, C_94, C_95, C_96, C_97, yu_ne, yu_eq, up_eq, up_ne, yur_ne, yur_eq, yu_uu, y1_eq, y1_ne, y1_y1, Nat.mul_zero, Nat.zero_mul, Nat.add_zero, Nat.zero_add, Nat.mul_one, Nat.one_mul, Nat.reduceEqDiff, Nat.reduceLT, Nat.reduceLeDiff, Nat.reduceAdd, Nat.reduceMul, decide_true, decide_false, cond_true, cond_false, reduceCtorEq, Bool.false_eq_true, Bool.true_eq_false, Bool.true_and, Bool.and_true, Bool.false_and, Bool.and_false]
  · unfold nrc at hlt
    rw [up_eq, nI_ltI (by omega) (by omega)] at hlt
    omega
theorem CRa_kb {f f' : Nat → Nat → Int32} {c : Nat → Nat} {S S' : Nat → Nat → Nat → Int32} (h : CRa f c S) (hf : ∀ a, 1 ≤ a → a ≤ 36 → f' a = f a) (hS : ∀ r, r ≠ 7 → r ≠ 5 → S' r = S r) (h5 : ∀ k w, w < 4 → S' 5 k w = S 5 k w) : CRa f' c S' := by
  obtain ⟨d1, d2, d3, d4, d5⟩ := h
  refine ⟨CSc_k d1 (hf _ (by omega) (by omega)) (fun _ _ _ _ _ _ _ _ => rfl), CCo_k d2 (fun a _ _ => hf a (by omega) (by omega)) rfl rfl rfl (fun r _ _ => hS r (by omega) (by omega)), ?_, CLo_k d4 (fun a _ _ => hf a (by omega) (by omega)) rfl (hS 8 (by decide) (by decide)), CEv_k d5 (fun a _ _ => hf a (by omega) (by omega)) rfl (hS 9 (by decide) (by decide))⟩
  obtain ⟨p1, p2, p3⟩ := d3
  exact ⟨by rw [hf _ (by omega) (by omega)]; exact p1, by rw [hf _ (by omega) (by omega)]; exact p2, fun k hk => ⟨fun w hw => by rw [hf _ (by omega) (by omega), h5 k w hw]; exact (p3 k hk).1 w hw, by rw [hf _ (by omega) (by omega)]; exact (p3 k hk).2⟩⟩
theorem CRa_49 {f : Nat → Nat → Int32} {c : Nat → Nat} {S : Nat → Nat → Nat → Int32} {m n : Nat} (h : CRa f c S) : CRa (u2 (u2 f 1 5 (nI m)) 1 12 (nI n)) (u1 (u1 c 9 n) 4 m) S := by
  obtain ⟨d1, d2, d3, d4, d5⟩ := h
  have hf : ∀ a, a ≠ 1 → u2 (u2 f 1 5 (nI m)) 1 12 (nI n) a = f a := fun a h => by rw [yu_ne h, yu_ne h]
  have hc : ∀ j, j ≠ 4 → j ≠ 9 → u1 (u1 c 9 n) 4 m j = c j := fun j h4 h9 => by rw [y1_ne h4, y1_ne h9]
  refine ⟨?_, CCo_k d2 (fun a _ _ => hf a (by omega)) (hc _ (by decide) (by decide)) (hc _ (by decide) (by decide)) (hc _ (by decide) (by decide)) (fun r _ _ => rfl), MB_k d3 (fun a _ _ => hf a (by omega)) (hc _ (by decide) (by decide)) rfl, CLo_k d4 (fun a _ _ => hf a (by omega)) (hc _ (by decide) (by decide)) rfl, CEv_k d5 (fun a _ _ => hf a (by omega)) (hc _ (by decide) (by decide)) rfl⟩
  obtain ⟨e1, e2, e3, e4, e5, e6, e7, e8⟩ := d1
  unfold CSc
  simp (disch := omega) only [st_I, st_L, st_R, st_S, st_N, st_C, st_Z, st_X, st_D, st_st, st_sI, st_sIr, st_sL, st_sR, gfI_st, gfL_st, gfR_st, gfN_st, pfI_st, pfL_st, pfR_st, pfZ_st0, pfZ_st1, ldI_st, ldL_st, stoI_st, stoL_st, aln_st, cpA_st, bq_st, bq_S, oI_s, oL_s, oD_s, oV_s, oR_s, oR_n, oI_e, oL_e, oD_e, Option.bind_some, fa_lit, fa_litL, nI_add, pk_mul, nI_m1, nI_lt', nI_le', nI_eq', lc_ge, lc_le, lc_gt, lc_lt, lc_eq, isZ_0, isZ_1, bI_0, bI_z, decide_eq_true_eq, Bool.not_eq_true', Bool.not_true, Bool.not_false, decide_eq_false_iff_not, if_true, if_false, ite_true, ite_false, eq_self, not_true, not_false_eq_true, C_80, C_81, C_82, C_84, C_85, C_86, C_94, C_95, C_96, C_97, yu_ne, yu_eq, up_eq, up_ne, yur_ne, yur_eq, yu_uu, y1_eq, y1_ne, y1_y1, Nat.mul_zero, Nat.zero_mul, Nat.add_zero, Nat.zero_add, Nat.mul_one, Nat.one_mul, Nat.reduceEqDiff, Nat.reduceLT, Nat.reduceLeDiff, Nat.reduceAdd, Nat.reduceMul, decide_true, decide_false, cond_true, cond_false, reduceCtorEq, Bool.false_eq_true, Bool.true_eq_false, Bool.true_and, Bool.and_true, Bool.false_and, Bool.and_false, e2, e3, e4, e5, e6, e7, e8, and_self]
theorem begs_10 {s : CS} {i : Nat} (h : (itr beg1 i s).1 4 = 10) : ∀ d, itr beg1 (i + d) s = itr beg1 i s
  | 0 => rfl
  | d + 1 => by
    rw [show i + (d + 1) = (i + d) + 1 from rfl, itr_s', begs_10 h d]
    unfold beg1
    rw [if_neg (fun hh => hh.2 h)]
theorem beg_5 {s : CS} : ∀ n k, n ≤ k → (itr beg1 n s).2 5 k = s.2 5 k
  | 0, _, _ => rfl
  | n + 1, k, h => by
    have h1 := beg_5 (s := s) n k (by omega)
    rw [itr_s', ← h1]
    generalize itr beg1 n s = x
    unfold beg1
    split
    · simp only [noteS_r (show (5 : Nat) ≠ 9 by decide), y1_eq]
      rw [y1_ne (by omega)]
    · rfl
theorem beg_5w {s : CS} : ∀ n k w, w < 4 → (itr beg1 n s).2 5 k w = s.2 5 k w
  | 0, _, _, _ => rfl
  | n + 1, k, w, h => by
    have h1 := beg_5w (s := s) n k w h
    rw [itr_s', ← h1]
    generalize itr beg1 n s = x
    unfold beg1
    split
    · simp only [noteS_r (show (5 : Nat) ≠ 9 by decide), y1_eq]
      by_cases q : k = n
      · rw [q, y1_eq, up_ne (by omega)]
      · rw [y1_ne q]
    · rfl
theorem C_42 {μ : mMu} {f : Nat → Nat → Int32} {l : Nat → Nat → Int64} {r : Nat → Nat → Option Nat} (hs : Sh μ) (hr : Rf r) {σ : Nat → Nat} {c : Nat → Nat} {S : Nat → Nat → Nat → Int32} {tk : Int32} (hc : CB c) (h8 : c 8 < 1000000) (hA : CRa f c S) (hp : CPm r 1 σ) (hz : ∀ u, u < 10 → isZ (f (37 + 3 * u) 11) = true) (hT : ∀ u, u < c 4 → TM f (37 + 3 * σ u) (S 7 u)) (hk : ∀ k, k < c 3 → p_bit tk (nI k) = !decide (S 5 k 4 = -nI 1)) : ∃ f', CALL 42 [.ref 1, .int tk] (st μ f l r) = some (.inl none, st μ f' l r) ∧ (∀ a, (a = 0 ∨ 66 < a) → f' a = f a) ∧ CRa f' (itr beg1 (c 3) (c, S)).1 (itr beg1 (c 3) (c, S)).2 ∧ (∀ u, u < 10 → isZ (f' (37 + 3 * u) 11) = true) ∧ ∀ u, u < (itr beg1 (c 3) (c, S)).1 4 → TM f' (37 + 3 * σ u) ((itr beg1 (c 3) (c, S)).2 7 u) := by
  have h1a : (mS μ 1).1 = 6 := by rw [hs 1 (by decide)]; rfl
  have h17a : (mS μ 17).1 = 0 := by rw [hs 17 (by decide)]; rfl
  have h18a : (mS μ 18).1 = 20 := by rw [hs 18 (by decide)]; rfl
  have h18b : (mS μ 18).2 = 10 := by rw [hs 18 (by decide)]; rfl
  have h19a : (mS μ 19).1 = 20 := by rw [hs 19 (by decide)]; rfl
  have h19b : (mS μ 19).2 = 10 := by rw [hs 19 (by decide)]; rfl
  have h31a : (mS μ 31).1 = 3 := by rw [hs 31 (by decide)]; rfl
  have r1_1 : r 1 1 = some 17 := hr 1 1 17 rfl
  have r1_3 : r 1 3 = some 31 := hr 1 3 31 rfl
  have r1_4 : r 1 4 = some 36 := hr 1 4 36 rfl
  have r17_0 : r 17 0 = some 18 := hr 17 0 18 rfl
  have r17_1 : r 17 1 = some 19 := hr 17 1 19 rfl
  have hc' := hc
  obtain ⟨c0, c1, c2, c3, c4, c5, c6, c7, c8, c9, c10, c11, c12, c13, c14⟩ := hc
  rw [B_42_0]
  refine loopP (fun i o => ∃ f', o = RUN 42 2 [some (.ref 1), some (.int tk), some (.int (nI i))] [] (st μ f' l r) ∧ (∀ a, (a = 0 ∨ 66 < a) → f' a = f a) ∧ CRa f' (itr beg1 i (c, S)).1 (itr beg1 i (c, S)).2 ∧ (∀ u, u < 10 → isZ (f' (37 + 3 * u) 11) = true) ∧ ∀ u, u < (itr beg1 i (c, S)).1 4 → TM f' (37 + 3 * σ u) ((itr beg1 i (c, S)).2 7 u)) (fun o => ∃ f', o = some (.inl none, st μ f' l r) ∧ (∀ a, (a = 0 ∨ 66 < a) → f' a = f a) ∧ CRa f' (itr beg1 (c 3) (c, S)).1 (itr beg1 (c 3) (c, S)).2 ∧ (∀ u, u < 10 → isZ (f' (37 + 3 * u) 11) = true) ∧ ∀ u, u < (itr beg1 (c 3) (c, S)).1 4 → TM f' (37 + 3 * σ u) ((itr beg1 (c 3) (c, S)).2 7 u)) (c 3) ?_ ?_ 0 _ (Nat.zero_le _) ⟨f, rfl, fun _ _ => rfl, hA, hz, hT⟩
  · rintro o ⟨f', rfl, gf, h, z, t⟩
    have k5 : f' 17 5 = nI (c 3) := by rw [h.2.2.1.1, (begs_c (s := (c, S)) c4 (c 3)).1 3 (by decide) (by decide) (by decide)]
    rw [B_42_2]
    simp (disch := omega) only [st_I, st_L, st_R, st_S, st_N, st_C, st_Z, st_X, st_D, st_st, st_sI, st_sIr, st_sL, st_sR, gfI_st, gfL_st, gfR_st, gfN_st, pfI_st, pfL_st, pfR_st, pfZ_st0, pfZ_st1, ldI_st, ldL_st, stoI_st, stoL_st, aln_st, cpA_st, bq_st, bq_S, oI_s, oL_s, oD_s, oV_s, oR_s, oR_n, oI_e, oL_e, oD_e, Option.bind_some, fa_lit, fa_litL, nI_add, pk_mul, nI_m1, nI_lt', nI_le', nI_eq', lc_ge, lc_le, lc_gt, lc_lt, lc_eq, isZ_0, isZ_1, bI_0, bI_z, decide_eq_true_eq, Bool.not_eq_true', Bool.not_true, Bool.not_false, decide_eq_false_iff_not, if_true, if_false, ite_true, ite_false, eq_self, not_true, not_false_eq_true, C_80, C_81, C_82, C_84, C_85, C_86, C_94, C_95, C_96, C_97, yu_ne, yu_eq, up_eq, up_ne, yur_ne, yur_eq, yu_uu, y1_eq, y1_ne, y1_y1, Nat.mul_zero, Nat.zero_mul, Nat.add_zero, Nat.zero_add, Nat.mul_one, Nat.one_mul, Nat.reduceEqDiff, Nat.reduceLT, Nat.reduceLeDiff, Nat.reduceAdd, Nat.reduceMul, decide_true, decide_false, cond_true, cond_false, reduceCtorEq, Bool.false_eq_true, Bool.true_eq_false, Bool.true_and, Bool.and_true, Bool.false_and, Bool.and_false, r1_1, r1_3, r1_4, r17_0, r17_1, k5, Nat.le_refl]
    exact ⟨f', rfl, gf, h, z, t⟩
  · rintro i o hi ⟨f', rfl, gf, h, z, t⟩
    have hi' : ¬ c 3 ≤ i := by omega
    obtain ⟨m1, m2, m3, m4, m5⟩ := begs_c (s := (c, S)) c4 i
    have k5 : f' 17 5 = nI (c 3) := by rw [h.2.2.1.1, m1 3 (by decide) (by decide) (by decide)]
    by_cases q10 : (itr beg1 i (c, S)).1 4 = 10
    · left
      have e := begs_10 q10 (c 3 - i)
      rw [show i + (c 3 - i) = c 3 by omega] at e
      have k4 : f' 1 5 = nI 10 := by rw [h.1.1, q10]
      rw [B_42_2]
      simp (disch := omega) only [st_I, st_L, st_R, st_S, st_N, st_C, st_Z, st_X, st_D, st_st, st_sI, st_sIr, st_sL, st_sR, gfI_st, gfL_st, gfR_st, gfN_st, pfI_st, pfL_st, pfR_st, pfZ_st0, pfZ_st1, ldI_st, ldL_st, stoI_st, stoL_st, aln_st, cpA_st, bq_st, bq_S, oI_s, oL_s, oD_s, oV_s, oR_s, oR_n, oI_e, oL_e, oD_e, Option.bind_some, fa_lit, fa_litL, nI_add, pk_mul, nI_m1, nI_lt', nI_le', nI_eq', lc_ge, lc_le, lc_gt, lc_lt, lc_eq, isZ_0, isZ_1, bI_0, bI_z, decide_eq_true_eq, Bool.not_eq_true', Bool.not_true, Bool.not_false, decide_eq_false_iff_not, if_true, if_false, ite_true, ite_false, eq_self, not_true, not_false_eq_true, C_80, C_81, C_82, C_84, C_85, C_86, C_94, C_95, C_96, C_97, yu_ne, yu_eq, up_eq, up_ne, yur_ne, yur_eq, yu_uu, y1_eq, y1_ne, y1_y1, Nat.mul_zero, Nat.zero_mul, Nat.add_zero, Nat.zero_add, Nat.mul_one, Nat.one_mul, Nat.reduceEqDiff, Nat.reduceLT, Nat.reduceLeDiff, Nat.reduceAdd, Nat.reduceMul, decide_true, decide_false, cond_true, cond_false, reduceCtorEq, Bool.false_eq_true, Bool.true_eq_false, Bool.true_and, Bool.and_true, Bool.false_and, Bool.and_false, r1_1, r1_3, r1_4, r17_0, r17_1, k5, hi', k4]
      rw [e]
      exact ⟨f', rfl, gf, h, z, t⟩
    · right
      have hb := hk i hi
      have e5 : (itr beg1 i (c, S)).2 5 i = S 5 i := beg_5 i i (Nat.le_refl _)
      have e3 : (itr beg1 i (c, S)).1 3 = c 3 := m1 3 (by decide) (by decide) (by decide)
      rw [itr_s']
      simp only at m2 m3 m4 m5
      generalize itr beg1 i (c, S) = s at *
      obtain ⟨c1, S1⟩ := s
      simp only at *
      have k4 : f' 1 5 = nI (c1 4) := h.1.1
      have n4 : ¬ 10 ≤ c1 4 := by omega
      unfold beg1
      simp only [e5]
      rw [B_42_2]
      cases hq : decide (S 5 i 4 = -nI 1)
      · have hq' : ¬ S 5 i 4 = -nI 1 := of_decide_eq_false hq
        rw [hq] at hb
        rw [if_neg (fun hh => hq' hh.1)]
        simp (disch := omega) only [st_I, st_L, st_R, st_S, st_N, st_C, st_Z, st_X, st_D, st_st, st_sI, st_sIr, st_sL, st_sR, gfI_st, gfL_st, gfR_st, gfN_st, pfI_st, pfL_st, pfR_st, pfZ_st0, pfZ_st1, ldI_st, ldL_st, stoI_st, stoL_st, aln_st, cpA_st, bq_st, bq_S, oI_s, oL_s, oD_s, oV_s, oR_s, oR_n, oI_e, oL_e, oD_e, Option.bind_some, fa_lit, fa_litL, nI_add, pk_mul, nI_m1, nI_lt', nI_le', nI_eq', lc_ge, lc_le, lc_gt, lc_lt, lc_eq, isZ_0, isZ_1, bI_0, bI_z, decide_eq_true_eq, Bool.not_eq_true', Bool.not_true, Bool.not_false, decide_eq_false_iff_not, if_true, if_false, ite_true, ite_false, eq_self, not_true, not_false_eq_true, C_80, C_81, C_82, C_84, C_85, C_86, C_94, C_95, C_96, C_97, yu_ne, yu_eq, up_eq, up_ne, yur_ne, yur_eq, yu_uu, y1_eq, y1_ne, y1_y1, Nat.mul_zero, Nat.zero_mul, Nat.add_zero, Nat.zero_add, Nat.mul_one, Nat.one_mul, Nat.reduceEqDiff, Nat.reduceLT, Nat.reduceLeDiff, Nat.reduceAdd, Nat.reduceMul, decide_true, decide_false, cond_true, cond_false, reduceCtorEq, Bool.false_eq_true, Bool.true_eq_false, Bool.true_and, Bool.and_true, Bool.false_and, Bool.and_false, r1_1, r1_3, r1_4, r17_0, r17_1, k5, hi', k4, n4, C_85, hb]
        exact ⟨f', rfl, gf, h, z, t⟩
      · have hq' : S 5 i 4 = -nI 1 := of_decide_eq_true hq
        rw [hq] at hb
        rw [if_pos ⟨hq', q10⟩]
        have ha := (hp.1 (c1 4) (by omega)).1
        have s1a : (mS μ (37 + 3 * σ (c1 4))).1 = 7 := by rw [(trk_sh hs ha).1]
        have k12 : f' 1 12 = nI (c1 9) := h.1.2.2.2.2.2.2.2
        have hb3 := h.2.2.1.2.2 i (by rw [e3]; exact hi)
        have k18 : f' 18 i = S 5 i 0 := by rw [← e5]; exact hb3.1 0 (by decide)
        have k19 : f' 19 i = S 5 i 1 := by rw [← e5]; exact hb3.1 1 (by decide)
        have x1 := ldT hs hr (f := f') (l := l) hp (t := c1 4) (by omega)
        obtain ⟨f1, q, g, t1⟩ := C_54 hs hr (f := f') (l := l) (nm := nI (c1 9)) (x := nI 16 * S 5 i 0) (y := nI 16 * S 5 i 1) (b := i) ha
        have g' : ∀ a, a ≤ 36 → f1 a = f' a := fun a h => g a (by omega) (by omega) (by omega)
        have k31 : f1 31 4 = nI (c1 8) := by rw [g' _ (by omega)]; exact h.2.2.2.2.1
        have k10 : f1 1 10 = nI (c1 6) := by rw [g' _ (by omega)]; exact h.1.2.2.2.2.2.1
        have k12' : f1 1 12 = nI (c1 9) := by rw [g' _ (by omega)]; exact k12
        have x4 := C_19 hs hr (f := f1) (l := l) (a := nI (c1 6)) (b := nI 0) (c := nI (c1 9)) (d := -nI 1) k31 (by omega)
        have co : ∀ a, (a < 31 ∨ 35 < a) → cnote f1 (c1 8) (nI (c1 6)) (nI 0) (nI (c1 9)) (-nI 1) a = f1 a := fun a h => cnote_o h
        have k5c : cnote f1 (c1 8) (nI (c1 6)) (nI 0) (nI (c1 9)) (-nI 1) 1 5 = nI (c1 4) := by rw [co _ (by omega), g' _ (by omega)]; exact k4
        have k12c : cnote f1 (c1 8) (nI (c1 6)) (nI 0) (nI (c1 9)) (-nI 1) 1 12 = nI (c1 9) := by rw [co _ (by omega)]; exact k12'
        simp (maxSteps := 5000000) (disch := omega) only [st_I, st_L, st_R, st_S, st_N, st_C, st_Z, st_X, st_D, st_st, st_sI, st_sIr, st_sL, st_sR, gfI_st, gfL_st, gfR_st, gfN_st, pfI_st, pfL_st, pfR_st, pfZ_st0, pfZ_st1, ldI_st, ldL_st, stoI_st, stoL_st, aln_st, cpA_st, bq_st, bq_S, oI_s, oL_s, oD_s, oV_s, oR_s, oR_n, oI_e, oL_e, oD_e, Option.bind_some, fa_lit, fa_litL, nI_add, pk_mul, nI_m1, nI_lt', nI_le', nI_eq', lc_ge, lc_le, lc_gt, lc_lt, lc_eq, isZ_0, isZ_1, bI_0, bI_z, decide_eq_true_eq, Bool.not_eq_true', Bool.not_true, Bool.not_false, decide_eq_false_iff_not, if_true, if_false, ite_true, ite_false, eq_self, not_true, not_false_eq_true, C_80, C_81, C_82, C_84, C_85, C_86, C_94, C_95, C_96, C_97, yu_ne, yu_eq, up_eq, up_ne, yur_ne, yur_eq, yu_uu, y1_eq, y1_ne, y1_y1, Nat.mul_zero, Nat.zero_mul, Nat.add_zero, Nat.zero_add, Nat.mul_one, Nat.one_mul, Nat.reduceEqDiff, Nat.reduceLT, Nat.reduceLeDiff, Nat.reduceAdd, Nat.reduceMul, decide_true, decide_false, cond_true, cond_false, reduceCtorEq, Bool.false_eq_true, Bool.true_eq_false, Bool.true_and, Bool.and_true, Bool.false_and, Bool.and_false, r1_1, r1_3, r1_4, r17_0, r17_1, k5, hi', k4, n4, C_85, hb, x1, k12, k18, k19, q, k31, k10, k12', x4, k5c, k12c, s1a]
        have fo : ∀ a, 36 < a → u2 (u2 (cnote f1 (c1 8) (nI (c1 6)) (nI 0) (nI (c1 9)) (-nI 1)) 1 5 (nI (c1 4 + 1))) 1 12 (nI (c1 9 + 1)) a = f1 a := fun a h => by rw [yu_ne (by omega), yu_ne (by omega), co _ (by omega)]
        refine ⟨_, rfl, fun a ha2 => ?_, CRa_49 (CRa_e (CRa_kb h (fun a _ h2 => g' a h2) (fun r h7 h5 => ?_) (fun k w hw => ?_))), fun u hu => ?_, fun u hu => ?_⟩
        · rw [yu_ne (by omega), yu_ne (by omega), co _ (by omega), g _ (by omega) (by omega) (by omega)]
          exact gf a ha2
        · rw [y1_ne h5, y1_ne h7]
        · rw [y1_eq]
          by_cases qk : k = i
          · rw [qk, y1_eq, up_ne (by omega), e5]
          · rw [y1_ne qk]
        · rw [fo _ (by omega)]
          by_cases qu : u = σ (c1 4)
          · rw [qu, t1.2.2.2.2.1]
            unfold nrc
            simp (disch := omega) only [st_I, st_L, st_R, st_S, st_N, st_C, st_Z, st_X, st_D, st_st, st_sI, st_sIr, st_sL, st_sR, gfI_st, gfL_st, gfR_st, gfN_st, pfI_st, pfL_st, pfR_st, pfZ_st0, pfZ_st1, ldI_st, ldL_st, stoI_st, stoL_st, aln_st, cpA_st, bq_st, bq_S, oI_s, oL_s, oD_s, oV_s, oR_s, oR_n, oI_e, oL_e, oD_e, Option.bind_some, fa_lit, fa_litL, nI_add, pk_mul, nI_m1, nI_lt', nI_le', nI_eq', lc_ge, lc_le, lc_gt, lc_lt, lc_eq, isZ_0, isZ_1, bI_0, bI_z, decide_eq_true_eq, Bool.not_eq_true', Bool.not_true, Bool.not_false, decide_eq_false_iff_not, if_true, if_false, ite_true, ite_false, eq_self, not_true, not_false_eq_true, C_80, C_81, C_82, C_84, C_85, C_86, C_94, C_95, C_96, C_97, yu_ne, yu_eq, up_eq, up_ne, yur_ne, yur_eq, yu_uu, y1_eq, y1_ne, y1_y1, Nat.mul_zero, Nat.zero_mul, Nat.add_zero, Nat.zero_add, Nat.mul_one, Nat.one_mul, Nat.reduceEqDiff, Nat.reduceLT, Nat.reduceLeDiff, Nat.reduceAdd, Nat.reduceMul, decide_true, decide_false, cond_true, cond_false, reduceCtorEq, Bool.false_eq_true, Bool.true_eq_false, Bool.true_and, Bool.and_true, Bool.false_and, Bool.and_false, r1_1, r1_3, r1_4, r17_0, r17_1]
          · rw [g _ (by omega) (by omega) (by omega)]
            exact z u hu
        · have hu' : u < c1 4 + 1 := hu
          simp only [noteS_r (show (7 : Nat) ≠ 9 by decide), y1_ne (show (7 : Nat) ≠ 5 by decide), y1_eq]
          by_cases qu : u = c1 4
          · rw [qu, y1_eq]
            exact TM_k t1 (fo _ (by omega)) (fo _ (by omega)) (fo _ (by omega))
          · have hne : σ u ≠ σ (c1 4) := fun e => qu (hp.2 u (c1 4) (by omega) (by omega) e)
            rw [y1_ne qu]
            exact TM_k (t u (by omega)) (by rw [fo _ (by omega), g _ (by omega) (by omega) (by omega)]) (by rw [fo _ (by omega), g _ (by omega) (by omega) (by omega)]) (by rw [fo _ (by omega), g _ (by omega) (by omega) (by omega)])
