/-! ===== the class' sweep: the tracks are moved on ===== -/
theorem m1_le : ¬ (nI 0 ≤ -nI 1) := by decide
theorem C_40j {μ : mMu} {f : Nat → Nat → Int32} {l : Nat → Nat → Int64} {r : Nat → Nat → Option Nat} (hs : Sh μ) (hr : Rf r) {a b dt : Nat} {c : Nat → Nat} {P Q : Nat → Int32} (ha : a < 10) (hT : TM f (37 + 3 * a) Q) (hB : IB Q) (h1 : 1 ≤ dt) (h2 : dt ≤ 60) (hb : b < 10) (hQ : Q 38 = nI b) (hP : IP P) (p0 : f 18 b = P 0) (p1 : f 19 b = P 1) (k8 : f 1 8 = nI (c 13)) (k9 : f 1 9 = nI (c 14)) (hka : c 13 ≤ 16) (hkb : c 14 ≤ 16) : ∃ f', CALL 40 [.ref 1, .ref (37 + 3 * a), .int (nI dt)] (st μ f l r) = some (.inl (some (.int (jnK Q))), st μ f' l r) ∧ (∀ x, x ≠ 37 + 3 * a → x ≠ 37 + 3 * a + 1 → x ≠ 37 + 3 * a + 2 → f' x = f x) ∧ TM f' (37 + 3 * a) (jnC c P (nI dt) Q) := by
  have h1a : (mS μ 1).1 = 6 := by rw [hs 1 (by decide)]; rfl
  have h17a : (mS μ 17).1 = 0 := by rw [hs 17 (by decide)]; rfl
  have h18a : (mS μ 18).1 = 20 := by rw [hs 18 (by decide)]; rfl
  have h18b : (mS μ 18).2 = 10 := by rw [hs 18 (by decide)]; rfl
  have h19a : (mS μ 19).1 = 20 := by rw [hs 19 (by decide)]; rfl
  have h19b : (mS μ 19).2 = 10 := by rw [hs 19 (by decide)]; rfl
  have r1_1 : r 1 1 = some 17 := hr 1 1 17 rfl
  have r17_0 : r 17 0 = some 18 := hr 17 0 18 rfl
  have r17_1 : r 17 1 = some 19 := hr 17 1 19 rfl
  have s1a : (mS μ (37 + 3 * a)).1 = 7 := by rw [(trk_sh hs ha).1]
  have t9 : f (37 + 3 * a) 9 = nI b := hT.2.2.1.trans hQ
  obtain ⟨f1, q1, g1, t1⟩ := C_56 hs hr (l := l) ha hT hB hP h1 h2 hka hkb
  obtain ⟨f2, q2, g2, t2⟩ := C_58 hs hr (l := l) ha t1
  have e5 : up (up (up (up Q 1 (fwx (c 13) (P 0) (Q 1))) 3 (fwv (c 14) (nI dt) (P 0) (Q 1) (Q 3))) 2 (fwx (c 13) (P 1) (Q 2))) 4 (fwv (c 14) (nI dt) (P 1) (Q 2) (Q 4)) 5 = Q 5 := by simp (disch := omega) only [st_I, st_L, st_R, st_S, st_N, st_C, st_Z, st_X, st_D, st_st, st_sI, st_sIr, st_sL, st_sR, gfI_st, gfL_st, gfR_st, gfN_st, pfI_st, pfL_st, pfR_st, pfZ_st0, pfZ_st1, ldI_st, ldL_st, stoI_st, stoL_st, aln_st, cpA_st, bq_st, bq_S, oI_s, oL_s, oD_s, oV_s, oR_s, oR_n, oI_e, oL_e, oD_e, Option.bind_some, fa_lit, fa_litL, nI_add, pk_mul, nI_m1, nI_lt', nI_le', nI_eq', lc_ge, lc_le, lc_gt, lc_lt, lc_eq, isZ_0, isZ_1, bI_0, bI_z, decide_eq_true_eq, Bool.not_eq_true', Bool.not_true, Bool.not_false, decide_eq_false_iff_not, if_true, if_false, ite_true, ite_false, eq_self, not_true, not_false_eq_true, C_80, C_81, C_82, C_84, C_85, C_86, C_94, C_95, C_96, C_97, yu_ne, yu_eq, up_eq, up_ne, yur_ne, yur_eq, yu_uu, y1_eq, y1_ne, y1_y1, Nat.mul_zero, Nat.zero_mul, Nat.add_zero, Nat.zero_add, Nat.mul_one, Nat.one_mul, Nat.reduceEqDiff, Nat.reduceLT, Nat.reduceLeDiff, Nat.reduceAdd, Nat.reduceMul, decide_true, decide_false, cond_true, cond_false, reduceCtorEq, Bool.false_eq_true, Bool.true_eq_false, Bool.true_and, Bool.and_true, Bool.false_and, Bool.and_false, r1_1, r17_0, r17_1]
  have e6 : up (up (up (up Q 1 (fwx (c 13) (P 0) (Q 1))) 3 (fwv (c 14) (nI dt) (P 0) (Q 1) (Q 3))) 2 (fwx (c 13) (P 1) (Q 2))) 4 (fwv (c 14) (nI dt) (P 1) (Q 2) (Q 4)) 6 = Q 6 := by simp (disch := omega) only [st_I, st_L, st_R, st_S, st_N, st_C, st_Z, st_X, st_D, st_st, st_sI, st_sIr, st_sL, st_sR, gfI_st, gfL_st, gfR_st, gfN_st, pfI_st, pfL_st, pfR_st, pfZ_st0, pfZ_st1, ldI_st, ldL_st, stoI_st, stoL_st, aln_st, cpA_st, bq_st, bq_S, oI_s, oL_s, oD_s, oV_s, oR_s, oR_n, oI_e, oL_e, oD_e, Option.bind_some, fa_lit, fa_litL, nI_add, pk_mul, nI_m1, nI_lt', nI_le', nI_eq', lc_ge, lc_le, lc_gt, lc_lt, lc_eq, isZ_0, isZ_1, bI_0, bI_z, decide_eq_true_eq, Bool.not_eq_true', Bool.not_true, Bool.not_false, decide_eq_false_iff_not, if_true, if_false, ite_true, ite_false, eq_self, not_true, not_false_eq_true, C_80, C_81, C_82, C_84, C_85, C_86, C_94, C_95, C_96, C_97, yu_ne, yu_eq, up_eq, up_ne, yur_ne, yur_eq, yu_uu, y1_eq, y1_ne, y1_y1, Nat.mul_zero, Nat.zero_mul, Nat.add_zero, Nat.zero_add, Nat.mul_one, Nat.one_mul, Nat.reduceEqDiff, Nat.reduceLT, Nat.reduceLeDiff, Nat.reduceAdd, Nat.reduceMul, decide_true, decide_false, cond_true, cond_false, reduceCtorEq, Bool.false_eq_true, Bool.true_eq_false, Bool.true_and, Bool.and_true, Bool.false_and, Bool.and_false, r1_1, r17_0, r17_1]
  have ek : jnK (up (up (up (up Q 1 (fwx (c 13) (P 0) (Q 1))) 3 (fwv (c 14) (nI dt) (P 0) (Q 1) (Q 3))) 2 (fwx (c 13) (P 1) (Q 2))) 4 (fwv (c 14) (nI dt) (P 1) (Q 2) (Q 4))) = jnK Q := by
    unfold jnK
    rw [e5, e6]
  rw [ek] at q2
  rw [e5, e6] at t2
  rw [B_40_0]
  simp (disch := omega) only [st_I, st_L, st_R, st_S, st_N, st_C, st_Z, st_X, st_D, st_st, st_sI, st_sIr, st_sL, st_sR, gfI_st, gfL_st, gfR_st, gfN_st, pfI_st, pfL_st, pfR_st, pfZ_st0, pfZ_st1, ldI_st, ldL_st, stoI_st, stoL_st, aln_st, cpA_st, bq_st, bq_S, oI_s, oL_s, oD_s, oV_s, oR_s, oR_n, oI_e, oL_e, oD_e, Option.bind_some, fa_lit, fa_litL, nI_add, pk_mul, nI_m1, nI_lt', nI_le', nI_eq', lc_ge, lc_le, lc_gt, lc_lt, lc_eq, isZ_0, isZ_1, bI_0, bI_z, decide_eq_true_eq, Bool.not_eq_true', Bool.not_true, Bool.not_false, decide_eq_false_iff_not, if_true, if_false, ite_true, ite_false, eq_self, not_true, not_false_eq_true, C_80, C_81, C_82, C_84, C_85, C_86, C_94, C_95, C_96, C_97, yu_ne, yu_eq, up_eq, up_ne, yur_ne, yur_eq, yu_uu, y1_eq, y1_ne, y1_y1, Nat.mul_zero, Nat.zero_mul, Nat.add_zero, Nat.zero_add, Nat.mul_one, Nat.one_mul, Nat.reduceEqDiff, Nat.reduceLT, Nat.reduceLeDiff, Nat.reduceAdd, Nat.reduceMul, decide_true, decide_false, cond_true, cond_false, reduceCtorEq, Bool.false_eq_true, Bool.true_eq_false, Bool.true_and, Bool.and_true, Bool.false_and, Bool.and_false, r1_1, r17_0, r17_1, s1a, t9, p0, p1, k8, k9, q1, q2]
  refine ⟨f2, rfl, fun x x1 x2 x3 => (g2 x x1).trans (g1 x x1 x2 x3), ?_⟩
  unfold jnC flwR
  exact t2
theorem C_40m {μ : mMu} {f : Nat → Nat → Int32} {l : Nat → Nat → Int64} {r : Nat → Nat → Option Nat} (hs : Sh μ) (hr : Rf r) {a : Nat} {dt : Int32} {Q : Nat → Int32} (ha : a < 10) (hT : TM f (37 + 3 * a) Q) (hQ : Q 38 = -nI 1) : ∃ f', CALL 40 [.ref 1, .ref (37 + 3 * a), .int dt] (st μ f l r) = some (.inl (some (.int (msK Q))), st μ f' l r) ∧ (∀ x, x ≠ 37 + 3 * a → f' x = f x) ∧ TM f' (37 + 3 * a) (msC Q) := by
  have h1a : (mS μ 1).1 = 6 := by rw [hs 1 (by decide)]; rfl
  have s1a : (mS μ (37 + 3 * a)).1 = 7 := by rw [(trk_sh hs ha).1]
  have t9 : f (37 + 3 * a) 9 = -nI 1 := hT.2.2.1.trans hQ
  obtain ⟨f1, q1, g1, t1⟩ := C_59 hs hr (l := l) ha hT
  rw [B_40_0]
  simp (disch := omega) only [st_I, st_L, st_R, st_S, st_N, st_C, st_Z, st_X, st_D, st_st, st_sI, st_sIr, st_sL, st_sR, gfI_st, gfL_st, gfR_st, gfN_st, pfI_st, pfL_st, pfR_st, pfZ_st0, pfZ_st1, ldI_st, ldL_st, stoI_st, stoL_st, aln_st, cpA_st, bq_st, bq_S, oI_s, oL_s, oD_s, oV_s, oR_s, oR_n, oI_e, oL_e, oD_e, Option.bind_some, fa_lit, fa_litL, nI_add, pk_mul, nI_m1, nI_lt', nI_le', nI_eq', lc_ge, lc_le, lc_gt, lc_lt, lc_eq, isZ_0, isZ_1, bI_0, bI_z, decide_eq_true_eq, Bool.not_eq_true', Bool.not_true, Bool.not_false, decide_eq_false_iff_not, if_true, if_false, ite_true, ite_false, eq_self, not_true, not_false_eq_true, C_80, C_81, C_82, C_84, C_85, C_86, C_94, C_95, C_96, C_97, yu_ne, yu_eq, up_eq, up_ne, yur_ne, yur_eq, yu_uu, y1_eq, y1_ne, y1_y1, Nat.mul_zero, Nat.zero_mul, Nat.add_zero, Nat.zero_add, Nat.mul_one, Nat.one_mul, Nat.reduceEqDiff, Nat.reduceLT, Nat.reduceLeDiff, Nat.reduceAdd, Nat.reduceMul, decide_true, decide_false, cond_true, cond_false, reduceCtorEq, Bool.false_eq_true, Bool.true_eq_false, Bool.true_and, Bool.and_true, Bool.false_and, Bool.and_false, s1a, t9, m1_le, q1]
  exact ⟨f1, rfl, g1, t1⟩
theorem lv_s {T : Nat → Nat → Int32} {n : Nat} : lv T (n + 1) = lv T n ++ [v7 (T n)] := by
  unfold lv
  rw [List.range_succ, List.map_append]
  rfl
theorem C_30 {μ : mMu} {f : Nat → Nat → Int32} {l : Nat → Nat → Int64} {r : Nat → Nat → Option Nat} (hs : Sh μ) (hr : Rf r) {a : Nat} {c : Nat → Nat} {S : Nat → Nat → Nat → Int32} {Q : Nat → Int32} {x y : Int32} (ha : a < 10) (hL : CLo f 1 c S) (h5 : c 5 < 130) (hT : TM f (37 + 3 * a) Q) : ∃ f', CALL 30 [.ref 23, .ref (37 + 3 * a), .int x, .int y] (st μ f l r) = some (.inl none, st μ f' l r) ∧ (∀ q, (q < 23 ∨ 30 < q) → f' q = f q) ∧ CLo f' 1 (u1 c 5 (c 5 + 1)) (u1 S 8 (u1 (S 8) (c 5) (rc7 (Q 0) (Q 1) (Q 2) (Q 3) (Q 4) x y))) := by
  have h23a : (mS μ 23).1 = 5 := by rw [hs 23 (by decide)]; rfl
  have h24a : (mS μ 24).1 = 20 := by rw [hs 24 (by decide)]; rfl
  have h24b : (mS μ 24).2 = 130 := by rw [hs 24 (by decide)]; rfl
  have h25a : (mS μ 25).1 = 20 := by rw [hs 25 (by decide)]; rfl
  have h25b : (mS μ 25).2 = 130 := by rw [hs 25 (by decide)]; rfl
  have h26a : (mS μ 26).1 = 20 := by rw [hs 26 (by decide)]; rfl
  have h26b : (mS μ 26).2 = 130 := by rw [hs 26 (by decide)]; rfl
  have h27a : (mS μ 27).1 = 20 := by rw [hs 27 (by decide)]; rfl
  have h27b : (mS μ 27).2 = 130 := by rw [hs 27 (by decide)]; rfl
  have h28a : (mS μ 28).1 = 20 := by rw [hs 28 (by decide)]; rfl
  have h28b : (mS μ 28).2 = 130 := by rw [hs 28 (by decide)]; rfl
  have h29a : (mS μ 29).1 = 20 := by rw [hs 29 (by decide)]; rfl
  have h29b : (mS μ 29).2 = 130 := by rw [hs 29 (by decide)]; rfl
  have h30a : (mS μ 30).1 = 20 := by rw [hs 30 (by decide)]; rfl
  have h30b : (mS μ 30).2 = 130 := by rw [hs 30 (by decide)]; rfl
  have r23_0 : r 23 0 = some 24 := hr 23 0 24 rfl
  have r23_1 : r 23 1 = some 25 := hr 23 1 25 rfl
  have r23_2 : r 23 2 = some 26 := hr 23 2 26 rfl
  have r23_3 : r 23 3 = some 27 := hr 23 3 27 rfl
  have r23_4 : r 23 4 = some 28 := hr 23 4 28 rfl
  have r23_5 : r 23 5 = some 29 := hr 23 5 29 rfl
  have r23_6 : r 23 6 = some 30 := hr 23 6 30 rfl
  obtain ⟨s1, s2, s3⟩ := trk_sh hs ha
  obtain ⟨r1, r2⟩ := trk_rf hr ha
  obtain ⟨t0, tw, t9, t10, t11, t1, t2, tp⟩ := hT
  have w3 := tw 3 (by decide) (by decide)
  have w4 := tw 4 (by decide) (by decide)
  have hA : 37 ≤ 37 + 3 * a := by omega
  generalize 37 + 3 * a = A at *
  have s1a : (mS μ A).1 = 7 := by rw [s1]
  have s2a : (mS μ (A + 1)).1 = 20 := by rw [s2]
  have s2b : (mS μ (A + 1)).2 = 12 := by rw [s2]
  have s3a : (mS μ (A + 2)).1 = 20 := by rw [s3]
  have s3b : (mS μ (A + 2)).2 = 12 := by rw [s3]
  obtain ⟨l1, l2⟩ := hL
  have l1' : f 23 7 = nI (c 5) := l1
  rw [B_30_0]
  simp (maxSteps := 5000000) (disch := omega) only [st_I, st_L, st_R, st_S, st_N, st_C, st_Z, st_X, st_D, st_st, st_sI, st_sIr, st_sL, st_sR, gfI_st, gfL_st, gfR_st, gfN_st, pfI_st, pfL_st, pfR_st, pfZ_st0, pfZ_st1, ldI_st, ldL_st, stoI_st, stoL_st, aln_st, cpA_st, bq_st, bq_S, oI_s, oL_s, oD_s, oV_s, oR_s, oR_n, oI_e, oL_e, oD_e, Option.bind_some, fa_lit, fa_litL, nI_add, pk_mul, nI_m1, nI_lt', nI_le', nI_eq', lc_ge, lc_le, lc_gt, lc_lt, lc_eq, isZ_0, isZ_1, bI_0, bI_z, decide_eq_true_eq, Bool.not_eq_true', Bool.not_true, Bool.not_false, decide_eq_false_iff_not, if_true, if_false, ite_true, ite_false, eq_self, not_true, not_false_eq_true, C_80, C_81, C_82, C_84, C_85, C_86, C_94, C_95, C_96, C_97, yu_ne, yu_eq, up_eq, up_ne, yur_ne, yur_eq, yu_uu, y1_eq, y1_ne, y1_y1, Nat.mul_zero, Nat.zero_mul, Nat.add_zero, Nat.zero_add, Nat.mul_one, Nat.one_mul, Nat.reduceEqDiff, Nat.reduceLT, Nat.reduceLeDiff, Nat.reduceAdd, Nat.reduceMul, decide_true, decide_false, cond_true, cond_false, reduceCtorEq, Bool.false_eq_true, Bool.true_eq_false, Bool.true_and, Bool.and_true, Bool.false_and, Bool.and_false, r23_0, r23_1, r23_2, r23_3, r23_4, r23_5, r23_6, l1', r1, r2, t0, t1, t2, w3, w4, h5]
  refine ⟨_, rfl, fun q hq => by simp (disch := omega) only [st_I, st_L, st_R, st_S, st_N, st_C, st_Z, st_X, st_D, st_st, st_sI, st_sIr, st_sL, st_sR, gfI_st, gfL_st, gfR_st, gfN_st, pfI_st, pfL_st, pfR_st, pfZ_st0, pfZ_st1, ldI_st, ldL_st, stoI_st, stoL_st, aln_st, cpA_st, bq_st, bq_S, oI_s, oL_s, oD_s, oV_s, oR_s, oR_n, oI_e, oL_e, oD_e, Option.bind_some, fa_lit, fa_litL, nI_add, pk_mul, nI_m1, nI_lt', nI_le', nI_eq', lc_ge, lc_le, lc_gt, lc_lt, lc_eq, isZ_0, isZ_1, bI_0, bI_z, decide_eq_true_eq, Bool.not_eq_true', Bool.not_true, Bool.not_false, decide_eq_false_iff_not, if_true, if_false, ite_true, ite_false, eq_self, not_true, not_false_eq_true, C_80, C_81, C_82, C_84, C_85, C_86, C_94, C_95, C_96, C_97, yu_ne, yu_eq, up_eq, up_ne, yur_ne, yur_eq, yu_uu, y1_eq, y1_ne, y1_y1, Nat.mul_zero, Nat.zero_mul, Nat.add_zero, Nat.zero_add, Nat.mul_one, Nat.one_mul, Nat.reduceEqDiff, Nat.reduceLT, Nat.reduceLeDiff, Nat.reduceAdd, Nat.reduceMul, decide_true, decide_false, cond_true, cond_false, reduceCtorEq, Bool.false_eq_true, Bool.true_eq_false, Bool.true_and, Bool.and_true, Bool.false_and, Bool.and_false, r23_0, r23_1, r23_2, r23_3, r23_4, r23_5, r23_6], ?_, ?_⟩
  · simp (disch := omega) only [st_I, st_L, st_R, st_S, st_N, st_C, st_Z, st_X, st_D, st_st, st_sI, st_sIr, st_sL, st_sR, gfI_st, gfL_st, gfR_st, gfN_st, pfI_st, pfL_st, pfR_st, pfZ_st0, pfZ_st1, ldI_st, ldL_st, stoI_st, stoL_st, aln_st, cpA_st, bq_st, bq_S, oI_s, oL_s, oD_s, oV_s, oR_s, oR_n, oI_e, oL_e, oD_e, Option.bind_some, fa_lit, fa_litL, nI_add, pk_mul, nI_m1, nI_lt', nI_le', nI_eq', lc_ge, lc_le, lc_gt, lc_lt, lc_eq, isZ_0, isZ_1, bI_0, bI_z, decide_eq_true_eq, Bool.not_eq_true', Bool.not_true, Bool.not_false, decide_eq_false_iff_not, if_true, if_false, ite_true, ite_false, eq_self, not_true, not_false_eq_true, C_80, C_81, C_82, C_84, C_85, C_86, C_94, C_95, C_96, C_97, yu_ne, yu_eq, up_eq, up_ne, yur_ne, yur_eq, yu_uu, y1_eq, y1_ne, y1_y1, Nat.mul_zero, Nat.zero_mul, Nat.add_zero, Nat.zero_add, Nat.mul_one, Nat.one_mul, Nat.reduceEqDiff, Nat.reduceLT, Nat.reduceLeDiff, Nat.reduceAdd, Nat.reduceMul, decide_true, decide_false, cond_true, cond_false, reduceCtorEq, Bool.false_eq_true, Bool.true_eq_false, Bool.true_and, Bool.and_true, Bool.false_and, Bool.and_false, r23_0, r23_1, r23_2, r23_3, r23_4, r23_5, r23_6]
  · rw [y1_eq, y1_eq, lv_s, lv_s]
    refine List.Perm.append ?_ ?_
    · rw [lv_k (T := fun i w => f (1 + 23 + w) i) (T' := fun i w => _) ?_, lv_k (T := S 8) (T' := u1 (S 8) (c 5) _) ?_]
      · exact l2
      · intro i w hi hw
        rw [y1_ne (by omega)]
      · intro i w hi hw
        have hw' : w = 0 ∨ w = 1 ∨ w = 2 ∨ w = 3 ∨ w = 4 ∨ w = 5 ∨ w = 6 := by omega
        rcases hw' with rfl | rfl | rfl | rfl | rfl | rfl | rfl <;> simp (disch := omega) only [st_I, st_L, st_R, st_S, st_N, st_C, st_Z, st_X, st_D, st_st, st_sI, st_sIr, st_sL, st_sR, gfI_st, gfL_st, gfR_st, gfN_st, pfI_st, pfL_st, pfR_st, pfZ_st0, pfZ_st1, ldI_st, ldL_st, stoI_st, stoL_st, aln_st, cpA_st, bq_st, bq_S, oI_s, oL_s, oD_s, oV_s, oR_s, oR_n, oI_e, oL_e, oD_e, Option.bind_some, fa_lit, fa_litL, nI_add, pk_mul, nI_m1, nI_lt', nI_le', nI_eq', lc_ge, lc_le, lc_gt, lc_lt, lc_eq, isZ_0, isZ_1, bI_0, bI_z, decide_eq_true_eq, Bool.not_eq_true', Bool.not_true, Bool.not_false, decide_eq_false_iff_not, if_true, if_false, ite_true, ite_false, eq_self, not_true, not_false_eq_true, C_80, C_81, C_82, C_84, C_85, C_86, C_94, C_95, C_96, C_97, yu_ne, yu_eq, up_eq, up_ne, yur_ne, yur_eq, yu_uu, y1_eq, y1_ne, y1_y1, Nat.mul_zero, Nat.zero_mul, Nat.add_zero, Nat.zero_add, Nat.mul_one, Nat.one_mul, Nat.reduceEqDiff, Nat.reduceLT, Nat.reduceLeDiff, Nat.reduceAdd, Nat.reduceMul, decide_true, decide_false, cond_true, cond_false, reduceCtorEq, Bool.false_eq_true, Bool.true_eq_false, Bool.true_and, Bool.and_true, Bool.false_and, Bool.and_false, r23_0, r23_1, r23_2, r23_3, r23_4, r23_5, r23_6]
    · unfold v7 rc7 rc5 rc4 rc3
      simp (disch := omega) only [st_I, st_L, st_R, st_S, st_N, st_C, st_Z, st_X, st_D, st_st, st_sI, st_sIr, st_sL, st_sR, gfI_st, gfL_st, gfR_st, gfN_st, pfI_st, pfL_st, pfR_st, pfZ_st0, pfZ_st1, ldI_st, ldL_st, stoI_st, stoL_st, aln_st, cpA_st, bq_st, bq_S, oI_s, oL_s, oD_s, oV_s, oR_s, oR_n, oI_e, oL_e, oD_e, Option.bind_some, fa_lit, fa_litL, nI_add, pk_mul, nI_m1, nI_lt', nI_le', nI_eq', lc_ge, lc_le, lc_gt, lc_lt, lc_eq, isZ_0, isZ_1, bI_0, bI_z, decide_eq_true_eq, Bool.not_eq_true', Bool.not_true, Bool.not_false, decide_eq_false_iff_not, if_true, if_false, ite_true, ite_false, eq_self, not_true, not_false_eq_true, C_80, C_81, C_82, C_84, C_85, C_86, C_94, C_95, C_96, C_97, yu_ne, yu_eq, up_eq, up_ne, yur_ne, yur_eq, yu_uu, y1_eq, y1_ne, y1_y1, Nat.mul_zero, Nat.zero_mul, Nat.add_zero, Nat.zero_add, Nat.mul_one, Nat.one_mul, Nat.reduceEqDiff, Nat.reduceLT, Nat.reduceLeDiff, Nat.reduceAdd, Nat.reduceMul, decide_true, decide_false, cond_true, cond_false, reduceCtorEq, Bool.false_eq_true, Bool.true_eq_false, Bool.true_and, Bool.and_true, Bool.false_and, Bool.and_false, r23_0, r23_1, r23_2, r23_3, r23_4, r23_5, r23_6]
      exact List.Perm.refl _
