/-! ===== the class mid-sweep: firm ones, areas ===== -/
theorem C_46m {μ : mMu} {f : Nat → Nat → Int32} {l : Nat → Nat → Int64} {r : Nat → Nat → Option Nat} (hs : Sh μ) (hr : Rf r) {σ : Nat → Nat} {n : Nat} {T : Nat → Nat → Int32} (hn : n ≤ 10) (hp : CPm r 1 σ) (ht : TMs f σ n T) {a b : Nat} (ha : a < n) (hb : b < n) : CALL 46 [.ref 1, .int (nI a), .int (nI b)] (st μ f l r) = some (.inl (some (.int (bI (firm T a && firm T b)))), st μ f l r) := by
  have h1a : (mS μ 1).1 = 6 := by rw [hs 1 (by decide)]; rfl
  have r1_4 : r 1 4 = some 36 := hr 1 4 36 rfl
  have hσ := (hp.1 a (by omega)).1
  have hσ2 := (hp.1 b (by omega)).1
  have hsa : (mS μ (37 + 3 * σ a)).1 = 7 := by rw [(trk_sh hs hσ).1]
  have hsb : (mS μ (37 + 3 * σ b)).1 = 7 := by rw [(trk_sh hs hσ2).1]
  have A5 : f (37 + 3 * σ a) 5 = T a 5 := (ht a ha).2.1 5 (by decide) (by decide)
  have B5 : f (37 + 3 * σ b) 5 = T b 5 := (ht b hb).2.1 5 (by decide) (by decide)
  have x1 := ldT hs hr (f := f) (l := l) hp (t := a) (by omega)
  have x2 := ldT hs hr (f := f) (l := l) hp (t := b) (by omega)
  rw [B_46_0]
  simp (disch := omega) only [st_I, st_L, st_R, st_S, st_N, st_C, st_Z, st_X, st_D, st_st, st_sI, st_sIr, st_sL, st_sR, gfI_st, gfL_st, gfR_st, gfN_st, pfI_st, pfL_st, pfR_st, pfZ_st0, pfZ_st1, ldI_st, ldL_st, stoI_st, stoL_st, aln_st, cpA_st, bq_st, bq_S, oI_s, oL_s, oD_s, oV_s, oR_s, oR_n, oI_e, oL_e, oD_e, Option.bind_some, fa_lit, fa_litL, nI_add, pk_mul, nI_m1, nI_lt', nI_le', nI_eq', lc_ge, lc_le, lc_gt, lc_lt, lc_eq, isZ_0, isZ_1, bI_0, bI_z, decide_eq_true_eq, Bool.not_eq_true', Bool.not_true, Bool.not_false, decide_eq_false_iff_not, if_true, if_false, ite_true, ite_false, eq_self, not_true, not_false_eq_true, C_80, C_81, C_82, C_84, C_85, C_86, C_94, C_95, C_96, C_97, yu_ne, yu_eq, up_eq, up_ne, yur_ne, yur_eq, yu_uu, y1_eq, y1_ne, y1_y1, Nat.mul_zero, Nat.zero_mul, Nat.add_zero, Nat.zero_add, Nat.mul_one, Nat.one_mul, Nat.reduceEqDiff, Nat.reduceLT, Nat.reduceLeDiff, Nat.reduceAdd, Nat.reduceMul, decide_true, decide_false, cond_true, cond_false, reduceCtorEq, Bool.false_eq_true, Bool.true_eq_false, Bool.true_and, Bool.and_true, Bool.false_and, Bool.and_false, r1_4, x1, x2, A5, B5]
  unfold firm
  by_cases q : T a 5 = nI 1
  · by_cases q2 : T b 5 = nI 1
    · simp (disch := omega) only [st_I, st_L, st_R, st_S, st_N, st_C, st_Z, st_X, st_D, st_st, st_sI, st_sIr, st_sL, st_sR, gfI_st, gfL_st, gfR_st, gfN_st, pfI_st, pfL_st, pfR_st, pfZ_st0, pfZ_st1, ldI_st, ldL_st, stoI_st, stoL_st, aln_st, cpA_st, bq_st, bq_S, oI_s, oL_s, oD_s, oV_s, oR_s, oR_n, oI_e, oL_e, oD_e, Option.bind_some, fa_lit, fa_litL, nI_add, pk_mul, nI_m1, nI_lt', nI_le', nI_eq', lc_ge, lc_le, lc_gt, lc_lt, lc_eq, isZ_0, isZ_1, bI_0, bI_z, decide_eq_true_eq, Bool.not_eq_true', Bool.not_true, Bool.not_false, decide_eq_false_iff_not, if_true, if_false, ite_true, ite_false, eq_self, not_true, not_false_eq_true, C_80, C_81, C_82, C_84, C_85, C_86, C_94, C_95, C_96, C_97, yu_ne, yu_eq, up_eq, up_ne, yur_ne, yur_eq, yu_uu, y1_eq, y1_ne, y1_y1, Nat.mul_zero, Nat.zero_mul, Nat.add_zero, Nat.zero_add, Nat.mul_one, Nat.one_mul, Nat.reduceEqDiff, Nat.reduceLT, Nat.reduceLeDiff, Nat.reduceAdd, Nat.reduceMul, decide_true, decide_false, cond_true, cond_false, reduceCtorEq, Bool.false_eq_true, Bool.true_eq_false, Bool.true_and, Bool.and_true, Bool.false_and, Bool.and_false, r1_4, q, q2]
      rfl
    · simp (disch := omega) only [st_I, st_L, st_R, st_S, st_N, st_C, st_Z, st_X, st_D, st_st, st_sI, st_sIr, st_sL, st_sR, gfI_st, gfL_st, gfR_st, gfN_st, pfI_st, pfL_st, pfR_st, pfZ_st0, pfZ_st1, ldI_st, ldL_st, stoI_st, stoL_st, aln_st, cpA_st, bq_st, bq_S, oI_s, oL_s, oD_s, oV_s, oR_s, oR_n, oI_e, oL_e, oD_e, Option.bind_some, fa_lit, fa_litL, nI_add, pk_mul, nI_m1, nI_lt', nI_le', nI_eq', lc_ge, lc_le, lc_gt, lc_lt, lc_eq, isZ_0, isZ_1, bI_0, bI_z, decide_eq_true_eq, Bool.not_eq_true', Bool.not_true, Bool.not_false, decide_eq_false_iff_not, if_true, if_false, ite_true, ite_false, eq_self, not_true, not_false_eq_true, C_80, C_81, C_82, C_84, C_85, C_86, C_94, C_95, C_96, C_97, yu_ne, yu_eq, up_eq, up_ne, yur_ne, yur_eq, yu_uu, y1_eq, y1_ne, y1_y1, Nat.mul_zero, Nat.zero_mul, Nat.add_zero, Nat.zero_add, Nat.mul_one, Nat.one_mul, Nat.reduceEqDiff, Nat.reduceLT, Nat.reduceLeDiff, Nat.reduceAdd, Nat.reduceMul, decide_true, decide_false, cond_true, cond_false, reduceCtorEq, Bool.false_eq_true, Bool.true_eq_false, Bool.true_and, Bool.and_true, Bool.false_and, Bool.and_false, r1_4, q, q2]
      rfl
  · simp (disch := omega) only [st_I, st_L, st_R, st_S, st_N, st_C, st_Z, st_X, st_D, st_st, st_sI, st_sIr, st_sL, st_sR, gfI_st, gfL_st, gfR_st, gfN_st, pfI_st, pfL_st, pfR_st, pfZ_st0, pfZ_st1, ldI_st, ldL_st, stoI_st, stoL_st, aln_st, cpA_st, bq_st, bq_S, oI_s, oL_s, oD_s, oV_s, oR_s, oR_n, oI_e, oL_e, oD_e, Option.bind_some, fa_lit, fa_litL, nI_add, pk_mul, nI_m1, nI_lt', nI_le', nI_eq', lc_ge, lc_le, lc_gt, lc_lt, lc_eq, isZ_0, isZ_1, bI_0, bI_z, decide_eq_true_eq, Bool.not_eq_true', Bool.not_true, Bool.not_false, decide_eq_false_iff_not, if_true, if_false, ite_true, ite_false, eq_self, not_true, not_false_eq_true, C_80, C_81, C_82, C_84, C_85, C_86, C_94, C_95, C_96, C_97, yu_ne, yu_eq, up_eq, up_ne, yur_ne, yur_eq, yu_uu, y1_eq, y1_ne, y1_y1, Nat.mul_zero, Nat.zero_mul, Nat.add_zero, Nat.zero_add, Nat.mul_one, Nat.one_mul, Nat.reduceEqDiff, Nat.reduceLT, Nat.reduceLeDiff, Nat.reduceAdd, Nat.reduceMul, decide_true, decide_false, cond_true, cond_false, reduceCtorEq, Bool.false_eq_true, Bool.true_eq_false, Bool.true_and, Bool.and_true, Bool.false_and, Bool.and_false, r1_4, q]
    rfl
theorem C_10m {μ : mMu} {f : Nat → Nat → Int32} {l : Nat → Nat → Int64} {r : Nat → Nat → Option Nat} (hs : Sh μ) (hr : Rf r) {c : Nat → Nat} {S : Nat → Nat → Nat → Int32} {a : Nat} (h2 : c 2 ≤ 6) (hO : CCo f 1 c S) (ha : a < c 2) (hA : IA (S 3 a)) {x y : Int32} : CALL 10 [.ref 11, .int (nI a), .int x, .int y] (st μ f l r) = some (.inl (some (.int (bI (p_in x y (S 3 a))))), st μ f l r) := by
  have h11a : (mS μ 11).1 = 1 := by rw [hs 11 (by decide)]; rfl
  have h12a : (mS μ 12).1 = 20 := by rw [hs 12 (by decide)]; rfl
  have h12b : (mS μ 12).2 = 10 := by rw [hs 12 (by decide)]; rfl
  have h13a : (mS μ 13).1 = 20 := by rw [hs 13 (by decide)]; rfl
  have h13b : (mS μ 13).2 = 10 := by rw [hs 13 (by decide)]; rfl
  have h14a : (mS μ 14).1 = 20 := by rw [hs 14 (by decide)]; rfl
  have h14b : (mS μ 14).2 = 10 := by rw [hs 14 (by decide)]; rfl
  have h15a : (mS μ 15).1 = 20 := by rw [hs 15 (by decide)]; rfl
  have h15b : (mS μ 15).2 = 10 := by rw [hs 15 (by decide)]; rfl
  have r11_0 : r 11 0 = some 12 := hr 11 0 12 rfl
  have r11_1 : r 11 1 = some 13 := hr 11 1 13 rfl
  have r11_2 : r 11 2 = some 14 := hr 11 2 14 rfl
  have r11_3 : r 11 3 = some 15 := hr 11 3 15 rfl
  have hv := hO.2.2.2.2.2.1 a
  have a0 : f 12 a = S 3 a 0 := hv 0 ha (by decide)
  have a1 : f 13 a = S 3 a 1 := hv 1 ha (by decide)
  have a2 : f 14 a = S 3 a 2 := hv 2 ha (by decide)
  have a3 : f 15 a = S 3 a 3 := hv 3 ha (by decide)
  obtain ⟨p1, p2, p3, p4⟩ := hA
  rw [plc_iff] at p1 p2
  rw [B_10_0]
  simp (disch := omega) only [st_I, st_L, st_R, st_S, st_N, st_C, st_Z, st_X, st_D, st_st, st_sI, st_sIr, st_sL, st_sR, gfI_st, gfL_st, gfR_st, gfN_st, pfI_st, pfL_st, pfR_st, pfZ_st0, pfZ_st1, ldI_st, ldL_st, stoI_st, stoL_st, aln_st, cpA_st, bq_st, bq_S, oI_s, oL_s, oD_s, oV_s, oR_s, oR_n, oI_e, oL_e, oD_e, Option.bind_some, fa_lit, fa_litL, nI_add, pk_mul, nI_m1, nI_lt', nI_le', nI_eq', lc_ge, lc_le, lc_gt, lc_lt, lc_eq, isZ_0, isZ_1, bI_0, bI_z, decide_eq_true_eq, Bool.not_eq_true', Bool.not_true, Bool.not_false, decide_eq_false_iff_not, if_true, if_false, ite_true, ite_false, eq_self, not_true, not_false_eq_true, C_80, C_81, C_82, C_84, C_85, C_86, C_94, C_95, C_96, C_97, yu_ne, yu_eq, up_eq, up_ne, yur_ne, yur_eq, yu_uu, y1_eq, y1_ne, y1_y1, Nat.mul_zero, Nat.zero_mul, Nat.add_zero, Nat.zero_add, Nat.mul_one, Nat.one_mul, Nat.reduceEqDiff, Nat.reduceLT, Nat.reduceLeDiff, Nat.reduceAdd, Nat.reduceMul, decide_true, decide_false, cond_true, cond_false, reduceCtorEq, Bool.false_eq_true, Bool.true_eq_false, Bool.true_and, Bool.and_true, Bool.false_and, Bool.and_false, r11_0, r11_1, r11_2, r11_3, a0, a1, a2, a3]
  rw [in_ax (by omega) (by omega) p3, in_ax (by omega) (by omega) p4]
  unfold p_in
  cases p_bt x.toInt64 (lN 16 * (S 3 a 0).toInt64) (lN 16 * (S 3 a 2).toInt64) <;> cases p_bt y.toInt64 (lN 16 * (S 3 a 1).toInt64) (lN 16 * (S 3 a 3).toInt64) <;> rfl
theorem C_48m {μ : mMu} {f : Nat → Nat → Int32} {l : Nat → Nat → Int64} {r : Nat → Nat → Option Nat} (hs : Sh μ) (hr : Rf r) {c : Nat → Nat} {S : Nat → Nat → Nat → Int32} {a u : Nat} {R : Nat → Int32} (h2 : c 2 ≤ 6) (hO : CCo f 1 c S) (ha : a < c 2) (hA : IA (S 3 a)) (hu : u < 10) (hT : TM f (37 + 3 * u) R) : CALL 48 [.ref 1, .ref (37 + 3 * u), .int (nI a)] (st μ f l r) = some (.inl (some (.int (bI (decide (R 5 = nI 1) && p_in (R 1) (R 2) (S 3 a))))), st μ f l r) := by
  have h1a : (mS μ 1).1 = 6 := by rw [hs 1 (by decide)]; rfl
  have h2a : (mS μ 2).1 = 2 := by rw [hs 2 (by decide)]; rfl
  have h11a : (mS μ 11).1 = 1 := by rw [hs 11 (by decide)]; rfl
  have r1_0 : r 1 0 = some 2 := hr 1 0 2 rfl
  have r2_5 : r 2 5 = some 11 := hr 2 5 11 rfl
  obtain ⟨s1, s2, s3⟩ := trk_sh hs hu
  obtain ⟨r1, r2⟩ := trk_rf hr hu
  obtain ⟨t0, tw, t9, t10, t11, t1, t2, tp⟩ := hT
  generalize 37 + 3 * u = A at *
  have z1 : (mS μ A).1 = 7 := by rw [s1]
  have z2 : (mS μ (A + 1)).1 = 20 := by rw [s2]
  have z3 : (mS μ (A + 1)).2 = 12 := by rw [s2]
  have z4 : (mS μ (A + 2)).1 = 20 := by rw [s3]
  have z5 : (mS μ (A + 2)).2 = 12 := by rw [s3]
  have w5 := tw 5 (by decide) (by decide)
  have x1 := C_10m hs hr (l := l) h2 hO ha hA (x := R 1) (y := R 2)
  rw [B_48_0]
  by_cases q : R 5 = nI 1
  · cases q2 : p_in (R 1) (R 2) (S 3 a)
    · rw [q2] at x1
      simp (disch := omega) only [st_I, st_L, st_R, st_S, st_N, st_C, st_Z, st_X, st_D, st_st, st_sI, st_sIr, st_sL, st_sR, gfI_st, gfL_st, gfR_st, gfN_st, pfI_st, pfL_st, pfR_st, pfZ_st0, pfZ_st1, ldI_st, ldL_st, stoI_st, stoL_st, aln_st, cpA_st, bq_st, bq_S, oI_s, oL_s, oD_s, oV_s, oR_s, oR_n, oI_e, oL_e, oD_e, Option.bind_some, fa_lit, fa_litL, nI_add, pk_mul, nI_m1, nI_lt', nI_le', nI_eq', lc_ge, lc_le, lc_gt, lc_lt, lc_eq, isZ_0, isZ_1, bI_0, bI_z, decide_eq_true_eq, Bool.not_eq_true', Bool.not_true, Bool.not_false, decide_eq_false_iff_not, if_true, if_false, ite_true, ite_false, eq_self, not_true, not_false_eq_true, C_80, C_81, C_82, C_84, C_85, C_86, C_94, C_95, C_96, C_97, yu_ne, yu_eq, up_eq, up_ne, yur_ne, yur_eq, yu_uu, y1_eq, y1_ne, y1_y1, Nat.mul_zero, Nat.zero_mul, Nat.add_zero, Nat.zero_add, Nat.mul_one, Nat.one_mul, Nat.reduceEqDiff, Nat.reduceLT, Nat.reduceLeDiff, Nat.reduceAdd, Nat.reduceMul, decide_true, decide_false, cond_true, cond_false, reduceCtorEq, Bool.false_eq_true, Bool.true_eq_false, Bool.true_and, Bool.and_true, Bool.false_and, Bool.and_false, r1_0, r2_5, r1, r2, w5, t1, t2, q, x1]
      rfl
    · rw [q2] at x1
      simp (disch := omega) only [st_I, st_L, st_R, st_S, st_N, st_C, st_Z, st_X, st_D, st_st, st_sI, st_sIr, st_sL, st_sR, gfI_st, gfL_st, gfR_st, gfN_st, pfI_st, pfL_st, pfR_st, pfZ_st0, pfZ_st1, ldI_st, ldL_st, stoI_st, stoL_st, aln_st, cpA_st, bq_st, bq_S, oI_s, oL_s, oD_s, oV_s, oR_s, oR_n, oI_e, oL_e, oD_e, Option.bind_some, fa_lit, fa_litL, nI_add, pk_mul, nI_m1, nI_lt', nI_le', nI_eq', lc_ge, lc_le, lc_gt, lc_lt, lc_eq, isZ_0, isZ_1, bI_0, bI_z, decide_eq_true_eq, Bool.not_eq_true', Bool.not_true, Bool.not_false, decide_eq_false_iff_not, if_true, if_false, ite_true, ite_false, eq_self, not_true, not_false_eq_true, C_80, C_81, C_82, C_84, C_85, C_86, C_94, C_95, C_96, C_97, yu_ne, yu_eq, up_eq, up_ne, yur_ne, yur_eq, yu_uu, y1_eq, y1_ne, y1_y1, Nat.mul_zero, Nat.zero_mul, Nat.add_zero, Nat.zero_add, Nat.mul_one, Nat.one_mul, Nat.reduceEqDiff, Nat.reduceLT, Nat.reduceLeDiff, Nat.reduceAdd, Nat.reduceMul, decide_true, decide_false, cond_true, cond_false, reduceCtorEq, Bool.false_eq_true, Bool.true_eq_false, Bool.true_and, Bool.and_true, Bool.false_and, Bool.and_false, r1_0, r2_5, r1, r2, w5, t1, t2, q, x1]
      rfl
  · simp (disch := omega) only [st_I, st_L, st_R, st_S, st_N, st_C, st_Z, st_X, st_D, st_st, st_sI, st_sIr, st_sL, st_sR, gfI_st, gfL_st, gfR_st, gfN_st, pfI_st, pfL_st, pfR_st, pfZ_st0, pfZ_st1, ldI_st, ldL_st, stoI_st, stoL_st, aln_st, cpA_st, bq_st, bq_S, oI_s, oL_s, oD_s, oV_s, oR_s, oR_n, oI_e, oL_e, oD_e, Option.bind_some, fa_lit, fa_litL, nI_add, pk_mul, nI_m1, nI_lt', nI_le', nI_eq', lc_ge, lc_le, lc_gt, lc_lt, lc_eq, isZ_0, isZ_1, bI_0, bI_z, decide_eq_true_eq, Bool.not_eq_true', Bool.not_true, Bool.not_false, decide_eq_false_iff_not, if_true, if_false, ite_true, ite_false, eq_self, not_true, not_false_eq_true, C_80, C_81, C_82, C_84, C_85, C_86, C_94, C_95, C_96, C_97, yu_ne, yu_eq, up_eq, up_ne, yur_ne, yur_eq, yu_uu, y1_eq, y1_ne, y1_y1, Nat.mul_zero, Nat.zero_mul, Nat.add_zero, Nat.zero_add, Nat.mul_one, Nat.one_mul, Nat.reduceEqDiff, Nat.reduceLT, Nat.reduceLeDiff, Nat.reduceAdd, Nat.reduceMul, decide_true, decide_false, cond_true, cond_false, reduceCtorEq, Bool.false_eq_true, Bool.true_eq_false, Bool.true_and, Bool.and_true, Bool.false_and, Bool.and_false, r1_0, r2_5, w5, q]
    rfl
