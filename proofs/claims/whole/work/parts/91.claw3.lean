/-! ===== the law: the other steps ===== -/
theorem lq_o {l : Nat → Nat → Int64} {q : Qd} {a : Nat} (h : a ≠ 137) : lq l q a = l a := by
  unfold lq
  rw [yu_ne h, yu_ne h, yu_ne h, yu_ne h]
theorem lq_152 {l : Nat → Nat → Int64} {q : Qd} : lq l q 152 = l 152 := lq_o (by decide)
theorem Al_th {μ : mMu} {f : Nat → Nat → Int32} {l : Nat → Nat → Int64} {r : Nat → Nat → Option Nat} {q : Qd} {th : Int32} (hs : Sh μ) (hr : Rf r) : Al (sI (st μ f l r) 137 0 th) (st μ (u2 f 137 0 th) (lq l q) r) 0 0 := Al_own hs hr (f := u2 f 137 0 th) (l := l) (fun _ _ => rfl) (fun a ha => lq_o (by omega))
theorem ST_2 {μ : mMu} {f : Nat → Nat → Int32} {l : Nat → Nat → Int64} {r : Nat → Nat → Option Nat} {k i L : Nat} {xs : Nat → Int32} {o6 o7 o8 : Option Value} (h : WI k (L, xs) μ f r) (hi : i + 6 ≤ L) (hL : L ≤ 3072) : ∃ μ' f' l' r' p6 p7 p8, RUN 0 340 [some (.retAddr 0), some (.ref 0), some (.ref 137), some (.ref 152), some (.ref 153), some (.int (nI i)), o6, o7, o8] [] (st μ f l r) = RUN 0 28 [some (.retAddr 0), some (.ref 0), some (.ref 137), some (.ref 152), some (.ref 153), some (.int (nI (i + 6))), p6, p7, p8] [] (st μ' f' l' r') ∧ WI (k + 1) (L, xs) μ' f' r' := by
  obtain ⟨⟨hs, hr, hN⟩, ⟨hX, hC, hZ⟩, σ, σk, c, S, hm, hA, hI, hK, hE⟩ := h
  have hc := hI.1
  have hs2 : Sh (mBurn μ 6) := hs
  have hN2 : 154 ≤ mN (mBurn μ 6) := hN
  have hX2 : mX (mBurn μ 6) = (L, xs) := hX
  have hIB : ∀ t, t < c 4 → IB (S 7 t) := fun t ht => mvb_IB hc.2.2.2.2.2.2.1 (hI.2.2.2.2.2.2.1 t ht).1
  have hIA : ∀ a, a < c 2 → IA (S 3 a) := hI.2.2.2.2.1
  have hcut : ∀ s i x y, s < c 0 → i < c 1 → plc x y = true → p_cut (S 1 s 0) (S 1 s 1) x y (S 2 i) = p_hid (S 1 s 0) (S 1 s 1) x y (S 2 i) := fun s i x y h1 h2 h3 => cut_hid (hI.2.2.1 s h1) h3 (hI.2.2.2.1 i h2)
  have h0a : (mS μ 0).1 = 8 := by rw [hs 0 (by decide)]; rfl
  have h137a : (mS μ 137).1 = 9 := by rw [hs 137 (by decide)]; rfl
  have h152a : (mS μ 152).1 = 21 := by rw [hs 152 (by decide)]; rfl
  have h152b : (mS μ 152).2 = 1 := by rw [hs 152 (by decide)]; rfl
  have h152 : mS μ 152 = (21, 1) := hs 152 (by decide)
  have h153 : mS μ 153 = (22, 1) := hs 153 (by decide)
  have lx : ∀ f l r j, j < L → ldX (st μ f l r) (nI j) = some (xs j) := fun f l r j hj => ldX_k hX hj hL
  have lb : ∀ f l r j, j < L → ldX (st (mBurn μ 6) f l r) (nI j) = some (xs j) := fun f l r j hj => ldX_k hX2 hj hL
  have P0 : PW (154 + 300 * k) (29390 + 6000 * k) (L, xs) σ c S μ f r := ⟨⟨hs, hr, hN⟩, ⟨hX, hC, hZ⟩, hA, hI, σk, hK, hE⟩
  have P1 : PW (154 + 300 * k + 1) (29390 + 6000 * k + 6) (L, xs) σ c S (mBurn μ 6) f r := ⟨⟨hs2, hr, hN2⟩, ⟨hX2, Nat.add_le_add_right hC 1, Nat.add_le_add_right hZ 6⟩, hA, hI, σk, hK, KEPT_k hE (Nat.le_refl _) rfl (fun _ _ _ => rfl) (fun _ _ _ => ⟨rfl, rfl, rfl⟩) rfl rfl⟩
  have ec := C_77 hs hr (l := l) hA hc hcut (s := xs (i + 1)) (x := xs (i + 2)) (y := xs (i + 3))
  have em := fun l' => C_116 hs hr (l := l') hm hc (s := xs (i + 1)) (x := xs (i + 2)) (y := xs (i + 3))
  obtain ⟨qb, eb⟩ := C_116 hs2 hr (l := l) hm hc (s := xs (i + 1)) (x := xs (i + 2)) (y := xs (i + 3))
  cases h1 : wi (xs (i + 1)) (nI 0) (nI (c 0) - nI 1) with
  | false =>
    rw [h1, cond_false] at ec eb
    have w := W178_2 hs hr ec
    have main : RUN 0 340 [some (.retAddr 0), some (.ref 0), some (.ref 137), some (.ref 152), some (.ref 153), some (.int (nI i)), o6, o7, o8] [] (st μ f l r) = RUN 0 28 [some (.retAddr 0), some (.ref 0), some (.ref 137), some (.ref 152), some (.ref 153), some (.int (nI (i + 6))), some (.int (nI 1)), some (.int (nI 0)), o8] [] (st (mBurn μ 6) (u2 f 137 0 (nI 1)) (lq l qb) r) := by
      rw [B_0_340]
      simp (disch := omega) only [st_I, st_L, st_R, st_S, st_N, st_C, st_Z, st_X, st_D, st_st, st_sI, st_sIr, st_sL, st_sR, gfI_st, gfL_st, gfR_st, gfN_st, pfI_st, pfL_st, pfR_st, pfZ_st0, pfZ_st1, ldI_st, ldL_st, stoI_st, stoL_st, aln_st, cpA_st, bq_st, bq_S, oI_s, oL_s, oD_s, oV_s, oR_s, oR_n, oI_e, oL_e, oD_e, Option.bind_some, fa_lit, fa_litL, nI_add, pk_mul, nI_m1, nI_lt', nI_le', nI_eq', lc_ge, lc_le, lc_gt, lc_lt, lc_eq, isZ_0, isZ_1, bI_0, bI_z, decide_eq_true_eq, Bool.not_eq_true', Bool.not_true, Bool.not_false, decide_eq_false_iff_not, if_true, if_false, ite_true, ite_false, eq_self, not_true, not_false_eq_true, C_95, C_96, C_97, C_99, C_100, C_102, C_106, C_107, C_109, C_168, C_171, C_172, C_173, C_174, C_175, yu_ne, yu_eq, up_eq, up_ne, yur_ne, yur_eq, yu_uu, y1_eq, y1_ne, y1_y1, Nat.mul_zero, Nat.zero_mul, Nat.add_zero, Nat.zero_add, Nat.mul_one, Nat.one_mul, Nat.reduceEqDiff, Nat.reduceLT, Nat.reduceLeDiff, Nat.reduceAdd, Nat.reduceMul, decide_true, decide_false, cond_true, cond_false, reduceCtorEq, Bool.false_eq_true, Bool.true_eq_false, Bool.true_and, Bool.and_true, Bool.false_and, Bool.and_false, lx, lb, w, burn_st, burn_S, eb, C_104 hs2 hr]
      rw [B_0_424, B_0_1474]
      simp (disch := omega) only [st_I, st_L, st_R, st_S, st_N, st_C, st_Z, st_X, st_D, st_st, st_sI, st_sIr, st_sL, st_sR, gfI_st, gfL_st, gfR_st, gfN_st, pfI_st, pfL_st, pfR_st, pfZ_st0, pfZ_st1, ldI_st, ldL_st, stoI_st, stoL_st, aln_st, cpA_st, bq_st, bq_S, oI_s, oL_s, oD_s, oV_s, oR_s, oR_n, oI_e, oL_e, oD_e, Option.bind_some, fa_lit, fa_litL, nI_add, pk_mul, nI_m1, nI_lt', nI_le', nI_eq', lc_ge, lc_le, lc_gt, lc_lt, lc_eq, isZ_0, isZ_1, bI_0, bI_z, decide_eq_true_eq, Bool.not_eq_true', Bool.not_true, Bool.not_false, decide_eq_false_iff_not, if_true, if_false, ite_true, ite_false, eq_self, not_true, not_false_eq_true, C_95, C_96, C_97, C_99, C_100, C_102, C_106, C_107, C_109, C_168, C_171, C_172, C_173, C_174, C_175, yu_ne, yu_eq, up_eq, up_ne, yur_ne, yur_eq, yu_uu, y1_eq, y1_ne, y1_y1, Nat.mul_zero, Nat.zero_mul, Nat.add_zero, Nat.zero_add, Nat.mul_one, Nat.one_mul, Nat.reduceEqDiff, Nat.reduceLT, Nat.reduceLeDiff, Nat.reduceAdd, Nat.reduceMul, decide_true, decide_false, cond_true, cond_false, reduceCtorEq, Bool.false_eq_true, Bool.true_eq_false, Bool.true_and, Bool.and_true, Bool.false_and, Bool.and_false]
    exact ⟨_, _, _, _, _, _, _, main, WI_al P1 (Al_th (l := l) (q := qb) hs2 hr) (MR_137 hm) (by omega) (by omega)⟩
  | true =>
    rw [h1, cond_true] at ec eb
    cases h2 : plc (xs (i + 2)) (xs (i + 3)) with
    | false =>
      rw [h2, cond_false] at ec eb
      have w := W178_0 hs hr ec
      have main : RUN 0 340 [some (.retAddr 0), some (.ref 0), some (.ref 137), some (.ref 152), some (.ref 153), some (.int (nI i)), o6, o7, o8] [] (st μ f l r) = RUN 0 28 [some (.retAddr 0), some (.ref 0), some (.ref 137), some (.ref 152), some (.ref 153), some (.int (nI (i + 6))), some (.int (nI 2)), some (.int (nI 0)), o8] [] (st (mBurn μ 6) (u2 f 137 0 (nI 2)) (lq l qb) r) := by
        rw [B_0_340]
        simp (disch := omega) only [st_I, st_L, st_R, st_S, st_N, st_C, st_Z, st_X, st_D, st_st, st_sI, st_sIr, st_sL, st_sR, gfI_st, gfL_st, gfR_st, gfN_st, pfI_st, pfL_st, pfR_st, pfZ_st0, pfZ_st1, ldI_st, ldL_st, stoI_st, stoL_st, aln_st, cpA_st, bq_st, bq_S, oI_s, oL_s, oD_s, oV_s, oR_s, oR_n, oI_e, oL_e, oD_e, Option.bind_some, fa_lit, fa_litL, nI_add, pk_mul, nI_m1, nI_lt', nI_le', nI_eq', lc_ge, lc_le, lc_gt, lc_lt, lc_eq, isZ_0, isZ_1, bI_0, bI_z, decide_eq_true_eq, Bool.not_eq_true', Bool.not_true, Bool.not_false, decide_eq_false_iff_not, if_true, if_false, ite_true, ite_false, eq_self, not_true, not_false_eq_true, C_95, C_96, C_97, C_99, C_100, C_102, C_106, C_107, C_109, C_168, C_171, C_172, C_173, C_174, C_175, yu_ne, yu_eq, up_eq, up_ne, yur_ne, yur_eq, yu_uu, y1_eq, y1_ne, y1_y1, Nat.mul_zero, Nat.zero_mul, Nat.add_zero, Nat.zero_add, Nat.mul_one, Nat.one_mul, Nat.reduceEqDiff, Nat.reduceLT, Nat.reduceLeDiff, Nat.reduceAdd, Nat.reduceMul, decide_true, decide_false, cond_true, cond_false, reduceCtorEq, Bool.false_eq_true, Bool.true_eq_false, Bool.true_and, Bool.and_true, Bool.false_and, Bool.and_false, lx, lb, w, burn_st, burn_S, eb, C_104 hs2 hr]
        rw [B_0_424, B_0_1474]
        simp (disch := omega) only [st_I, st_L, st_R, st_S, st_N, st_C, st_Z, st_X, st_D, st_st, st_sI, st_sIr, st_sL, st_sR, gfI_st, gfL_st, gfR_st, gfN_st, pfI_st, pfL_st, pfR_st, pfZ_st0, pfZ_st1, ldI_st, ldL_st, stoI_st, stoL_st, aln_st, cpA_st, bq_st, bq_S, oI_s, oL_s, oD_s, oV_s, oR_s, oR_n, oI_e, oL_e, oD_e, Option.bind_some, fa_lit, fa_litL, nI_add, pk_mul, nI_m1, nI_lt', nI_le', nI_eq', lc_ge, lc_le, lc_gt, lc_lt, lc_eq, isZ_0, isZ_1, bI_0, bI_z, decide_eq_true_eq, Bool.not_eq_true', Bool.not_true, Bool.not_false, decide_eq_false_iff_not, if_true, if_false, ite_true, ite_false, eq_self, not_true, not_false_eq_true, C_95, C_96, C_97, C_99, C_100, C_102, C_106, C_107, C_109, C_168, C_171, C_172, C_173, C_174, C_175, yu_ne, yu_eq, up_eq, up_ne, yur_ne, yur_eq, yu_uu, y1_eq, y1_ne, y1_y1, Nat.mul_zero, Nat.zero_mul, Nat.add_zero, Nat.zero_add, Nat.mul_one, Nat.one_mul, Nat.reduceEqDiff, Nat.reduceLT, Nat.reduceLeDiff, Nat.reduceAdd, Nat.reduceMul, decide_true, decide_false, cond_true, cond_false, reduceCtorEq, Bool.false_eq_true, Bool.true_eq_false, Bool.true_and, Bool.and_true, Bool.false_and, Bool.and_false]
      exact ⟨_, _, _, _, _, _, _, main, WI_al P1 (Al_th (l := l) (q := qb) hs2 hr) (MR_137 hm) (by omega) (by omega)⟩
    | true =>
      rw [h2, cond_true] at ec
      have w := W178_ok hs hr h152 ec
      obtain ⟨qq, e2⟩ := em (u2 l 152 0 (if p_see c S (ix (xs (i + 1))) (xs (i + 2)) (xs (i + 3)) = true then lN 1 else lN 0))
      rw [h1, cond_true, h2, cond_true] at e2
      have main : RUN 0 340 [some (.retAddr 0), some (.ref 0), some (.ref 137), some (.ref 152), some (.ref 153), some (.int (nI i)), o6, o7, o8] [] (st μ f l r) = RUN 0 28 [some (.retAddr 0), some (.ref 0), some (.ref 137), some (.ref 152), some (.ref 153), some (.int (nI (i + 6))), some (.int (nI 0)), some (.int (bI (p_see c S (ix (xs (i + 1))) (xs (i + 2)) (xs (i + 3))))), o8] [] (st μ (u2 f 137 0 (nI 0)) (lq (u2 l 152 0 (if p_see c S (ix (xs (i + 1))) (xs (i + 2)) (xs (i + 3)) = true then lN 1 else lN 0)) qq) r) := by
        rw [B_0_340]
        simp (disch := omega) only [st_I, st_L, st_R, st_S, st_N, st_C, st_Z, st_X, st_D, st_st, st_sI, st_sIr, st_sL, st_sR, gfI_st, gfL_st, gfR_st, gfN_st, pfI_st, pfL_st, pfR_st, pfZ_st0, pfZ_st1, ldI_st, ldL_st, stoI_st, stoL_st, aln_st, cpA_st, bq_st, bq_S, oI_s, oL_s, oD_s, oV_s, oR_s, oR_n, oI_e, oL_e, oD_e, Option.bind_some, fa_lit, fa_litL, nI_add, pk_mul, nI_m1, nI_lt', nI_le', nI_eq', lc_ge, lc_le, lc_gt, lc_lt, lc_eq, isZ_0, isZ_1, bI_0, bI_z, decide_eq_true_eq, Bool.not_eq_true', Bool.not_true, Bool.not_false, decide_eq_false_iff_not, if_true, if_false, ite_true, ite_false, eq_self, not_true, not_false_eq_true, C_95, C_96, C_97, C_99, C_100, C_102, C_106, C_107, C_109, C_168, C_171, C_172, C_173, C_174, C_175, yu_ne, yu_eq, up_eq, up_ne, yur_ne, yur_eq, yu_uu, y1_eq, y1_ne, y1_y1, Nat.mul_zero, Nat.zero_mul, Nat.add_zero, Nat.zero_add, Nat.mul_one, Nat.one_mul, Nat.reduceEqDiff, Nat.reduceLT, Nat.reduceLeDiff, Nat.reduceAdd, Nat.reduceMul, decide_true, decide_false, cond_true, cond_false, reduceCtorEq, Bool.false_eq_true, Bool.true_eq_false, Bool.true_and, Bool.and_true, Bool.false_and, Bool.and_false, lx, w, e2, C_104 hs hr, lq_152]
        cases p_see c S (ix (xs (i + 1))) (xs (i + 2)) (xs (i + 3)) with
        | false =>
          simp (disch := omega) only [st_I, st_L, st_R, st_S, st_N, st_C, st_Z, st_X, st_D, st_st, st_sI, st_sIr, st_sL, st_sR, gfI_st, gfL_st, gfR_st, gfN_st, pfI_st, pfL_st, pfR_st, pfZ_st0, pfZ_st1, ldI_st, ldL_st, stoI_st, stoL_st, aln_st, cpA_st, bq_st, bq_S, oI_s, oL_s, oD_s, oV_s, oR_s, oR_n, oI_e, oL_e, oD_e, Option.bind_some, fa_lit, fa_litL, nI_add, pk_mul, nI_m1, nI_lt', nI_le', nI_eq', lc_ge, lc_le, lc_gt, lc_lt, lc_eq, isZ_0, isZ_1, bI_0, bI_z, decide_eq_true_eq, Bool.not_eq_true', Bool.not_true, Bool.not_false, decide_eq_false_iff_not, if_true, if_false, ite_true, ite_false, eq_self, not_true, not_false_eq_true, C_95, C_96, C_97, C_99, C_100, C_102, C_106, C_107, C_109, C_168, C_171, C_172, C_173, C_174, C_175, yu_ne, yu_eq, up_eq, up_ne, yur_ne, yur_eq, yu_uu, y1_eq, y1_ne, y1_y1, Nat.mul_zero, Nat.zero_mul, Nat.add_zero, Nat.zero_add, Nat.mul_one, Nat.one_mul, Nat.reduceEqDiff, Nat.reduceLT, Nat.reduceLeDiff, Nat.reduceAdd, Nat.reduceMul, decide_true, decide_false, cond_true, cond_false, reduceCtorEq, Bool.false_eq_true, Bool.true_eq_false, Bool.true_and, Bool.and_true, Bool.false_and, Bool.and_false]
          rw [B_0_418]
          simp (disch := omega) only [st_I, st_L, st_R, st_S, st_N, st_C, st_Z, st_X, st_D, st_st, st_sI, st_sIr, st_sL, st_sR, gfI_st, gfL_st, gfR_st, gfN_st, pfI_st, pfL_st, pfR_st, pfZ_st0, pfZ_st1, ldI_st, ldL_st, stoI_st, stoL_st, aln_st, cpA_st, bq_st, bq_S, oI_s, oL_s, oD_s, oV_s, oR_s, oR_n, oI_e, oL_e, oD_e, Option.bind_some, fa_lit, fa_litL, nI_add, pk_mul, nI_m1, nI_lt', nI_le', nI_eq', lc_ge, lc_le, lc_gt, lc_lt, lc_eq, isZ_0, isZ_1, bI_0, bI_z, decide_eq_true_eq, Bool.not_eq_true', Bool.not_true, Bool.not_false, decide_eq_false_iff_not, if_true, if_false, ite_true, ite_false, eq_self, not_true, not_false_eq_true, C_95, C_96, C_97, C_99, C_100, C_102, C_106, C_107, C_109, C_168, C_171, C_172, C_173, C_174, C_175, yu_ne, yu_eq, up_eq, up_ne, yur_ne, yur_eq, yu_uu, y1_eq, y1_ne, y1_y1, Nat.mul_zero, Nat.zero_mul, Nat.add_zero, Nat.zero_add, Nat.mul_one, Nat.one_mul, Nat.reduceEqDiff, Nat.reduceLT, Nat.reduceLeDiff, Nat.reduceAdd, Nat.reduceMul, decide_true, decide_false, cond_true, cond_false, reduceCtorEq, Bool.false_eq_true, Bool.true_eq_false, Bool.true_and, Bool.and_true, Bool.false_and, Bool.and_false]
          rw [B_0_424, B_0_1474]
          simp (disch := omega) only [st_I, st_L, st_R, st_S, st_N, st_C, st_Z, st_X, st_D, st_st, st_sI, st_sIr, st_sL, st_sR, gfI_st, gfL_st, gfR_st, gfN_st, pfI_st, pfL_st, pfR_st, pfZ_st0, pfZ_st1, ldI_st, ldL_st, stoI_st, stoL_st, aln_st, cpA_st, bq_st, bq_S, oI_s, oL_s, oD_s, oV_s, oR_s, oR_n, oI_e, oL_e, oD_e, Option.bind_some, fa_lit, fa_litL, nI_add, pk_mul, nI_m1, nI_lt', nI_le', nI_eq', lc_ge, lc_le, lc_gt, lc_lt, lc_eq, isZ_0, isZ_1, bI_0, bI_z, decide_eq_true_eq, Bool.not_eq_true', Bool.not_true, Bool.not_false, decide_eq_false_iff_not, if_true, if_false, ite_true, ite_false, eq_self, not_true, not_false_eq_true, C_95, C_96, C_97, C_99, C_100, C_102, C_106, C_107, C_109, C_168, C_171, C_172, C_173, C_174, C_175, yu_ne, yu_eq, up_eq, up_ne, yur_ne, yur_eq, yu_uu, y1_eq, y1_ne, y1_y1, Nat.mul_zero, Nat.zero_mul, Nat.add_zero, Nat.zero_add, Nat.mul_one, Nat.one_mul, Nat.reduceEqDiff, Nat.reduceLT, Nat.reduceLeDiff, Nat.reduceAdd, Nat.reduceMul, decide_true, decide_false, cond_true, cond_false, reduceCtorEq, Bool.false_eq_true, Bool.true_eq_false, Bool.true_and, Bool.and_true, Bool.false_and, Bool.and_false]
        | true =>
          simp (disch := omega) only [st_I, st_L, st_R, st_S, st_N, st_C, st_Z, st_X, st_D, st_st, st_sI, st_sIr, st_sL, st_sR, gfI_st, gfL_st, gfR_st, gfN_st, pfI_st, pfL_st, pfR_st, pfZ_st0, pfZ_st1, ldI_st, ldL_st, stoI_st, stoL_st, aln_st, cpA_st, bq_st, bq_S, oI_s, oL_s, oD_s, oV_s, oR_s, oR_n, oI_e, oL_e, oD_e, Option.bind_some, fa_lit, fa_litL, nI_add, pk_mul, nI_m1, nI_lt', nI_le', nI_eq', lc_ge, lc_le, lc_gt, lc_lt, lc_eq, isZ_0, isZ_1, bI_0, bI_z, decide_eq_true_eq, Bool.not_eq_true', Bool.not_true, Bool.not_false, decide_eq_false_iff_not, if_true, if_false, ite_true, ite_false, eq_self, not_true, not_false_eq_true, C_95, C_96, C_97, C_99, C_100, C_102, C_106, C_107, C_109, C_168, C_171, C_172, C_173, C_174, C_175, yu_ne, yu_eq, up_eq, up_ne, yur_ne, yur_eq, yu_uu, y1_eq, y1_ne, y1_y1, Nat.mul_zero, Nat.zero_mul, Nat.add_zero, Nat.zero_add, Nat.mul_one, Nat.one_mul, Nat.reduceEqDiff, Nat.reduceLT, Nat.reduceLeDiff, Nat.reduceAdd, Nat.reduceMul, decide_true, decide_false, cond_true, cond_false, reduceCtorEq, Bool.false_eq_true, Bool.true_eq_false, Bool.true_and, Bool.and_true, Bool.false_and, Bool.and_false]
          rw [B_0_418]
          simp (disch := omega) only [st_I, st_L, st_R, st_S, st_N, st_C, st_Z, st_X, st_D, st_st, st_sI, st_sIr, st_sL, st_sR, gfI_st, gfL_st, gfR_st, gfN_st, pfI_st, pfL_st, pfR_st, pfZ_st0, pfZ_st1, ldI_st, ldL_st, stoI_st, stoL_st, aln_st, cpA_st, bq_st, bq_S, oI_s, oL_s, oD_s, oV_s, oR_s, oR_n, oI_e, oL_e, oD_e, Option.bind_some, fa_lit, fa_litL, nI_add, pk_mul, nI_m1, nI_lt', nI_le', nI_eq', lc_ge, lc_le, lc_gt, lc_lt, lc_eq, isZ_0, isZ_1, bI_0, bI_z, decide_eq_true_eq, Bool.not_eq_true', Bool.not_true, Bool.not_false, decide_eq_false_iff_not, if_true, if_false, ite_true, ite_false, eq_self, not_true, not_false_eq_true, C_95, C_96, C_97, C_99, C_100, C_102, C_106, C_107, C_109, C_168, C_171, C_172, C_173, C_174, C_175, yu_ne, yu_eq, up_eq, up_ne, yur_ne, yur_eq, yu_uu, y1_eq, y1_ne, y1_y1, Nat.mul_zero, Nat.zero_mul, Nat.add_zero, Nat.zero_add, Nat.mul_one, Nat.one_mul, Nat.reduceEqDiff, Nat.reduceLT, Nat.reduceLeDiff, Nat.reduceAdd, Nat.reduceMul, decide_true, decide_false, cond_true, cond_false, reduceCtorEq, Bool.false_eq_true, Bool.true_eq_false, Bool.true_and, Bool.and_true, Bool.false_and, Bool.and_false]
          rw [B_0_424, B_0_1474]
          simp (disch := omega) only [st_I, st_L, st_R, st_S, st_N, st_C, st_Z, st_X, st_D, st_st, st_sI, st_sIr, st_sL, st_sR, gfI_st, gfL_st, gfR_st, gfN_st, pfI_st, pfL_st, pfR_st, pfZ_st0, pfZ_st1, ldI_st, ldL_st, stoI_st, stoL_st, aln_st, cpA_st, bq_st, bq_S, oI_s, oL_s, oD_s, oV_s, oR_s, oR_n, oI_e, oL_e, oD_e, Option.bind_some, fa_lit, fa_litL, nI_add, pk_mul, nI_m1, nI_lt', nI_le', nI_eq', lc_ge, lc_le, lc_gt, lc_lt, lc_eq, isZ_0, isZ_1, bI_0, bI_z, decide_eq_true_eq, Bool.not_eq_true', Bool.not_true, Bool.not_false, decide_eq_false_iff_not, if_true, if_false, ite_true, ite_false, eq_self, not_true, not_false_eq_true, C_95, C_96, C_97, C_99, C_100, C_102, C_106, C_107, C_109, C_168, C_171, C_172, C_173, C_174, C_175, yu_ne, yu_eq, up_eq, up_ne, yur_ne, yur_eq, yu_uu, y1_eq, y1_ne, y1_y1, Nat.mul_zero, Nat.zero_mul, Nat.add_zero, Nat.zero_add, Nat.mul_one, Nat.one_mul, Nat.reduceEqDiff, Nat.reduceLT, Nat.reduceLeDiff, Nat.reduceAdd, Nat.reduceMul, decide_true, decide_false, cond_true, cond_false, reduceCtorEq, Bool.false_eq_true, Bool.true_eq_false, Bool.true_and, Bool.and_true, Bool.false_and, Bool.and_false]
      exact ⟨_, _, _, _, _, _, _, main, WI_al P0 (Al_th (l := u2 l 152 0 (if p_see c S (ix (xs (i + 1))) (xs (i + 2)) (xs (i + 3)) = true then lN 1 else lN 0)) (q := qq) hs hr) (MR_137 hm) (by omega) (by omega)⟩
theorem ST_13 {μ : mMu} {f : Nat → Nat → Int32} {l : Nat → Nat → Int64} {r : Nat → Nat → Option Nat} {k i L : Nat} {xs : Nat → Int32} {o6 o7 o8 : Option Value} (h : WI k (L, xs) μ f r) (hi : i + 6 ≤ L) (hL : L ≤ 3072) : ∃ μ' f' l' r' p6 p7 p8, RUN 0 1156 [some (.retAddr 0), some (.ref 0), some (.ref 137), some (.ref 152), some (.ref 153), some (.int (nI i)), o6, o7, o8] [] (st μ f l r) = RUN 0 28 [some (.retAddr 0), some (.ref 0), some (.ref 137), some (.ref 152), some (.ref 153), some (.int (nI (i + 6))), p6, p7, p8] [] (st μ' f' l' r') ∧ WI (k + 1) (L, xs) μ' f' r' := by
  obtain ⟨⟨hs, hr, hN⟩, ⟨hX, hC, hZ⟩, σ, σk, c, S, hm, hA, hI, hK, hE⟩ := h
  have hc := hI.1
  have hs2 : Sh (mBurn μ 6) := hs
  have hN2 : 154 ≤ mN (mBurn μ 6) := hN
  have hX2 : mX (mBurn μ 6) = (L, xs) := hX
  have hIB : ∀ t, t < c 4 → IB (S 7 t) := fun t ht => mvb_IB hc.2.2.2.2.2.2.1 (hI.2.2.2.2.2.2.1 t ht).1
  have hIA : ∀ a, a < c 2 → IA (S 3 a) := hI.2.2.2.2.1
  have hcut : ∀ s i x y, s < c 0 → i < c 1 → plc x y = true → p_cut (S 1 s 0) (S 1 s 1) x y (S 2 i) = p_hid (S 1 s 0) (S 1 s 1) x y (S 2 i) := fun s i x y h1 h2 h3 => cut_hid (hI.2.2.1 s h1) h3 (hI.2.2.2.1 i h2)
  have h0a : (mS μ 0).1 = 8 := by rw [hs 0 (by decide)]; rfl
  have h137a : (mS μ 137).1 = 9 := by rw [hs 137 (by decide)]; rfl
  have h152a : (mS μ 152).1 = 21 := by rw [hs 152 (by decide)]; rfl
  have h152b : (mS μ 152).2 = 1 := by rw [hs 152 (by decide)]; rfl
  have h152 : mS μ 152 = (21, 1) := hs 152 (by decide)
  have h153 : mS μ 153 = (22, 1) := hs 153 (by decide)
  have lx : ∀ f l r j, j < L → ldX (st μ f l r) (nI j) = some (xs j) := fun f l r j hj => ldX_k hX hj hL
  have lb : ∀ f l r j, j < L → ldX (st (mBurn μ 6) f l r) (nI j) = some (xs j) := fun f l r j hj => ldX_k hX2 hj hL
  have P0 : PW (154 + 300 * k) (29390 + 6000 * k) (L, xs) σ c S μ f r := ⟨⟨hs, hr, hN⟩, ⟨hX, hC, hZ⟩, hA, hI, σk, hK, hE⟩
  have P1 : PW (154 + 300 * k + 1) (29390 + 6000 * k + 6) (L, xs) σ c S (mBurn μ 6) f r := ⟨⟨hs2, hr, hN2⟩, ⟨hX2, Nat.add_le_add_right hC 1, Nat.add_le_add_right hZ 6⟩, hA, hI, σk, hK, KEPT_k hE (Nat.le_refl _) rfl (fun _ _ _ => rfl) (fun _ _ _ => ⟨rfl, rfl, rfl⟩) rfl rfl⟩
  have ec := C_88 hs hr (l := l) hA hc hIB (a := xs (i + 1)) (b := xs (i + 2))
  have em := fun l' => C_158 hs hr (l := l') hm hc (a := xs (i + 1)) (b := xs (i + 2))
  have eb := C_158 hs2 hr (l := l) hm hc (a := xs (i + 1)) (b := xs (i + 2))
  have key : (∃ X, CALL 88 [.ref 0, .int (xs (i + 1)), .int (xs (i + 2))] (st μ f l r) = some (.inl (some (.long X)), st μ f l r) ∧ ∀ l', CALL 158 [.ref 137, .int (xs (i + 1)), .int (xs (i + 2))] (st μ f l' r) = some (.inl (some (.long X)), st μ (u2 f 137 0 (nI 0)) l' r)) ∨ (CALL 88 [.ref 0, .int (xs (i + 1)), .int (xs (i + 2))] (st μ f l r) = some (.inr 2, mBurn (st μ f l r) 6) ∧ CALL 158 [.ref 137, .int (xs (i + 1)), .int (xs (i + 2))] (st (mBurn μ 6) f l r) = some (.inl (some (.long (lN 0))), st (mBurn μ 6) (u2 f 137 0 (nI 1)) l r)) := by
    cases p1 : pfnd c S (xs (i + 1)) with
    | none =>
      rw [p1] at ec eb
      exact Or.inr ⟨ec, eb⟩
    | some s =>
      rw [p1] at ec eb
      simp only [p1] at em
      cases p2 : pfnd c S (xs (i + 2)) with
      | none =>
        rw [p2] at ec eb
        exact Or.inr ⟨ec, eb⟩
      | some t =>
        rw [p2] at ec
        simp only [p2] at em
        exact Or.inl ⟨_, ec, em⟩
  rcases key with ⟨X, e1, e2⟩ | ⟨e1, e2⟩
  · have w := W189_ok hs hr h152 e1
    have main : RUN 0 1156 [some (.retAddr 0), some (.ref 0), some (.ref 137), some (.ref 152), some (.ref 153), some (.int (nI i)), o6, o7, o8] [] (st μ f l r) = RUN 0 28 [some (.retAddr 0), some (.ref 0), some (.ref 137), some (.ref 152), some (.ref 153), some (.int (nI (i + 6))), some (.int (nI 0)), some (.long X), none] [] (st μ (u2 f 137 0 (nI 0)) (u2 l 152 0 X) r) := by
      rw [B_0_1156]
      simp (disch := omega) only [st_I, st_L, st_R, st_S, st_N, st_C, st_Z, st_X, st_D, st_st, st_sI, st_sIr, st_sL, st_sR, gfI_st, gfL_st, gfR_st, gfN_st, pfI_st, pfL_st, pfR_st, pfZ_st0, pfZ_st1, ldI_st, ldL_st, stoI_st, stoL_st, aln_st, cpA_st, bq_st, bq_S, oI_s, oL_s, oD_s, oV_s, oR_s, oR_n, oI_e, oL_e, oD_e, Option.bind_some, fa_lit, fa_litL, nI_add, pk_mul, nI_m1, nI_lt', nI_le', nI_eq', lc_ge, lc_le, lc_gt, lc_lt, lc_eq, isZ_0, isZ_1, bI_0, bI_z, decide_eq_true_eq, Bool.not_eq_true', Bool.not_true, Bool.not_false, decide_eq_false_iff_not, if_true, if_false, ite_true, ite_false, eq_self, not_true, not_false_eq_true, C_95, C_96, C_97, C_99, C_100, C_102, C_106, C_107, C_109, C_168, C_171, C_172, C_173, C_174, C_175, yu_ne, yu_eq, up_eq, up_ne, yur_ne, yur_eq, yu_uu, y1_eq, y1_ne, y1_y1, Nat.mul_zero, Nat.zero_mul, Nat.add_zero, Nat.zero_add, Nat.mul_one, Nat.one_mul, Nat.reduceEqDiff, Nat.reduceLT, Nat.reduceLeDiff, Nat.reduceAdd, Nat.reduceMul, decide_true, decide_false, cond_true, cond_false, reduceCtorEq, Bool.false_eq_true, Bool.true_eq_false, Bool.true_and, Bool.and_true, Bool.false_and, Bool.and_false, lx, w, e2, C_104 hs hr]
      rw [B_0_1220, B_0_1474]
      simp (disch := omega) only [st_I, st_L, st_R, st_S, st_N, st_C, st_Z, st_X, st_D, st_st, st_sI, st_sIr, st_sL, st_sR, gfI_st, gfL_st, gfR_st, gfN_st, pfI_st, pfL_st, pfR_st, pfZ_st0, pfZ_st1, ldI_st, ldL_st, stoI_st, stoL_st, aln_st, cpA_st, bq_st, bq_S, oI_s, oL_s, oD_s, oV_s, oR_s, oR_n, oI_e, oL_e, oD_e, Option.bind_some, fa_lit, fa_litL, nI_add, pk_mul, nI_m1, nI_lt', nI_le', nI_eq', lc_ge, lc_le, lc_gt, lc_lt, lc_eq, isZ_0, isZ_1, bI_0, bI_z, decide_eq_true_eq, Bool.not_eq_true', Bool.not_true, Bool.not_false, decide_eq_false_iff_not, if_true, if_false, ite_true, ite_false, eq_self, not_true, not_false_eq_true, C_95, C_96, C_97, C_99, C_100, C_102, C_106, C_107, C_109, C_168, C_171, C_172, C_173, C_174, C_175, yu_ne, yu_eq, up_eq, up_ne, yur_ne, yur_eq, yu_uu, y1_eq, y1_ne, y1_y1, Nat.mul_zero, Nat.zero_mul, Nat.add_zero, Nat.zero_add, Nat.mul_one, Nat.one_mul, Nat.reduceEqDiff, Nat.reduceLT, Nat.reduceLeDiff, Nat.reduceAdd, Nat.reduceMul, decide_true, decide_false, cond_true, cond_false, reduceCtorEq, Bool.false_eq_true, Bool.true_eq_false, Bool.true_and, Bool.and_true, Bool.false_and, Bool.and_false]
    exact ⟨μ, _, _, r, _, _, _, main, WI_al P0 (Al_refl (sI (st μ f (u2 l 152 0 X) r) 137 0 (nI 0))) (MR_137 hm) (by omega) (by omega)⟩
  · have w := W189_2 hs hr e1
    have main : RUN 0 1156 [some (.retAddr 0), some (.ref 0), some (.ref 137), some (.ref 152), some (.ref 153), some (.int (nI i)), o6, o7, o8] [] (st μ f l r) = RUN 0 28 [some (.retAddr 0), some (.ref 0), some (.ref 137), some (.ref 152), some (.ref 153), some (.int (nI (i + 6))), some (.int (nI 1)), some (.long (lN 0)), none] [] (st (mBurn μ 6) (u2 f 137 0 (nI 1)) l r) := by
      rw [B_0_1156]
      simp (disch := omega) only [st_I, st_L, st_R, st_S, st_N, st_C, st_Z, st_X, st_D, st_st, st_sI, st_sIr, st_sL, st_sR, gfI_st, gfL_st, gfR_st, gfN_st, pfI_st, pfL_st, pfR_st, pfZ_st0, pfZ_st1, ldI_st, ldL_st, stoI_st, stoL_st, aln_st, cpA_st, bq_st, bq_S, oI_s, oL_s, oD_s, oV_s, oR_s, oR_n, oI_e, oL_e, oD_e, Option.bind_some, fa_lit, fa_litL, nI_add, pk_mul, nI_m1, nI_lt', nI_le', nI_eq', lc_ge, lc_le, lc_gt, lc_lt, lc_eq, isZ_0, isZ_1, bI_0, bI_z, decide_eq_true_eq, Bool.not_eq_true', Bool.not_true, Bool.not_false, decide_eq_false_iff_not, if_true, if_false, ite_true, ite_false, eq_self, not_true, not_false_eq_true, C_95, C_96, C_97, C_99, C_100, C_102, C_106, C_107, C_109, C_168, C_171, C_172, C_173, C_174, C_175, yu_ne, yu_eq, up_eq, up_ne, yur_ne, yur_eq, yu_uu, y1_eq, y1_ne, y1_y1, Nat.mul_zero, Nat.zero_mul, Nat.add_zero, Nat.zero_add, Nat.mul_one, Nat.one_mul, Nat.reduceEqDiff, Nat.reduceLT, Nat.reduceLeDiff, Nat.reduceAdd, Nat.reduceMul, decide_true, decide_false, cond_true, cond_false, reduceCtorEq, Bool.false_eq_true, Bool.true_eq_false, Bool.true_and, Bool.and_true, Bool.false_and, Bool.and_false, lx, lb, w, burn_st, burn_S, e2, C_104 hs2 hr]
      rw [B_0_1220, B_0_1474]
      simp (disch := omega) only [st_I, st_L, st_R, st_S, st_N, st_C, st_Z, st_X, st_D, st_st, st_sI, st_sIr, st_sL, st_sR, gfI_st, gfL_st, gfR_st, gfN_st, pfI_st, pfL_st, pfR_st, pfZ_st0, pfZ_st1, ldI_st, ldL_st, stoI_st, stoL_st, aln_st, cpA_st, bq_st, bq_S, oI_s, oL_s, oD_s, oV_s, oR_s, oR_n, oI_e, oL_e, oD_e, Option.bind_some, fa_lit, fa_litL, nI_add, pk_mul, nI_m1, nI_lt', nI_le', nI_eq', lc_ge, lc_le, lc_gt, lc_lt, lc_eq, isZ_0, isZ_1, bI_0, bI_z, decide_eq_true_eq, Bool.not_eq_true', Bool.not_true, Bool.not_false, decide_eq_false_iff_not, if_true, if_false, ite_true, ite_false, eq_self, not_true, not_false_eq_true, C_95, C_96, C_97, C_99, C_100, C_102, C_106, C_107, C_109, C_168, C_171, C_172, C_173, C_174, C_175, yu_ne, yu_eq, up_eq, up_ne, yur_ne, yur_eq, yu_uu, y1_eq, y1_ne, y1_y1, Nat.mul_zero, Nat.zero_mul, Nat.add_zero, Nat.zero_add, Nat.mul_one, Nat.one_mul, Nat.reduceEqDiff, Nat.reduceLT, Nat.reduceLeDiff, Nat.reduceAdd, Nat.reduceMul, decide_true, decide_false, cond_true, cond_false, reduceCtorEq, Bool.false_eq_true, Bool.true_eq_false, Bool.true_and, Bool.and_true, Bool.false_and, Bool.and_false]
    exact ⟨mBurn μ 6, _, l, r, _, _, _, main, WI_al P1 (Al_refl (sI (st (mBurn μ 6) f l r) 137 0 (nI 1))) (MR_137 hm) (by omega) (by omega)⟩
theorem mD_own {μ : mMu} {a j : Nat} {v : UInt64} : mD (sD μ a j v) a j = v := by
  show u2 (mD μ) a j v a j = v
  rw [yu_eq, up_eq]
theorem sD_S {μ : mMu} {a j : Nat} {v : UInt64} : mS (sD μ a j v) = mS μ := rfl
theorem cv_eq : Op.cmpValue (some Ordering.eq) .l = nI 0 := rfl
theorem ST_12 {μ : mMu} {f : Nat → Nat → Int32} {l : Nat → Nat → Int64} {r : Nat → Nat → Option Nat} {k i L : Nat} {xs : Nat → Int32} {o6 o7 o8 : Option Value} (h : WI k (L, xs) μ f r) (hi : i + 6 ≤ L) (hL : L ≤ 3072) : ∃ μ' f' l' r' p6 p7 p8, RUN 0 1079 [some (.retAddr 0), some (.ref 0), some (.ref 137), some (.ref 152), some (.ref 153), some (.int (nI i)), o6, o7, o8] [] (st μ f l r) = RUN 0 28 [some (.retAddr 0), some (.ref 0), some (.ref 137), some (.ref 152), some (.ref 153), some (.int (nI (i + 6))), p6, p7, p8] [] (st μ' f' l' r') ∧ WI (k + 1) (L, xs) μ' f' r' := by
  obtain ⟨⟨hs, hr, hN⟩, ⟨hX, hC, hZ⟩, σ, σk, c, S, hm, hA, hI, hK, hE⟩ := h
  have hc := hI.1
  have hs2 : Sh (mBurn μ 6) := hs
  have hN2 : 154 ≤ mN (mBurn μ 6) := hN
  have hX2 : mX (mBurn μ 6) = (L, xs) := hX
  have hIB : ∀ t, t < c 4 → IB (S 7 t) := fun t ht => mvb_IB hc.2.2.2.2.2.2.1 (hI.2.2.2.2.2.2.1 t ht).1
  have hIA : ∀ a, a < c 2 → IA (S 3 a) := hI.2.2.2.2.1
  have hcut : ∀ s i x y, s < c 0 → i < c 1 → plc x y = true → p_cut (S 1 s 0) (S 1 s 1) x y (S 2 i) = p_hid (S 1 s 0) (S 1 s 1) x y (S 2 i) := fun s i x y h1 h2 h3 => cut_hid (hI.2.2.1 s h1) h3 (hI.2.2.2.1 i h2)
  have h0a : (mS μ 0).1 = 8 := by rw [hs 0 (by decide)]; rfl
  have h137a : (mS μ 137).1 = 9 := by rw [hs 137 (by decide)]; rfl
  have h152a : (mS μ 152).1 = 21 := by rw [hs 152 (by decide)]; rfl
  have h152b : (mS μ 152).2 = 1 := by rw [hs 152 (by decide)]; rfl
  have h152 : mS μ 152 = (21, 1) := hs 152 (by decide)
  have h153 : mS μ 153 = (22, 1) := hs 153 (by decide)
  have lx : ∀ f l r j, j < L → ldX (st μ f l r) (nI j) = some (xs j) := fun f l r j hj => ldX_k hX hj hL
  have lb : ∀ f l r j, j < L → ldX (st (mBurn μ 6) f l r) (nI j) = some (xs j) := fun f l r j hj => ldX_k hX2 hj hL
  have P0 : PW (154 + 300 * k) (29390 + 6000 * k) (L, xs) σ c S μ f r := ⟨⟨hs, hr, hN⟩, ⟨hX, hC, hZ⟩, hA, hI, σk, hK, hE⟩
  have P1 : PW (154 + 300 * k + 1) (29390 + 6000 * k + 6) (L, xs) σ c S (mBurn μ 6) f r := ⟨⟨hs2, hr, hN2⟩, ⟨hX2, Nat.add_le_add_right hC 1, Nat.add_le_add_right hZ 6⟩, hA, hI, σk, hK, KEPT_k hE (Nat.le_refl _) rfl (fun _ _ _ => rfl) (fun _ _ _ => ⟨rfl, rfl, rfl⟩) rfl rfl⟩
  have h153a : (mS μ 153).1 = 22 := by rw [hs 153 (by decide)]; rfl
  have h153b : (mS μ 153).2 = 1 := by rw [hs 153 (by decide)]; rfl
  have ec := C_87 hs hr (l := l) hA hc (fun t _ => spd_ok _) (a := xs (i + 1))
  cases p1 : pfnd c S (xs (i + 1)) with
  | none =>
    have eb := C_156 hs2 hr (l := l) hm hc (nm := xs (i + 1)) (fun t _ => spd_ok _)
    rw [p1] at ec eb
    have w := W188_2 hs hr ec
    have main : RUN 0 1079 [some (.retAddr 0), some (.ref 0), some (.ref 137), some (.ref 152), some (.ref 153), some (.int (nI i)), o6, o7, o8] [] (st μ f l r) = RUN 0 28 [some (.retAddr 0), some (.ref 0), some (.ref 137), some (.ref 152), some (.ref 153), some (.int (nI (i + 6))), some (.int (nI 1)), some (.double FP.dconst0), none] [] (st (mBurn μ 6) (u2 f 137 0 (nI 1)) l r) := by
      rw [B_0_1079]
      simp (disch := omega) only [st_I, st_L, st_R, st_S, st_N, st_C, st_Z, st_X, st_D, st_st, st_sI, st_sIr, st_sL, st_sR, gfI_st, gfL_st, gfR_st, gfN_st, pfI_st, pfL_st, pfR_st, pfZ_st0, pfZ_st1, ldI_st, ldL_st, stoI_st, stoL_st, aln_st, cpA_st, bq_st, bq_S, oI_s, oL_s, oD_s, oV_s, oR_s, oR_n, oI_e, oL_e, oD_e, Option.bind_some, fa_lit, fa_litL, nI_add, pk_mul, nI_m1, nI_lt', nI_le', nI_eq', lc_ge, lc_le, lc_gt, lc_lt, lc_eq, isZ_0, isZ_1, bI_0, bI_z, decide_eq_true_eq, Bool.not_eq_true', Bool.not_true, Bool.not_false, decide_eq_false_iff_not, if_true, if_false, ite_true, ite_false, eq_self, not_true, not_false_eq_true, C_95, C_96, C_97, C_99, C_100, C_102, C_106, C_107, C_109, C_168, C_171, C_172, C_173, C_174, C_175, yu_ne, yu_eq, up_eq, up_ne, yur_ne, yur_eq, yu_uu, y1_eq, y1_ne, y1_y1, Nat.mul_zero, Nat.zero_mul, Nat.add_zero, Nat.zero_add, Nat.mul_one, Nat.one_mul, Nat.reduceEqDiff, Nat.reduceLT, Nat.reduceLeDiff, Nat.reduceAdd, Nat.reduceMul, decide_true, decide_false, cond_true, cond_false, reduceCtorEq, Bool.false_eq_true, Bool.true_eq_false, Bool.true_and, Bool.and_true, Bool.false_and, Bool.and_false, lx, lb, w, burn_st, burn_S, eb, C_104 hs2 hr]
      rw [B_0_1153, B_0_1474]
      simp (disch := omega) only [st_I, st_L, st_R, st_S, st_N, st_C, st_Z, st_X, st_D, st_st, st_sI, st_sIr, st_sL, st_sR, gfI_st, gfL_st, gfR_st, gfN_st, pfI_st, pfL_st, pfR_st, pfZ_st0, pfZ_st1, ldI_st, ldL_st, stoI_st, stoL_st, aln_st, cpA_st, bq_st, bq_S, oI_s, oL_s, oD_s, oV_s, oR_s, oR_n, oI_e, oL_e, oD_e, Option.bind_some, fa_lit, fa_litL, nI_add, pk_mul, nI_m1, nI_lt', nI_le', nI_eq', lc_ge, lc_le, lc_gt, lc_lt, lc_eq, isZ_0, isZ_1, bI_0, bI_z, decide_eq_true_eq, Bool.not_eq_true', Bool.not_true, Bool.not_false, decide_eq_false_iff_not, if_true, if_false, ite_true, ite_false, eq_self, not_true, not_false_eq_true, C_95, C_96, C_97, C_99, C_100, C_102, C_106, C_107, C_109, C_168, C_171, C_172, C_173, C_174, C_175, yu_ne, yu_eq, up_eq, up_ne, yur_ne, yur_eq, yu_uu, y1_eq, y1_ne, y1_y1, Nat.mul_zero, Nat.zero_mul, Nat.add_zero, Nat.zero_add, Nat.mul_one, Nat.one_mul, Nat.reduceEqDiff, Nat.reduceLT, Nat.reduceLeDiff, Nat.reduceAdd, Nat.reduceMul, decide_true, decide_false, cond_true, cond_false, reduceCtorEq, Bool.false_eq_true, Bool.true_eq_false, Bool.true_and, Bool.and_true, Bool.false_and, Bool.and_false]
    exact ⟨mBurn μ 6, _, l, r, _, _, _, main, WI_al P1 (Al_refl (sI (st (mBurn μ 6) f l r) 137 0 (nI 1))) (MR_137 hm) (by omega) (by omega)⟩
  | some t =>
    rw [p1] at ec
    have w := W188_ok hs hr h153 ec
    have hs3 : Sh (sD μ 153 0 (pspd (S 7 t))) := hs
    have hX3 : mX (sD μ 153 0 (pspd (S 7 t))) = (L, xs) := hX
    have ld : ∀ f l r j, j < L → ldX (st (sD μ 153 0 (pspd (S 7 t))) f l r) (nI j) = some (xs j) := fun f l r j hj => ldX_k hX3 hj hL
    have e2 := C_156 hs3 hr (l := l) hm hc (nm := xs (i + 1)) (fun t _ => spd_ok _)
    rw [p1] at e2
    have l3 : ∀ f l r, ldD (st (sD μ 153 0 (pspd (S 7 t))) f l r) 153 (nI 0) = some (pspd (S 7 t)) := fun f l r => by
      rw [ldD_st (by rw [sD_S]; exact h153a) (by rw [sD_S]; exact h153b), mD_own]
    have cq : Op.cmpValue (FP.dcmp (pspd (S 7 t)) (pspd (S 7 t))) .l = nI 0 := by rw [spd_cmp]; rfl
    have P3 : PW (154 + 300 * k) (29390 + 6000 * k) (L, xs) σ c S (sD μ 153 0 (pspd (S 7 t))) f r := P0
    have main : RUN 0 1079 [some (.retAddr 0), some (.ref 0), some (.ref 137), some (.ref 152), some (.ref 153), some (.int (nI i)), o6, o7, o8] [] (st μ f l r) = RUN 0 28 [some (.retAddr 0), some (.ref 0), some (.ref 137), some (.ref 152), some (.ref 153), some (.int (nI (i + 6))), some (.int (nI 0)), some (.double (pspd (S 7 t))), none] [] (st (sD μ 153 0 (pspd (S 7 t))) (u2 f 137 0 (nI 0)) l r) := by
      rw [B_0_1079]
      simp (disch := omega) only [st_I, st_L, st_R, st_S, st_N, st_C, st_Z, st_X, st_D, st_st, st_sI, st_sIr, st_sL, st_sR, gfI_st, gfL_st, gfR_st, gfN_st, pfI_st, pfL_st, pfR_st, pfZ_st0, pfZ_st1, ldI_st, ldL_st, stoI_st, stoL_st, aln_st, cpA_st, bq_st, bq_S, oI_s, oL_s, oD_s, oV_s, oR_s, oR_n, oI_e, oL_e, oD_e, Option.bind_some, fa_lit, fa_litL, nI_add, pk_mul, nI_m1, nI_lt', nI_le', nI_eq', lc_ge, lc_le, lc_gt, lc_lt, lc_eq, isZ_0, isZ_1, bI_0, bI_z, decide_eq_true_eq, Bool.not_eq_true', Bool.not_true, Bool.not_false, decide_eq_false_iff_not, if_true, if_false, ite_true, ite_false, eq_self, not_true, not_false_eq_true, C_95, C_96, C_97, C_99, C_100, C_102, C_106, C_107, C_109, C_168, C_171, C_172, C_173, C_174, C_175, yu_ne, yu_eq, up_eq, up_ne, yur_ne, yur_eq, yu_uu, y1_eq, y1_ne, y1_y1, Nat.mul_zero, Nat.zero_mul, Nat.add_zero, Nat.zero_add, Nat.mul_one, Nat.one_mul, Nat.reduceEqDiff, Nat.reduceLT, Nat.reduceLeDiff, Nat.reduceAdd, Nat.reduceMul, decide_true, decide_false, cond_true, cond_false, reduceCtorEq, Bool.false_eq_true, Bool.true_eq_false, Bool.true_and, Bool.and_true, Bool.false_and, Bool.and_false, lx, ld, w, sD_S, e2, C_104 hs3 hr, l3, cq]
      rw [B_0_1153, B_0_1474]
      simp (disch := omega) only [st_I, st_L, st_R, st_S, st_N, st_C, st_Z, st_X, st_D, st_st, st_sI, st_sIr, st_sL, st_sR, gfI_st, gfL_st, gfR_st, gfN_st, pfI_st, pfL_st, pfR_st, pfZ_st0, pfZ_st1, ldI_st, ldL_st, stoI_st, stoL_st, aln_st, cpA_st, bq_st, bq_S, oI_s, oL_s, oD_s, oV_s, oR_s, oR_n, oI_e, oL_e, oD_e, Option.bind_some, fa_lit, fa_litL, nI_add, pk_mul, nI_m1, nI_lt', nI_le', nI_eq', lc_ge, lc_le, lc_gt, lc_lt, lc_eq, isZ_0, isZ_1, bI_0, bI_z, decide_eq_true_eq, Bool.not_eq_true', Bool.not_true, Bool.not_false, decide_eq_false_iff_not, if_true, if_false, ite_true, ite_false, eq_self, not_true, not_false_eq_true, C_95, C_96, C_97, C_99, C_100, C_102, C_106, C_107, C_109, C_168, C_171, C_172, C_173, C_174, C_175, yu_ne, yu_eq, up_eq, up_ne, yur_ne, yur_eq, yu_uu, y1_eq, y1_ne, y1_y1, Nat.mul_zero, Nat.zero_mul, Nat.add_zero, Nat.zero_add, Nat.mul_one, Nat.one_mul, Nat.reduceEqDiff, Nat.reduceLT, Nat.reduceLeDiff, Nat.reduceAdd, Nat.reduceMul, decide_true, decide_false, cond_true, cond_false, reduceCtorEq, Bool.false_eq_true, Bool.true_eq_false, Bool.true_and, Bool.and_true, Bool.false_and, Bool.and_false]
    exact ⟨sD μ 153 0 (pspd (S 7 t)), _, l, r, _, _, _, main, WI_al P3 (Al_refl (sI (st (sD μ 153 0 (pspd (S 7 t))) f l r) 137 0 (nI 0))) (MR_137 hm) (by omega) (by omega)⟩
theorem okSw_of {c : Nat → Nat} {S : Nat → Nat → Nat → Int32} (h : INV c S) {dt : Int32} (hw : wi dt (nI 1) (nI 60) = true) (h6 : c 6 ≠ 500) : okSw dt c S := by
  obtain ⟨n, n1, n2, rfl⟩ := wi_pos (by decide) hw
  have c6 := h.1.2.2.2.2.2.2.1
  obtain ⟨⟨x1, x2, x3⟩, -, -, -, -, x8, -⟩ := sw_facts (dt := n) h n2 (by omega) rfl rfl rfl rfl rfl rfl
  unfold okSw c1'
  rw [ix_nI (by omega)]
  exact ⟨x1, x2, x3, fun k hk => (h.2.2.2.2.2.1 k hk).1, x8⟩
theorem ST_7 {μ : mMu} {f : Nat → Nat → Int32} {l : Nat → Nat → Int64} {r : Nat → Nat → Option Nat} {k i L : Nat} {xs : Nat → Int32} {o6 o7 o8 : Option Value} (h : WI k (L, xs) μ f r) (hi : i + 6 ≤ L) (hL : L ≤ 3072) : ∃ μ' f' l' r' p6 p7 p8, RUN 0 747 [some (.retAddr 0), some (.ref 0), some (.ref 137), some (.ref 152), some (.ref 153), some (.int (nI i)), o6, o7, o8] [] (st μ f l r) = RUN 0 28 [some (.retAddr 0), some (.ref 0), some (.ref 137), some (.ref 152), some (.ref 153), some (.int (nI (i + 6))), p6, p7, p8] [] (st μ' f' l' r') ∧ WI (k + 1) (L, xs) μ' f' r' := by
  obtain ⟨⟨hs, hr, hN⟩, ⟨hX, hC, hZ⟩, σ, σk, c, S, hm, hA, hI, hK, hE⟩ := h
  have hc := hI.1
  have hs2 : Sh (mBurn μ 6) := hs
  have hN2 : 154 ≤ mN (mBurn μ 6) := hN
  have hX2 : mX (mBurn μ 6) = (L, xs) := hX
  have hIB : ∀ t, t < c 4 → IB (S 7 t) := fun t ht => mvb_IB hc.2.2.2.2.2.2.1 (hI.2.2.2.2.2.2.1 t ht).1
  have hIA : ∀ a, a < c 2 → IA (S 3 a) := hI.2.2.2.2.1
  have hcut : ∀ s i x y, s < c 0 → i < c 1 → plc x y = true → p_cut (S 1 s 0) (S 1 s 1) x y (S 2 i) = p_hid (S 1 s 0) (S 1 s 1) x y (S 2 i) := fun s i x y h1 h2 h3 => cut_hid (hI.2.2.1 s h1) h3 (hI.2.2.2.1 i h2)
  have h0a : (mS μ 0).1 = 8 := by rw [hs 0 (by decide)]; rfl
  have h137a : (mS μ 137).1 = 9 := by rw [hs 137 (by decide)]; rfl
  have h152a : (mS μ 152).1 = 21 := by rw [hs 152 (by decide)]; rfl
  have h152b : (mS μ 152).2 = 1 := by rw [hs 152 (by decide)]; rfl
  have h152 : mS μ 152 = (21, 1) := hs 152 (by decide)
  have h153 : mS μ 153 = (22, 1) := hs 153 (by decide)
  have lx : ∀ f l r j, j < L → ldX (st μ f l r) (nI j) = some (xs j) := fun f l r j hj => ldX_k hX hj hL
  have lb : ∀ f l r j, j < L → ldX (st (mBurn μ 6) f l r) (nI j) = some (xs j) := fun f l r j hj => ldX_k hX2 hj hL
  have P0 : PW (154 + 300 * k) (29390 + 6000 * k) (L, xs) σ c S μ f r := ⟨⟨hs, hr, hN⟩, ⟨hX, hC, hZ⟩, hA, hI, σk, hK, hE⟩
  have P1 : PW (154 + 300 * k + 1) (29390 + 6000 * k + 6) (L, xs) σ c S (mBurn μ 6) f r := ⟨⟨hs2, hr, hN2⟩, ⟨hX2, Nat.add_le_add_right hC 1, Nat.add_le_add_right hZ 6⟩, hA, hI, σk, hK, KEPT_k hE (Nat.le_refl _) rfl (fun _ _ _ => rfl) (fun _ _ _ => ⟨rfl, rfl, rfl⟩) rfl rfl⟩
  have hok := okSw_of hI (dt := xs (i + 1))
  rcases C_82 hs hr (l := l) hA hI (dt := xs (i + 1)) with ⟨t0, hI2, f1, l1, r1, σ1, e1, g1, g2, g3, g4, g5⟩ | ⟨t1, e1⟩ | ⟨t2, e1⟩
  · have w := W183_ok hs hr h152 e1
    have hm1 : MR f1 c S := MR_congr hm (fun a _ _ => g1 a (by omega) (by omega))
    obtain ⟨μ', f', l', r', e2, th, hal, hm2⟩ := C_147 hs g4 (f := f1) (l := u2 l1 152 0 (s_sweep (xs (i + 1)) c S).1.toInt64) hm1 hc hN (dt := xs (i + 1)) hok
    rw [t0] at th hal
    obtain ⟨sa, sb, sc, hs', hr', sd⟩ := out_k hs g4 hN hal
    have v152 : l' 152 0 = (s_sweep (xs (i + 1)) c S).1.toInt64 := by rw [sc, yu_eq, up_eq]
    have P3 : PW (154 + 300 * k) (29390 + 6000 * k) (L, xs) σ1 (s_sweep (xs (i + 1)) c S).2.2.1 (s_sweep (xs (i + 1)) c S).2.2.2 μ f1 r1 := ⟨⟨hs, g4, hN⟩, ⟨hX, hC, hZ⟩, g5, hI2, σk, KC_k hK (fun a _ _ => g1 a (by omega) (by omega)) (g3 102 (by decide)), KEPT_k hE (Nat.le_refl _) (g1 0 (by omega) (by omega)) (fun a _ _ => g1 a (by omega) (by omega)) (fun a _ _ => ⟨g1 a (by omega) (by omega), g3 a (by omega), rfl⟩) (g3 102 (by decide)) (by rw [g3 137 (by decide)])⟩
    have main : RUN 0 747 [some (.retAddr 0), some (.ref 0), some (.ref 137), some (.ref 152), some (.ref 153), some (.int (nI i)), o6, o7, o8] [] (st μ f l r) = RUN 0 28 [some (.retAddr 0), some (.ref 0), some (.ref 137), some (.ref 152), some (.ref 153), some (.int (nI (i + 6))), some (.int (nI 0)), some (.int (s_sweep (xs (i + 1)) c S).1), o8] [] (st μ' f' l' r') := by
      rw [B_0_747]
      simp (disch := omega) only [st_I, st_L, st_R, st_S, st_N, st_C, st_Z, st_X, st_D, st_st, st_sI, st_sIr, st_sL, st_sR, gfI_st, gfL_st, gfR_st, gfN_st, pfI_st, pfL_st, pfR_st, pfZ_st0, pfZ_st1, ldI_st, ldL_st, stoI_st, stoL_st, aln_st, cpA_st, bq_st, bq_S, oI_s, oL_s, oD_s, oV_s, oR_s, oR_n, oI_e, oL_e, oD_e, Option.bind_some, fa_lit, fa_litL, nI_add, pk_mul, nI_m1, nI_lt', nI_le', nI_eq', lc_ge, lc_le, lc_gt, lc_lt, lc_eq, isZ_0, isZ_1, bI_0, bI_z, decide_eq_true_eq, Bool.not_eq_true', Bool.not_true, Bool.not_false, decide_eq_false_iff_not, if_true, if_false, ite_true, ite_false, eq_self, not_true, not_false_eq_true, C_95, C_96, C_97, C_99, C_100, C_102, C_106, C_107, C_109, C_168, C_171, C_172, C_173, C_174, C_175, yu_ne, yu_eq, up_eq, up_ne, yur_ne, yur_eq, yu_uu, y1_eq, y1_ne, y1_y1, Nat.mul_zero, Nat.zero_mul, Nat.add_zero, Nat.zero_add, Nat.mul_one, Nat.one_mul, Nat.reduceEqDiff, Nat.reduceLT, Nat.reduceLeDiff, Nat.reduceAdd, Nat.reduceMul, decide_true, decide_false, cond_true, cond_false, reduceCtorEq, Bool.false_eq_true, Bool.true_eq_false, Bool.true_and, Bool.and_true, Bool.false_and, Bool.and_false, lx, w, e2, C_104 hs' hr', th, sa, sb, sd, v152, beq_rf]
      rw [B_0_800, B_0_1474]
      simp (disch := omega) only [st_I, st_L, st_R, st_S, st_N, st_C, st_Z, st_X, st_D, st_st, st_sI, st_sIr, st_sL, st_sR, gfI_st, gfL_st, gfR_st, gfN_st, pfI_st, pfL_st, pfR_st, pfZ_st0, pfZ_st1, ldI_st, ldL_st, stoI_st, stoL_st, aln_st, cpA_st, bq_st, bq_S, oI_s, oL_s, oD_s, oV_s, oR_s, oR_n, oI_e, oL_e, oD_e, Option.bind_some, fa_lit, fa_litL, nI_add, pk_mul, nI_m1, nI_lt', nI_le', nI_eq', lc_ge, lc_le, lc_gt, lc_lt, lc_eq, isZ_0, isZ_1, bI_0, bI_z, decide_eq_true_eq, Bool.not_eq_true', Bool.not_true, Bool.not_false, decide_eq_false_iff_not, if_true, if_false, ite_true, ite_false, eq_self, not_true, not_false_eq_true, C_95, C_96, C_97, C_99, C_100, C_102, C_106, C_107, C_109, C_168, C_171, C_172, C_173, C_174, C_175, yu_ne, yu_eq, up_eq, up_ne, yur_ne, yur_eq, yu_uu, y1_eq, y1_ne, y1_y1, Nat.mul_zero, Nat.zero_mul, Nat.add_zero, Nat.zero_add, Nat.mul_one, Nat.one_mul, Nat.reduceEqDiff, Nat.reduceLT, Nat.reduceLeDiff, Nat.reduceAdd, Nat.reduceMul, decide_true, decide_false, cond_true, cond_false, reduceCtorEq, Bool.false_eq_true, Bool.true_eq_false, Bool.true_and, Bool.and_true, Bool.false_and, Bool.and_false]
    exact ⟨_, _, _, _, _, _, _, main, WI_al P3 hal hm2 (by omega) (by omega)⟩
  · have w := W183_0 hs hr e1
    obtain ⟨μ', f', l', r', e2, tt, hal, hm2⟩ := C_147 hs2 hr (f := f) (l := l) hm hc hN2 (dt := xs (i + 1)) hok
    rw [t1] at tt hal hm2
    simp only at tt hal hm2
    obtain ⟨sa, sb, sc, hs', hr', sd⟩ := out_k hs2 hr hN2 hal
    have main : RUN 0 747 [some (.retAddr 0), some (.ref 0), some (.ref 137), some (.ref 152), some (.ref 153), some (.int (nI i)), o6, o7, o8] [] (st μ f l r) = RUN 0 28 [some (.retAddr 0), some (.ref 0), some (.ref 137), some (.ref 152), some (.ref 153), some (.int (nI (i + 6))), some (.int (nI 1)), some (.int (s_sweep (xs (i + 1)) c S).1), o8] [] (st μ' f' l' r') := by
      rw [B_0_747]
      simp (disch := omega) only [st_I, st_L, st_R, st_S, st_N, st_C, st_Z, st_X, st_D, st_st, st_sI, st_sIr, st_sL, st_sR, gfI_st, gfL_st, gfR_st, gfN_st, pfI_st, pfL_st, pfR_st, pfZ_st0, pfZ_st1, ldI_st, ldL_st, stoI_st, stoL_st, aln_st, cpA_st, bq_st, bq_S, oI_s, oL_s, oD_s, oV_s, oR_s, oR_n, oI_e, oL_e, oD_e, Option.bind_some, fa_lit, fa_litL, nI_add, pk_mul, nI_m1, nI_lt', nI_le', nI_eq', lc_ge, lc_le, lc_gt, lc_lt, lc_eq, isZ_0, isZ_1, bI_0, bI_z, decide_eq_true_eq, Bool.not_eq_true', Bool.not_true, Bool.not_false, decide_eq_false_iff_not, if_true, if_false, ite_true, ite_false, eq_self, not_true, not_false_eq_true, C_95, C_96, C_97, C_99, C_100, C_102, C_106, C_107, C_109, C_168, C_171, C_172, C_173, C_174, C_175, yu_ne, yu_eq, up_eq, up_ne, yur_ne, yur_eq, yu_uu, y1_eq, y1_ne, y1_y1, Nat.mul_zero, Nat.zero_mul, Nat.add_zero, Nat.zero_add, Nat.mul_one, Nat.one_mul, Nat.reduceEqDiff, Nat.reduceLT, Nat.reduceLeDiff, Nat.reduceAdd, Nat.reduceMul, decide_true, decide_false, cond_true, cond_false, reduceCtorEq, Bool.false_eq_true, Bool.true_eq_false, Bool.true_and, Bool.and_true, Bool.false_and, Bool.and_false, lx, lb, w, burn_st, burn_S, e2, C_104 hs' hr', tt, sa, sb, sd, beq_rf]
      rw [B_0_800, B_0_1474]
      simp (disch := omega) only [st_I, st_L, st_R, st_S, st_N, st_C, st_Z, st_X, st_D, st_st, st_sI, st_sIr, st_sL, st_sR, gfI_st, gfL_st, gfR_st, gfN_st, pfI_st, pfL_st, pfR_st, pfZ_st0, pfZ_st1, ldI_st, ldL_st, stoI_st, stoL_st, aln_st, cpA_st, bq_st, bq_S, oI_s, oL_s, oD_s, oV_s, oR_s, oR_n, oI_e, oL_e, oD_e, Option.bind_some, fa_lit, fa_litL, nI_add, pk_mul, nI_m1, nI_lt', nI_le', nI_eq', lc_ge, lc_le, lc_gt, lc_lt, lc_eq, isZ_0, isZ_1, bI_0, bI_z, decide_eq_true_eq, Bool.not_eq_true', Bool.not_true, Bool.not_false, decide_eq_false_iff_not, if_true, if_false, ite_true, ite_false, eq_self, not_true, not_false_eq_true, C_95, C_96, C_97, C_99, C_100, C_102, C_106, C_107, C_109, C_168, C_171, C_172, C_173, C_174, C_175, yu_ne, yu_eq, up_eq, up_ne, yur_ne, yur_eq, yu_uu, y1_eq, y1_ne, y1_y1, Nat.mul_zero, Nat.zero_mul, Nat.add_zero, Nat.zero_add, Nat.mul_one, Nat.one_mul, Nat.reduceEqDiff, Nat.reduceLT, Nat.reduceLeDiff, Nat.reduceAdd, Nat.reduceMul, decide_true, decide_false, cond_true, cond_false, reduceCtorEq, Bool.false_eq_true, Bool.true_eq_false, Bool.true_and, Bool.and_true, Bool.false_and, Bool.and_false]
    exact ⟨_, _, _, _, _, _, _, main, WI_al P1 hal hm2 (by omega) (by omega)⟩
  · have w := W183_1 hs hr e1
    obtain ⟨μ', f', l', r', e2, tt, hal, hm2⟩ := C_147 hs2 hr (f := f) (l := l) hm hc hN2 (dt := xs (i + 1)) hok
    rw [t2] at tt hal hm2
    simp only at tt hal hm2
    obtain ⟨sa, sb, sc, hs', hr', sd⟩ := out_k hs2 hr hN2 hal
    have main : RUN 0 747 [some (.retAddr 0), some (.ref 0), some (.ref 137), some (.ref 152), some (.ref 153), some (.int (nI i)), o6, o7, o8] [] (st μ f l r) = RUN 0 28 [some (.retAddr 0), some (.ref 0), some (.ref 137), some (.ref 152), some (.ref 153), some (.int (nI (i + 6))), some (.int (nI 2)), some (.int (s_sweep (xs (i + 1)) c S).1), o8] [] (st μ' f' l' r') := by
      rw [B_0_747]
      simp (disch := omega) only [st_I, st_L, st_R, st_S, st_N, st_C, st_Z, st_X, st_D, st_st, st_sI, st_sIr, st_sL, st_sR, gfI_st, gfL_st, gfR_st, gfN_st, pfI_st, pfL_st, pfR_st, pfZ_st0, pfZ_st1, ldI_st, ldL_st, stoI_st, stoL_st, aln_st, cpA_st, bq_st, bq_S, oI_s, oL_s, oD_s, oV_s, oR_s, oR_n, oI_e, oL_e, oD_e, Option.bind_some, fa_lit, fa_litL, nI_add, pk_mul, nI_m1, nI_lt', nI_le', nI_eq', lc_ge, lc_le, lc_gt, lc_lt, lc_eq, isZ_0, isZ_1, bI_0, bI_z, decide_eq_true_eq, Bool.not_eq_true', Bool.not_true, Bool.not_false, decide_eq_false_iff_not, if_true, if_false, ite_true, ite_false, eq_self, not_true, not_false_eq_true, C_95, C_96, C_97, C_99, C_100, C_102, C_106, C_107, C_109, C_168, C_171, C_172, C_173, C_174, C_175, yu_ne, yu_eq, up_eq, up_ne, yur_ne, yur_eq, yu_uu, y1_eq, y1_ne, y1_y1, Nat.mul_zero, Nat.zero_mul, Nat.add_zero, Nat.zero_add, Nat.mul_one, Nat.one_mul, Nat.reduceEqDiff, Nat.reduceLT, Nat.reduceLeDiff, Nat.reduceAdd, Nat.reduceMul, decide_true, decide_false, cond_true, cond_false, reduceCtorEq, Bool.false_eq_true, Bool.true_eq_false, Bool.true_and, Bool.and_true, Bool.false_and, Bool.and_false, lx, lb, w, burn_st, burn_S, e2, C_104 hs' hr', tt, sa, sb, sd, beq_rf]
      rw [B_0_800, B_0_1474]
      simp (disch := omega) only [st_I, st_L, st_R, st_S, st_N, st_C, st_Z, st_X, st_D, st_st, st_sI, st_sIr, st_sL, st_sR, gfI_st, gfL_st, gfR_st, gfN_st, pfI_st, pfL_st, pfR_st, pfZ_st0, pfZ_st1, ldI_st, ldL_st, stoI_st, stoL_st, aln_st, cpA_st, bq_st, bq_S, oI_s, oL_s, oD_s, oV_s, oR_s, oR_n, oI_e, oL_e, oD_e, Option.bind_some, fa_lit, fa_litL, nI_add, pk_mul, nI_m1, nI_lt', nI_le', nI_eq', lc_ge, lc_le, lc_gt, lc_lt, lc_eq, isZ_0, isZ_1, bI_0, bI_z, decide_eq_true_eq, Bool.not_eq_true', Bool.not_true, Bool.not_false, decide_eq_false_iff_not, if_true, if_false, ite_true, ite_false, eq_self, not_true, not_false_eq_true, C_95, C_96, C_97, C_99, C_100, C_102, C_106, C_107, C_109, C_168, C_171, C_172, C_173, C_174, C_175, yu_ne, yu_eq, up_eq, up_ne, yur_ne, yur_eq, yu_uu, y1_eq, y1_ne, y1_y1, Nat.mul_zero, Nat.zero_mul, Nat.add_zero, Nat.zero_add, Nat.mul_one, Nat.one_mul, Nat.reduceEqDiff, Nat.reduceLT, Nat.reduceLeDiff, Nat.reduceAdd, Nat.reduceMul, decide_true, decide_false, cond_true, cond_false, reduceCtorEq, Bool.false_eq_true, Bool.true_eq_false, Bool.true_and, Bool.and_true, Bool.false_and, Bool.and_false]
    exact ⟨_, _, _, _, _, _, _, main, WI_al P1 hal hm2 (by omega) (by omega)⟩
theorem z_mkC {a b k : Nat} (h1 : b ≤ a + 11) (h2 : a ≤ 154 + 300 * k) : b ≤ 154 + 300 * (k + 1) := by omega
theorem z_mkZ {a b k : Nat} (h1 : b ≤ a + 4810) (h2 : a ≤ 29390 + 6000 * k) : b ≤ 29390 + 6000 * (k + 1) := by
  have e : 29390 + 6000 * (k + 1) = (29390 + 6000 * k) + 6000 := by rw [Nat.mul_add, Nat.mul_one, Nat.add_assoc]
  rw [e]
  exact Nat.le_trans h1 (Nat.add_le_add h2 (by decide))
theorem ST_17 {μ : mMu} {f : Nat → Nat → Int32} {l : Nat → Nat → Int64} {r : Nat → Nat → Option Nat} {k i L : Nat} {xs : Nat → Int32} {o6 o7 o8 : Option Value} (h : WI k (L, xs) μ f r) (hi : i + 6 ≤ L) (hL : L ≤ 3072) : ∃ μ' f' l' r' p6 p7 p8, RUN 0 1403 [some (.retAddr 0), some (.ref 0), some (.ref 137), some (.ref 152), some (.ref 153), some (.int (nI i)), o6, o7, o8] [] (st μ f l r) = RUN 0 28 [some (.retAddr 0), some (.ref 0), some (.ref 137), some (.ref 152), some (.ref 153), some (.int (nI (i + 6))), p6, p7, p8] [] (st μ' f' l' r') ∧ WI (k + 1) (L, xs) μ' f' r' := by
  obtain ⟨⟨hs, hr, hN⟩, ⟨hX, hC, hZ⟩, σ, σk, c, S, hm, hA, hI, hK, hE⟩ := h
  have hc := hI.1
  have hs2 : Sh (mBurn μ 6) := hs
  have hN2 : 154 ≤ mN (mBurn μ 6) := hN
  have hX2 : mX (mBurn μ 6) = (L, xs) := hX
  have hIB : ∀ t, t < c 4 → IB (S 7 t) := fun t ht => mvb_IB hc.2.2.2.2.2.2.1 (hI.2.2.2.2.2.2.1 t ht).1
  have hIA : ∀ a, a < c 2 → IA (S 3 a) := hI.2.2.2.2.1
  have hcut : ∀ s i x y, s < c 0 → i < c 1 → plc x y = true → p_cut (S 1 s 0) (S 1 s 1) x y (S 2 i) = p_hid (S 1 s 0) (S 1 s 1) x y (S 2 i) := fun s i x y h1 h2 h3 => cut_hid (hI.2.2.1 s h1) h3 (hI.2.2.2.1 i h2)
  have h0a : (mS μ 0).1 = 8 := by rw [hs 0 (by decide)]; rfl
  have h137a : (mS μ 137).1 = 9 := by rw [hs 137 (by decide)]; rfl
  have h152a : (mS μ 152).1 = 21 := by rw [hs 152 (by decide)]; rfl
  have h152b : (mS μ 152).2 = 1 := by rw [hs 152 (by decide)]; rfl
  have h152 : mS μ 152 = (21, 1) := hs 152 (by decide)
  have h153 : mS μ 153 = (22, 1) := hs 153 (by decide)
  have lx : ∀ f l r j, j < L → ldX (st μ f l r) (nI j) = some (xs j) := fun f l r j hj => ldX_k hX hj hL
  have lb : ∀ f l r j, j < L → ldX (st (mBurn μ 6) f l r) (nI j) = some (xs j) := fun f l r j hj => ldX_k hX2 hj hL
  have P0 : PW (154 + 300 * k) (29390 + 6000 * k) (L, xs) σ c S μ f r := ⟨⟨hs, hr, hN⟩, ⟨hX, hC, hZ⟩, hA, hI, σk, hK, hE⟩
  have P1 : PW (154 + 300 * k + 1) (29390 + 6000 * k + 6) (L, xs) σ c S (mBurn μ 6) f r := ⟨⟨hs2, hr, hN2⟩, ⟨hX2, Nat.add_le_add_right hC 1, Nat.add_le_add_right hZ 6⟩, hA, hI, σk, hK, KEPT_k hE (Nat.le_refl _) rfl (fun _ _ _ => rfl) (fun _ _ _ => ⟨rfl, rfl, rfl⟩) rfl rfl⟩
  obtain ⟨f1, e1, g1, g2, g3, g4, g5⟩ := C_92 hs hr (l := l) hA hc hK
  have hm1 : MR f1 c S := MR_congr hm (fun a _ _ => g1 a (by omega))
  have hk : r 137 12 = none ∨ ∃ kb, KS μ r kb := by
    rcases hE with ⟨-, h⟩ | ⟨-, kb, c', S', h, -⟩
    · exact Or.inl h
    · exact Or.inr ⟨kb, h⟩
  obtain ⟨μ', f', l', r', kb, e2, s', r'', n', ks, m1, m2, fr⟩ := C_164 hs hr (f := f1) (l := l) hm1 hc hN hk
  obtain ⟨fr1, fr2, fr3, fr4, fr5, fr6⟩ := fr
  have fe : ∀ a, a < 137 → f' a = f1 a ∧ r' a = r a := fun a ha => ⟨(fr3 a (Or.inl ha)).1, (fr3 a (Or.inl ha)).2.2⟩
  have sd : (mS μ' 137).1 = 9 := by rw [s' 137 (by decide)]; rfl
  have hX' : mX μ' = (L, xs) := (show mX μ' = mX μ from fr6).trans hX
  have hC' : mC μ' ≤ mC μ + 11 := fr4
  have hZ' : mZ μ' ≤ mZ μ + 4810 := fr5
  have qC : mC μ' ≤ 154 + 300 * (k + 1) := by
    exact z_mkC hC' hC
  have qZ : mZ μ' ≤ 29390 + 6000 * (k + 1) := by
    exact z_mkZ hZ' hZ
  have main : RUN 0 1403 [some (.retAddr 0), some (.ref 0), some (.ref 137), some (.ref 152), some (.ref 153), some (.int (nI i)), o6, o7, o8] [] (st μ f l r) = RUN 0 28 [some (.retAddr 0), some (.ref 0), some (.ref 137), some (.ref 152), some (.ref 153), some (.int (nI (i + 6))), o6, o7, o8] [] (st μ' f' l' r') := by
    rw [B_0_1403]
    simp (disch := omega) only [st_I, st_L, st_R, st_S, st_N, st_C, st_Z, st_X, st_D, st_st, st_sI, st_sIr, st_sL, st_sR, gfI_st, gfL_st, gfR_st, gfN_st, pfI_st, pfL_st, pfR_st, pfZ_st0, pfZ_st1, ldI_st, ldL_st, stoI_st, stoL_st, aln_st, cpA_st, bq_st, bq_S, oI_s, oL_s, oD_s, oV_s, oR_s, oR_n, oI_e, oL_e, oD_e, Option.bind_some, fa_lit, fa_litL, nI_add, pk_mul, nI_m1, nI_lt', nI_le', nI_eq', lc_ge, lc_le, lc_gt, lc_lt, lc_eq, isZ_0, isZ_1, bI_0, bI_z, decide_eq_true_eq, Bool.not_eq_true', Bool.not_true, Bool.not_false, decide_eq_false_iff_not, if_true, if_false, ite_true, ite_false, eq_self, not_true, not_false_eq_true, C_95, C_96, C_97, C_99, C_100, C_102, C_106, C_107, C_109, C_168, C_171, C_172, C_173, C_174, C_175, yu_ne, yu_eq, up_eq, up_ne, yur_ne, yur_eq, yu_uu, y1_eq, y1_ne, y1_y1, Nat.mul_zero, Nat.zero_mul, Nat.add_zero, Nat.zero_add, Nat.mul_one, Nat.one_mul, Nat.reduceEqDiff, Nat.reduceLT, Nat.reduceLeDiff, Nat.reduceAdd, Nat.reduceMul, decide_true, decide_false, cond_true, cond_false, reduceCtorEq, Bool.false_eq_true, Bool.true_eq_false, Bool.true_and, Bool.and_true, Bool.false_and, Bool.and_false, e1, e2]
    rw [B_0_1474]
    simp (disch := omega) only [st_I, st_L, st_R, st_S, st_N, st_C, st_Z, st_X, st_D, st_st, st_sI, st_sIr, st_sL, st_sR, gfI_st, gfL_st, gfR_st, gfN_st, pfI_st, pfL_st, pfR_st, pfZ_st0, pfZ_st1, ldI_st, ldL_st, stoI_st, stoL_st, aln_st, cpA_st, bq_st, bq_S, oI_s, oL_s, oD_s, oV_s, oR_s, oR_n, oI_e, oL_e, oD_e, Option.bind_some, fa_lit, fa_litL, nI_add, pk_mul, nI_m1, nI_lt', nI_le', nI_eq', lc_ge, lc_le, lc_gt, lc_lt, lc_eq, isZ_0, isZ_1, bI_0, bI_z, decide_eq_true_eq, Bool.not_eq_true', Bool.not_true, Bool.not_false, decide_eq_false_iff_not, if_true, if_false, ite_true, ite_false, eq_self, not_true, not_false_eq_true, C_95, C_96, C_97, C_99, C_100, C_102, C_106, C_107, C_109, C_168, C_171, C_172, C_173, C_174, C_175, yu_ne, yu_eq, up_eq, up_ne, yur_ne, yur_eq, yu_uu, y1_eq, y1_ne, y1_y1, Nat.mul_zero, Nat.zero_mul, Nat.add_zero, Nat.zero_add, Nat.mul_one, Nat.one_mul, Nat.reduceEqDiff, Nat.reduceLT, Nat.reduceLeDiff, Nat.reduceAdd, Nat.reduceMul, decide_true, decide_false, cond_true, cond_false, reduceCtorEq, Bool.false_eq_true, Bool.true_eq_false, Bool.true_and, Bool.and_true, Bool.false_and, Bool.and_false]
  exact ⟨_, _, _, _, _, _, _, main, ⟨s', r'', n'⟩, ⟨hX', qC, qZ⟩, σ, σk, c, S, m1, CAll_k g3 hc (fun a _ _ => (fe a (by omega)).1) (fe 36 (by omega)).2, hI, KC_k g5 (fun a _ _ => (fe a (by omega)).1) (fe 102 (by omega)).2, Or.inr ⟨by rw [(fe 0 (by omega)).1]; exact g2, kb, c, S, ks, m2, CAll_k g4 hc (fun a _ _ => (fe a (by omega)).1) (fe 102 (by omega)).2, hI⟩⟩
theorem ST_18 {μ : mMu} {f : Nat → Nat → Int32} {l : Nat → Nat → Int64} {r : Nat → Nat → Option Nat} {k i L : Nat} {xs : Nat → Int32} {o6 o7 o8 : Option Value} (h : WI k (L, xs) μ f r) (hi : i + 6 ≤ L) (hL : L ≤ 3072) : ∃ μ' f' l' r' p6 p7 p8, RUN 0 1416 [some (.retAddr 0), some (.ref 0), some (.ref 137), some (.ref 152), some (.ref 153), some (.int (nI i)), o6, o7, o8] [] (st μ f l r) = RUN 0 28 [some (.retAddr 0), some (.ref 0), some (.ref 137), some (.ref 152), some (.ref 153), some (.int (nI (i + 6))), p6, p7, p8] [] (st μ' f' l' r') ∧ WI (k + 1) (L, xs) μ' f' r' := by
  obtain ⟨⟨hs, hr, hN⟩, ⟨hX, hC, hZ⟩, σ, σk, c, S, hm, hA, hI, hK, hE⟩ := h
  have hc := hI.1
  have hs2 : Sh (mBurn μ 6) := hs
  have hN2 : 154 ≤ mN (mBurn μ 6) := hN
  have hX2 : mX (mBurn μ 6) = (L, xs) := hX
  have hIB : ∀ t, t < c 4 → IB (S 7 t) := fun t ht => mvb_IB hc.2.2.2.2.2.2.1 (hI.2.2.2.2.2.2.1 t ht).1
  have hIA : ∀ a, a < c 2 → IA (S 3 a) := hI.2.2.2.2.1
  have hcut : ∀ s i x y, s < c 0 → i < c 1 → plc x y = true → p_cut (S 1 s 0) (S 1 s 1) x y (S 2 i) = p_hid (S 1 s 0) (S 1 s 1) x y (S 2 i) := fun s i x y h1 h2 h3 => cut_hid (hI.2.2.1 s h1) h3 (hI.2.2.2.1 i h2)
  have h0a : (mS μ 0).1 = 8 := by rw [hs 0 (by decide)]; rfl
  have h137a : (mS μ 137).1 = 9 := by rw [hs 137 (by decide)]; rfl
  have h152a : (mS μ 152).1 = 21 := by rw [hs 152 (by decide)]; rfl
  have h152b : (mS μ 152).2 = 1 := by rw [hs 152 (by decide)]; rfl
  have h152 : mS μ 152 = (21, 1) := hs 152 (by decide)
  have h153 : mS μ 153 = (22, 1) := hs 153 (by decide)
  have lx : ∀ f l r j, j < L → ldX (st μ f l r) (nI j) = some (xs j) := fun f l r j hj => ldX_k hX hj hL
  have lb : ∀ f l r j, j < L → ldX (st (mBurn μ 6) f l r) (nI j) = some (xs j) := fun f l r j hj => ldX_k hX2 hj hL
  have P0 : PW (154 + 300 * k) (29390 + 6000 * k) (L, xs) σ c S μ f r := ⟨⟨hs, hr, hN⟩, ⟨hX, hC, hZ⟩, hA, hI, σk, hK, hE⟩
  have P1 : PW (154 + 300 * k + 1) (29390 + 6000 * k + 6) (L, xs) σ c S (mBurn μ 6) f r := ⟨⟨hs2, hr, hN2⟩, ⟨hX2, Nat.add_le_add_right hC 1, Nat.add_le_add_right hZ 6⟩, hA, hI, σk, hK, KEPT_k hE (Nat.le_refl _) rfl (fun _ _ _ => rfl) (fun _ _ _ => ⟨rfl, rfl, rfl⟩) rfl rfl⟩
  have hE' := hE
  rcases hE' with ⟨h3, h12⟩ | ⟨h3, kb, c', S', hks, hmk, hAk, hIk⟩
  · have w := W193_1 hs hr (C_93n hs hr (l := l) h3)
    have e2 := C_165n hs2 hr (l := l) hm hc h12
    have main : RUN 0 1416 [some (.retAddr 0), some (.ref 0), some (.ref 137), some (.ref 152), some (.ref 153), some (.int (nI i)), o6, o7, o8] [] (st μ f l r) = RUN 0 28 [some (.retAddr 0), some (.ref 0), some (.ref 137), some (.ref 152), some (.ref 153), some (.int (nI (i + 6))), some (.int (nI 1)), some (.int (nI 0)), o8] [] (st (mBurn μ 6) (u2 f 137 0 (nI 1)) l r) := by
      rw [B_0_1416]
      simp (disch := omega) only [st_I, st_L, st_R, st_S, st_N, st_C, st_Z, st_X, st_D, st_st, st_sI, st_sIr, st_sL, st_sR, gfI_st, gfL_st, gfR_st, gfN_st, pfI_st, pfL_st, pfR_st, pfZ_st0, pfZ_st1, ldI_st, ldL_st, stoI_st, stoL_st, aln_st, cpA_st, bq_st, bq_S, oI_s, oL_s, oD_s, oV_s, oR_s, oR_n, oI_e, oL_e, oD_e, Option.bind_some, fa_lit, fa_litL, nI_add, pk_mul, nI_m1, nI_lt', nI_le', nI_eq', lc_ge, lc_le, lc_gt, lc_lt, lc_eq, isZ_0, isZ_1, bI_0, bI_z, decide_eq_true_eq, Bool.not_eq_true', Bool.not_true, Bool.not_false, decide_eq_false_iff_not, if_true, if_false, ite_true, ite_false, eq_self, not_true, not_false_eq_true, C_95, C_96, C_97, C_99, C_100, C_102, C_106, C_107, C_109, C_168, C_171, C_172, C_173, C_174, C_175, yu_ne, yu_eq, up_eq, up_ne, yur_ne, yur_eq, yu_uu, y1_eq, y1_ne, y1_y1, Nat.mul_zero, Nat.zero_mul, Nat.add_zero, Nat.zero_add, Nat.mul_one, Nat.one_mul, Nat.reduceEqDiff, Nat.reduceLT, Nat.reduceLeDiff, Nat.reduceAdd, Nat.reduceMul, decide_true, decide_false, cond_true, cond_false, reduceCtorEq, Bool.false_eq_true, Bool.true_eq_false, Bool.true_and, Bool.and_true, Bool.false_and, Bool.and_false, w, burn_st, burn_S, e2, C_104 hs2 hr]
      rw [B_0_1457, B_0_1474]
      simp (disch := omega) only [st_I, st_L, st_R, st_S, st_N, st_C, st_Z, st_X, st_D, st_st, st_sI, st_sIr, st_sL, st_sR, gfI_st, gfL_st, gfR_st, gfN_st, pfI_st, pfL_st, pfR_st, pfZ_st0, pfZ_st1, ldI_st, ldL_st, stoI_st, stoL_st, aln_st, cpA_st, bq_st, bq_S, oI_s, oL_s, oD_s, oV_s, oR_s, oR_n, oI_e, oL_e, oD_e, Option.bind_some, fa_lit, fa_litL, nI_add, pk_mul, nI_m1, nI_lt', nI_le', nI_eq', lc_ge, lc_le, lc_gt, lc_lt, lc_eq, isZ_0, isZ_1, bI_0, bI_z, decide_eq_true_eq, Bool.not_eq_true', Bool.not_true, Bool.not_false, decide_eq_false_iff_not, if_true, if_false, ite_true, ite_false, eq_self, not_true, not_false_eq_true, C_95, C_96, C_97, C_99, C_100, C_102, C_106, C_107, C_109, C_168, C_171, C_172, C_173, C_174, C_175, yu_ne, yu_eq, up_eq, up_ne, yur_ne, yur_eq, yu_uu, y1_eq, y1_ne, y1_y1, Nat.mul_zero, Nat.zero_mul, Nat.add_zero, Nat.zero_add, Nat.mul_one, Nat.one_mul, Nat.reduceEqDiff, Nat.reduceLT, Nat.reduceLeDiff, Nat.reduceAdd, Nat.reduceMul, decide_true, decide_false, cond_true, cond_false, reduceCtorEq, Bool.false_eq_true, Bool.true_eq_false, Bool.true_and, Bool.and_true, Bool.false_and, Bool.and_false]
    exact ⟨mBurn μ 6, _, l, r, _, _, _, main, WI_al P1 (Al_refl (sI (st (mBurn μ 6) f l r) 137 0 (nI 1))) (MR_137 hm) (by omega) (by omega)⟩
  · obtain ⟨f1, e1, g1, hA1⟩ := C_93 hs hr (l := l) hA hAk hK hIk.1 h3
    have w := W193_ok hs hr h152 e1
    have hm1 : MR f1 c S := MR_congr hm (fun a _ _ => g1 a (by omega))
    have hkb : 154 ≤ kb := hks.2.1
    have hmk1 : MRk f1 (kb + 1) c' S' := MRk_e hmk (fun j _ => g1 _ (by omega))
    obtain ⟨f', e2, th, g2, hm2⟩ := C_165 hs hr (f := f1) (l := u2 l 152 0 (nI (c' 6)).toInt64) hm1 hc hks hmk1
    have fe : ∀ a, a < 137 → f' a = f1 a := fun a ha => g2 a (by omega)
    have main : RUN 0 1416 [some (.retAddr 0), some (.ref 0), some (.ref 137), some (.ref 152), some (.ref 153), some (.int (nI i)), o6, o7, o8] [] (st μ f l r) = RUN 0 28 [some (.retAddr 0), some (.ref 0), some (.ref 137), some (.ref 152), some (.ref 153), some (.int (nI (i + 6))), some (.int (nI 0)), some (.int (nI (c' 6))), o8] [] (st μ f' (u2 l 152 0 (nI (c' 6)).toInt64) r) := by
      rw [B_0_1416]
      simp (disch := omega) only [st_I, st_L, st_R, st_S, st_N, st_C, st_Z, st_X, st_D, st_st, st_sI, st_sIr, st_sL, st_sR, gfI_st, gfL_st, gfR_st, gfN_st, pfI_st, pfL_st, pfR_st, pfZ_st0, pfZ_st1, ldI_st, ldL_st, stoI_st, stoL_st, aln_st, cpA_st, bq_st, bq_S, oI_s, oL_s, oD_s, oV_s, oR_s, oR_n, oI_e, oL_e, oD_e, Option.bind_some, fa_lit, fa_litL, nI_add, pk_mul, nI_m1, nI_lt', nI_le', nI_eq', lc_ge, lc_le, lc_gt, lc_lt, lc_eq, isZ_0, isZ_1, bI_0, bI_z, decide_eq_true_eq, Bool.not_eq_true', Bool.not_true, Bool.not_false, decide_eq_false_iff_not, if_true, if_false, ite_true, ite_false, eq_self, not_true, not_false_eq_true, C_95, C_96, C_97, C_99, C_100, C_102, C_106, C_107, C_109, C_168, C_171, C_172, C_173, C_174, C_175, yu_ne, yu_eq, up_eq, up_ne, yur_ne, yur_eq, yu_uu, y1_eq, y1_ne, y1_y1, Nat.mul_zero, Nat.zero_mul, Nat.add_zero, Nat.zero_add, Nat.mul_one, Nat.one_mul, Nat.reduceEqDiff, Nat.reduceLT, Nat.reduceLeDiff, Nat.reduceAdd, Nat.reduceMul, decide_true, decide_false, cond_true, cond_false, reduceCtorEq, Bool.false_eq_true, Bool.true_eq_false, Bool.true_and, Bool.and_true, Bool.false_and, Bool.and_false, w, e2, C_104 hs hr, th]
      rw [B_0_1457, B_0_1474]
      simp (disch := omega) only [st_I, st_L, st_R, st_S, st_N, st_C, st_Z, st_X, st_D, st_st, st_sI, st_sIr, st_sL, st_sR, gfI_st, gfL_st, gfR_st, gfN_st, pfI_st, pfL_st, pfR_st, pfZ_st0, pfZ_st1, ldI_st, ldL_st, stoI_st, stoL_st, aln_st, cpA_st, bq_st, bq_S, oI_s, oL_s, oD_s, oV_s, oR_s, oR_n, oI_e, oL_e, oD_e, Option.bind_some, fa_lit, fa_litL, nI_add, pk_mul, nI_m1, nI_lt', nI_le', nI_eq', lc_ge, lc_le, lc_gt, lc_lt, lc_eq, isZ_0, isZ_1, bI_0, bI_z, decide_eq_true_eq, Bool.not_eq_true', Bool.not_true, Bool.not_false, decide_eq_false_iff_not, if_true, if_false, ite_true, ite_false, eq_self, not_true, not_false_eq_true, C_95, C_96, C_97, C_99, C_100, C_102, C_106, C_107, C_109, C_168, C_171, C_172, C_173, C_174, C_175, yu_ne, yu_eq, up_eq, up_ne, yur_ne, yur_eq, yu_uu, y1_eq, y1_ne, y1_y1, Nat.mul_zero, Nat.zero_mul, Nat.add_zero, Nat.zero_add, Nat.mul_one, Nat.one_mul, Nat.reduceEqDiff, Nat.reduceLT, Nat.reduceLeDiff, Nat.reduceAdd, Nat.reduceMul, decide_true, decide_false, cond_true, cond_false, reduceCtorEq, Bool.false_eq_true, Bool.true_eq_false, Bool.true_and, Bool.and_true, Bool.false_and, Bool.and_false]
    exact ⟨_, _, _, _, _, _, _, main, ⟨hs, hr, hN⟩, ⟨hX, by omega, by omega⟩, σ, σk, c', S', hm2, CAll_k hA1 hIk.1 (fun a _ _ => fe a (by omega)) rfl, hIk, KC_k hK (fun a _ _ => (fe a (by omega)).trans (g1 a (by omega))) rfl, Or.inr ⟨by rw [fe 0 (by omega), g1 0 (by omega)]; exact h3, kb, c', S', hks, MRk_e hmk1 (fun j _ => g2 _ (by omega)), CAll_k hAk hIk.1 (fun a _ _ => (fe a (by omega)).trans (g1 a (by omega))) rfl, hIk⟩⟩
theorem ST_19 {μ : mMu} {f : Nat → Nat → Int32} {l : Nat → Nat → Int64} {r : Nat → Nat → Option Nat} {k i L : Nat} {xs : Nat → Int32} {o6 o7 o8 : Option Value} (h : WI k (L, xs) μ f r) (hi : i + 6 ≤ L) (hL : L ≤ 3072) : ∃ μ' f' l' r' p6 p7 p8, RUN 0 1460 [some (.retAddr 0), some (.ref 0), some (.ref 137), some (.ref 152), some (.ref 153), some (.int (nI i)), o6, o7, o8] [] (st μ f l r) = RUN 0 28 [some (.retAddr 0), some (.ref 0), some (.ref 137), some (.ref 152), some (.ref 153), some (.int (nI (i + 6))), p6, p7, p8] [] (st μ' f' l' r') ∧ WI (k + 1) (L, xs) μ' f' r' := by
  obtain ⟨⟨hs, hr, hN⟩, ⟨hX, hC, hZ⟩, σ, σk, c, S, hm, hA, hI, hK, hE⟩ := h
  have hc := hI.1
  have hs2 : Sh (mBurn μ 6) := hs
  have hN2 : 154 ≤ mN (mBurn μ 6) := hN
  have hX2 : mX (mBurn μ 6) = (L, xs) := hX
  have hIB : ∀ t, t < c 4 → IB (S 7 t) := fun t ht => mvb_IB hc.2.2.2.2.2.2.1 (hI.2.2.2.2.2.2.1 t ht).1
  have hIA : ∀ a, a < c 2 → IA (S 3 a) := hI.2.2.2.2.1
  have hcut : ∀ s i x y, s < c 0 → i < c 1 → plc x y = true → p_cut (S 1 s 0) (S 1 s 1) x y (S 2 i) = p_hid (S 1 s 0) (S 1 s 1) x y (S 2 i) := fun s i x y h1 h2 h3 => cut_hid (hI.2.2.1 s h1) h3 (hI.2.2.2.1 i h2)
  have h0a : (mS μ 0).1 = 8 := by rw [hs 0 (by decide)]; rfl
  have h137a : (mS μ 137).1 = 9 := by rw [hs 137 (by decide)]; rfl
  have h152a : (mS μ 152).1 = 21 := by rw [hs 152 (by decide)]; rfl
  have h152b : (mS μ 152).2 = 1 := by rw [hs 152 (by decide)]; rfl
  have h152 : mS μ 152 = (21, 1) := hs 152 (by decide)
  have h153 : mS μ 153 = (22, 1) := hs 153 (by decide)
  have lx : ∀ f l r j, j < L → ldX (st μ f l r) (nI j) = some (xs j) := fun f l r j hj => ldX_k hX hj hL
  have lb : ∀ f l r j, j < L → ldX (st (mBurn μ 6) f l r) (nI j) = some (xs j) := fun f l r j hj => ldX_k hX2 hj hL
  have P0 : PW (154 + 300 * k) (29390 + 6000 * k) (L, xs) σ c S μ f r := ⟨⟨hs, hr, hN⟩, ⟨hX, hC, hZ⟩, hA, hI, σk, hK, hE⟩
  have P1 : PW (154 + 300 * k + 1) (29390 + 6000 * k + 6) (L, xs) σ c S (mBurn μ 6) f r := ⟨⟨hs2, hr, hN2⟩, ⟨hX2, Nat.add_le_add_right hC 1, Nat.add_le_add_right hZ 6⟩, hA, hI, σk, hK, KEPT_k hE (Nat.le_refl _) rfl (fun _ _ _ => rfl) (fun _ _ _ => ⟨rfl, rfl, rfl⟩) rfl rfl⟩
  have e1 := C_94 hs hr (l := l) hA hc hIA
  have e2 := C_166 hs hr (l := l) hm hc
  have main : RUN 0 1460 [some (.retAddr 0), some (.ref 0), some (.ref 137), some (.ref 152), some (.ref 153), some (.int (nI i)), o6, o7, o8] [] (st μ f l r) = RUN 0 28 [some (.retAddr 0), some (.ref 0), some (.ref 137), some (.ref 152), some (.ref 153), some (.int (nI (i + 6))), o6, o7, o8] [] (st μ (u2 f 137 0 (nI 0)) l r) := by
    rw [B_0_1460]
    simp (disch := omega) only [st_I, st_L, st_R, st_S, st_N, st_C, st_Z, st_X, st_D, st_st, st_sI, st_sIr, st_sL, st_sR, gfI_st, gfL_st, gfR_st, gfN_st, pfI_st, pfL_st, pfR_st, pfZ_st0, pfZ_st1, ldI_st, ldL_st, stoI_st, stoL_st, aln_st, cpA_st, bq_st, bq_S, oI_s, oL_s, oD_s, oV_s, oR_s, oR_n, oI_e, oL_e, oD_e, Option.bind_some, fa_lit, fa_litL, nI_add, pk_mul, nI_m1, nI_lt', nI_le', nI_eq', lc_ge, lc_le, lc_gt, lc_lt, lc_eq, isZ_0, isZ_1, bI_0, bI_z, decide_eq_true_eq, Bool.not_eq_true', Bool.not_true, Bool.not_false, decide_eq_false_iff_not, if_true, if_false, ite_true, ite_false, eq_self, not_true, not_false_eq_true, C_95, C_96, C_97, C_99, C_100, C_102, C_106, C_107, C_109, C_168, C_171, C_172, C_173, C_174, C_175, yu_ne, yu_eq, up_eq, up_ne, yur_ne, yur_eq, yu_uu, y1_eq, y1_ne, y1_y1, Nat.mul_zero, Nat.zero_mul, Nat.add_zero, Nat.zero_add, Nat.mul_one, Nat.one_mul, Nat.reduceEqDiff, Nat.reduceLT, Nat.reduceLeDiff, Nat.reduceAdd, Nat.reduceMul, decide_true, decide_false, cond_true, cond_false, reduceCtorEq, Bool.false_eq_true, Bool.true_eq_false, Bool.true_and, Bool.and_true, Bool.false_and, Bool.and_false, e1, e2]
    rw [B_0_1474]
    simp (disch := omega) only [st_I, st_L, st_R, st_S, st_N, st_C, st_Z, st_X, st_D, st_st, st_sI, st_sIr, st_sL, st_sR, gfI_st, gfL_st, gfR_st, gfN_st, pfI_st, pfL_st, pfR_st, pfZ_st0, pfZ_st1, ldI_st, ldL_st, stoI_st, stoL_st, aln_st, cpA_st, bq_st, bq_S, oI_s, oL_s, oD_s, oV_s, oR_s, oR_n, oI_e, oL_e, oD_e, Option.bind_some, fa_lit, fa_litL, nI_add, pk_mul, nI_m1, nI_lt', nI_le', nI_eq', lc_ge, lc_le, lc_gt, lc_lt, lc_eq, isZ_0, isZ_1, bI_0, bI_z, decide_eq_true_eq, Bool.not_eq_true', Bool.not_true, Bool.not_false, decide_eq_false_iff_not, if_true, if_false, ite_true, ite_false, eq_self, not_true, not_false_eq_true, C_95, C_96, C_97, C_99, C_100, C_102, C_106, C_107, C_109, C_168, C_171, C_172, C_173, C_174, C_175, yu_ne, yu_eq, up_eq, up_ne, yur_ne, yur_eq, yu_uu, y1_eq, y1_ne, y1_y1, Nat.mul_zero, Nat.zero_mul, Nat.add_zero, Nat.zero_add, Nat.mul_one, Nat.one_mul, Nat.reduceEqDiff, Nat.reduceLT, Nat.reduceLeDiff, Nat.reduceAdd, Nat.reduceMul, decide_true, decide_false, cond_true, cond_false, reduceCtorEq, Bool.false_eq_true, Bool.true_eq_false, Bool.true_and, Bool.and_true, Bool.false_and, Bool.and_false]
  exact ⟨μ, _, l, r, _, _, _, main, WI_al P0 (Al_refl (sI (st μ f l r) 137 0 (nI 0))) (MR_137 hm) (by omega) (by omega)⟩
theorem ST_20 {μ : mMu} {f : Nat → Nat → Int32} {l : Nat → Nat → Int64} {r : Nat → Nat → Option Nat} {k i L : Nat} {xs : Nat → Int32} {o6 o7 o8 : Option Value} (h : WI k (L, xs) μ f r) (hi : i + 6 ≤ L) (hL : L ≤ 3072) : ∃ μ' f' l' r' p6 p7 p8, RUN 0 1474 [some (.retAddr 0), some (.ref 0), some (.ref 137), some (.ref 152), some (.ref 153), some (.int (nI i)), o6, o7, o8] [] (st μ f l r) = RUN 0 28 [some (.retAddr 0), some (.ref 0), some (.ref 137), some (.ref 152), some (.ref 153), some (.int (nI (i + 6))), p6, p7, p8] [] (st μ' f' l' r') ∧ WI (k + 1) (L, xs) μ' f' r' := by
  obtain ⟨a, ⟨hX, hC, hZ⟩, b⟩ := h
  have main : RUN 0 1474 [some (.retAddr 0), some (.ref 0), some (.ref 137), some (.ref 152), some (.ref 153), some (.int (nI i)), o6, o7, o8] [] (st μ f l r) = RUN 0 28 [some (.retAddr 0), some (.ref 0), some (.ref 137), some (.ref 152), some (.ref 153), some (.int (nI (i + 6))), o6, o7, o8] [] (st μ f l r) := by
    rw [B_0_1474]
    simp (disch := omega) only [st_I, st_L, st_R, st_S, st_N, st_C, st_Z, st_X, st_D, st_st, st_sI, st_sIr, st_sL, st_sR, gfI_st, gfL_st, gfR_st, gfN_st, pfI_st, pfL_st, pfR_st, pfZ_st0, pfZ_st1, ldI_st, ldL_st, stoI_st, stoL_st, aln_st, cpA_st, bq_st, bq_S, oI_s, oL_s, oD_s, oV_s, oR_s, oR_n, oI_e, oL_e, oD_e, Option.bind_some, fa_lit, fa_litL, nI_add, pk_mul, nI_m1, nI_lt', nI_le', nI_eq', lc_ge, lc_le, lc_gt, lc_lt, lc_eq, isZ_0, isZ_1, bI_0, bI_z, decide_eq_true_eq, Bool.not_eq_true', Bool.not_true, Bool.not_false, decide_eq_false_iff_not, if_true, if_false, ite_true, ite_false, eq_self, not_true, not_false_eq_true, C_95, C_96, C_97, C_99, C_100, C_102, C_106, C_107, C_109, C_168, C_171, C_172, C_173, C_174, C_175, yu_ne, yu_eq, up_eq, up_ne, yur_ne, yur_eq, yu_uu, y1_eq, y1_ne, y1_y1, Nat.mul_zero, Nat.zero_mul, Nat.add_zero, Nat.zero_add, Nat.mul_one, Nat.one_mul, Nat.reduceEqDiff, Nat.reduceLT, Nat.reduceLeDiff, Nat.reduceAdd, Nat.reduceMul, decide_true, decide_false, cond_true, cond_false, reduceCtorEq, Bool.false_eq_true, Bool.true_eq_false, Bool.true_and, Bool.and_true, Bool.false_and, Bool.and_false]
  exact ⟨_, _, _, _, _, _, _, main, a, ⟨hX, by omega, by omega⟩, b⟩
theorem ST_all {μ : mMu} {f : Nat → Nat → Int32} {l : Nat → Nat → Int64} {r : Nat → Nat → Option Nat} {k i L : Nat} {xs : Nat → Int32} {o6 o7 o8 : Option Value} (h : WI k (L, xs) μ f r) (hi : i + 6 ≤ L) (hL : L ≤ 3072) : ∃ μ' f' l' r' p6 p7 p8, RUN 0 28 [some (.retAddr 0), some (.ref 0), some (.ref 137), some (.ref 152), some (.ref 153), some (.int (nI i)), o6, o7, o8] [] (st μ f l r) = RUN 0 28 [some (.retAddr 0), some (.ref 0), some (.ref 137), some (.ref 152), some (.ref 153), some (.int (nI (i + 6))), p6, p7, p8] [] (st μ' f' l' r') ∧ WI (k + 1) (L, xs) μ' f' r' := by
  have hX := h.2.1.1
  have e6 : (nI 6).toInt = 6 := by decide
  have eL : (nI L).toInt = (L : Int) := nI_toInt (by omega)
  have ei : (nI i).toInt = (i : Int) := nI_toInt (by omega)
  have hlt : ¬ (Int32.ofNat L - 6 < nI i) := by
    show ¬ (nI L - nI 6 < nI i)
    rw [fa_lt, i_sub (by rw [eL, e6]; omega) (by rw [eL, e6]; omega), eL, e6, ei]
    omega
  rw [B_0_28, st_X, hX]
  rw [if_neg (by rw [decide_eq_true_eq]; exact hlt), ldX_k hX (by omega) hL, Option.bind_some]
  by_cases q0 : (xs i &&& 31) = 0
  · rw [if_pos q0]; exact ST_0 h hi hL
  rw [if_neg q0]
  by_cases q1 : (xs i &&& 31) = 1
  · rw [if_pos q1]; exact ST_1 h hi hL
  rw [if_neg q1]
  by_cases q2 : (xs i &&& 31) = 2
  · rw [if_pos q2]; exact ST_2 h hi hL
  rw [if_neg q2]
  by_cases q3 : (xs i &&& 31) = 3
  · rw [if_pos q3]; exact ST_3 h hi hL
  rw [if_neg q3]
  by_cases q4 : (xs i &&& 31) = 4
  · rw [if_pos q4]; exact ST_4 h hi hL
  rw [if_neg q4]
  by_cases q5 : (xs i &&& 31) = 5
  · rw [if_pos q5]; exact ST_5 h hi hL
  rw [if_neg q5]
  by_cases q6 : (xs i &&& 31) = 6
  · rw [if_pos q6]; exact ST_6 h hi hL
  rw [if_neg q6]
  by_cases q7 : (xs i &&& 31) = 7
  · rw [if_pos q7]; exact ST_7 h hi hL
  rw [if_neg q7]
  by_cases q8 : (xs i &&& 31) = 8
  · rw [if_pos q8]; exact ST_8 h hi hL
  rw [if_neg q8]
  by_cases q9 : (xs i &&& 31) = 9
  · rw [if_pos q9]; exact ST_9 h hi hL
  rw [if_neg q9]
  by_cases q10 : (xs i &&& 31) = 10
  · rw [if_pos q10]; exact ST_10 h hi hL
  rw [if_neg q10]
  by_cases q11 : (xs i &&& 31) = 11
  · rw [if_pos q11]; exact ST_11 h hi hL
  rw [if_neg q11]
  by_cases q12 : (xs i &&& 31) = 12
  · rw [if_pos q12]; exact ST_12 h hi hL
  rw [if_neg q12]
  by_cases q13 : (xs i &&& 31) = 13
  · rw [if_pos q13]; exact ST_13 h hi hL
  rw [if_neg q13]
  by_cases q14 : (xs i &&& 31) = 14
  · rw [if_pos q14]; exact ST_14 h hi hL
  rw [if_neg q14]
  by_cases q15 : (xs i &&& 31) = 15
  · rw [if_pos q15]; exact ST_15 h hi hL
  rw [if_neg q15]
  by_cases q16 : (xs i &&& 31) = 16
  · rw [if_pos q16]; exact ST_16 h hi hL
  rw [if_neg q16]
  by_cases q17 : (xs i &&& 31) = 17
  · rw [if_pos q17]; exact ST_17 h hi hL
  rw [if_neg q17]
  by_cases q18 : (xs i &&& 31) = 18
  · rw [if_pos q18]; exact ST_18 h hi hL
  rw [if_neg q18]
  by_cases q19 : (xs i &&& 31) = 19
  · rw [if_pos q19]; exact ST_19 h hi hL
  rw [if_neg q19]
  exact ST_20 h hi hL
theorem law_end {L : Nat} {xs : Nat → Int32} (hL : L ≤ 3072) : ∃ μe, CALL 0 [.retAddr 0] (mu0 L xs) = some (.inl (some (.int 1)), μe) ∧ mC μe ≤ 601024 ∧ mZ μe ≤ 7293034 := by
  obtain ⟨m, e, hP⟩ := start_m (L := L) (xs := xs)
  rw [e]
  refine loopP (fun k o => ∃ μ f l r o6 o7 o8, o = RUN 0 28 [some (.retAddr 0), some (.ref 0), some (.ref 137), some (.ref 152), some (.ref 153), some (.int (nI (6 * k))), o6, o7, o8] [] (st μ f l r) ∧ WI k (L, xs) μ f r) (fun o => ∃ μe, o = some (.inl (some (.int 1)), μe) ∧ mC μe ≤ 601024 ∧ mZ μe ≤ 7293034) (L / 6) ?_ ?_ 0 _ (Nat.zero_le _) ⟨m, mI m, mL m, mR m, none, none, none, rfl, start_WI hP⟩
  · rintro o ⟨μ, f, l, r, o6, o7, o8, rfl, h⟩
    have hX := h.2.1.1
    have hC := h.2.1.2.1
    have hZ := h.2.1.2.2
    have e6 : (nI 6).toInt = 6 := by decide
    have eL : (nI L).toInt = (L : Int) := nI_toInt (by omega)
    have ei : (nI (6 * (L / 6))).toInt = ((6 * (L / 6) : Nat) : Int) := nI_toInt (by omega)
    have hlt : Int32.ofNat L - 6 < nI (6 * (L / 6)) := by
      show nI L - nI 6 < nI (6 * (L / 6))
      rw [fa_lt, i_sub (by rw [eL, e6]; omega) (by rw [eL, e6]; omega), eL, e6, ei]
      omega
    rw [B_0_28, st_X, hX]
    rw [if_pos (by rw [decide_eq_true_eq]; exact hlt), if_pos (by decide)]
    refine ⟨st μ f l r, rfl, ?_, ?_⟩
    · show mC μ ≤ 601024
      omega
    · show mZ μ ≤ 7293034
      omega
  · rintro k o hk ⟨μ, f, l, r, o6, o7, o8, rfl, h⟩
    right
    obtain ⟨μ', f', l', r', p6, p7, p8, e2, h2⟩ := ST_all (l := l) (o6 := o6) (o7 := o7) (o8 := o8) h (show 6 * k + 6 ≤ L by omega) hL
    exact ⟨μ', f', l', r', p6, p7, p8, e2, h2⟩
