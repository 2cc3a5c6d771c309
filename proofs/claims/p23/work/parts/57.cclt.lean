/-! ===== the class' sweep: what the places learn ===== -/
theorem C_16 {μ : mMu} {f : Nat → Nat → Int32} {l : Nat → Nat → Int64} {r : Nat → Nat → Option Nat} (hs : Sh μ) (hr : Rf r) {c : Nat → Nat} {S : Nat → Nat → Nat → Int32} {x y d : Int32} (hp : plc x y = true) (hA : CCo f 1 c S) : CALL 16 [.ref 2, .int x, .int y, .int d] (st μ f l r) = some (.inl none, st μ (u2 f 16 (20 * fxn y + fxn x) (p_mx (nI 0) (p_mn (nI 60) (S 4 (fxn x) (fxn y) + d)))) l r) := by
  have h2a : (mS μ 2).1 = 2 := by rw [hs 2 (by decide)]; rfl
  have h16a : (mS μ 16).1 = 20 := by rw [hs 16 (by decide)]; rfl
  have h16b : (mS μ 16).2 = 400 := by rw [hs 16 (by decide)]; rfl
  have r2_6 : r 2 6 = some 16 := hr 2 6 16 rfl
  obtain ⟨h1, h2, h3⟩ := fld_cx hp
  have hv : f 16 (20 * fxn y + fxn x) = S 4 (fxn x) (fxn y) := hA.2.2.2.2.2.2 _ _ h1 h2
  rw [B_16_0]
  simp (disch := omega) only [st_I, st_L, st_R, st_S, st_N, st_C, st_Z, st_X, st_D, st_st, st_sI, st_sIr, st_sL, st_sR, gfI_st, gfL_st, gfR_st, gfN_st, pfI_st, pfL_st, pfR_st, pfZ_st0, pfZ_st1, ldI_st, ldL_st, stoI_st, stoL_st, aln_st, cpA_st, bq_st, bq_S, oI_s, oL_s, oD_s, oV_s, oR_s, oR_n, oI_e, oL_e, oD_e, Option.bind_some, fa_lit, fa_litL, nI_add, pk_mul, nI_m1, nI_lt', nI_le', nI_eq', lc_ge, lc_le, lc_gt, lc_lt, lc_eq, isZ_0, isZ_1, bI_0, bI_z, decide_eq_true_eq, Bool.not_eq_true', Bool.not_true, Bool.not_false, decide_eq_false_iff_not, if_true, if_false, ite_true, ite_false, eq_self, not_true, not_false_eq_true, C_80, C_81, C_82, C_84, C_85, C_86, C_94, C_95, C_96, C_97, yu_ne, yu_eq, up_eq, up_ne, yur_ne, yur_eq, yu_uu, y1_eq, y1_ne, y1_y1, Nat.mul_zero, Nat.zero_mul, Nat.add_zero, Nat.zero_add, Nat.mul_one, Nat.one_mul, Nat.reduceEqDiff, Nat.reduceLT, Nat.reduceLeDiff, Nat.reduceAdd, Nat.reduceMul, decide_true, decide_false, cond_true, cond_false, reduceCtorEq, Bool.false_eq_true, Bool.true_eq_false, Bool.true_and, Bool.and_true, Bool.false_and, Bool.and_false, r2_6, C_17, h3, hv]
theorem CRa_16 {f : Nat → Nat → Int32} {c : Nat → Nat} {S : Nat → Nat → Nat → Int32} {X Y : Nat} {v : Int32} (h : CRa f c S) (hX : X < 20) (hY : Y < 20) : CRa (u2 f 16 (20 * Y + X) v) c (u1 S 4 (u2 (S 4) X Y v)) := by
  obtain ⟨d1, d2, d3, d4, d5⟩ := h
  have hf : ∀ a, a ≠ 16 → u2 f 16 (20 * Y + X) v a = f a := fun a h => yu_ne h
  refine ⟨CSc_k d1 (hf _ (by omega)) (fun _ _ _ _ _ _ _ _ => rfl), ?_, MB_k d3 (fun a _ _ => hf a (by omega)) rfl (y1_ne (by decide)), CLo_k d4 (fun a _ _ => hf a (by omega)) rfl (y1_ne (by decide)), CEv_k d5 (fun a _ _ => hf a (by omega)) rfl (y1_ne (by decide))⟩
  obtain ⟨a1, a2, a3, a4, a5, a6, a7⟩ := d2
  unfold CCo
  rw [y1_ne (show 1 ≠ 4 by decide), y1_ne (show 2 ≠ 4 by decide), y1_ne (show 3 ≠ 4 by decide), y1_eq]
  refine ⟨by rw [hf _ (by omega)]; exact a1, fun i w hi hw => by rw [hf _ (by omega)]; exact a2 i w hi hw, by rw [hf _ (by omega)]; exact a3, fun i w hi hw => by rw [hf _ (by omega)]; exact a4 i w hi hw, by rw [hf _ (by omega)]; exact a5, fun i w hi hw => by rw [hf _ (by omega)]; exact a6 i w hi hw, fun x y hx hy => ?_⟩
  have h7 : f 16 (20 * y + x) = S 4 x y := a7 x y hx hy
  show u2 f 16 (20 * Y + X) v 16 (20 * y + x) = _
  rw [yu_eq]
  by_cases qx : x = X
  · rw [qx, yu_eq]
    by_cases qy : y = Y
    · rw [qy, up_eq, up_eq]
    · rw [up_ne qy, up_ne (by omega), ← qx]; exact h7
  · rw [yu_ne qx, up_ne (by omega)]; exact h7
theorem clt_x {k : Nat} {S : Nat → Nat → Nat → Int32} : clt k S = u1 S 4 (u2 (S 4) (fxn (S 5 k 0)) (fxn (S 5 k 1)) (p_mx (nI 0) (p_mn (nI 60) (S 4 (fxn (S 5 k 0)) (fxn (S 5 k 1)) + (if S 5 k 4 = -nI 1 then nI 3 else -nI 1))))) := rfl
theorem C_41 {μ : mMu} {f : Nat → Nat → Int32} {l : Nat → Nat → Int64} {r : Nat → Nat → Option Nat} (hs : Sh μ) (hr : Rf r) {c : Nat → Nat} {S : Nat → Nat → Nat → Int32} {tk : Int32} (hc : CB c) (hA : CRa f c S) (hk : ∀ k, k < c 3 → p_bit tk (nI k) = !decide (S 5 k 4 = -nI 1)) (hP : ∀ k, k < c 3 → IP (S 5 k)) : ∃ f', CALL 41 [.ref 1, .int tk] (st μ f l r) = some (.inl none, st μ f' l r) ∧ (∀ a, a ≠ 16 → f' a = f a) ∧ CRa f' c (itr clt (c 3) S) := by
  have h1a : (mS μ 1).1 = 6 := by rw [hs 1 (by decide)]; rfl
  have h2a : (mS μ 2).1 = 2 := by rw [hs 2 (by decide)]; rfl
  have h17a : (mS μ 17).1 = 0 := by rw [hs 17 (by decide)]; rfl
  have h18a : (mS μ 18).1 = 20 := by rw [hs 18 (by decide)]; rfl
  have h18b : (mS μ 18).2 = 10 := by rw [hs 18 (by decide)]; rfl
  have h19a : (mS μ 19).1 = 20 := by rw [hs 19 (by decide)]; rfl
  have h19b : (mS μ 19).2 = 10 := by rw [hs 19 (by decide)]; rfl
  have r1_0 : r 1 0 = some 2 := hr 1 0 2 rfl
  have r1_1 : r 1 1 = some 17 := hr 1 1 17 rfl
  have r17_0 : r 17 0 = some 18 := hr 17 0 18 rfl
  have r17_1 : r 17 1 = some 19 := hr 17 1 19 rfl
  have hc' := hc
  obtain ⟨c0, c1, c2, c3, c4, c5, c6, c7, c8, c9, c10, c11, c12, c13, c14⟩ := hc
  rw [B_41_0]
  refine loopP (fun i o => ∃ f', o = RUN 41 2 [some (.ref 1), some (.int tk), some (.int (nI i))] [] (st μ f' l r) ∧ (∀ a, a ≠ 16 → f' a = f a) ∧ CRa f' c (itr clt i S)) (fun o => ∃ f', o = some (.inl none, st μ f' l r) ∧ (∀ a, a ≠ 16 → f' a = f a) ∧ CRa f' c (itr clt (c 3) S)) (c 3) ?_ ?_ 0 _ (Nat.zero_le _) ⟨f, rfl, fun _ _ => rfl, hA⟩
  · rintro o ⟨f', rfl, g, h⟩
    have k5 : f' 17 5 = nI (c 3) := h.2.2.1.1
    rw [B_41_2]
    simp (disch := omega) only [st_I, st_L, st_R, st_S, st_N, st_C, st_Z, st_X, st_D, st_st, st_sI, st_sIr, st_sL, st_sR, gfI_st, gfL_st, gfR_st, gfN_st, pfI_st, pfL_st, pfR_st, pfZ_st0, pfZ_st1, ldI_st, ldL_st, stoI_st, stoL_st, aln_st, cpA_st, bq_st, bq_S, oI_s, oL_s, oD_s, oV_s, oR_s, oR_n, oI_e, oL_e, oD_e, Option.bind_some, fa_lit, fa_litL, nI_add, pk_mul, nI_m1, nI_lt', nI_le', nI_eq', lc_ge, lc_le, lc_gt, lc_lt, lc_eq, isZ_0, isZ_1, bI_0, bI_z, decide_eq_true_eq, Bool.not_eq_true', Bool.not_true, Bool.not_false, decide_eq_false_iff_not, if_true, if_false, ite_true, ite_false, eq_self, not_true, not_false_eq_true, C_80, C_81, C_82, C_84, C_85, C_86, C_94, C_95, C_96, C_97, yu_ne, yu_eq, up_eq, up_ne, yur_ne, yur_eq, yu_uu, y1_eq, y1_ne, y1_y1, Nat.mul_zero, Nat.zero_mul, Nat.add_zero, Nat.zero_add, Nat.mul_one, Nat.one_mul, Nat.reduceEqDiff, Nat.reduceLT, Nat.reduceLeDiff, Nat.reduceAdd, Nat.reduceMul, decide_true, decide_false, cond_true, cond_false, reduceCtorEq, Bool.false_eq_true, Bool.true_eq_false, Bool.true_and, Bool.and_true, Bool.false_and, Bool.and_false, r1_0, r1_1, r17_0, r17_1, k5, Nat.le_refl]
    exact ⟨f', rfl, g, h⟩
  · rintro i o hi ⟨f', rfl, g, h⟩
    have hi' : ¬ c 3 ≤ i := by omega
    have k5 : f' 17 5 = nI (c 3) := h.2.2.1.1
    have e5 : itr clt i S 5 = S 5 := clt_r (by decide) i
    have k18 : f' 18 i = S 5 i 0 := by rw [← e5]; exact (h.2.2.1.2.2 i hi).1 0 (by decide)
    have k19 : f' 19 i = S 5 i 1 := by rw [← e5]; exact (h.2.2.1.2.2 i hi).1 1 (by decide)
    have hp : plc (S 5 i 0) (S 5 i 1) = true := hP i hi
    obtain ⟨h1, h2, -⟩ := fld_cx hp
    have x1 := fun d => C_16 hs hr (f := f') (l := l) (d := d) hp h.2.1
    right
    rw [itr_s', clt_x, e5]
    have hb := hk i hi
    rw [B_41_2]
    cases hq : decide (S 5 i 4 = -nI 1)
    · have hq' : ¬ S 5 i 4 = -nI 1 := of_decide_eq_false hq
      rw [hq] at hb
      rw [if_neg hq']
      simp (disch := omega) only [st_I, st_L, st_R, st_S, st_N, st_C, st_Z, st_X, st_D, st_st, st_sI, st_sIr, st_sL, st_sR, gfI_st, gfL_st, gfR_st, gfN_st, pfI_st, pfL_st, pfR_st, pfZ_st0, pfZ_st1, ldI_st, ldL_st, stoI_st, stoL_st, aln_st, cpA_st, bq_st, bq_S, oI_s, oL_s, oD_s, oV_s, oR_s, oR_n, oI_e, oL_e, oD_e, Option.bind_some, fa_lit, fa_litL, nI_add, pk_mul, nI_m1, nI_lt', nI_le', nI_eq', lc_ge, lc_le, lc_gt, lc_lt, lc_eq, isZ_0, isZ_1, bI_0, bI_z, decide_eq_true_eq, Bool.not_eq_true', Bool.not_true, Bool.not_false, decide_eq_false_iff_not, if_true, if_false, ite_true, ite_false, eq_self, not_true, not_false_eq_true, C_80, C_81, C_82, C_84, C_85, C_86, C_94, C_95, C_96, C_97, yu_ne, yu_eq, up_eq, up_ne, yur_ne, yur_eq, yu_uu, y1_eq, y1_ne, y1_y1, Nat.mul_zero, Nat.zero_mul, Nat.add_zero, Nat.zero_add, Nat.mul_one, Nat.one_mul, Nat.reduceEqDiff, Nat.reduceLT, Nat.reduceLeDiff, Nat.reduceAdd, Nat.reduceMul, decide_true, decide_false, cond_true, cond_false, reduceCtorEq, Bool.false_eq_true, Bool.true_eq_false, Bool.true_and, Bool.and_true, Bool.false_and, Bool.and_false, r1_0, r1_1, r17_0, r17_1, k5, hi', k18, k19, C_85, hb, x1]
      exact ⟨_, rfl, fun a ha => by rw [yu_ne ha]; exact g a ha, CRa_16 h h1 h2⟩
    · have hq' : S 5 i 4 = -nI 1 := of_decide_eq_true hq
      rw [hq] at hb
      rw [if_pos hq']
      simp (disch := omega) only [st_I, st_L, st_R, st_S, st_N, st_C, st_Z, st_X, st_D, st_st, st_sI, st_sIr, st_sL, st_sR, gfI_st, gfL_st, gfR_st, gfN_st, pfI_st, pfL_st, pfR_st, pfZ_st0, pfZ_st1, ldI_st, ldL_st, stoI_st, stoL_st, aln_st, cpA_st, bq_st, bq_S, oI_s, oL_s, oD_s, oV_s, oR_s, oR_n, oI_e, oL_e, oD_e, Option.bind_some, fa_lit, fa_litL, nI_add, pk_mul, nI_m1, nI_lt', nI_le', nI_eq', lc_ge, lc_le, lc_gt, lc_lt, lc_eq, isZ_0, isZ_1, bI_0, bI_z, decide_eq_true_eq, Bool.not_eq_true', Bool.not_true, Bool.not_false, decide_eq_false_iff_not, if_true, if_false, ite_true, ite_false, eq_self, not_true, not_false_eq_true, C_80, C_81, C_82, C_84, C_85, C_86, C_94, C_95, C_96, C_97, yu_ne, yu_eq, up_eq, up_ne, yur_ne, yur_eq, yu_uu, y1_eq, y1_ne, y1_y1, Nat.mul_zero, Nat.zero_mul, Nat.add_zero, Nat.zero_add, Nat.mul_one, Nat.one_mul, Nat.reduceEqDiff, Nat.reduceLT, Nat.reduceLeDiff, Nat.reduceAdd, Nat.reduceMul, decide_true, decide_false, cond_true, cond_false, reduceCtorEq, Bool.false_eq_true, Bool.true_eq_false, Bool.true_and, Bool.and_true, Bool.false_and, Bool.and_false, r1_0, r1_1, r17_0, r17_1, k5, hi', k18, k19, C_85, hb, x1]
      exact ⟨_, rfl, fun a ha => by rw [yu_ne ha]; exact g a ha, CRa_16 h h1 h2⟩
