/-! ===== the class names its blips ===== -/
def NB (c : Nat → Nat) (S : Nat → Nat → Nat → Int32) : Prop := (∀ t, t < c 4 → S 7 t 38 = -nI 1 ∨ ∃ b, b < c 3 ∧ S 7 t 38 = nI b ∧ S 5 b 4 = S 7 t 0) ∧ ∀ k, k < c 3 → S 5 k 4 = -nI 1 ∨ ∃ t, t < c 4 ∧ S 7 t 38 = nI k
theorem C_49 {μ : mMu} {f : Nat → Nat → Int32} {l : Nat → Nat → Int64} {r : Nat → Nat → Option Nat} (hs : Sh μ) (hr : Rf r) {σ : Nat → Nat} {c : Nat → Nat} {S : Nat → Nat → Nat → Int32} (hc : CB c) (hA : CRa f c S) (hp : CPm r 1 σ) (ht : TMs f σ (c 4) (S 7)) (hN : NB c S) : ∃ f', CALL 49 [.ref 1] (st μ f l r) = some (.inl none, st μ f' l r) ∧ (∀ a, a ≠ 22 → f' a = f a) ∧ ∀ k, k < c 3 → f' 22 k = S 5 k 4 := by
  have h1a : (mS μ 1).1 = 6 := by rw [hs 1 (by decide)]; rfl
  have h17a : (mS μ 17).1 = 0 := by rw [hs 17 (by decide)]; rfl
  have h22a : (mS μ 22).1 = 20 := by rw [hs 22 (by decide)]; rfl
  have h22b : (mS μ 22).2 = 10 := by rw [hs 22 (by decide)]; rfl
  have r1_1 : r 1 1 = some 17 := hr 1 1 17 rfl
  have r1_4 : r 1 4 = some 36 := hr 1 4 36 rfl
  have r17_4 : r 17 4 = some 22 := hr 17 4 22 rfl
  have hc' := hc
  obtain ⟨c0, c1, c2, c3, c4, c5, c6, c7, c8, c9, c10, c11, c12, c13, c14⟩ := hc
  have k5 : f 1 5 = nI (c 4) := hA.1.1
  obtain ⟨n1, n2⟩ := hN
  rw [B_49_0]
  refine loopP (fun i o => ∃ f' o2, o = RUN 49 2 [some (.ref 1), some (.int (nI i)), o2] [] (st μ f' l r) ∧ (∀ a, a ≠ 22 → f' a = f a) ∧ ∀ k, k < c 3 → f' 22 k = S 5 k 4 ∨ (f' 22 k = -nI 1 ∧ ∀ u, u < i → S 7 u 38 ≠ nI k)) (fun o => ∃ f', o = some (.inl none, st μ f' l r) ∧ (∀ a, a ≠ 22 → f' a = f a) ∧ ∀ k, k < c 3 → f' 22 k = S 5 k 4) (c 4) ?_ ?_ 0 _ (Nat.zero_le _) ⟨f, _, rfl, fun _ _ => rfl, fun k hk => Or.inr ⟨(hA.2.2.1.2.2 k hk).2, fun u hu => absurd hu (Nat.not_lt_zero u)⟩⟩
  · rintro o ⟨f', o2, rfl, g, h⟩
    have k : f' 1 5 = nI (c 4) := by rw [g 1 (by omega)]; exact k5
    rw [B_49_2]
    simp (disch := omega) only [st_I, st_L, st_R, st_S, st_N, st_C, st_Z, st_X, st_D, st_st, st_sI, st_sIr, st_sL, st_sR, gfI_st, gfL_st, gfR_st, gfN_st, pfI_st, pfL_st, pfR_st, pfZ_st0, pfZ_st1, ldI_st, ldL_st, stoI_st, stoL_st, aln_st, cpA_st, bq_st, bq_S, oI_s, oL_s, oD_s, oV_s, oR_s, oR_n, oI_e, oL_e, oD_e, Option.bind_some, fa_lit, fa_litL, nI_add, pk_mul, nI_m1, nI_lt', nI_le', nI_eq', lc_ge, lc_le, lc_gt, lc_lt, lc_eq, isZ_0, isZ_1, bI_0, bI_z, decide_eq_true_eq, Bool.not_eq_true', Bool.not_true, Bool.not_false, decide_eq_false_iff_not, if_true, if_false, ite_true, ite_false, eq_self, not_true, not_false_eq_true, C_80, C_81, C_82, C_84, C_85, C_86, C_94, C_95, C_96, C_97, yu_ne, yu_eq, up_eq, up_ne, yur_ne, yur_eq, yu_uu, y1_eq, y1_ne, y1_y1, Nat.mul_zero, Nat.zero_mul, Nat.add_zero, Nat.zero_add, Nat.mul_one, Nat.one_mul, Nat.reduceEqDiff, Nat.reduceLT, Nat.reduceLeDiff, Nat.reduceAdd, Nat.reduceMul, decide_true, decide_false, cond_true, cond_false, reduceCtorEq, Bool.false_eq_true, Bool.true_eq_false, Bool.true_and, Bool.and_true, Bool.false_and, Bool.and_false, r1_1, r1_4, r17_4, k, Nat.le_refl]
    refine ⟨f', rfl, g, fun k hk => ?_⟩
    rcases h k hk with e | ⟨e1, e2⟩
    · exact e
    · rcases n2 k hk with q | ⟨t, h1, h2⟩
      · rw [e1, q]
      · exact absurd h2 (e2 t h1)
  · rintro i o hi ⟨f', o2, rfl, g, h⟩
    right
    have k : f' 1 5 = nI (c 4) := by rw [g 1 (by omega)]; exact k5
    have hi' : ¬ c 4 ≤ i := by omega
    have x1 := ldT hs hr (f := f') (l := l) hp (t := i) (by omega)
    have ha := (hp.1 i (by omega)).1
    have s1a : (mS μ (37 + 3 * σ i)).1 = 7 := by rw [(trk_sh hs ha).1]
    have t0 : f' (37 + 3 * σ i) 0 = S 7 i 0 := by rw [g _ (by omega)]; exact (ht i hi).1
    have t9 : f' (37 + 3 * σ i) 9 = S 7 i 38 := by rw [g _ (by omega)]; exact (ht i hi).2.2.1
    have m0 : -nI 1 < nI 0 := by decide
    rw [B_49_2]
    rcases n1 i hi with q | ⟨b, hb, q, e⟩
    · simp (disch := omega) only [st_I, st_L, st_R, st_S, st_N, st_C, st_Z, st_X, st_D, st_st, st_sI, st_sIr, st_sL, st_sR, gfI_st, gfL_st, gfR_st, gfN_st, pfI_st, pfL_st, pfR_st, pfZ_st0, pfZ_st1, ldI_st, ldL_st, stoI_st, stoL_st, aln_st, cpA_st, bq_st, bq_S, oI_s, oL_s, oD_s, oV_s, oR_s, oR_n, oI_e, oL_e, oD_e, Option.bind_some, fa_lit, fa_litL, nI_add, pk_mul, nI_m1, nI_lt', nI_le', nI_eq', lc_ge, lc_le, lc_gt, lc_lt, lc_eq, isZ_0, isZ_1, bI_0, bI_z, decide_eq_true_eq, Bool.not_eq_true', Bool.not_true, Bool.not_false, decide_eq_false_iff_not, if_true, if_false, ite_true, ite_false, eq_self, not_true, not_false_eq_true, C_80, C_81, C_82, C_84, C_85, C_86, C_94, C_95, C_96, C_97, yu_ne, yu_eq, up_eq, up_ne, yur_ne, yur_eq, yu_uu, y1_eq, y1_ne, y1_y1, Nat.mul_zero, Nat.zero_mul, Nat.add_zero, Nat.zero_add, Nat.mul_one, Nat.one_mul, Nat.reduceEqDiff, Nat.reduceLT, Nat.reduceLeDiff, Nat.reduceAdd, Nat.reduceMul, decide_true, decide_false, cond_true, cond_false, reduceCtorEq, Bool.false_eq_true, Bool.true_eq_false, Bool.true_and, Bool.and_true, Bool.false_and, Bool.and_false, r1_1, r1_4, r17_4, k, hi', x1, s1a, t9, q, m0]
      refine ⟨f', _, rfl, g, fun k hk => ?_⟩
      rcases h k hk with e | ⟨e1, e2⟩
      · exact Or.inl e
      · refine Or.inr ⟨e1, fun u hu => ?_⟩
        by_cases qu : u = i
        · rw [qu, q]; exact fun h => nI_nm (show k < 1000 by omega) h.symm
        · exact e2 u (by omega)
    · have nb : ¬ nI b < nI 0 := by rw [nI_ltI (by omega) (by omega)]; omega
      simp (disch := omega) only [st_I, st_L, st_R, st_S, st_N, st_C, st_Z, st_X, st_D, st_st, st_sI, st_sIr, st_sL, st_sR, gfI_st, gfL_st, gfR_st, gfN_st, pfI_st, pfL_st, pfR_st, pfZ_st0, pfZ_st1, ldI_st, ldL_st, stoI_st, stoL_st, aln_st, cpA_st, bq_st, bq_S, oI_s, oL_s, oD_s, oV_s, oR_s, oR_n, oI_e, oL_e, oD_e, Option.bind_some, fa_lit, fa_litL, nI_add, pk_mul, nI_m1, nI_lt', nI_le', nI_eq', lc_ge, lc_le, lc_gt, lc_lt, lc_eq, isZ_0, isZ_1, bI_0, bI_z, decide_eq_true_eq, Bool.not_eq_true', Bool.not_true, Bool.not_false, decide_eq_false_iff_not, if_true, if_false, ite_true, ite_false, eq_self, not_true, not_false_eq_true, C_80, C_81, C_82, C_84, C_85, C_86, C_94, C_95, C_96, C_97, yu_ne, yu_eq, up_eq, up_ne, yur_ne, yur_eq, yu_uu, y1_eq, y1_ne, y1_y1, Nat.mul_zero, Nat.zero_mul, Nat.add_zero, Nat.zero_add, Nat.mul_one, Nat.one_mul, Nat.reduceEqDiff, Nat.reduceLT, Nat.reduceLeDiff, Nat.reduceAdd, Nat.reduceMul, decide_true, decide_false, cond_true, cond_false, reduceCtorEq, Bool.false_eq_true, Bool.true_eq_false, Bool.true_and, Bool.and_true, Bool.false_and, Bool.and_false, r1_1, r1_4, r17_4, k, hi', x1, s1a, t9, t0, q, nb]
      refine ⟨_, _, rfl, fun a ha => by rw [yu_ne ha]; exact g a ha, fun k hk => ?_⟩
      rw [yu_eq]
      by_cases qk : k = b
      · rw [qk, up_eq]; exact Or.inl e.symm
      · rw [up_ne qk]
        rcases h k hk with e | ⟨e1, e2⟩
        · exact Or.inl e
        · refine Or.inr ⟨e1, fun u hu => ?_⟩
          by_cases qu : u = i
          · rw [qu, q]
            intro h
            have := congrArg Int32.toInt h
            rw [nI_toInt (by omega), nI_toInt (by omega)] at this
            omega
          · exact e2 u (by omega)
