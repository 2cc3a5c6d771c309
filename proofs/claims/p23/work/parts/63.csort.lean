/-! ===== the class' sort of its row ===== -/
def TMs (f : Nat → Nat → Int32) (σ : Nat → Nat) (n : Nat) (T : Nat → Nat → Int32) : Prop := ∀ u, u < n → TM f (37 + 3 * σ u) (T u)
theorem O_cins {μ : mMu} {f : Nat → Nat → Int32} {l : Nat → Nat → Int64} (hs : Sh μ) {n i : Nat} (hn : n ≤ 10) : ∀ (j : Nat) (r : Nat → Nat → Option Nat) (σ : Nat → Nat) (T : Nat → Nat → Int32) (A : Nat), j < n → Rf r → A = 37 + 3 * σ j → CPm (u2 r 36 j (some A)) 1 σ → TMs f σ n T → ∃ r' σ' o, RUN 44 19 [some (.ref 1), some (.int (nI i)), some (.ref A), some (.int (nI j))] [] (st μ f l r) = RUN 44 2 [some (.ref 1), some (.int (nI (i + 1))), some (.ref A), o] [] (st μ f l r') ∧ (∀ a, a ≠ 36 → r' a = r a) ∧ Rf r' ∧ CPm r' 1 σ' ∧ TMs f σ' n (insR j T)
  | 0, r, σ, T, A, hj, hr, hA, hp, ht => by
    have h1a : (mS μ 1).1 = 6 := by rw [hs 1 (by decide)]; rfl
    have h36a : (mS μ 36).1 = 23 := by rw [hs 36 (by decide)]; rfl
    have h36b : (mS μ 36).2 = 10 := by rw [hs 36 (by decide)]; rfl
    have r1_4 : r 1 4 = some 36 := hr 1 4 36 rfl
    have s1 : (mS μ A).1 = 7 := by rw [hA, (trk_sh hs (hp.1 0 (by omega)).1).1]
    rw [B_44_19]
    simp (disch := omega) only [st_I, st_L, st_R, st_S, st_N, st_C, st_Z, st_X, st_D, st_st, st_sI, st_sIr, st_sL, st_sR, gfI_st, gfL_st, gfR_st, gfN_st, pfI_st, pfL_st, pfR_st, pfZ_st0, pfZ_st1, ldI_st, ldL_st, stoI_st, stoL_st, aln_st, cpA_st, bq_st, bq_S, oI_s, oL_s, oD_s, oV_s, oR_s, oR_n, oI_e, oL_e, oD_e, Option.bind_some, fa_lit, fa_litL, nI_add, pk_mul, nI_m1, nI_lt', nI_le', nI_eq', lc_ge, lc_le, lc_gt, lc_lt, lc_eq, isZ_0, isZ_1, bI_0, bI_z, decide_eq_true_eq, Bool.not_eq_true', Bool.not_true, Bool.not_false, decide_eq_false_iff_not, if_true, if_false, ite_true, ite_false, eq_self, not_true, not_false_eq_true, C_80, C_81, C_82, C_84, C_85, C_86, C_94, C_95, C_96, C_97, yu_ne, yu_eq, up_eq, up_ne, yur_ne, yur_eq, yu_uu, y1_eq, y1_ne, y1_y1, Nat.mul_zero, Nat.zero_mul, Nat.add_zero, Nat.zero_add, Nat.mul_one, Nat.one_mul, Nat.reduceEqDiff, Nat.reduceLT, Nat.reduceLeDiff, Nat.reduceAdd, Nat.reduceMul, decide_true, decide_false, cond_true, cond_false, reduceCtorEq, Bool.false_eq_true, Bool.true_eq_false, Bool.true_and, Bool.and_true, Bool.false_and, Bool.and_false, r1_4, Nat.le_refl, stoR_st, s1]
    exact ⟨_, σ, _, rfl, fun a h => yu_ne h, Rf_36 hr, hp, ht⟩
  | k + 1, r, σ, T, A, hj, hr, hA, hp, ht => by
    have h1a : (mS μ 1).1 = 6 := by rw [hs 1 (by decide)]; rfl
    have h36a : (mS μ 36).1 = 23 := by rw [hs 36 (by decide)]; rfl
    have h36b : (mS μ 36).2 = 10 := by rw [hs 36 (by decide)]; rfl
    have r1_4 : r 1 4 = some 36 := hr 1 4 36 rfl
    have hk10 : σ k < 10 := (hp.1 k (by omega)).1
    have s1 : (mS μ A).1 = 7 := by rw [hA, (trk_sh hs (hp.1 (k + 1) (by omega)).1).1]
    have s2 : (mS μ (37 + 3 * σ k)).1 = 7 := by rw [(trk_sh hs hk10).1]
    have e1 : nI (k + 1) - nI 1 = nI k := pk_sub (by omega)
    have e2 : nI (k + 1) + -nI 1 = nI k := nI_m1 k
    have x1 : ldR (st μ f l r) 36 (nI k) = some (37 + 3 * σ k) := by
      rw [ldR_st (by omega) (by omega) (by omega)]
      have := (hp.1 k (by omega)).2
      have h2 : u2 r 36 (k + 1) (some A) 36 k = some (37 + 3 * σ k) := this
      rw [yu_eq, up_ne (by omega)] at h2
      exact h2
    have t1 : f (37 + 3 * σ k) 0 = T k 0 := (ht k (by omega)).1
    have t2 : f A 0 = T (k + 1) 0 := by rw [hA]; exact (ht (k + 1) hj).1
    have n0 : ¬ k + 1 ≤ 0 := by omega
    have ei : insR (k + 1) T = if T k 0 ≤ T (k + 1) 0 then T else insR k (u1 (u1 T (k + 1) (T k)) k (T (k + 1))) := rfl
    rw [ei, B_44_19]
    by_cases q : T k 0 ≤ T (k + 1) 0
    · rw [if_pos q]
      simp (disch := omega) only [st_I, st_L, st_R, st_S, st_N, st_C, st_Z, st_X, st_D, st_st, st_sI, st_sIr, st_sL, st_sR, gfI_st, gfL_st, gfR_st, gfN_st, pfI_st, pfL_st, pfR_st, pfZ_st0, pfZ_st1, ldI_st, ldL_st, stoI_st, stoL_st, aln_st, cpA_st, bq_st, bq_S, oI_s, oL_s, oD_s, oV_s, oR_s, oR_n, oI_e, oL_e, oD_e, Option.bind_some, fa_lit, fa_litL, nI_add, pk_mul, nI_m1, nI_lt', nI_le', nI_eq', lc_ge, lc_le, lc_gt, lc_lt, lc_eq, isZ_0, isZ_1, bI_0, bI_z, decide_eq_true_eq, Bool.not_eq_true', Bool.not_true, Bool.not_false, decide_eq_false_iff_not, if_true, if_false, ite_true, ite_false, eq_self, not_true, not_false_eq_true, C_80, C_81, C_82, C_84, C_85, C_86, C_94, C_95, C_96, C_97, yu_ne, yu_eq, up_eq, up_ne, yur_ne, yur_eq, yu_uu, y1_eq, y1_ne, y1_y1, Nat.mul_zero, Nat.zero_mul, Nat.add_zero, Nat.zero_add, Nat.mul_one, Nat.one_mul, Nat.reduceEqDiff, Nat.reduceLT, Nat.reduceLeDiff, Nat.reduceAdd, Nat.reduceMul, decide_true, decide_false, cond_true, cond_false, reduceCtorEq, Bool.false_eq_true, Bool.true_eq_false, Bool.true_and, Bool.and_true, Bool.false_and, Bool.and_false, r1_4, r1_4, n0, e1, x1, s1, s2, t1, t2, q, stoR_st]
      exact ⟨_, σ, _, rfl, fun a h => yu_ne h, Rf_36 hr, hp, ht⟩
    · rw [if_neg q]
      have hp2 := CPm_sw hp (j := k) (i := k + 1) (by omega) (by omega)
      have er : swr (u2 r 36 (k + 1) (some A)) σ k (k + 1) = u2 (u2 r 36 (k + 1) (some (37 + 3 * σ k))) 36 k (some A) := by
        unfold swr
        rw [yu_uu, ← hA]
      rw [er] at hp2
      have hsj : A = 37 + 3 * swp σ k (k + 1) k := by rw [swp_j]; exact hA
      have ht2 : TMs f (swp σ k (k + 1)) n (u1 (u1 T (k + 1) (T k)) k (T (k + 1))) := fun u hu => by
        by_cases q1 : u = k
        · rw [q1, y1_eq, swp_j]; exact ht (k + 1) hj
        · rw [y1_ne q1]
          by_cases q2 : u = k + 1
          · rw [q2, y1_eq]
            have : swp σ k (k + 1) (k + 1) = σ k := by unfold swp; rw [y1_ne (by omega), y1_eq]
            rw [this]
            exact ht k (by omega)
          · rw [y1_ne q2, swp_o q1 q2]
            exact ht u hu
      obtain ⟨r', σ', o, g1, g2, g3, g4, g5⟩ := O_cins hs hn k (u2 r 36 (k + 1) (some (37 + 3 * σ k))) (swp σ k (k + 1)) _ A (by omega) (Rf_36 hr) hsj hp2 ht2
      simp (disch := omega) only [st_I, st_L, st_R, st_S, st_N, st_C, st_Z, st_X, st_D, st_st, st_sI, st_sIr, st_sL, st_sR, gfI_st, gfL_st, gfR_st, gfN_st, pfI_st, pfL_st, pfR_st, pfZ_st0, pfZ_st1, ldI_st, ldL_st, stoI_st, stoL_st, aln_st, cpA_st, bq_st, bq_S, oI_s, oL_s, oD_s, oV_s, oR_s, oR_n, oI_e, oL_e, oD_e, Option.bind_some, fa_lit, fa_litL, nI_add, pk_mul, nI_m1, nI_lt', nI_le', nI_eq', lc_ge, lc_le, lc_gt, lc_lt, lc_eq, isZ_0, isZ_1, bI_0, bI_z, decide_eq_true_eq, Bool.not_eq_true', Bool.not_true, Bool.not_false, decide_eq_false_iff_not, if_true, if_false, ite_true, ite_false, eq_self, not_true, not_false_eq_true, C_80, C_81, C_82, C_84, C_85, C_86, C_94, C_95, C_96, C_97, yu_ne, yu_eq, up_eq, up_ne, yur_ne, yur_eq, yu_uu, y1_eq, y1_ne, y1_y1, Nat.mul_zero, Nat.zero_mul, Nat.add_zero, Nat.zero_add, Nat.mul_one, Nat.one_mul, Nat.reduceEqDiff, Nat.reduceLT, Nat.reduceLeDiff, Nat.reduceAdd, Nat.reduceMul, decide_true, decide_false, cond_true, cond_false, reduceCtorEq, Bool.false_eq_true, Bool.true_eq_false, Bool.true_and, Bool.and_true, Bool.false_and, Bool.and_false, r1_4, r1_4, n0, e1, e2, x1, s1, s2, t1, t2, q, stoR_st]
      exact ⟨r', σ', o, g1, fun a h => (g2 a h).trans (yu_ne h), g3, g4, g5⟩
theorem C_44 {μ : mMu} {f : Nat → Nat → Int32} {l : Nat → Nat → Int64} {r : Nat → Nat → Option Nat} (hs : Sh μ) (hr : Rf r) {σ : Nat → Nat} {n : Nat} {T : Nat → Nat → Int32} (hn : n ≤ 10) (k5 : f 1 5 = nI n) (hp : CPm r 1 σ) (ht : TMs f σ n T) : ∃ r' σ', CALL 44 [.ref 1] (st μ f l r) = some (.inl none, st μ f l r') ∧ (∀ a, a ≠ 36 → r' a = r a) ∧ Rf r' ∧ CPm r' 1 σ' ∧ TMs f σ' n (sortT n T) := by
  have h1a : (mS μ 1).1 = 6 := by rw [hs 1 (by decide)]; rfl
  have h36a : (mS μ 36).1 = 23 := by rw [hs 36 (by decide)]; rfl
  have h36b : (mS μ 36).2 = 10 := by rw [hs 36 (by decide)]; rfl
  rw [B_44_0]
  simp (disch := omega) only [st_I, st_L, st_R, st_S, st_N, st_C, st_Z, st_X, st_D, st_st, st_sI, st_sIr, st_sL, st_sR, gfI_st, gfL_st, gfR_st, gfN_st, pfI_st, pfL_st, pfR_st, pfZ_st0, pfZ_st1, ldI_st, ldL_st, stoI_st, stoL_st, aln_st, cpA_st, bq_st, bq_S, oI_s, oL_s, oD_s, oV_s, oR_s, oR_n, oI_e, oL_e, oD_e, Option.bind_some, fa_lit, fa_litL, nI_add, pk_mul, nI_m1, nI_lt', nI_le', nI_eq', lc_ge, lc_le, lc_gt, lc_lt, lc_eq, isZ_0, isZ_1, bI_0, bI_z, decide_eq_true_eq, Bool.not_eq_true', Bool.not_true, Bool.not_false, decide_eq_false_iff_not, if_true, if_false, ite_true, ite_false, eq_self, not_true, not_false_eq_true, C_80, C_81, C_82, C_84, C_85, C_86, C_94, C_95, C_96, C_97, yu_ne, yu_eq, up_eq, up_ne, yur_ne, yur_eq, yu_uu, y1_eq, y1_ne, y1_y1, Nat.mul_zero, Nat.zero_mul, Nat.add_zero, Nat.zero_add, Nat.mul_one, Nat.one_mul, Nat.reduceEqDiff, Nat.reduceLT, Nat.reduceLeDiff, Nat.reduceAdd, Nat.reduceMul, decide_true, decide_false, cond_true, cond_false, reduceCtorEq, Bool.false_eq_true, Bool.true_eq_false, Bool.true_and, Bool.and_true, Bool.false_and, Bool.and_false]
  have i0 : insR 0 T = T := rfl
  refine loopP (fun i o => ∃ r' σ' o2 o3, o = RUN 44 2 [some (.ref 1), some (.int (nI (i + 1))), o2, o3] [] (st μ f l r') ∧ (∀ a, a ≠ 36 → r' a = r a) ∧ Rf r' ∧ CPm r' 1 σ' ∧ TMs f σ' n (sortT (if i < n then i + 1 else n) T)) (fun o => ∃ r' σ', o = some (.inl none, st μ f l r') ∧ (∀ a, a ≠ 36 → r' a = r a) ∧ Rf r' ∧ CPm r' 1 σ' ∧ TMs f σ' n (sortT n T)) n ?_ ?_ 0 _ (Nat.zero_le _) ⟨r, σ, _, _, rfl, fun _ _ => rfl, hr, hp, ?_⟩
  · rintro o ⟨r', σ', o2, o3, rfl, g, hr', hp', ht'⟩
    rw [if_neg (Nat.lt_irrefl _)] at ht'
    have r1_4 : r' 1 4 = some 36 := hr' 1 4 36 rfl
    have hle : n ≤ n + 1 := by omega
    rw [B_44_2]
    simp (disch := omega) only [st_I, st_L, st_R, st_S, st_N, st_C, st_Z, st_X, st_D, st_st, st_sI, st_sIr, st_sL, st_sR, gfI_st, gfL_st, gfR_st, gfN_st, pfI_st, pfL_st, pfR_st, pfZ_st0, pfZ_st1, ldI_st, ldL_st, stoI_st, stoL_st, aln_st, cpA_st, bq_st, bq_S, oI_s, oL_s, oD_s, oV_s, oR_s, oR_n, oI_e, oL_e, oD_e, Option.bind_some, fa_lit, fa_litL, nI_add, pk_mul, nI_m1, nI_lt', nI_le', nI_eq', lc_ge, lc_le, lc_gt, lc_lt, lc_eq, isZ_0, isZ_1, bI_0, bI_z, decide_eq_true_eq, Bool.not_eq_true', Bool.not_true, Bool.not_false, decide_eq_false_iff_not, if_true, if_false, ite_true, ite_false, eq_self, not_true, not_false_eq_true, C_80, C_81, C_82, C_84, C_85, C_86, C_94, C_95, C_96, C_97, yu_ne, yu_eq, up_eq, up_ne, yur_ne, yur_eq, yu_uu, y1_eq, y1_ne, y1_y1, Nat.mul_zero, Nat.zero_mul, Nat.add_zero, Nat.zero_add, Nat.mul_one, Nat.one_mul, Nat.reduceEqDiff, Nat.reduceLT, Nat.reduceLeDiff, Nat.reduceAdd, Nat.reduceMul, decide_true, decide_false, cond_true, cond_false, reduceCtorEq, Bool.false_eq_true, Bool.true_eq_false, Bool.true_and, Bool.and_true, Bool.false_and, Bool.and_false, k5, hle]
    exact ⟨r', σ', rfl, g, hr', hp', ht'⟩
  · rintro i o hi ⟨r', σ', o2, o3, rfl, g, hr', hp', ht'⟩
    rw [if_pos hi] at ht'
    have r1_4 : r' 1 4 = some 36 := hr' 1 4 36 rfl
    rw [B_44_2]
    by_cases q : n ≤ i + 1
    · left
      simp (disch := omega) only [st_I, st_L, st_R, st_S, st_N, st_C, st_Z, st_X, st_D, st_st, st_sI, st_sIr, st_sL, st_sR, gfI_st, gfL_st, gfR_st, gfN_st, pfI_st, pfL_st, pfR_st, pfZ_st0, pfZ_st1, ldI_st, ldL_st, stoI_st, stoL_st, aln_st, cpA_st, bq_st, bq_S, oI_s, oL_s, oD_s, oV_s, oR_s, oR_n, oI_e, oL_e, oD_e, Option.bind_some, fa_lit, fa_litL, nI_add, pk_mul, nI_m1, nI_lt', nI_le', nI_eq', lc_ge, lc_le, lc_gt, lc_lt, lc_eq, isZ_0, isZ_1, bI_0, bI_z, decide_eq_true_eq, Bool.not_eq_true', Bool.not_true, Bool.not_false, decide_eq_false_iff_not, if_true, if_false, ite_true, ite_false, eq_self, not_true, not_false_eq_true, C_80, C_81, C_82, C_84, C_85, C_86, C_94, C_95, C_96, C_97, yu_ne, yu_eq, up_eq, up_ne, yur_ne, yur_eq, yu_uu, y1_eq, y1_ne, y1_y1, Nat.mul_zero, Nat.zero_mul, Nat.add_zero, Nat.zero_add, Nat.mul_one, Nat.one_mul, Nat.reduceEqDiff, Nat.reduceLT, Nat.reduceLeDiff, Nat.reduceAdd, Nat.reduceMul, decide_true, decide_false, cond_true, cond_false, reduceCtorEq, Bool.false_eq_true, Bool.true_eq_false, Bool.true_and, Bool.and_true, Bool.false_and, Bool.and_false, k5, q]
      rw [show i + 1 = n by omega] at ht'
      exact ⟨r', σ', rfl, g, hr', hp', ht'⟩
    · right
      have x1 := ldT hs hr' (f := f) (l := l) hp' (t := i + 1) (by omega)
      have hv : CPm (u2 r' 36 (i + 1) (some (37 + 3 * σ' (i + 1)))) 1 σ' := by
        have e : u2 r' 36 (i + 1) (some (37 + 3 * σ' (i + 1))) = r' := by
          funext a b
          unfold u2
          split
          · rename_i h
            split
            · rename_i h2
              rw [h, h2]
              exact (hp'.1 (i + 1) (by omega)).2.symm
            · rfl
          · rfl
        rw [e]; exact hp'
      obtain ⟨r2, σ2, o, g1, g2, g3, g4, g5⟩ := O_cins (l := l) hs hn (i := i + 1) (i + 1) r' σ' _ _ (by omega) hr' rfl hv ht'
      simp (disch := omega) only [st_I, st_L, st_R, st_S, st_N, st_C, st_Z, st_X, st_D, st_st, st_sI, st_sIr, st_sL, st_sR, gfI_st, gfL_st, gfR_st, gfN_st, pfI_st, pfL_st, pfR_st, pfZ_st0, pfZ_st1, ldI_st, ldL_st, stoI_st, stoL_st, aln_st, cpA_st, bq_st, bq_S, oI_s, oL_s, oD_s, oV_s, oR_s, oR_n, oI_e, oL_e, oD_e, Option.bind_some, fa_lit, fa_litL, nI_add, pk_mul, nI_m1, nI_lt', nI_le', nI_eq', lc_ge, lc_le, lc_gt, lc_lt, lc_eq, isZ_0, isZ_1, bI_0, bI_z, decide_eq_true_eq, Bool.not_eq_true', Bool.not_true, Bool.not_false, decide_eq_false_iff_not, if_true, if_false, ite_true, ite_false, eq_self, not_true, not_false_eq_true, C_80, C_81, C_82, C_84, C_85, C_86, C_94, C_95, C_96, C_97, yu_ne, yu_eq, up_eq, up_ne, yur_ne, yur_eq, yu_uu, y1_eq, y1_ne, y1_y1, Nat.mul_zero, Nat.zero_mul, Nat.add_zero, Nat.zero_add, Nat.mul_one, Nat.one_mul, Nat.reduceEqDiff, Nat.reduceLT, Nat.reduceLeDiff, Nat.reduceAdd, Nat.reduceMul, decide_true, decide_false, cond_true, cond_false, reduceCtorEq, Bool.false_eq_true, Bool.true_eq_false, Bool.true_and, Bool.and_true, Bool.false_and, Bool.and_false, k5, q, r1_4, x1]
      rw [if_pos (show i + 1 < n by omega)]
      exact ⟨r2, σ2, _, _, g1, fun a h => (g2 a h).trans (g a h), g3, g4, g5⟩
  · by_cases q : 0 < n
    · rw [if_pos q]; exact ht
    · rw [if_neg q]
      have : n = 0 := by omega
      subst this
      exact ht
