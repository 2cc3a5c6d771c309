/-! ===== the class' sweep: one of the lost is taken out ===== -/
theorem lv_swap : ∀ (n : Nat) {T : Nat → Nat → Int32} {i : Nat} {x : Nat → Int32}, i < n → (v7 (T i) :: lv (u1 T i x) n).Perm (v7 x :: lv T n)
  | 0, _, _, _, h => absurd h (Nat.not_lt_zero _)
  | n + 1, T, i, x, h => by
    rw [lv_s, lv_s]
    by_cases q : i = n
    · subst q
      rw [y1_eq, lv_k (T := T) (T' := u1 T i x) (fun e w he _ => by rw [y1_ne (by omega)])]
      have h1 : ((v7 (T i) :: lv T i) ++ [v7 x]).Perm (v7 x :: (v7 (T i) :: lv T i)) := List.perm_append_singleton _ _
      have h2 : (lv T i ++ [v7 (T i)]).Perm (v7 (T i) :: lv T i) := List.perm_append_singleton _ _
      exact h1.trans (List.Perm.cons _ h2.symm)
    · rw [y1_ne (show n ≠ i by omega)]
      exact (lv_swap n (T := T) (i := i) (x := x) (by omega)).append (List.Perm.refl [v7 (T n)])
theorem lv_drop {n : Nat} {T : Nat → Nat → Int32} {i : Nat} (h : i < n + 1) : (lv T (n + 1)).Perm (v7 (T i) :: lv (u1 T i (T n)) n) := by
  rw [lv_s]
  have h2 : (lv T n ++ [v7 (T n)]).Perm (v7 (T n) :: lv T n) := List.perm_append_singleton _ _
  by_cases q : i = n
  · subst q
    rw [lv_k (T := T) (T' := u1 T i (T i)) (fun e w he _ => by rw [y1_ne (by omega)])]
    exact h2
  · exact h2.trans (lv_swap n (by omega)).symm
theorem lv_shl {T : Nat → Nat → Int32} {i : Nat} : ∀ d, (lv T (i + d + 1)).Perm (v7 (T i) :: lv (shl T i (i + d)) (i + d))
  | 0 => by
    rw [lv_s, lv_k (T := T) (T' := shl T i (i + 0)) (fun e w he _ => by unfold shl; rw [if_neg (by omega)])]
    exact List.perm_append_singleton _ _
  | d + 1 => by
    have ih := lv_shl (T := T) (i := i) d
    have e1 : lv T (i + (d + 1) + 1) = lv T (i + d + 1) ++ [v7 (T (i + d + 1))] := lv_s
    have e2 : lv (shl T i (i + (d + 1))) (i + (d + 1)) = lv (shl T i (i + (d + 1))) (i + d) ++ [v7 (shl T i (i + (d + 1)) (i + d))] := lv_s
    have e3 : shl T i (i + (d + 1)) (i + d) = T (i + d + 1) := by unfold shl; rw [if_pos (by omega)]
    rw [e1, e2, e3, lv_k (T := shl T i (i + d)) (T' := shl T i (i + (d + 1))) (fun e w he _ => by
      unfold shl
      by_cases q : i ≤ e
      · rw [if_pos (by omega), if_pos (by omega)]
      · rw [if_neg (by omega), if_neg (by omega)])]
    exact ih.append (List.Perm.refl [v7 (T (i + d + 1))])
theorem C_32 {μ : mMu} {f : Nat → Nat → Int32} {l : Nat → Nat → Int64} {r : Nat → Nat → Option Nat} (hs : Sh μ) (hr : Rf r) {c : Nat → Nat} {S : Nat → Nat → Nat → Int32} {i i0 : Nat} (hL : CLo f 1 c S) (h5 : c 5 ≤ 130) (hi : i < c 5) (hi0 : i0 < c 5) (hv : v7 (cT f i) = v7 (S 8 i0)) : ∃ f', CALL 32 [.ref 23, .int (nI i)] (st μ f l r) = some (.inl none, st μ f' l r) ∧ (∀ q, (q < 23 ∨ 30 < q) → f' q = f q) ∧ CLo f' 1 (u1 c 5 (c 5 - 1)) (u1 S 8 (shl (S 8) i0 (c 5 - 1))) := by
  have h23a : (mS μ 23).1 = 5 := by rw [hs 23 (by decide)]; rfl
  obtain ⟨l1, l2⟩ := hL
  have k7 : f 23 7 = nI (c 5) := l1
  have n0 : ¬ nI i < nI 0 := by rw [nI_ltI (by omega) (by omega)]; omega
  have hi' : ¬ c 5 ≤ i := by omega
  have e1 : nI (c 5) - nI 1 = nI (c 5 - 1) := pk_sub (by omega)
  obtain ⟨f2, q2, g2, h2⟩ := C_34 hs hr (f := u2 f 23 7 (nI (c 5 - 1))) (l := l) (i := c 5 - 1) (j := i) (by omega) (by omega)
  rw [B_32_0]
  simp (disch := omega) only [st_I, st_L, st_R, st_S, st_N, st_C, st_Z, st_X, st_D, st_st, st_sI, st_sIr, st_sL, st_sR, gfI_st, gfL_st, gfR_st, gfN_st, pfI_st, pfL_st, pfR_st, pfZ_st0, pfZ_st1, ldI_st, ldL_st, stoI_st, stoL_st, aln_st, cpA_st, bq_st, bq_S, oI_s, oL_s, oD_s, oV_s, oR_s, oR_n, oI_e, oL_e, oD_e, Option.bind_some, fa_lit, fa_litL, nI_add, pk_mul, nI_m1, nI_lt', nI_le', nI_eq', lc_ge, lc_le, lc_gt, lc_lt, lc_eq, isZ_0, isZ_1, bI_0, bI_z, decide_eq_true_eq, Bool.not_eq_true', Bool.not_true, Bool.not_false, decide_eq_false_iff_not, if_true, if_false, ite_true, ite_false, eq_self, not_true, not_false_eq_true, C_80, C_81, C_82, C_84, C_85, C_86, C_94, C_95, C_96, C_97, yu_ne, yu_eq, up_eq, up_ne, yur_ne, yur_eq, yu_uu, y1_eq, y1_ne, y1_y1, Nat.mul_zero, Nat.zero_mul, Nat.add_zero, Nat.zero_add, Nat.mul_one, Nat.one_mul, Nat.reduceEqDiff, Nat.reduceLT, Nat.reduceLeDiff, Nat.reduceAdd, Nat.reduceMul, decide_true, decide_false, cond_true, cond_false, reduceCtorEq, Bool.false_eq_true, Bool.true_eq_false, Bool.true_and, Bool.and_true, Bool.false_and, Bool.and_false, k7, n0, hi', e1, q2]
  refine ⟨f2, rfl, fun q hq => by rw [g2 q (by omega), yu_ne (by omega)], ?_, ?_⟩
  · rw [y1_eq]
    show f2 23 7 = _
    rw [g2 23 (by omega), yu_eq, up_eq]
  · rw [y1_eq, y1_eq]
    obtain ⟨m, hm⟩ : ∃ m, c 5 = m + 1 := ⟨c 5 - 1, by omega⟩
    have e2 : c 5 - 1 = m := by omega
    have l3 : (lv (cT f) (m + 1)).Perm (lv (S 8) (m + 1)) := by rw [← hm]; exact l2
    have a1 := lv_drop (n := m) (T := cT f) (i := i) (by omega)
    have a2 := lv_shl (T := S 8) (i := i0) (m - i0)
    rw [show i0 + (m - i0) = m by omega] at a2
    have a3 := (a1.symm.trans l3).trans a2
    rw [hv] at a3
    have a4 := a3.cons_inv
    rw [e2]
    have e4 : lv (fun i w => f2 (1 + 23 + w) i) m = lv (u1 (cT f) i (cT f m)) m := lv_k (fun e w _ hw => by
      show f2 (24 + w) e = _
      rw [h2 w hw, yu_ne (by omega), e2]
      by_cases qe : e = i
      · rw [qe, up_eq, y1_eq]
        rfl
      · rw [up_ne qe, y1_ne qe]
        rfl)
    rw [e4]
    exact a4
