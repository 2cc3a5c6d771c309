/-! ===== the class' sweep: the lost are forgotten ===== -/
theorem C_34 {μ : mMu} {f : Nat → Nat → Int32} {l : Nat → Nat → Int64} {r : Nat → Nat → Option Nat} (hs : Sh μ) (hr : Rf r) {i j : Nat} (hi : i < 130) (hj : j < 130) : ∃ f', CALL 34 [.ref 23, .int (nI i), .int (nI j)] (st μ f l r) = some (.inl none, st μ f' l r) ∧ (∀ q, (q < 24 ∨ 30 < q) → f' q = f q) ∧ ∀ w, w < 7 → f' (24 + w) = up (f (24 + w)) j (f (24 + w) i) := by
  have h23a : (mS μ 23).1 = 5 := by rw [hs 23 (by decide)]; rfl
  have h24a : (mS μ 24).1 = 20 := by rw [hs 24 (by decide)]; rfl
  have h24b : (mS μ 24).2 = 130 := by rw [hs 24 (by decide)]; rfl
  have h25a : (mS μ 25).1 = 20 := by rw [hs 25 (by decide)]; rfl
  have h25b : (mS μ 25).2 = 130 := by rw [hs 25 (by decide)]; rfl
  have h26a : (mS μ 26).1 = 20 := by rw [hs 26 (by decide)]; rfl
  have h26b : (mS μ 26).2 = 130 := by rw [hs 26 (by decide)]; rfl
  have h27a : (mS μ 27).1 = 20 := by rw [hs 27 (by decide)]; rfl
  have h27b : (mS μ 27).2 = 130 := by rw [hs 27 (by decide)]; rfl
  have h28a : (mS μ 28).1 = 20 := by rw [hs 28 (by decide)]; rfl
  have h28b : (mS μ 28).2 = 130 := by rw [hs 28 (by decide)]; rfl
  have h29a : (mS μ 29).1 = 20 := by rw [hs 29 (by decide)]; rfl
  have h29b : (mS μ 29).2 = 130 := by rw [hs 29 (by decide)]; rfl
  have h30a : (mS μ 30).1 = 20 := by rw [hs 30 (by decide)]; rfl
  have h30b : (mS μ 30).2 = 130 := by rw [hs 30 (by decide)]; rfl
  have r23_0 : r 23 0 = some 24 := hr 23 0 24 rfl
  have r23_1 : r 23 1 = some 25 := hr 23 1 25 rfl
  have r23_2 : r 23 2 = some 26 := hr 23 2 26 rfl
  have r23_3 : r 23 3 = some 27 := hr 23 3 27 rfl
  have r23_4 : r 23 4 = some 28 := hr 23 4 28 rfl
  have r23_5 : r 23 5 = some 29 := hr 23 5 29 rfl
  have r23_6 : r 23 6 = some 30 := hr 23 6 30 rfl
  rw [B_34_0]
  simp (maxSteps := 5000000) (disch := omega) only [st_I, st_L, st_R, st_S, st_N, st_C, st_Z, st_X, st_D, st_st, st_sI, st_sIr, st_sL, st_sR, gfI_st, gfL_st, gfR_st, gfN_st, pfI_st, pfL_st, pfR_st, pfZ_st0, pfZ_st1, ldI_st, ldL_st, stoI_st, stoL_st, aln_st, cpA_st, bq_st, bq_S, oI_s, oL_s, oD_s, oV_s, oR_s, oR_n, oI_e, oL_e, oD_e, Option.bind_some, fa_lit, fa_litL, nI_add, pk_mul, nI_m1, nI_lt', nI_le', nI_eq', lc_ge, lc_le, lc_gt, lc_lt, lc_eq, isZ_0, isZ_1, bI_0, bI_z, decide_eq_true_eq, Bool.not_eq_true', Bool.not_true, Bool.not_false, decide_eq_false_iff_not, if_true, if_false, ite_true, ite_false, eq_self, not_true, not_false_eq_true, C_80, C_81, C_82, C_84, C_85, C_86, C_94, C_95, C_96, C_97, yu_ne, yu_eq, up_eq, up_ne, yur_ne, yur_eq, yu_uu, y1_eq, y1_ne, y1_y1, Nat.mul_zero, Nat.zero_mul, Nat.add_zero, Nat.zero_add, Nat.mul_one, Nat.one_mul, Nat.reduceEqDiff, Nat.reduceLT, Nat.reduceLeDiff, Nat.reduceAdd, Nat.reduceMul, decide_true, decide_false, cond_true, cond_false, reduceCtorEq, Bool.false_eq_true, Bool.true_eq_false, Bool.true_and, Bool.and_true, Bool.false_and, Bool.and_false, r23_0, r23_1, r23_2, r23_3, r23_4, r23_5, r23_6]
  refine ⟨_, rfl, fun q hq => by simp (disch := omega) only [st_I, st_L, st_R, st_S, st_N, st_C, st_Z, st_X, st_D, st_st, st_sI, st_sIr, st_sL, st_sR, gfI_st, gfL_st, gfR_st, gfN_st, pfI_st, pfL_st, pfR_st, pfZ_st0, pfZ_st1, ldI_st, ldL_st, stoI_st, stoL_st, aln_st, cpA_st, bq_st, bq_S, oI_s, oL_s, oD_s, oV_s, oR_s, oR_n, oI_e, oL_e, oD_e, Option.bind_some, fa_lit, fa_litL, nI_add, pk_mul, nI_m1, nI_lt', nI_le', nI_eq', lc_ge, lc_le, lc_gt, lc_lt, lc_eq, isZ_0, isZ_1, bI_0, bI_z, decide_eq_true_eq, Bool.not_eq_true', Bool.not_true, Bool.not_false, decide_eq_false_iff_not, if_true, if_false, ite_true, ite_false, eq_self, not_true, not_false_eq_true, C_80, C_81, C_82, C_84, C_85, C_86, C_94, C_95, C_96, C_97, yu_ne, yu_eq, up_eq, up_ne, yur_ne, yur_eq, yu_uu, y1_eq, y1_ne, y1_y1, Nat.mul_zero, Nat.zero_mul, Nat.add_zero, Nat.zero_add, Nat.mul_one, Nat.one_mul, Nat.reduceEqDiff, Nat.reduceLT, Nat.reduceLeDiff, Nat.reduceAdd, Nat.reduceMul, decide_true, decide_false, cond_true, cond_false, reduceCtorEq, Bool.false_eq_true, Bool.true_eq_false, Bool.true_and, Bool.and_true, Bool.false_and, Bool.and_false, r23_0, r23_1, r23_2, r23_3, r23_4, r23_5, r23_6], fun w hw => ?_⟩
  have hw' : w = 0 ∨ w = 1 ∨ w = 2 ∨ w = 3 ∨ w = 4 ∨ w = 5 ∨ w = 6 := by omega
  rcases hw' with rfl | rfl | rfl | rfl | rfl | rfl | rfl <;> simp (disch := omega) only [st_I, st_L, st_R, st_S, st_N, st_C, st_Z, st_X, st_D, st_st, st_sI, st_sIr, st_sL, st_sR, gfI_st, gfL_st, gfR_st, gfN_st, pfI_st, pfL_st, pfR_st, pfZ_st0, pfZ_st1, ldI_st, ldL_st, stoI_st, stoL_st, aln_st, cpA_st, bq_st, bq_S, oI_s, oL_s, oD_s, oV_s, oR_s, oR_n, oI_e, oL_e, oD_e, Option.bind_some, fa_lit, fa_litL, nI_add, pk_mul, nI_m1, nI_lt', nI_le', nI_eq', lc_ge, lc_le, lc_gt, lc_lt, lc_eq, isZ_0, isZ_1, bI_0, bI_z, decide_eq_true_eq, Bool.not_eq_true', Bool.not_true, Bool.not_false, decide_eq_false_iff_not, if_true, if_false, ite_true, ite_false, eq_self, not_true, not_false_eq_true, C_80, C_81, C_82, C_84, C_85, C_86, C_94, C_95, C_96, C_97, yu_ne, yu_eq, up_eq, up_ne, yur_ne, yur_eq, yu_uu, y1_eq, y1_ne, y1_y1, Nat.mul_zero, Nat.zero_mul, Nat.add_zero, Nat.zero_add, Nat.mul_one, Nat.one_mul, Nat.reduceEqDiff, Nat.reduceLT, Nat.reduceLeDiff, Nat.reduceAdd, Nat.reduceMul, decide_true, decide_false, cond_true, cond_false, reduceCtorEq, Bool.false_eq_true, Bool.true_eq_false, Bool.true_and, Bool.and_true, Bool.false_and, Bool.and_false, r23_0, r23_1, r23_2, r23_3, r23_4, r23_5, r23_6]
def kpC (x : Int32) (R : Nat → Int32) : Bool := !decide (R 5 < x)
def cT (f : Nat → Nat → Int32) (e w : Nat) : Int32 := f (24 + w) e
theorem lv_len {T : Nat → Nat → Int32} {n : Nat} : (lv T n).length = n := by
  unfold lv
  rw [List.length_map, List.length_range]
theorem lv_cmp {kp : (Nat → Int32) → Bool} {P : V7 → Bool} (h : ∀ R, kp R = P (v7 R)) {T : Nat → Nat → Int32} : ∀ n, lv (cmp kp T n).1 (cmp kp T n).2 = (lv T n).filter P
  | 0 => rfl
  | n + 1 => by
    have ih := lv_cmp h (T := T) n
    rw [cmp_s, lv_s, List.filter_append, ← ih, cmp_ge n n (Nat.le_refl _)]
    have e := h (T n)
    cases hk : kp (T n)
    · rw [hk] at e
      rw [List.filter_cons_of_neg (by rw [← e]; exact Bool.false_ne_true), List.filter_nil, List.append_nil]
      rfl
    · rw [hk] at e
      rw [List.filter_cons_of_pos (by rw [← e]), List.filter_nil]
      show lv (u1 (cmp kp T n).1 (cmp kp T n).2 (T n)) ((cmp kp T n).2 + 1) = _
      rw [lv_s, y1_eq, lv_k (T := (cmp kp T n).1) (fun i w hi _ => by rw [y1_ne (by omega)])]
theorem C_33 {μ : mMu} {f : Nat → Nat → Int32} {l : Nat → Nat → Int64} {r : Nat → Nat → Option Nat} (hs : Sh μ) (hr : Rf r) {n : Nat} {x : Int32} (hn : n ≤ 130) (k7 : f 23 7 = nI n) : ∃ f', CALL 33 [.ref 23, .int x] (st μ f l r) = some (.inl none, st μ f' l r) ∧ (∀ q, (q < 23 ∨ 30 < q) → f' q = f q) ∧ f' 23 7 = nI (cmp (kpC x) (cT f) n).2 ∧ ∀ e w, w < 7 → cT f' e w = (cmp (kpC x) (cT f) n).1 e w := by
  have h23a : (mS μ 23).1 = 5 := by rw [hs 23 (by decide)]; rfl
  have h29a : (mS μ 29).1 = 20 := by rw [hs 29 (by decide)]; rfl
  have h29b : (mS μ 29).2 = 130 := by rw [hs 29 (by decide)]; rfl
  have r23_5 : r 23 5 = some 29 := hr 23 5 29 rfl
  rw [B_33_0]
  refine loopP (fun i o => ∃ f', o = RUN 33 4 [some (.ref 23), some (.int x), some (.int (nI (cmp (kpC x) (cT f) i).2)), some (.int (nI i))] [] (st μ f' l r) ∧ (∀ q, (q < 24 ∨ 30 < q) → f' q = f q) ∧ ∀ e w, w < 7 → cT f' e w = (cmp (kpC x) (cT f) i).1 e w) (fun o => ∃ f', o = some (.inl none, st μ f' l r) ∧ (∀ q, (q < 23 ∨ 30 < q) → f' q = f q) ∧ f' 23 7 = nI (cmp (kpC x) (cT f) n).2 ∧ ∀ e w, w < 7 → cT f' e w = (cmp (kpC x) (cT f) n).1 e w) n ?_ ?_ 0 _ (Nat.zero_le _) ⟨f, rfl, fun _ _ => rfl, fun _ _ _ => rfl⟩
  · rintro o ⟨f', rfl, g, h⟩
    have k : f' 23 7 = nI n := by rw [g 23 (by omega)]; exact k7
    rw [B_33_4]
    simp (disch := omega) only [st_I, st_L, st_R, st_S, st_N, st_C, st_Z, st_X, st_D, st_st, st_sI, st_sIr, st_sL, st_sR, gfI_st, gfL_st, gfR_st, gfN_st, pfI_st, pfL_st, pfR_st, pfZ_st0, pfZ_st1, ldI_st, ldL_st, stoI_st, stoL_st, aln_st, cpA_st, bq_st, bq_S, oI_s, oL_s, oD_s, oV_s, oR_s, oR_n, oI_e, oL_e, oD_e, Option.bind_some, fa_lit, fa_litL, nI_add, pk_mul, nI_m1, nI_lt', nI_le', nI_eq', lc_ge, lc_le, lc_gt, lc_lt, lc_eq, isZ_0, isZ_1, bI_0, bI_z, decide_eq_true_eq, Bool.not_eq_true', Bool.not_true, Bool.not_false, decide_eq_false_iff_not, if_true, if_false, ite_true, ite_false, eq_self, not_true, not_false_eq_true, C_80, C_81, C_82, C_84, C_85, C_86, C_94, C_95, C_96, C_97, yu_ne, yu_eq, up_eq, up_ne, yur_ne, yur_eq, yu_uu, y1_eq, y1_ne, y1_y1, Nat.mul_zero, Nat.zero_mul, Nat.add_zero, Nat.zero_add, Nat.mul_one, Nat.one_mul, Nat.reduceEqDiff, Nat.reduceLT, Nat.reduceLeDiff, Nat.reduceAdd, Nat.reduceMul, decide_true, decide_false, cond_true, cond_false, reduceCtorEq, Bool.false_eq_true, Bool.true_eq_false, Bool.true_and, Bool.and_true, Bool.false_and, Bool.and_false, r23_5, k, Nat.le_refl]
    refine ⟨_, rfl, fun q hq => by rw [yu_ne (by omega)]; exact g q (by omega), by rw [yu_eq, up_eq], fun e w hw => ?_⟩
    rw [← h e w hw]
    unfold cT
    rw [yu_ne (by omega)]
  · rintro i o hi ⟨f', rfl, g, h⟩
    right
    have k : f' 23 7 = nI n := by rw [g 23 (by omega)]; exact k7
    have hi' : ¬ n ≤ i := by omega
    have hj := cmp_le (kp := kpC x) (T := cT f) i
    have e5 : f' 29 i = f 29 i := (h i 5 (by decide)).trans (by rw [cmp_ge i i (Nat.le_refl _)]; rfl)
    rw [cmp_s, cmp_ge i i (Nat.le_refl _)]
    have ek : kpC x (cT f i) = !decide (f 29 i < x) := rfl
    rw [ek, B_33_4]
    by_cases q : f 29 i < x
    · simp (disch := omega) only [st_I, st_L, st_R, st_S, st_N, st_C, st_Z, st_X, st_D, st_st, st_sI, st_sIr, st_sL, st_sR, gfI_st, gfL_st, gfR_st, gfN_st, pfI_st, pfL_st, pfR_st, pfZ_st0, pfZ_st1, ldI_st, ldL_st, stoI_st, stoL_st, aln_st, cpA_st, bq_st, bq_S, oI_s, oL_s, oD_s, oV_s, oR_s, oR_n, oI_e, oL_e, oD_e, Option.bind_some, fa_lit, fa_litL, nI_add, pk_mul, nI_m1, nI_lt', nI_le', nI_eq', lc_ge, lc_le, lc_gt, lc_lt, lc_eq, isZ_0, isZ_1, bI_0, bI_z, decide_eq_true_eq, Bool.not_eq_true', Bool.not_true, Bool.not_false, decide_eq_false_iff_not, if_true, if_false, ite_true, ite_false, eq_self, not_true, not_false_eq_true, C_80, C_81, C_82, C_84, C_85, C_86, C_94, C_95, C_96, C_97, yu_ne, yu_eq, up_eq, up_ne, yur_ne, yur_eq, yu_uu, y1_eq, y1_ne, y1_y1, Nat.mul_zero, Nat.zero_mul, Nat.add_zero, Nat.zero_add, Nat.mul_one, Nat.one_mul, Nat.reduceEqDiff, Nat.reduceLT, Nat.reduceLeDiff, Nat.reduceAdd, Nat.reduceMul, decide_true, decide_false, cond_true, cond_false, reduceCtorEq, Bool.false_eq_true, Bool.true_eq_false, Bool.true_and, Bool.and_true, Bool.false_and, Bool.and_false, r23_5, k, hi', e5, q]
      exact ⟨f', rfl, g, h⟩
    · obtain ⟨f2, q2, g2, h2⟩ := C_34 hs hr (f := f') (l := l) (i := i) (j := (cmp (kpC x) (cT f) i).2) (by omega) (by omega)
      simp (disch := omega) only [st_I, st_L, st_R, st_S, st_N, st_C, st_Z, st_X, st_D, st_st, st_sI, st_sIr, st_sL, st_sR, gfI_st, gfL_st, gfR_st, gfN_st, pfI_st, pfL_st, pfR_st, pfZ_st0, pfZ_st1, ldI_st, ldL_st, stoI_st, stoL_st, aln_st, cpA_st, bq_st, bq_S, oI_s, oL_s, oD_s, oV_s, oR_s, oR_n, oI_e, oL_e, oD_e, Option.bind_some, fa_lit, fa_litL, nI_add, pk_mul, nI_m1, nI_lt', nI_le', nI_eq', lc_ge, lc_le, lc_gt, lc_lt, lc_eq, isZ_0, isZ_1, bI_0, bI_z, decide_eq_true_eq, Bool.not_eq_true', Bool.not_true, Bool.not_false, decide_eq_false_iff_not, if_true, if_false, ite_true, ite_false, eq_self, not_true, not_false_eq_true, C_80, C_81, C_82, C_84, C_85, C_86, C_94, C_95, C_96, C_97, yu_ne, yu_eq, up_eq, up_ne, yur_ne, yur_eq, yu_uu, y1_eq, y1_ne, y1_y1, Nat.mul_zero, Nat.zero_mul, Nat.add_zero, Nat.zero_add, Nat.mul_one, Nat.one_mul, Nat.reduceEqDiff, Nat.reduceLT, Nat.reduceLeDiff, Nat.reduceAdd, Nat.reduceMul, decide_true, decide_false, cond_true, cond_false, reduceCtorEq, Bool.false_eq_true, Bool.true_eq_false, Bool.true_and, Bool.and_true, Bool.false_and, Bool.and_false, r23_5, k, hi', e5, q, q2]
      refine ⟨f2, rfl, fun q hq => (g2 q hq).trans (g q hq), fun e w hw => ?_⟩
      have e1 : cT f2 e w = up (f' (24 + w)) (cmp (kpC x) (cT f) i).2 (f' (24 + w) i) e := by show f2 (24 + w) e = _; rw [h2 w hw]
      have e2 : f' (24 + w) i = cT f i w := (h i w hw).trans (by rw [cmp_ge i i (Nat.le_refl _)])
      rw [e1, e2]
      by_cases qe : e = (cmp (kpC x) (cT f) i).2
      · rw [qe, up_eq, y1_eq]
      · rw [up_ne qe, y1_ne qe]
        exact h e w hw
/-- forgetting, as the lists have it -/
theorem CLo_for {f f' : Nat → Nat → Int32} {c : Nat → Nat} {S : Nat → Nat → Nat → Int32} {x : Int32} {k : Nat} (hL : CLo f 1 c S) (hK : ∀ i, i < c 5 → kpC x (S 8 i) = kpF k (S 8 i)) (h7 : f' 23 7 = nI (cmp (kpC x) (cT f) (c 5)).2) (h : ∀ e w, w < 7 → cT f' e w = (cmp (kpC x) (cT f) (c 5)).1 e w) : CLo f' 1 (u1 c 5 (cmp (kpF k) (S 8) (c 5)).2) (u1 S 8 (cmp (kpF k) (S 8) (c 5)).1) := by
  obtain ⟨l1, l2⟩ := hL
  have a1 := lv_cmp (kp := kpC x) (P := fun v => !decide (v.2.2.2.2.2.1 < x)) (fun R => rfl) (T := cT f) (c 5)
  have a2 := lv_cmp (kp := kpF k) (P := fun v => decide (nI k - v.2.2.2.2.2.1 ≤ nI 12)) (fun R => rfl) (T := S 8) (c 5)
  have l2' : (lv (cT f) (c 5)).Perm (lv (S 8) (c 5)) := l2
  have hp := l2'.filter (fun v => !decide (v.2.2.2.2.2.1 < x))
  have e3 : (lv (S 8) (c 5)).filter (fun v => !decide (v.2.2.2.2.2.1 < x)) = (lv (S 8) (c 5)).filter (fun v => decide (nI k - v.2.2.2.2.2.1 ≤ nI 12)) := by
    apply List.filter_congr
    intro v hv
    unfold lv at hv
    obtain ⟨i, hi, rfl⟩ := List.mem_map.mp hv
    exact hK i (List.mem_range.mp hi)
  rw [e3, ← a1, ← a2] at hp
  have hlen := hp.length_eq
  rw [lv_len, lv_len] at hlen
  refine ⟨?_, ?_⟩
  · rw [y1_eq, ← hlen]; exact h7
  · rw [y1_eq, y1_eq, ← hlen]
    rw [← hlen] at hp
    have e4 : lv (fun i w => f' (1 + 23 + w) i) (cmp (kpC x) (cT f) (c 5)).2 = lv (cmp (kpC x) (cT f) (c 5)).1 (cmp (kpC x) (cT f) (c 5)).2 := lv_k (fun i w _ hw => h i w hw)
    rw [e4]
    exact hp
