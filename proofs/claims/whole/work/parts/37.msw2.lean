/-! ===== the reference's sweep, whole ===== -/
theorem jst_c {sl : Nat → Nat → Option Nat} {nb : Nat} (hsl : ∀ t tk k, sl t tk = some k → k < nb) {S : Nat → Nat → Nat → Int32} : ∀ n, (∀ a, a ≠ 5 → a ≠ 7 → (itr (jst sl) n (S, 0)).1 a = S a) ∧ (∀ k w, w ≠ 4 → (itr (jst sl) n (S, 0)).1 5 k w = S 5 k w) ∧ (∀ t, t < n → (itr (jst sl) n (S, 0)).1 7 t 13 = -nI 1 ∨ ∃ b, b < nb ∧ (itr (jst sl) n (S, 0)).1 7 t 13 = nI b) ∧ (∀ t w, w ≠ 13 → w ≠ 38 → (itr (jst sl) n (S, 0)).1 7 t w = S 7 t w) ∧ (∀ t, n ≤ t → (itr (jst sl) n (S, 0)).1 7 t = S 7 t)
  | 0 => ⟨fun _ _ _ => rfl, fun _ _ _ => rfl, fun t ht => absurd ht (Nat.not_lt_zero t), fun _ _ _ _ => rfl, fun _ _ => rfl⟩
  | n + 1 => by
    obtain ⟨h1, h2, h3, h4, h5⟩ := jst_c hsl (S := S) n
    rw [itr_s']
    generalize itr (jst sl) n (S, 0) = s at h1 h2 h3 h4 h5 ⊢
    unfold jst
    cases hq : sl n s.2 with
    | none =>
      simp only
      refine ⟨fun a ha hb => ?_, fun k w hw => ?_, fun t ht => ?_, fun t w hw hw2 => ?_, fun t ht => ?_⟩
      · rw [y1_ne hb, h1 a ha hb]
      · rw [y1_ne (by decide), h2 k w hw]
      · rw [y1_eq]
        by_cases q : t = n
        · subst q; rw [y1_eq, up_eq]; exact Or.inl rfl
        · rw [y1_ne q]; exact h3 t (by omega)
      · rw [y1_eq]
        by_cases q : t = n
        · subst q; rw [y1_eq, up_ne hw, up_ne hw2, h4 t w hw hw2]
        · rw [y1_ne q, h4 t w hw hw2]
      · rw [y1_eq, y1_ne (by omega), h5 t (by omega)]
    | some k0 =>
      simp only
      have hk := hsl _ _ _ hq
      refine ⟨fun a ha hb => ?_, fun k w hw => ?_, fun t ht => ?_, fun t w hw hw2 => ?_, fun t ht => ?_⟩
      · rw [y1_ne ha, y1_ne hb, h1 a ha hb]
      · rw [y1_eq]
        by_cases q : k = k0
        · subst q; rw [y1_eq, up_ne hw, h2 k w hw]
        · rw [y1_ne q, h2 k w hw]
      · rw [y1_ne (by decide), y1_eq]
        by_cases q : t = n
        · subst q; rw [y1_eq, up_eq]; exact Or.inr ⟨k0, hk, rfl⟩
        · rw [y1_ne q]; exact h3 t (by omega)
      · rw [y1_ne (show (7 : Nat) ≠ 5 by decide), y1_eq]
        by_cases q : t = n
        · subst q; rw [y1_eq, up_ne hw, up_ne hw2, h4 t w hw hw2]
        · rw [y1_ne q, h4 t w hw hw2]
      · rw [y1_ne (show (7 : Nat) ≠ 5 by decide), y1_eq, y1_ne (by omega), h5 t (by omega)]
theorem CB_7 {c : Nat → Nat} {v : Nat} (hc : CB c) (h : v ≤ 30000) : CB (u1 c 7 v) := by
  obtain ⟨c0, c1, c2, c3, c4, c5, c6, c7, c8, c9, c10, c11, c12, c13, c14⟩ := hc
  exact ⟨c0, c1, c2, c3, c4, c5, c6, by rw [y1_eq]; exact h, c8, c9, c10, c11, c12, c13, c14⟩
theorem u1_at {c : Nat → Nat} {a b v : Nat} (h : b ≠ a) : u1 c a v b = c b := y1_ne h
def S1 (dt : Int32) (c : Nat → Nat) (S : Nat → Nat → Nat → Int32) : Nat → Nat → Nat → Int32 := u1 S 7 (upn (c 4) (fun _ => e1 dt) (S 7))
def c1' (dt : Int32) (c : Nat → Nat) : Nat → Nat := u1 c 7 (c 7 + ix dt)
def okSw (dt : Int32) (c : Nat → Nat) (S : Nat → Nat → Nat → Int32) : Prop := c 7 + 60 ≤ 30000 ∧ c 8 + 300 ≤ 1000000 ∧ c 9 + 10 ≤ 1000000 ∧ (∀ k, k < c 3 → plc (S 5 k 0) (S 5 k 1) = true) ∧ (∀ i, i ≤ c 4 → (itr (mv1 dt) i (c1' dt c, (join (c1' dt c) (S1 dt c S)).1)).1 5 ≤ 59)
theorem dt_ne {n : Nat} (h1 : 1 ≤ n) (h2 : n ≤ 60) : (2 : Int64) * (nI n).toInt64 ≠ 0 := by
  have key : ∀ n, n < 61 → 1 ≤ n → (2 : Int64) * (nI n).toInt64 ≠ 0 := by decide
  exact key n (by omega) h1
theorem CB_mv {dt : Int32} {c : Nat → Nat} {S : Nat → Nat → Nat → Int32} (hc : CB c) (h8 : c 8 + 10 ≤ 1000000) (hL : (itr (mv1 dt) (c 4) (c, S)).1 5 ≤ 59) : CB (move dt (c, S)).1 ∧ (move dt (c, S)).1 8 ≤ c 8 + 10 ∧ (move dt (c, S)).1 9 = c 9 ∧ (move dt (c, S)).1 3 = c 3 ∧ (move dt (c, S)).1 6 = c 6 ∧ (∀ a, a ≠ 7 → a ≠ 8 → a ≠ 9 → (move dt (c, S)).2 a = S a) := by
  have hc4 : c 4 ≤ 10 := hc.2.2.2.2.1
  obtain ⟨h1, h2, h3, h4⟩ := mvs_c (dt := dt) (s := (c, S)) (c 4)
  have h5 := cmp_le (kp := kpT) (T := (itr (mv1 dt) (c 4) (c, S)).2 7) (c 4)
  have hcc : (c, S).1 8 = c 8 := rfl
  have e1 : CB (itr (mv1 dt) (c 4) (c, S)).1 := CB_of hc h1 (by omega) (by omega)
  unfold move
  simp only
  generalize itr (mv1 dt) (c 4) (c, S) = s at h1 h2 h3 h4 h5 e1 hL ⊢
  refine ⟨CB_of2 e1 (fun j q4 q8 q9 => y1_ne q4) (by rw [y1_eq]; omega) (by rw [y1_ne (by decide)]; omega) (by rw [y1_ne (by decide), h1 9 (by decide) (by decide)]; exact hc.2.2.2.2.2.2.2.2.2.1), ?_, ?_, ?_, ?_, fun a ha hb hd => ?_⟩
  · rw [y1_ne (by decide)]; omega
  · rw [y1_ne (by decide), h1 9 (by decide) (by decide)]
  · rw [y1_ne (by decide), h1 3 (by decide) (by decide)]
  · rw [y1_ne (by decide), h1 6 (by decide) (by decide)]
  · rw [y1_ne ha, h3 a ha hb hd]
theorem CB_sw2 {c : Nat → Nat} {S : Nat → Nat → Nat → Int32} (hc : CB c) (h8 : c 8 + 250 ≤ 1000000) (h9 : c 9 + 10 ≤ 1000000) : CB (sw2 (c, S)).1 ∧ (sw2 (c, S)).1 6 = c 6 ∧ CB (begin' (c, S)).1 ∧ (begin' (c, S)).1 8 ≤ c 8 + 10 ∧ CB (itr knw ((begin' (c, S)).1 4) (begin' (c, S))).1 ∧ (itr knw ((begin' (c, S)).1 4) (begin' (c, S))).1 8 ≤ c 8 + 20 ∧ (itr knw ((begin' (c, S)).1 4) (begin' (c, S))).1 4 = (begin' (c, S)).1 4 := by
  have hc' := hc
  obtain ⟨c0, c1, c2, c3, c4, c5, c6, c7, c8, c9, c10, c11, c12, c13, c14⟩ := hc
  obtain ⟨a1, a2, a3, a4, a5⟩ := begs_c (s := (c, itr clt (c 3) S)) c4 (c 3)
  have hb : begin' (c, S) = itr beg1 (c 3) (c, itr clt (c 3) S) := rfl
  have hx8 : (c, itr clt (c 3) S).1 8 = c 8 := rfl
  have hx9 : (c, itr clt (c 3) S).1 9 = c 9 := rfl
  unfold sw2
  simp only
  rw [hb]
  have hb4 : CB (itr beg1 (c 3) (c, itr clt (c 3) S)).1 := CB_of2 hc' a1 a3 (by omega) (by omega)
  have e6 : (itr beg1 (c 3) (c, itr clt (c 3) S)).1 6 = c 6 := a1 6 (by decide) (by decide) (by decide)
  generalize itr beg1 (c 3) (c, itr clt (c 3) S) = s4 at a1 a2 a3 a4 a5 hb4 e6 ⊢
  obtain ⟨k1, k2, k3⟩ := knws_c (s := s4) (s4.1 4)
  have hk5 : CB (itr knw (s4.1 4) s4).1 := CB_of hb4 k1 (by have := hb4.2.2.2.2.2.1; omega) (by omega)
  have hk4 : (itr knw (s4.1 4) s4).1 4 = s4.1 4 := k1 4 (by decide) (by decide)
  have hk6 : (itr knw (s4.1 4) s4).1 6 = s4.1 6 := k1 6 (by decide) (by decide)
  refine ⟨?_, ?_, hb4, by omega, hk5, by omega, hk4⟩
  all_goals generalize itr knw (s4.1 4) s4 = s5 at k1 k2 k3 hk5 hk4 hk6 ⊢
  all_goals unfold look ars
  all_goals simp only
  all_goals generalize hs6 : (s5.1, u1 s5.2 7 (sortT (s5.1 4) (s5.2 7))) = s6
  all_goals have e8 : s6.1 8 = s5.1 8 := by rw [← hs6]
  all_goals have eq6 : ∀ q, s6.1 q = s5.1 q := fun q => by rw [← hs6]
  all_goals have hn4 : s5.1 4 ≤ 10 := hk5.2.2.2.2.1
  all_goals have hn2 : s5.1 2 ≤ 6 := hk5.2.2.1
  all_goals obtain ⟨g1, g2⟩ := crs_bd (n := s5.1 4) (s := s6)
  all_goals have hx := itr_bd (g := fun area s => itr (ar1 area) (s5.1 4) s) (e := s5.1 4) (fun a s => by
    have := itr_bd (g := ar1 a) (e := 1) ar1_bd (s := s) (s5.1 4)
    rw [Nat.one_mul] at this
    exact this) (s := crs (s5.1 4) s6) (s5.1 2)
  all_goals obtain ⟨x1, x2⟩ := hx
  all_goals have hnn : s5.1 4 * s5.1 4 ≤ 10 * 10 := Nat.mul_le_mul hn4 hn4
  all_goals have hnm : s5.1 4 * s5.1 2 ≤ 10 * 6 := Nat.mul_le_mul hn4 hn2
  · exact CB_8 hk5 (fun q hq => (x1 q hq).trans ((g1 q hq).trans (eq6 q))) (by omega)
  · rw [x1 6 (by decide), g1 6 (by decide), eq6 6, hk6, e6]
theorem S_mid {m0 μ : mMu} {f : Nat → Nat → Int32} {l : Nat → Nat → Int64} {r : Nat → Nat → Option Nat} {k z : Nat} {c : Nat → Nat} {S : Nat → Nat → Nat → Int32} {o1 : Option Value} {v : Int32} (h : Md m0 μ f l r k z (itr knw 0 (begin' (c, S))).1 (itr knw 0 (begin' (c, S))).2) (hc : CB c) (h8 : c 8 + 250 ≤ 1000000) (h9 : c 9 + 10 ≤ 1000000) (h6 : c 6 < 500) : MI (RUN 147 72 [some (.ref 137), o1, some (.int v), some (.int (nI 0))] [] (st μ f l r)) m0 (k + 210) (z + 840) v (sw3 (sw2 (c, S))).1 (sw3 (sw2 (c, S))).2 := by
  obtain ⟨b1, b2, b3, b4, b5, b6, b7⟩ := CB_sw2 (S := S) hc h8 h9
  have hsw2 : sw2 (c, S) = look ((itr knw ((begin' (c, S)).1 4) (begin' (c, S))).1, u1 (itr knw ((begin' (c, S)).1 4) (begin' (c, S))).2 7 (sortT ((itr knw ((begin' (c, S)).1 4) (begin' (c, S))).1 4) ((itr knw ((begin' (c, S)).1 4) (begin' (c, S))).2 7))) := rfl
  have hb4 : (begin' (c, S)).1 4 ≤ 10 := b3.2.2.2.2.1
  generalize begin' (c, S) = s4 at h b3 b4 b5 b6 b7 hsw2 hb4
  refine loopP (fun i o => ∃ μ f l r, o = RUN 147 72 [some (.ref 137), o1, some (.int v), some (.int (nI i))] [] (st μ f l r) ∧ Md m0 μ f l r (k + i) (z + 4 * i) (itr knw i s4).1 (itr knw i s4).2) (fun o => MI o m0 (k + 210) (z + 840) v (sw3 (sw2 (c, S))).1 (sw3 (sw2 (c, S))).2) (s4.1 4) ?_ ?_ 0 _ (Nat.zero_le _) ⟨μ, f, l, r, rfl, h⟩
  · rintro o ⟨μ, f, l, r, rfl, h⟩
    have hs := h.1
    have hr := h.2.1
    have h137a : (mS μ 137).1 = 9 := by rw [hs 137 (by decide)]; rfl
    have h138a : (mS μ 138).1 = 20 := by rw [hs 138 (by decide)]; rfl
    have h138b : (mS μ 138).2 = 15 := by rw [hs 138 (by decide)]; rfl
    have r137_1 : r 137 1 = some 138 := hr 137 1 138 rfl
    have L4 : f 138 4 = nI (s4.1 4) := by rw [h.2.2.2.2.1 4 (by decide), b7]
    generalize hs5 : itr knw (s4.1 4) s4 = s5 at h b5 b6 b7 hsw2
    obtain ⟨μ6, f6, l6, r6, q6, h6'⟩ := C_139 h b5
    obtain ⟨μ7, f7, l7, r7, q7, h7⟩ := C_146 h6' b5 (by omega)
    have h137na : (mS μ6 137).1 = 9 := by rw [h6'.1 137 (by decide)]; rfl
    rw [B_147_72]
    simp (disch := omega) only [st_I, st_L, st_R, st_S, st_N, st_C, st_Z, st_X, st_D, st_st, st_sI, st_sIr, st_sL, st_sR, gfI_st, gfL_st, gfR_st, gfN_st, pfI_st, pfL_st, pfR_st, pfZ_st0, pfZ_st1, ldI_st, ldL_st, stoI_st, stoL_st, aln_st, cpA_st, bq_st, bq_S, oI_s, oL_s, oD_s, oV_s, oR_s, oR_n, oI_e, oL_e, oD_e, Option.bind_some, fa_lit, fa_litL, nI_add, pk_mul, nI_m1, nI_lt', nI_le', nI_eq', lc_ge, lc_le, lc_gt, lc_lt, lc_eq, isZ_0, isZ_1, bI_0, bI_z, decide_eq_true_eq, Bool.not_eq_true', Bool.not_true, Bool.not_false, decide_eq_false_iff_not, if_true, if_false, ite_true, ite_false, eq_self, not_true, not_false_eq_true, C_95, C_96, C_97, C_99, C_100, C_102, C_106, C_107, C_109, C_168, C_171, C_172, C_173, C_174, C_175, yu_ne, yu_eq, up_eq, up_ne, yur_ne, yur_eq, yu_uu, y1_eq, y1_ne, y1_y1, Nat.mul_zero, Nat.zero_mul, Nat.add_zero, Nat.zero_add, Nat.mul_one, Nat.one_mul, Nat.reduceEqDiff, Nat.reduceLT, Nat.reduceLeDiff, Nat.reduceAdd, Nat.reduceMul, decide_true, decide_false, cond_true, cond_false, reduceCtorEq, Bool.false_eq_true, Bool.true_eq_false, Bool.true_and, Bool.and_true, Bool.false_and, Bool.and_false, r137_1, L4, Nat.le_refl, q6, q7]
    rw [← hsw2] at h7
    obtain ⟨μ8, f8, l8, r8, q8, h8'⟩ := S_end (o1 := o1) (v := v) h7 b1 (by rw [b2]; exact h6)
    exact ⟨μ8, f8, l8, r8, q8, Md_le h8' (by omega) (by omega)⟩
  · rintro i o hi ⟨μ, f, l, r, rfl, h⟩
    have hs := h.1
    have hr := h.2.1
    have h137a : (mS μ 137).1 = 9 := by rw [hs 137 (by decide)]; rfl
    have h138a : (mS μ 138).1 = 20 := by rw [hs 138 (by decide)]; rfl
    have h138b : (mS μ 138).2 = 15 := by rw [hs 138 (by decide)]; rfl
    have r137_1 : r 137 1 = some 138 := hr 137 1 138 rfl
    obtain ⟨k1, k2, k3⟩ := knws_c (s := s4) i
    have hi' : ¬ s4.1 4 ≤ i := by omega
    have hi10 : i < 10 := by omega
    have hci : CB (itr knw i s4).1 := CB_of b3 k1 (by have := b3.2.2.2.2.2.1; omega) (by omega)
    have L4 : f 138 4 = nI (s4.1 4) := by rw [h.2.2.2.2.1 4 (by decide), k1 4 (by decide) (by decide)]
    rw [itr_s']
    generalize itr knw i s4 = si at h hci k1 k2 k3 ⊢
    obtain ⟨ci, Si⟩ := si
    simp only at h hci ⊢
    right
    rw [B_147_72]
    simp (disch := omega) only [st_I, st_L, st_R, st_S, st_N, st_C, st_Z, st_X, st_D, st_st, st_sI, st_sIr, st_sL, st_sR, gfI_st, gfL_st, gfR_st, gfN_st, pfI_st, pfL_st, pfR_st, pfZ_st0, pfZ_st1, ldI_st, ldL_st, stoI_st, stoL_st, aln_st, cpA_st, bq_st, bq_S, oI_s, oL_s, oD_s, oV_s, oR_s, oR_n, oI_e, oL_e, oD_e, Option.bind_some, fa_lit, fa_litL, nI_add, pk_mul, nI_m1, nI_lt', nI_le', nI_eq', lc_ge, lc_le, lc_gt, lc_lt, lc_eq, isZ_0, isZ_1, bI_0, bI_z, decide_eq_true_eq, Bool.not_eq_true', Bool.not_true, Bool.not_false, decide_eq_false_iff_not, if_true, if_false, ite_true, ite_false, eq_self, not_true, not_false_eq_true, C_95, C_96, C_97, C_99, C_100, C_102, C_106, C_107, C_109, C_168, C_171, C_172, C_173, C_174, C_175, yu_ne, yu_eq, up_eq, up_ne, yur_ne, yur_eq, yu_uu, y1_eq, y1_ne, y1_y1, Nat.mul_zero, Nat.zero_mul, Nat.add_zero, Nat.zero_add, Nat.mul_one, Nat.one_mul, Nat.reduceEqDiff, Nat.reduceLT, Nat.reduceLeDiff, Nat.reduceAdd, Nat.reduceMul, decide_true, decide_false, cond_true, cond_false, reduceCtorEq, Bool.false_eq_true, Bool.true_eq_false, Bool.true_and, Bool.and_true, Bool.false_and, Bool.and_false, r137_1, r137_1, L4, hi', C_124 hs hr h.2.2.2.2 hci hi10]
    unfold knw
    by_cases q : Si 7 i 12 = nI 1
    · obtain ⟨μ6, f6, l6, r6, q6, h6'⟩ := C_138 h hci hi10
      simp (disch := omega) only [st_I, st_L, st_R, st_S, st_N, st_C, st_Z, st_X, st_D, st_st, st_sI, st_sIr, st_sL, st_sR, gfI_st, gfL_st, gfR_st, gfN_st, pfI_st, pfL_st, pfR_st, pfZ_st0, pfZ_st1, ldI_st, ldL_st, stoI_st, stoL_st, aln_st, cpA_st, bq_st, bq_S, oI_s, oL_s, oD_s, oV_s, oR_s, oR_n, oI_e, oL_e, oD_e, Option.bind_some, fa_lit, fa_litL, nI_add, pk_mul, nI_m1, nI_lt', nI_le', nI_eq', lc_ge, lc_le, lc_gt, lc_lt, lc_eq, isZ_0, isZ_1, bI_0, bI_z, decide_eq_true_eq, Bool.not_eq_true', Bool.not_true, Bool.not_false, decide_eq_false_iff_not, if_true, if_false, ite_true, ite_false, eq_self, not_true, not_false_eq_true, C_95, C_96, C_97, C_99, C_100, C_102, C_106, C_107, C_109, C_168, C_171, C_172, C_173, C_174, C_175, yu_ne, yu_eq, up_eq, up_ne, yur_ne, yur_eq, yu_uu, y1_eq, y1_ne, y1_y1, Nat.mul_zero, Nat.zero_mul, Nat.add_zero, Nat.zero_add, Nat.mul_one, Nat.one_mul, Nat.reduceEqDiff, Nat.reduceLT, Nat.reduceLeDiff, Nat.reduceAdd, Nat.reduceMul, decide_true, decide_false, cond_true, cond_false, reduceCtorEq, Bool.false_eq_true, Bool.true_eq_false, Bool.true_and, Bool.and_true, Bool.false_and, Bool.and_false, r137_1, r137_1, q, q6]
      exact ⟨_, _, _, _, rfl, Md_le h6' (by omega) (by omega)⟩
    · simp (disch := omega) only [st_I, st_L, st_R, st_S, st_N, st_C, st_Z, st_X, st_D, st_st, st_sI, st_sIr, st_sL, st_sR, gfI_st, gfL_st, gfR_st, gfN_st, pfI_st, pfL_st, pfR_st, pfZ_st0, pfZ_st1, ldI_st, ldL_st, stoI_st, stoL_st, aln_st, cpA_st, bq_st, bq_S, oI_s, oL_s, oD_s, oV_s, oR_s, oR_n, oI_e, oL_e, oD_e, Option.bind_some, fa_lit, fa_litL, nI_add, pk_mul, nI_m1, nI_lt', nI_le', nI_eq', lc_ge, lc_le, lc_gt, lc_lt, lc_eq, isZ_0, isZ_1, bI_0, bI_z, decide_eq_true_eq, Bool.not_eq_true', Bool.not_true, Bool.not_false, decide_eq_false_iff_not, if_true, if_false, ite_true, ite_false, eq_self, not_true, not_false_eq_true, C_95, C_96, C_97, C_99, C_100, C_102, C_106, C_107, C_109, C_168, C_171, C_172, C_173, C_174, C_175, yu_ne, yu_eq, up_eq, up_ne, yur_ne, yur_eq, yu_uu, y1_eq, y1_ne, y1_y1, Nat.mul_zero, Nat.zero_mul, Nat.add_zero, Nat.zero_add, Nat.mul_one, Nat.one_mul, Nat.reduceEqDiff, Nat.reduceLT, Nat.reduceLeDiff, Nat.reduceAdd, Nat.reduceMul, decide_true, decide_false, cond_true, cond_false, reduceCtorEq, Bool.false_eq_true, Bool.true_eq_false, Bool.true_and, Bool.and_true, Bool.false_and, Bool.and_false, r137_1, r137_1, q]
      exact ⟨_, _, _, _, rfl, Md_le h (by omega) (by omega)⟩
theorem C_147 {μ : mMu} {f : Nat → Nat → Int32} {l : Nat → Nat → Int64} {r : Nat → Nat → Option Nat} (hs : Sh μ) (hr : Rf r) {c : Nat → Nat} {S : Nat → Nat → Nat → Int32} (hm : MR f c S) (hc : CB c) (hN : 154 ≤ mN μ) {dt : Int32} (hok : wi dt (nI 1) (nI 60) = true → c 6 ≠ 500 → okSw dt c S) : MOK (CALL 147 [.ref 137, .int dt] (st μ f l r)) (st μ f l r) (s_sweep dt c S).1 (s_sweep dt c S).2.1 (s_sweep dt c S).2.2.1 (s_sweep dt c S).2.2.2 240 990 := by
  have h137a : (mS μ 137).1 = 9 := by rw [hs 137 (by decide)]; rfl
  have h138a : (mS μ 138).1 = 20 := by rw [hs 138 (by decide)]; rfl
  have h138b : (mS μ 138).2 = 15 := by rw [hs 138 (by decide)]; rfl
  have r137_1 : r 137 1 = some 138 := hr 137 1 138 rfl
  have L0_6 : f 138 6 = nI (c 6) := hm.1 6 (by decide)
  have L0_7 : f 138 7 = nI (c 7) := hm.1 7 (by decide)
  have hc' := hc
  obtain ⟨c0, c1, c2, c3, c4, c5, c6, c7, c8, c9, c10, c11, c12, c13, c14⟩ := hc
  rw [B_147_0]
  simp (disch := omega) only [st_I, st_L, st_R, st_S, st_N, st_C, st_Z, st_X, st_D, st_st, st_sI, st_sIr, st_sL, st_sR, gfI_st, gfL_st, gfR_st, gfN_st, pfI_st, pfL_st, pfR_st, pfZ_st0, pfZ_st1, ldI_st, ldL_st, stoI_st, stoL_st, aln_st, cpA_st, bq_st, bq_S, oI_s, oL_s, oD_s, oV_s, oR_s, oR_n, oI_e, oL_e, oD_e, Option.bind_some, fa_lit, fa_litL, nI_add, pk_mul, nI_m1, nI_lt', nI_le', nI_eq', lc_ge, lc_le, lc_gt, lc_lt, lc_eq, isZ_0, isZ_1, bI_0, bI_z, decide_eq_true_eq, Bool.not_eq_true', Bool.not_true, Bool.not_false, decide_eq_false_iff_not, if_true, if_false, ite_true, ite_false, eq_self, not_true, not_false_eq_true, C_95, C_96, C_97, C_99, C_100, C_102, C_106, C_107, C_109, C_168, C_171, C_172, C_173, C_174, C_175, yu_ne, yu_eq, up_eq, up_ne, yur_ne, yur_eq, yu_uu, y1_eq, y1_ne, y1_y1, Nat.mul_zero, Nat.zero_mul, Nat.add_zero, Nat.zero_add, Nat.mul_one, Nat.one_mul, Nat.reduceEqDiff, Nat.reduceLT, Nat.reduceLeDiff, Nat.reduceAdd, Nat.reduceMul, decide_true, decide_false, cond_true, cond_false, reduceCtorEq, Bool.false_eq_true, Bool.true_eq_false, Bool.true_and, Bool.and_true, Bool.false_and, Bool.and_false, r137_1, L0_6, L0_7, C_105 hs hr]
  unfold s_sweep
  cases h1 : wi dt (nI 1) (nI 60)
  · simp (disch := omega) only [st_I, st_L, st_R, st_S, st_N, st_C, st_Z, st_X, st_D, st_st, st_sI, st_sIr, st_sL, st_sR, gfI_st, gfL_st, gfR_st, gfN_st, pfI_st, pfL_st, pfR_st, pfZ_st0, pfZ_st1, ldI_st, ldL_st, stoI_st, stoL_st, aln_st, cpA_st, bq_st, bq_S, oI_s, oL_s, oD_s, oV_s, oR_s, oR_n, oI_e, oL_e, oD_e, Option.bind_some, fa_lit, fa_litL, nI_add, pk_mul, nI_m1, nI_lt', nI_le', nI_eq', lc_ge, lc_le, lc_gt, lc_lt, lc_eq, isZ_0, isZ_1, bI_0, bI_z, decide_eq_true_eq, Bool.not_eq_true', Bool.not_true, Bool.not_false, decide_eq_false_iff_not, if_true, if_false, ite_true, ite_false, eq_self, not_true, not_false_eq_true, C_95, C_96, C_97, C_99, C_100, C_102, C_106, C_107, C_109, C_168, C_171, C_172, C_173, C_174, C_175, yu_ne, yu_eq, up_eq, up_ne, yur_ne, yur_eq, yu_uu, y1_eq, y1_ne, y1_y1, Nat.mul_zero, Nat.zero_mul, Nat.add_zero, Nat.zero_add, Nat.mul_one, Nat.one_mul, Nat.reduceEqDiff, Nat.reduceLT, Nat.reduceLeDiff, Nat.reduceAdd, Nat.reduceMul, decide_true, decide_false, cond_true, cond_false, reduceCtorEq, Bool.false_eq_true, Bool.true_eq_false, Bool.true_and, Bool.and_true, Bool.false_and, Bool.and_false, r137_1, L0_6, L0_7]
    exact MOK_le (MOK_th' hs hr hm hc') (by omega) (by omega)
  · by_cases h6 : c 6 = 500
    · simp (disch := omega) only [st_I, st_L, st_R, st_S, st_N, st_C, st_Z, st_X, st_D, st_st, st_sI, st_sIr, st_sL, st_sR, gfI_st, gfL_st, gfR_st, gfN_st, pfI_st, pfL_st, pfR_st, pfZ_st0, pfZ_st1, ldI_st, ldL_st, stoI_st, stoL_st, aln_st, cpA_st, bq_st, bq_S, oI_s, oL_s, oD_s, oV_s, oR_s, oR_n, oI_e, oL_e, oD_e, Option.bind_some, fa_lit, fa_litL, nI_add, pk_mul, nI_m1, nI_lt', nI_le', nI_eq', lc_ge, lc_le, lc_gt, lc_lt, lc_eq, isZ_0, isZ_1, bI_0, bI_z, decide_eq_true_eq, Bool.not_eq_true', Bool.not_true, Bool.not_false, decide_eq_false_iff_not, if_true, if_false, ite_true, ite_false, eq_self, not_true, not_false_eq_true, C_95, C_96, C_97, C_99, C_100, C_102, C_106, C_107, C_109, C_168, C_171, C_172, C_173, C_174, C_175, yu_ne, yu_eq, up_eq, up_ne, yur_ne, yur_eq, yu_uu, y1_eq, y1_ne, y1_y1, Nat.mul_zero, Nat.zero_mul, Nat.add_zero, Nat.zero_add, Nat.mul_one, Nat.one_mul, Nat.reduceEqDiff, Nat.reduceLT, Nat.reduceLeDiff, Nat.reduceAdd, Nat.reduceMul, decide_true, decide_false, cond_true, cond_false, reduceCtorEq, Bool.false_eq_true, Bool.true_eq_false, Bool.true_and, Bool.and_true, Bool.false_and, Bool.and_false, r137_1, L0_6, L0_7, h6, C_105 hs hr]
      exact MOK_le (MOK_th' hs hr hm hc') (by omega) (by omega)
    · obtain ⟨k7, k8, k9, kp, kL⟩ := hok h1 h6
      obtain ⟨n, hn1, hn2, rfl⟩ := wi_pos (by decide) h1
      have hix : ix (nI n) = n := ix_nI (by omega)
      unfold c1' S1 at kL
      rw [hix] at kL
      have hS0 : Md (st μ (u2 f 137 0 (nI 0)) l r) μ (u2 f 137 0 (nI 0)) l r 0 0 c S := ⟨hs, hr, hN, Al_refl _, MR_137 hm⟩
      have hS1 : Md (st μ (u2 f 137 0 (nI 0)) l r) μ (u2 (u2 f 137 0 (nI 0)) 138 7 (nI (c 7 + n))) l r 0 0 (u1 c 7 (c 7 + n)) S := Md_f hS0 (fun a ha => yu_ne (by omega)) (MR_c hS0.2.2.2.2)
      have hc1 : CB (u1 c 7 (c 7 + n)) := CB_7 hc' (by omega)
      obtain ⟨μ2, f2, l2, r2, q2, h2⟩ := C_127 hS1 hc1 (dt := nI n)
      rw [y1_ne (show (4 : Nat) ≠ 7 by decide)] at h2
      obtain ⟨μ3, f3, l3, r3, q3, h3⟩ := C_131 h2 hc1
      have hJ := jst_c (sl := jsl (u1 c 7 (c 7 + n)) (u1 S 7 (upn (c 4) (fun _ => e1 (nI n)) (S 7)))) (nb := c 3) (fun t tk k hh => by have := jsl_lt t tk k hh; rw [y1_ne (by decide)] at this; exact this) (S := u1 S 7 (upn (c 4) (fun _ => e1 (nI n)) (S 7))) (c 4)
      have hjo : join (u1 c 7 (c 7 + n)) (u1 S 7 (upn (c 4) (fun _ => e1 (nI n)) (S 7))) = itr (jst (jsl (u1 c 7 (c 7 + n)) (u1 S 7 (upn (c 4) (fun _ => e1 (nI n)) (S 7))))) (c 4) (u1 S 7 (upn (c 4) (fun _ => e1 (nI n)) (S 7)), 0) := by
        unfold join; rw [y1_ne (show (4 : Nat) ≠ 7 by decide)]
      rw [← hjo] at hJ
      have hsw : swS (nI n) c S = (join (u1 c 7 (c 7 + n)) (u1 S 7 (upn (c 4) (fun _ => e1 (nI n)) (S 7))), move (nI n) (u1 c 7 (c 7 + n), (join (u1 c 7 (c 7 + n)) (u1 S 7 (upn (c 4) (fun _ => e1 (nI n)) (S 7)))).1)) := by
        unfold swS
        simp only
        rw [hix]
      rw [hsw]
      clear hsw hjo
      generalize join (u1 c 7 (c 7 + n)) (u1 S 7 (upn (c 4) (fun _ => e1 (nI n)) (S 7))) = J at q3 h3 hJ kL ⊢
      obtain ⟨SJ, tk⟩ := J
      simp only at q3 h3 hJ kL ⊢
      obtain ⟨j1, j2, j3, j4, j5⟩ := hJ
      have ec4 : u1 c 7 (c 7 + n) 4 = c 4 := y1_ne (by decide)
      have ec8 : u1 c 7 (c 7 + n) 8 = c 8 := y1_ne (by decide)
      have ec9 : u1 c 7 (c 7 + n) 9 = c 9 := y1_ne (by decide)
      have ec3 : u1 c 7 (c 7 + n) 3 = c 3 := y1_ne (by decide)
      have ec6 : u1 c 7 (c 7 + n) 6 = c 6 := y1_ne (by decide)
      obtain ⟨μ4, f4, l4, r4, q4, h4⟩ := C_135 h3 hc1 (dt := nI n) (by rw [ec8]; omega) (dt_ne hn1 hn2) (fun t ht hne => by
        rw [ec4] at ht
        rcases j3 t ht with q | ⟨b, hb, q⟩
        · exact absurd q hne
        · exact ⟨b, by omega, q⟩) (fun i hi => kL i (by rw [ec4] at hi; exact hi))
      obtain ⟨m1, m2, m3, m4, m5, m6⟩ := CB_mv (dt := nI n) (S := SJ) hc1 (by rw [ec8]; omega) (by rw [ec4]; exact kL (c 4) (Nat.le_refl _))
      rw [ec8] at m2
      rw [ec9] at m3
      rw [ec3] at m4
      rw [ec6] at m5
      generalize hmv : move (nI n) (u1 c 7 (c 7 + n), SJ) = s3 at h4 m1 m2 m3 m4 m5 m6 ⊢
      obtain ⟨c3', S3⟩ := s3
      simp only at h4 m1 m2 m3 m4 m5 m6 ⊢
      obtain ⟨μ5, f5, l5, r5, q5, h5⟩ := C_136 h4 m1 (by omega) (by omega) (fun k hk => by
        rw [m6 5 (by decide) (by decide) (by decide), j2 k 0 (by decide), j2 k 1 (by decide), y1_ne (by decide)]
        exact kp k (by omega))
      have h56 : Md (st μ (u2 f 137 0 (nI 0)) l r) μ5 f5 l5 r5 (0 + 20 + 10) (0 + 110 + 40) (itr knw 0 (begin' (c3', S3))).1 (itr knw 0 (begin' (c3', S3))).2 := h5
      obtain ⟨μ6, f6, l6, r6, q6, h6'⟩ := S_mid (o1 := some (.int (nI n))) (v := nI (pop tk)) h56 m1 (by omega) (by omega) (by omega)
      have h137x2a : (mS μ2 137).1 = 9 := by rw [h2.1 137 (by decide)]; rfl
      have h137x3a : (mS μ3 137).1 = 9 := by rw [h3.1 137 (by decide)]; rfl
      have h137x4a : (mS μ4 137).1 = 9 := by rw [h4.1 137 (by decide)]; rfl
      have h137x5a : (mS μ5 137).1 = 9 := by rw [h5.1 137 (by decide)]; rfl
      simp (disch := omega) only [st_I, st_L, st_R, st_S, st_N, st_C, st_Z, st_X, st_D, st_st, st_sI, st_sIr, st_sL, st_sR, gfI_st, gfL_st, gfR_st, gfN_st, pfI_st, pfL_st, pfR_st, pfZ_st0, pfZ_st1, ldI_st, ldL_st, stoI_st, stoL_st, aln_st, cpA_st, bq_st, bq_S, oI_s, oL_s, oD_s, oV_s, oR_s, oR_n, oI_e, oL_e, oD_e, Option.bind_some, fa_lit, fa_litL, nI_add, pk_mul, nI_m1, nI_lt', nI_le', nI_eq', lc_ge, lc_le, lc_gt, lc_lt, lc_eq, isZ_0, isZ_1, bI_0, bI_z, decide_eq_true_eq, Bool.not_eq_true', Bool.not_true, Bool.not_false, decide_eq_false_iff_not, if_true, if_false, ite_true, ite_false, eq_self, not_true, not_false_eq_true, C_95, C_96, C_97, C_99, C_100, C_102, C_106, C_107, C_109, C_168, C_171, C_172, C_173, C_174, C_175, yu_ne, yu_eq, up_eq, up_ne, yur_ne, yur_eq, yu_uu, y1_eq, y1_ne, y1_y1, Nat.mul_zero, Nat.zero_mul, Nat.add_zero, Nat.zero_add, Nat.mul_one, Nat.one_mul, Nat.reduceEqDiff, Nat.reduceLT, Nat.reduceLeDiff, Nat.reduceAdd, Nat.reduceMul, decide_true, decide_false, cond_true, cond_false, reduceCtorEq, Bool.false_eq_true, Bool.true_eq_false, Bool.true_and, Bool.and_true, Bool.false_and, Bool.and_false, r137_1, L0_6, L0_7, h6, L0_7, q2, q3, q4, q5]
      rw [q6]
      refine ⟨_, _, _, _, rfl, ?_, Al_le h6'.2.2.2.1 (by omega) (by omega), h6'.2.2.2.2⟩
      have := congrFun ((h6'.2.2.2.1.2.1 137 (by show 137 < mN μ; omega)).2.2.2.1 (by omega)) 0
      rw [show f6 137 0 = mI (st μ6 f6 l6 r6) 137 0 from rfl, this]
      show u2 f 137 0 (nI 0) 137 0 = nI 0
      rw [yu_eq, up_eq]
