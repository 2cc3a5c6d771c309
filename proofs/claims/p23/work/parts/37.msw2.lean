/-! ===== the reference's sweep, whole ===== -/
theorem jst_c {sl : Nat → Nat → Option Nat} {nb : Nat} (hsl : ∀ t tk k, sl t tk = some k → k < nb) {S : Nat → Nat → Nat → Int32} : ∀ n, (∀ a, a ≠ 5 → a ≠ 7 → (itr (jst sl) n (S, 0)).1 a = S a) ∧ (∀ k w, w ≠ 4 → (itr (jst sl) n (S, 0)).1 5 k w = S 5 k w) ∧ (∀ t, t < n → (itr (jst sl) n (S, 0)).1 7 t 13 = -nI 1 ∨ ∃ b, b < nb ∧ (itr (jst sl) n (S, 0)).1 7 t 13 = nI b) ∧ (∀ t w, w ≠ 13 → w ≠ 38 → (itr (jst sl) n (S, 0)).1 7 t w = S 7 t w) ∧ (∀ t, n ≤ t → (itr (jst sl) n (S, 0)).1 7 t = S 7 t)
  | 0 => ⟨fun _ _ _ => rfl, fun _ _ _ => rfl, fun t ht => absurd ht (Nat.not_lt_zero t), fun _ _ _ _ => rfl, fun _ _ => rfl⟩
  | n + 1 => by
    obtain ⟨h1, h2, h3, h4, h5⟩ := jst_c hsl (S := S) n
    rw [itr_s']
    generalize itr (jst sl) n (S, 0) = s at h1 h2 h3 h4 h5 ⊢
    unfold jst
    cases hq : sl n s.2 with
    | none =>
      simp only
      refine ⟨fun a ha hb => ?_, fun k w hw => ?_, fun t ht => ?_, fun t w hw hw2 => ?_, fun t ht => ?_⟩
      · rw [y1_ne hb, h1 a ha hb]
      · rw [y1_ne (by decide), h2 k w hw]
      · rw [y1_eq]
        by_cases q : t = n
        · subst q; rw [y1_eq, up_eq]; exact Or.inl rfl
        · rw [y1_ne q]; exact h3 t (by omega)
      · rw [y1_eq]
        by_cases q : t = n
        · subst q; rw [y1_eq, up_ne hw, up_ne hw2, h4 t w hw hw2]
        · rw [y1_ne q, h4 t w hw hw2]
      · rw [y1_eq, y1_ne (by omega), h5 t (by omega)]
    | some k0 =>
      simp only
      have hk := hsl _ _ _ hq
      refine ⟨fun a ha hb => ?_, fun k w hw => ?_, fun t ht => ?_, fun t w hw hw2 => ?_, fun t ht => ?_⟩
      · rw [y1_ne ha, y1_ne hb, h1 a ha hb]
      · rw [y1_eq]
        by_cases q : k = k0
        · subst q; rw [y1_eq, up_ne hw, h2 k w hw]
        · rw [y1_ne q, h2 k w hw]
      · rw [y1_ne (by decide), y1_eq]
        by_cases q : t = n
        · subst q; rw [y1_eq, up_eq]; exact Or.inr ⟨k0, hk, rfl⟩
        · rw [y1_ne q]; exact h3 t (by omega)
      · rw [y1_ne (show (7 : Nat) ≠ 5 by decide), y1_eq]
        by_cases q : t = n
        · subst q; rw [y1_eq, up_ne hw, up_ne hw2, h4 t w hw hw2]
        · rw [y1_ne q, h4 t w hw hw2]
      · rw [y1_ne (show (7 : Nat) ≠ 5 by decide), y1_eq, y1_ne (by omega), h5 t (by omega)]
theorem CB_7 {c : Nat → Nat} {v : Nat} (hc : CB c) (h : v ≤ 30000) : CB (u1 c 7 v) := by
  obtain ⟨c0, c1, c2, c3, c4, c5, c6, c7, c8, c9, c10, c11, c12, c13, c14⟩ := hc
  exact ⟨c0, c1, c2, c3, c4, c5, c6, by rw [y1_eq]; exact h, c8, c9, c10, c11, c12, c13, c14⟩
theorem u1_at {c : Nat → Nat} {a b v : Nat} (h : b ≠ a) : u1 c a v b = c b := y1_ne h
def S1 (dt : Int32) (c : Nat → Nat) (S : Nat → Nat → Nat → Int32) : Nat → Nat → Nat → Int32 := u1 S 7 (upn (c 4) (fun _ => e1 dt) (S 7))
def c1' (dt : Int32) (c : Nat → Nat) : Nat → Nat := u1 c 7 (c 7 + ix dt)
def okSw (dt : Int32) (c : Nat → Nat) (S : Nat → Nat → Nat → Int32) : Prop := c 7 + 60 ≤ 30000 ∧ c 8 + 300 ≤ 1000000 ∧ c 9 + 10 ≤ 1000000 ∧ (∀ k, k < c 3 → plc (S 5 k 0) (S 5 k 1) = true) ∧ (∀ i, i ≤ c 4 → (itr (mv1 dt) i (c1' dt c, (join (c1' dt c) (S1 dt c S)).1)).1 5 ≤ 59)
theorem dt_ne {n : Nat} (h1 : 1 ≤ n) (h2 : n ≤ 60) : (2 : Int64) * (nI n).toInt64 ≠ 0 := by
  have key : ∀ n, n < 61 → 1 ≤ n → (2 : Int64) * (nI n).toInt64 ≠ 0 := by decide
  exact key n (by omega) h1
theorem CB_mv {dt : Int32} {c : Nat → Nat} {S : Nat → Nat → Nat → Int32} (hc : CB c) (h8 : c 8 + 10 ≤ 1000000) (hL : (itr (mv1 dt) (c 4) (c, S)).1 5 ≤ 59) : CB (move dt (c, S)).1 ∧ (move dt (c, S)).1 8 ≤ c 8 + 10 ∧ (move dt (c, S)).1 9 = c 9 ∧ (move dt (c, S)).1 3 = c 3 ∧ (move dt (c, S)).1 6 = c 6 ∧ (∀ a, a ≠ 7 → a ≠ 8 → a ≠ 9 → (move dt (c, S)).2 a = S a) := by
  have hc4 : c 4 ≤ 10 := hc.2.2.2.2.1
  obtain ⟨h1, h2, h3, h4⟩ := mvs_c (dt := dt) (s := (c, S)) (c 4)
  have h5 := cmp_le (kp := kpT) (T := (itr (mv1 dt) (c 4) (c, S)).2 7) (c 4)
  have hcc : (c, S).1 8 = c 8 := rfl
  have e1 : CB (itr (mv1 dt) (c 4) (c, S)).1 := CB_of hc h1 (by omega) (by omega)
  unfold move
  simp only
  generalize itr (mv1 dt) (c 4) (c, S) = s at h1 h2 h3 h4 h5 e1 hL ⊢
  refine ⟨CB_of2 e1 (fun j q4 q8 q9 => y1_ne q4) (by rw [y1_eq]; omega) (by rw [y1_ne (by decide)]; omega) (by rw [y1_ne (by decide), h1 9 (by decide) (by decide)]; exact hc.2.2.2.2.2.2.2.2.2.1), ?_, ?_, ?_, ?_, fun a ha hb hd => ?_⟩
  · rw [y1_ne (by decide)]; omega
  · rw [y1_ne (by decide), h1 9 (by decide) (by decide)]
  · rw [y1_ne (by decide), h1 3 (by decide) (by decide)]
  · rw [y1_ne (by decide), h1 6 (by decide) (by decide)]
  · rw [y1_ne ha, h3 a ha hb hd]
theorem CB_sw2 {c : Nat → Nat} {S : Nat → Nat → Nat → Int32} (hc : CB c) (h8 : c 8 + 250 ≤ 1000000) (h9 : c 9 + 10 ≤ 1000000) : CB (sw2 (c, S)).1 ∧ (sw2 (c, S)).1 6 = c 6 ∧ CB (begin' (c, S)).1 ∧ (begin' (c, S)).1 8 ≤ c 8 + 10 ∧ CB (itr knw ((begin' (c, S)).1 4) (begin' (c, S))).1 ∧ (itr knw ((begin' (c, S)).1 4) (begin' (c, S))).1 8 ≤ c 8 + 20 ∧ (itr knw ((begin' (c, S)).1 4) (begin' (c, S))).1 4 = (begin' (c, S)).1 4 := by
  have hc' := hc
  obtain ⟨c0, c1, c2, c3, c4, c5, c6, c7, c8, c9, c10, c11, c12, c13, c14⟩ := hc
  obtain ⟨a1, a2, a3, a4, a5⟩ := begs_c (s := (c, itr clt (c 3) S)) c4 (c 3)
  have hb : begin' (c, S) = itr beg1 (c 3) (c, itr clt (c 3) S) := rfl
  have hx8 : (c, itr clt (c 3) S).1 8 = c 8 := rfl
  have hx9 : (c, itr clt (c 3) S).1 9 = c 9 := rfl
  unfold sw2
  simp only
  rw [hb]
  have hb4 : CB (itr beg1 (c 3) (c, itr clt (c 3) S)).1 := CB_of2 hc' a1 a3 (by omega) (by omega)
  have e6 : (itr beg1 (c 3) (c, itr clt (c 3) S)).1 6 = c 6 := a1 6 (by decide) (by decide) (by decide)
  generalize itr beg1 (c 3) (c, itr clt (c 3) S) = s4 at a1 a2 a3 a4 a5 hb4 e6 ⊢
  obtain ⟨k1, k2, k3⟩ := knws_c (s := s4) (s4.1 4)
  have hk5 : CB (itr knw (s4.1 4) s4).1 := CB_of hb4 k1 (by have := hb4.2.2.2.2.2.1; omega) (by omega)
  have hk4 : (itr knw (s4.1 4) s4).1 4 = s4.1 4 := k1 4 (by decide) (by decide)
  have hk6 : (itr knw (s4.1 4) s4).1 6 = s4.1 6 := k1 6 (by decide) (by decide)
  refine ⟨?_, ?_, hb4, by omega, hk5, by omega, hk4⟩
  all_goals generalize itr knw (s4.1 4) s4 = s5 at k1 k2 k3 hk5 hk4 hk6 ⊢
  all_goals unfold look ars
  all_goals simp only
  all_goals generalize hs6 : (s5.1, u1 s5.2 7 (sortT (s5.1 4) (s5.2 7))) = s6
  all_goals have e8 : s6.1 8 = s5.1 8 := by rw [← hs6]
  all_goals have eq6 : ∀ q, s6.1 q = s5.1 q := fun q => by rw [← hs6]
  all_goals have hn4 : s5.1 4 ≤ 10 := hk5.2.2.2.2.1
  all_goals have hn2 : s5.1 2 ≤ 6 := hk5.2.2.1
  all_goals obtain ⟨g1, g2⟩ := crs_bd (n := s5.1 4) (s := s6)
  all_goals have hx := itr_bd (g := fun area s => itr (ar1 area) (s5.1 4) s) (e := s5.1 4) (fun a s => by
    have := itr_bd (g := ar1 a) (e := 1) ar1_bd (s := s) (s5.1 4)
    rw [Nat.one_mul] at this
    exact this) (s := crs (s5.1 4) s6) (s5.1 2)
  all_goals obtain ⟨x1, x2⟩ := hx
  all_goals have hnn : s5.1 4 * s5.1 4 ≤ 10 * 10 := Nat.mul_le_mul hn4 hn4
  all_goals have hnm : s5.1 4 * s5.1 2 ≤ 10 * 6 := Nat.mul_le_mul hn4 hn2
  · exact CB_8 hk5 (fun q hq => (x1 q hq).trans ((g1 q hq).trans (eq6 q))) (by omega)
  · rw [x1 6 (by decide), g1 6 (by decide), eq6 6, hk6, e6]
