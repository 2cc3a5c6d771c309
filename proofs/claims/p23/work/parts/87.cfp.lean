/-! ===== a track's speed is a number ===== -/
/-! ===== the other calls keep what holds ===== -/
theorem INV_of {c c' : Nat → Nat} {S S' : Nat → Nat → Nat → Int32} (h : INV c S) (hc : CB c') (e : ∀ q, 4 ≤ q → q ≤ 9 → c' q = c q) (e7 : S' 7 = S 7) (e8 : S' 8 = S 8) (g1 : ∀ i, i < c' 0 → plc (S' 1 i 0) (S' 1 i 1) = true) (g2 : ∀ i, i < c' 1 → IA (S' 2 i)) (g3 : ∀ a, a < c' 2 → IA (S' 3 a)) (g5 : ∀ k, k < c' 3 → IP (S' 5 k) ∧ S' 5 k 4 = -nI 1) : INV c' S' := by
  obtain ⟨-, a1, -, -, -, -, a6, a7, a8, a9⟩ := h
  unfold INV DN at *
  rw [e 4 (by decide) (by decide), e 5 (by decide) (by decide), e 6 (by decide) (by decide), e 7 (by decide) (by decide), e 8 (by decide) (by decide), e 9 (by decide) (by decide), e7, e8]
  exact ⟨hc, a1, g1, g2, g3, g5, a6, a7, a8, a9⟩
theorem INV_addSt {c : Nat → Nat} {S : Nat → Nat → Nat → Int32} (h : INV c S) {x y z : Int32} : INV (s_addSt c S x y z).2.2.1 (s_addSt c S x y z).2.2.2 := by
  have h' := h
  obtain ⟨hc, -, b1, b2, b3, b5, -⟩ := h
  unfold s_addSt
  cases hp : plc x y && wi z (nI 1) (nI 20000) with
  | false => exact h'
  | true =>
    rw [cond_true]
    by_cases q : c 0 = 4
    · rw [if_pos q]; exact h'
    · rw [if_neg q]
      simp only
      rw [Bool.and_eq_true] at hp
      obtain ⟨c0, c1, c2, c3, c4, c5, c6, c7, c8, c9, c10, c11, c12, c13, c14⟩ := hc
      refine INV_of h' ⟨by rw [y1_eq]; omega, by rw [y1_ne (by decide)]; exact c1, by rw [y1_ne (by decide)]; exact c2, by rw [y1_ne (by decide)]; exact c3, by rw [y1_ne (by decide)]; exact c4, by rw [y1_ne (by decide)]; exact c5, by rw [y1_ne (by decide)]; exact c6, by rw [y1_ne (by decide)]; exact c7, by rw [y1_ne (by decide)]; exact c8, by rw [y1_ne (by decide)]; exact c9, by rw [y1_ne (by decide)]; exact c10, by rw [y1_ne (by decide)]; exact c11, by rw [y1_ne (by decide)]; exact c12, by rw [y1_ne (by decide)]; exact c13, by rw [y1_ne (by decide)]; exact c14⟩ (fun q _ _ => y1_ne (by omega)) (y1_ne (by decide)) (y1_ne (by decide)) (fun i hi => ?_) (by rw [y1_ne (by decide), y1_ne (by decide)]; exact b2) (by rw [y1_ne (by decide), y1_ne (by decide)]; exact b3) (by rw [y1_ne (by decide), y1_ne (by decide)]; exact b5)
      rw [y1_eq] at hi
      rw [y1_eq]
      by_cases e : i = c 0
      · rw [e, y1_eq]; exact hp.1
      · rw [y1_ne e]; exact b1 i (by omega)
theorem IA_of {x y u v : Int32} (h : (plc x y && (plc u v && (!decide (u ≤ x) && decide (y < v)))) = true) : IA (rc4 x y u v) := by
  rw [Bool.and_eq_true, Bool.and_eq_true, Bool.and_eq_true, Bool.not_eq_true', decide_eq_false_iff_not, decide_eq_true_eq, fa_le, fa_lt] at h
  obtain ⟨h1, h2, h3, h4⟩ := h
  exact ⟨h1, h2, show x.toInt < u.toInt by omega, h4⟩
theorem INV_addPl {c : Nat → Nat} {S : Nat → Nat → Nat → Int32} (h : INV c S) {w x y u v : Int32} : INV (s_addPl c S w x y u v).2.2.1 (s_addPl c S w x y u v).2.2.2 := by
  have h' := h
  obtain ⟨hc, -, b1, b2, b3, b5, -⟩ := h
  unfold s_addPl
  cases hp : plc x y && (plc u v && (!decide (u ≤ x) && decide (y < v))) with
  | false => exact h'
  | true =>
    rw [cond_true]
    obtain ⟨c0, c1, c2, c3, c4, c5, c6, c7, c8, c9, c10, c11, c12, c13, c14⟩ := hc
    by_cases qw : w = nI 0
    · rw [if_pos qw]
      by_cases q : c 1 = 10
      · rw [if_pos q]; exact h'
      · rw [if_neg q]
        simp only
        refine INV_of h' ⟨by rw [y1_ne (by decide)]; exact c0, by rw [y1_eq]; omega, by rw [y1_ne (by decide)]; exact c2, by rw [y1_ne (by decide)]; exact c3, by rw [y1_ne (by decide)]; exact c4, by rw [y1_ne (by decide)]; exact c5, by rw [y1_ne (by decide)]; exact c6, by rw [y1_ne (by decide)]; exact c7, by rw [y1_ne (by decide)]; exact c8, by rw [y1_ne (by decide)]; exact c9, by rw [y1_ne (by decide)]; exact c10, by rw [y1_ne (by decide)]; exact c11, by rw [y1_ne (by decide)]; exact c12, by rw [y1_ne (by decide)]; exact c13, by rw [y1_ne (by decide)]; exact c14⟩ (fun q _ _ => y1_ne (by omega)) (y1_ne (by decide)) (y1_ne (by decide)) (by rw [y1_ne (by decide), y1_ne (by decide)]; exact b1) (fun i hi => ?_) (by rw [y1_ne (by decide), y1_ne (by decide)]; exact b3) (by rw [y1_ne (by decide), y1_ne (by decide)]; exact b5)
        rw [y1_eq] at hi
        rw [y1_eq]
        by_cases e : i = c 1
        · rw [e, y1_eq]; exact IA_of hp
        · rw [y1_ne e]; exact b2 i (by omega)
    · rw [if_neg qw]
      by_cases q : c 2 = 6
      · rw [if_pos q]; exact h'
      · rw [if_neg q]
        simp only
        refine INV_of h' ⟨by rw [y1_ne (by decide)]; exact c0, by rw [y1_ne (by decide)]; exact c1, by rw [y1_eq]; omega, by rw [y1_ne (by decide)]; exact c3, by rw [y1_ne (by decide)]; exact c4, by rw [y1_ne (by decide)]; exact c5, by rw [y1_ne (by decide)]; exact c6, by rw [y1_ne (by decide)]; exact c7, by rw [y1_ne (by decide)]; exact c8, by rw [y1_ne (by decide)]; exact c9, by rw [y1_ne (by decide)]; exact c10, by rw [y1_ne (by decide)]; exact c11, by rw [y1_ne (by decide)]; exact c12, by rw [y1_ne (by decide)]; exact c13, by rw [y1_ne (by decide)]; exact c14⟩ (fun q _ _ => y1_ne (by omega)) (y1_ne (by decide)) (y1_ne (by decide)) (by rw [y1_ne (by decide), y1_ne (by decide)]; exact b1) (by rw [y1_ne (by decide), y1_ne (by decide)]; exact b2) (fun i hi => ?_) (by rw [y1_ne (by decide), y1_ne (by decide)]; exact b5)
        rw [y1_eq] at hi
        rw [y1_eq]
        by_cases e : i = c 2
        · rw [e, y1_eq]; exact IA_of hp
        · rw [y1_ne e]; exact b3 i (by omega)
theorem INV_tune {c : Nat → Nat} {S : Nat → Nat → Nat → Int32} (h : INV c S) {x y z w : Int32} : INV (s_tune c S x y z w).2.2.1 (s_tune c S x y z w).2.2.2 := by
  have h' := h
  obtain ⟨hc, -, b1, b2, b3, b5, -⟩ := h
  unfold s_tune
  cases hp : wi x (nI 0) (nI 500) && wi y (nI 1) (nI 2000) && wi z (nI 0) (nI 16) && wi w (nI 0) (nI 16) with
  | false => exact h'
  | true =>
    rw [cond_true]
    simp only
    obtain ⟨c0, c1, c2, c3, c4, c5, c6, c7, c8, c9, c10, c11, c12, c13, c14⟩ := hc
    rw [Bool.and_eq_true, Bool.and_eq_true, Bool.and_eq_true] at hp
    obtain ⟨⟨⟨h1, h2⟩, h3⟩, h4⟩ := hp
    obtain ⟨a, ha, rfl⟩ := wi_get (by decide) h1
    obtain ⟨b, -, hb, rfl⟩ := wi_pos (by decide) h2
    obtain ⟨d, hd, rfl⟩ := wi_get (by decide) h3
    obtain ⟨e, he, rfl⟩ := wi_get (by decide) h4
    have k : ∀ q, q ≠ 11 → q ≠ 12 → q ≠ 13 → q ≠ 14 → u1 (u1 (u1 (u1 c 11 (ix (nI a))) 12 (ix (nI b))) 13 (ix (nI d))) 14 (ix (nI e)) q = c q := fun q q1 q2 q3 q4 => by rw [y1_ne q4, y1_ne q3, y1_ne q2, y1_ne q1]
    refine INV_of h' ⟨by rw [k 0 (by decide) (by decide) (by decide) (by decide)]; exact c0, by rw [k 1 (by decide) (by decide) (by decide) (by decide)]; exact c1, by rw [k 2 (by decide) (by decide) (by decide) (by decide)]; exact c2, by rw [k 3 (by decide) (by decide) (by decide) (by decide)]; exact c3, by rw [k 4 (by decide) (by decide) (by decide) (by decide)]; exact c4, by rw [k 5 (by decide) (by decide) (by decide) (by decide)]; exact c5, by rw [k 6 (by decide) (by decide) (by decide) (by decide)]; exact c6, by rw [k 7 (by decide) (by decide) (by decide) (by decide)]; exact c7, by rw [k 8 (by decide) (by decide) (by decide) (by decide)]; exact c8, by rw [k 9 (by decide) (by decide) (by decide) (by decide)]; exact c9, by rw [k 10 (by decide) (by decide) (by decide) (by decide)]; exact c10, ?_, ?_, ?_, ?_⟩ (fun q q1 q2 => k q (by omega) (by omega) (by omega) (by omega)) rfl rfl (by rw [k 0 (by decide) (by decide) (by decide) (by decide)]; exact b1) (by rw [k 1 (by decide) (by decide) (by decide) (by decide)]; exact b2) (by rw [k 2 (by decide) (by decide) (by decide) (by decide)]; exact b3) (by rw [k 3 (by decide) (by decide) (by decide) (by decide)]; exact b5)
    · rw [y1_ne (by decide), y1_ne (by decide), y1_ne (by decide), y1_eq, ix_nI (by omega)]; exact ha
    · rw [y1_ne (by decide), y1_ne (by decide), y1_eq, ix_nI (by omega)]; exact hb
    · rw [y1_ne (by decide), y1_eq, ix_nI (by omega)]; exact hd
    · rw [y1_eq, ix_nI (by omega)]; exact he
theorem mid_b {a b : Int32} (h1 : -9999 ≤ a.toInt ∧ a.toInt ≤ 9999) (h2 : -9999 ≤ b.toInt ∧ b.toInt ≤ 9999) : -9999 ≤ (p_fi (a + b) (nI 2)).toInt ∧ (p_fi (a + b) (nI 2)).toInt ≤ 9999 := by
  have e2 : (nI 2).toInt = 2 := by decide
  have e : (a + b).toInt = a.toInt + b.toInt := i_add (by omega) (by omega)
  rw [fi_int (by rw [e2]; omega), e, e2]
  constructor <;> omega
theorem INV_rep {c : Nat → Nat} {S : Nat → Nat → Nat → Int32} (h : INV c S) {s x y z : Int32} : INV (s_rep c S s x y z).2.2.1 (s_rep c S s x y z).2.2.2 := by
  have h' := h
  obtain ⟨hc, -, b1, b2, b3, b5, -⟩ := h
  unfold s_rep
  cases wi s (nI 0) (nI (c 0) - nI 1) with
  | false => exact h'
  | true =>
    cases hp : plc x y && wi z (nI 1) (nI 99) with
    | false => exact h'
    | true =>
      cases p_see c S (ix s) x y with
      | false => exact h'
      | true =>
        simp only [cond_true]
        by_cases q : S 4 (fxn x) (fxn y) < z
        · rw [if_pos q]
          rw [Bool.and_eq_true] at hp
          obtain ⟨px, py⟩ := plc_iff.mp hp.1
          unfold s_rep2
          cases hf : ff (fun k => mrg (S 5 k) (nI (c 11)) s x y) (c 3) with
          | some k =>
            have hk := ff_lt' hf
            simp only
            refine INV_of h' hc (fun _ _ _ => rfl) (y1_ne (by decide)) (y1_ne (by decide)) (by rw [y1_ne (by decide)]; exact b1) (by rw [y1_ne (by decide)]; exact b2) (by rw [y1_ne (by decide)]; exact b3) (fun k' hk' => ?_)
            rw [y1_eq]
            by_cases e : k' = k
            · obtain ⟨i1, i2⟩ := b5 k hk
              obtain ⟨ix1, iy1⟩ := plc_iff.mp i1
              rw [e, y1_eq]
              unfold mrgd IP
              refine ⟨plc_iff.mpr ⟨?_, ?_⟩, ?_⟩
              · rw [up_ne (by decide), up_ne (by decide), up_ne (by decide), up_eq]; exact mid_b px ix1
              · rw [up_ne (by decide), up_ne (by decide), up_eq]; exact mid_b py iy1
              · rw [up_ne (by decide), up_ne (by decide), up_ne (by decide), up_ne (by decide)]; exact i2
            · rw [y1_ne e]; exact b5 k' hk'
          | none =>
            simp only
            by_cases q3 : c 3 = 10
            · rw [if_pos q3]; exact h'
            · rw [if_neg q3]
              simp only
              obtain ⟨c0, c1, c2, c3, c4, c5, c6, c7, c8, c9, c10, c11, c12, c13, c14⟩ := hc
              refine INV_of h' ⟨by rw [y1_ne (by decide)]; exact c0, by rw [y1_ne (by decide)]; exact c1, by rw [y1_ne (by decide)]; exact c2, by rw [y1_eq]; omega, by rw [y1_ne (by decide)]; exact c4, by rw [y1_ne (by decide)]; exact c5, by rw [y1_ne (by decide)]; exact c6, by rw [y1_ne (by decide)]; exact c7, by rw [y1_ne (by decide)]; exact c8, by rw [y1_ne (by decide)]; exact c9, by rw [y1_ne (by decide)]; exact c10, by rw [y1_ne (by decide)]; exact c11, by rw [y1_ne (by decide)]; exact c12, by rw [y1_ne (by decide)]; exact c13, by rw [y1_ne (by decide)]; exact c14⟩ (fun q _ _ => y1_ne (by omega)) (y1_ne (by decide)) (y1_ne (by decide)) (by rw [y1_ne (by decide), y1_ne (by decide)]; exact b1) (by rw [y1_ne (by decide), y1_ne (by decide)]; exact b2) (by rw [y1_ne (by decide), y1_ne (by decide)]; exact b3) (fun i hi => ?_)
              rw [y1_eq] at hi
              rw [y1_eq]
              by_cases e : i = c 3
              · rw [e, y1_eq]; exact ⟨hp.1, rfl⟩
              · rw [y1_ne e]; exact b5 i (by omega)
        · rw [if_neg q]; exact h'
