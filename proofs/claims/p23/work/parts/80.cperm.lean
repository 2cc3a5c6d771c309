/-! ===== rows put together, rows in order: what becomes of them ===== -/
/-- those that stay: whence each comes -/
theorem cmp_pi {kp : (Nat → Int32) → Bool} {T : Nat → Nat → Int32} : ∀ n, ∃ π : Nat → Nat, (∀ t, t < (cmp kp T n).2 → π t < n ∧ kp (T (π t)) = true ∧ (cmp kp T n).1 t = T (π t)) ∧ (∀ t t', t < (cmp kp T n).2 → t' < (cmp kp T n).2 → π t = π t' → t = t') ∧ ∀ u, u < n → kp (T u) = true → ∃ t, t < (cmp kp T n).2 ∧ π t = u
  | 0 => ⟨fun t => t, fun t h => absurd h (Nat.not_lt_zero t), fun t _ h => absurd h (Nat.not_lt_zero t), fun u h => absurd h (Nat.not_lt_zero u)⟩
  | n + 1 => by
    obtain ⟨π, h1, h2, h3⟩ := cmp_pi (kp := kp) (T := T) n
    have hn := cmp_ge (kp := kp) (T := T) n n (Nat.le_refl _)
    rw [cmp_s, hn]
    cases hk : kp (T n) with
    | false =>
      simp only [cond_false]
      refine ⟨π, fun t ht => ?_, h2, fun u hu hku => ?_⟩
      · obtain ⟨a, b, c⟩ := h1 t ht
        exact ⟨by omega, b, c⟩
      · by_cases e : u = n
        · subst e; rw [hk] at hku; cases hku
        · exact h3 u (by omega) hku
    | true =>
      simp only [cond_true]
      refine ⟨u1 π (cmp kp T n).2 n, fun t ht => ?_, fun t t' ht ht' he => ?_, fun u hu hku => ?_⟩
      · by_cases e : t = (cmp kp T n).2
        · rw [e, y1_eq, y1_eq]; exact ⟨by omega, hk, rfl⟩
        · obtain ⟨a, b, c⟩ := h1 t (by omega)
          rw [y1_ne e, y1_ne e]
          exact ⟨by omega, b, c⟩
      · by_cases e : t = (cmp kp T n).2
        · by_cases e' : t' = (cmp kp T n).2
          · omega
          · rw [e, y1_eq, y1_ne e'] at he
            have := (h1 t' (by omega)).1
            omega
        · by_cases e' : t' = (cmp kp T n).2
          · rw [e', y1_eq, y1_ne e] at he
            have := (h1 t (by omega)).1
            omega
          · rw [y1_ne e, y1_ne e'] at he
            exact h2 t t' (by omega) (by omega) he
      · by_cases e : u = n
        · exact ⟨(cmp kp T n).2, by omega, by rw [y1_eq, e]⟩
        · obtain ⟨t, ht, hπ⟩ := h3 u (by omega) hku
          exact ⟨t, by omega, by rw [y1_ne (by omega)]; exact hπ⟩
theorem cmp_cn {kp : (Nat → Int32) → Bool} {p : (Nat → Int32) → Bool} {T : Nat → Nat → Int32} : ∀ n, cn (fun t => p ((cmp kp T n).1 t)) (cmp kp T n).2 = cn (fun u => kp (T u) && p (T u)) n
  | 0 => rfl
  | n + 1 => by
    have ih := cmp_cn (kp := kp) (p := p) (T := T) n
    have hn := cmp_ge (kp := kp) (T := T) n n (Nat.le_refl _)
    have hs : cn (fun u => kp (T u) && p (T u)) (n + 1) = cn (fun u => kp (T u) && p (T u)) n + (bif kp (T n) && p (T n) then 1 else 0) := rfl
    rw [cmp_s, hn, hs, ← ih]
    cases hk : kp (T n) with
    | false =>
      simp only [cond_false, Bool.false_and]
      rfl
    | true =>
      simp only [cond_true, Bool.true_and]
      have e : cn (fun t => p (u1 (cmp kp T n).1 (cmp kp T n).2 (T n) t)) ((cmp kp T n).2 + 1) = cn (fun t => p (u1 (cmp kp T n).1 (cmp kp T n).2 (T n) t)) (cmp kp T n).2 + (bif p (u1 (cmp kp T n).1 (cmp kp T n).2 (T n) (cmp kp T n).2) then 1 else 0) := rfl
      rw [e, y1_eq, cn_congr (p := fun t => p (u1 (cmp kp T n).1 (cmp kp T n).2 (T n) t)) (q := fun t => p ((cmp kp T n).1 t)) (fun j hj => by
        show p (u1 (cmp kp T n).1 (cmp kp T n).2 (T n) j) = _
        rw [y1_ne (by omega)])]
/-- rows in another order -/
def PRM (n : Nat) (T T' : Nat → Nat → Int32) : Prop := (∃ π ρ : Nat → Nat, (∀ t, t < n → π t < n ∧ ρ t < n ∧ π (ρ t) = t ∧ ρ (π t) = t) ∧ ∀ t, t < n → T' t = T (π t)) ∧ ∀ p : (Nat → Int32) → Bool, cn (fun t => p (T' t)) n = cn (fun t => p (T t)) n
theorem PRM_r {n : Nat} {T : Nat → Nat → Int32} : PRM n T T := ⟨⟨fun t => t, fun t => t, fun t h => ⟨h, h, rfl, rfl⟩, fun _ _ => rfl⟩, fun _ => rfl⟩
theorem PRM_t {n : Nat} {T T' T'' : Nat → Nat → Int32} (h : PRM n T T') (h' : PRM n T' T'') : PRM n T T'' := by
  obtain ⟨⟨π, ρ, a1, a2⟩, a3⟩ := h
  obtain ⟨⟨π', ρ', b1, b2⟩, b3⟩ := h'
  refine ⟨⟨fun t => π (π' t), fun t => ρ' (ρ t), fun t ht => ?_, fun t ht => ?_⟩, fun p => (b3 p).trans (a3 p)⟩
  · obtain ⟨x1, x2, x3, x4⟩ := a1 t ht
    obtain ⟨y1, y2, y3, y4⟩ := b1 t ht
    obtain ⟨z1, z2, z3, z4⟩ := a1 (π' t) y1
    obtain ⟨w1, w2, w3, w4⟩ := b1 (ρ t) x2
    refine ⟨z1, w2, ?_, ?_⟩
    · show π (π' (ρ' (ρ t))) = t
      rw [w3, x3]
    · show ρ' (ρ (π (π' t))) = t
      rw [z4, y4]
  · rw [b2 t ht, a2 _ (b1 t ht).1]
def swT (T : Nat → Nat → Int32) (k : Nat) : Nat → Nat → Int32 := u1 (u1 T (k + 1) (T k)) k (T (k + 1))
theorem swT_k {T : Nat → Nat → Int32} {k : Nat} : swT T k k = T (k + 1) := y1_eq
theorem swT_k1 {T : Nat → Nat → Int32} {k : Nat} : swT T k (k + 1) = T k := by
  unfold swT
  rw [y1_ne (by omega), y1_eq]
theorem swT_o {T : Nat → Nat → Int32} {k t : Nat} (h : t ≠ k) (h' : t ≠ k + 1) : swT T k t = T t := by
  unfold swT
  rw [y1_ne h, y1_ne h']
theorem swT_cn {T : Nat → Nat → Int32} {k : Nat} {p : (Nat → Int32) → Bool} : ∀ n, k + 1 < n → cn (fun t => p (swT T k t)) n = cn (fun t => p (T t)) n
  | 0, h => absurd h (Nat.not_lt_zero _)
  | n + 1, h => by
    have e1 : ∀ q : Nat → Bool, ∀ m, cn q (m + 1) = cn q m + (bif q m then 1 else 0) := fun _ _ => rfl
    rw [e1, e1]
    by_cases q : k + 1 = n
    · subst q
      rw [e1, e1, swT_k1, swT_k, cn_congr (p := fun t => p (swT T k t)) (q := fun t => p (T t)) (fun j hj => by
        show p (swT T k j) = _
        rw [swT_o (by omega) (by omega)])]
      omega
    · rw [swT_cn n (by omega), swT_o (by omega) (by omega)]
theorem PRM_sw {n k : Nat} {T : Nat → Nat → Int32} (h : k + 1 < n) : PRM n T (swT T k) := by
  refine ⟨⟨fun t => if t = k then k + 1 else if t = k + 1 then k else t, fun t => if t = k then k + 1 else if t = k + 1 then k else t, fun t ht => ?_, fun t ht => ?_⟩, fun p => swT_cn n h⟩
  · by_cases e : t = k
    · subst e
      simp only [if_true, if_neg (show ¬ t + 1 = t by omega)]
      exact ⟨h, h, trivial, trivial⟩
    · by_cases e' : t = k + 1
      · subst e'
        simp only [if_neg e, if_true]
        exact ⟨by omega, by omega, trivial, trivial⟩
      · simp only [if_neg e, if_neg e']
        exact ⟨ht, ht, trivial, trivial⟩
  · show swT T k t = T (if t = k then k + 1 else if t = k + 1 then k else t)
    by_cases e : t = k
    · subst e; rw [if_pos rfl, swT_k]
    · by_cases e' : t = k + 1
      · subst e'; rw [if_neg e, if_pos rfl, swT_k1]
      · rw [if_neg e, if_neg e', swT_o e e']
theorem PRM_ins {n : Nat} : ∀ k (T : Nat → Nat → Int32), k < n → PRM n T (insR k T)
  | 0, T, _ => PRM_r
  | k + 1, T, h => by
    unfold insR
    split
    · exact PRM_r
    · exact PRM_t (PRM_sw h) (PRM_ins k (swT T k) (by omega))
theorem PRM_srt {n : Nat} {T : Nat → Nat → Int32} : ∀ m, m ≤ n → PRM n T (itr insR m T)
  | 0, _ => PRM_r
  | m + 1, h => by
    rw [itr_s']
    exact PRM_t (PRM_srt m (by omega)) (PRM_ins m _ (by omega))
theorem PRM_sort {n : Nat} {T : Nat → Nat → Int32} : PRM n T (sortT n T) := PRM_srt n (Nat.le_refl n)
/-- one taken out -/
theorem shl_cn {T : Nat → Nat → Int32} {i : Nat} {p : (Nat → Int32) → Bool} : ∀ d, cn (fun t => p (shl T i (i + d) t)) (i + d) + (bif p (T i) then 1 else 0) = cn (fun t => p (T t)) (i + d + 1)
  | 0 => by
    have e1 : ∀ q : Nat → Bool, ∀ m, cn q (m + 1) = cn q m + (bif q m then 1 else 0) := fun _ _ => rfl
    rw [e1, show i + 0 = i from rfl, cn_congr (p := fun t => p (shl T i i t)) (q := fun t => p (T t)) (fun j hj => by
      show p (shl T i i j) = _
      rw [shl_at, if_neg (by omega)])]
  | d + 1 => by
    have ih := shl_cn (T := T) (i := i) (p := p) d
    have e1 : ∀ q : Nat → Bool, ∀ m, cn q (m + 1) = cn q m + (bif q m then 1 else 0) := fun _ _ => rfl
    rw [e1 (fun t => p (T t)) (i + (d + 1)), show i + (d + 1) = i + d + 1 from rfl, ← ih, e1, cn_congr (p := fun t => p (shl T i (i + d + 1) t)) (q := fun t => p (shl T i (i + d) t)) (n := i + d) (fun j hj => by
      show p (shl T i (i + d + 1) j) = p (shl T i (i + d) j)
      rw [shl_at, shl_at]
      by_cases q : i ≤ j
      · rw [if_pos ⟨q, by omega⟩, if_pos ⟨q, by omega⟩]
      · rw [if_neg (by omega), if_neg (by omega)])]
    have e2 : shl T i (i + d + 1) (i + d) = T (i + d + 1) := by rw [shl_at, if_pos ⟨by omega, by omega⟩]
    rw [e2]
    omega
