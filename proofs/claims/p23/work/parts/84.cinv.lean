/-! ===== what holds between calls ===== -/
def INV (c : Nat → Nat) (S : Nat → Nat → Nat → Int32) : Prop := CB c ∧ (c 7 ≤ 60 * c 6 ∧ c 8 ≤ 200 * c 6 ∧ c 9 ≤ 10 * c 6) ∧ (∀ i, i < c 0 → plc (S 1 i 0) (S 1 i 1) = true) ∧ (∀ i, i < c 1 → IA (S 2 i)) ∧ (∀ a, a < c 2 → IA (S 3 a)) ∧ (∀ k, k < c 3 → IP (S 5 k) ∧ S 5 k 4 = -nI 1) ∧ (∀ t, t < c 4 → PR (c 6) (c 9) (S 7 t)) ∧ (∀ e, e < c 5 → PL (c 6) (c 6) (c 9) (c 7) (S 8 e) ∧ ∃ s, s < c 6 ∧ S 8 e 5 = nI s) ∧ DN c S ∧ ∀ j, j ≤ 12 → cn (fun e => lp (c 6) j (S 8 e)) (c 5) + cn (fun t => tp (j % 5) (S 7 t)) (c 4) ≤ 10 * (j / 5 + 1)
theorem cn_all {p : Nat → Bool} : ∀ n, (∀ j, j < n → p j = true) → cn p n = n
  | 0, _ => rfl
  | n + 1, h => by
    unfold cn
    rw [cn_all n (fun j hj => h j (by omega)), h n (by omega)]
    rfl
theorem cn_mono {p q : Nat → Bool} : ∀ n, (∀ j, j < n → p j = true → q j = true) → cn p n ≤ cn q n
  | 0, _ => Nat.le_refl _
  | n + 1, h => by
    have ih := cn_mono n (fun j hj => h j (by omega))
    have hn := h n (by omega)
    unfold cn
    cases hp : p n with
    | false => cases q n <;> simp <;> omega
    | true => rw [hn hp]; simp; omega
theorem INV_5 {c : Nat → Nat} {S : Nat → Nat → Nat → Int32} (h : INV c S) : c 5 ≤ 30 := by
  obtain ⟨hc, -, -, -, -, -, -, hL, -, hW⟩ := h
  have h12 := hW 12 (Nat.le_refl _)
  rw [cn_all (p := fun e => lp (c 6) 12 (S 8 e)) (c 5) (fun e he => by
    obtain ⟨⟨-, ⟨s, h1, h2, h3⟩, -⟩, -⟩ := hL e he
    have h6 := hc.2.2.2.2.2.2.1
    show decide _ = true
    rw [h3, ix_nI (by omega)]
    exact decide_eq_true h2)] at h12
  omega
theorem sw3_1 {L : CS} : (sw3 L).1 = u1 (u1 (u1 (u1 L.1 6 (L.1 6 + 1)) 5 (cmp (kpF (L.1 6 + 1)) (L.2 8) (L.1 5)).2) 10 (L.1 3)) 3 0 := by
  unfold sw3 forgS
  simp only [y1_eq, y1_ne (show (5 : Nat) ≠ 6 by decide), y1_ne (show (8 : Nat) ≠ 7 by decide), y1_ne (show (3 : Nat) ≠ 5 by decide), y1_ne (show (3 : Nat) ≠ 6 by decide)]
theorem sw3_2 {L : CS} : (sw3 L).2 = u1 (u1 (u1 L.2 7 (upn (L.1 4) (fun _ => pe) (L.2 7))) 8 (cmp (kpF (L.1 6 + 1)) (L.2 8) (L.1 5)).1) 6 (fun k => if k < L.1 3 then L.2 5 k else L.2 6 k) := by
  unfold sw3 forgS
  simp only [y1_eq, y1_ne (show (5 : Nat) ≠ 6 by decide), y1_ne (show (8 : Nat) ≠ 7 by decide), y1_ne (show (3 : Nat) ≠ 5 by decide), y1_ne (show (3 : Nat) ≠ 6 by decide), y1_ne (show (5 : Nat) ≠ 8 by decide), y1_ne (show (5 : Nat) ≠ 7 by decide), y1_ne (show (6 : Nat) ≠ 8 by decide), y1_ne (show (6 : Nat) ≠ 7 by decide)]
theorem PJ_e {k n : Nat} {R R' : Nat → Int32} (h : PJ k n R) (e : ∀ w, w ≠ 13 → w ≠ 38 → R' w = R w) : PJ k n R' := by
  obtain ⟨hm, hi, ⟨g, m, h8, h7, hg⟩, hn, o1, o2, o3, o4⟩ := h
  exact ⟨mvb_e hm (e 1 (by decide) (by decide)) (e 2 (by decide) (by decide)) (e 3 (by decide) (by decide)) (e 4 (by decide) (by decide)), IS_e hi (e 5 (by decide) (by decide)) (e 7 (by decide) (by decide)), ⟨g, m, by rw [e 8 (by decide) (by decide)]; exact h8, by rw [e 7 (by decide) (by decide)]; exact h7, hg⟩, by rw [e 0 (by decide) (by decide)]; exact hn, by rw [e 10 (by decide) (by decide)]; exact o1, by rw [e 11 (by decide) (by decide)]; exact o2, by rw [e 14 (by decide) (by decide), e 10 (by decide) (by decide)]; exact o3, by rw [e 15 (by decide) (by decide), e 11 (by decide) (by decide)]; exact o4⟩
theorem PM_PR {k n : Nat} {R : Nat → Int32} (h : PM k n R) : PR (k + 1) n (pe R) := by
  obtain ⟨hm, hi, ⟨g, m, h8, h7, hg⟩, hn, -, -⟩ := h
  exact ⟨mvb_e hm (pe_w (by decide)) (pe_w (by decide)) (pe_w (by decide)) (pe_w (by decide)), IS_e hi (pe_w (by decide)) (pe_w (by decide)), ⟨g, m, by rw [pe_w (by decide)]; exact h8, by rw [pe_w (by decide)]; exact h7, hg⟩, by rw [pe_w (by decide)]; exact hn, by rw [pe_14, pe_w (by decide)], by rw [pe_15, pe_w (by decide)]⟩
theorem kp_eq {k s : Nat} {R : Nat → Int32} (h : R 5 = nI s) (hs : s ≤ 1000) (hk : k ≤ 1000) : kpC (nI (k + 1) - nI 12) R = kpF (k + 1) R ∧ (kpF (k + 1) R = true → k + 1 ≤ s + 12) := by
  have e1 : (nI (k + 1)).toInt = (k : Int) + 1 := by rw [nI_toInt (by omega)]; omega
  have e2 : (nI 12).toInt = 12 := by decide
  have e3 : (nI s).toInt = (s : Int) := nI_toInt (by omega)
  have e4 : (nI (k + 1) - nI 12).toInt = (k : Int) + 1 - 12 := by rw [i_sub (by rw [e1, e2]; omega) (by rw [e1, e2]; omega), e1, e2]
  have e5 : (nI (k + 1) - nI s).toInt = (k : Int) + 1 - s := by rw [i_sub (by rw [e1, e3]; omega) (by rw [e1, e3]; omega), e1, e3]
  unfold kpC kpF
  rw [h]
  constructor
  · rw [Bool.eq_iff_iff, Bool.not_eq_true', decide_eq_false_iff_not, decide_eq_true_eq, fa_lt, fa_le, e3, e4, e5, e2]
    omega
  · intro hh
    rw [decide_eq_true_eq, fa_le, e5, e2] at hh
    omega
/-- the end keeps it -/
theorem end_INV {k : Nat} {L : CS} (hk : k ≤ 499) (hS : SM k L) (h6 : L.1 6 = k) (hc : CB L.1) (h7 : L.1 7 ≤ 60 * (k + 1)) (h8 : L.1 8 ≤ 200 * (k + 1)) (h9 : L.1 9 ≤ 10 * (k + 1)) (g1 : ∀ i, i < L.1 0 → plc (L.2 1 i 0) (L.2 1 i 1) = true) (g2 : ∀ i, i < L.1 1 → IA (L.2 2 i)) (g3 : ∀ a, a < L.1 2 → IA (L.2 3 a)) : INV (sw3 L).1 (sw3 L).2 := by
  obtain ⟨a1, a2, ⟨a3, a4, a5⟩, a6, -⟩ := hS
  obtain ⟨π, p1, p2, -⟩ := cmp_pi (kp := kpF (L.1 6 + 1)) (T := L.2 8) (L.1 5)
  have pc := fun j => cmp_cn (kp := kpF (L.1 6 + 1)) (p := lp (k + 1) j) (T := L.2 8) (L.1 5)
  have ple := cmp_le (kp := kpF (L.1 6 + 1)) (T := L.2 8) (L.1 5)
  rw [sw3_1, sw3_2]
  rw [h6] at *
  generalize cmp (kpF (k + 1)) (L.2 8) (L.1 5) = b at *
  obtain ⟨c0, c1, c2, c3, c4, c5, c6, c7, c8, c9, c10, c11, c12, c13, c14⟩ := hc
  have sL : ∀ e, e < L.1 5 → ∃ s, s ≤ k ∧ k ≤ s + 12 ∧ L.2 8 e 5 = nI s := fun e he => (a2 e he).2.1
  unfold INV DN CB
  simp only [y1_eq, y1_ne (show (0 : Nat) ≠ 3 by decide), y1_ne (show (0 : Nat) ≠ 10 by decide), y1_ne (show (0 : Nat) ≠ 5 by decide), y1_ne (show (0 : Nat) ≠ 6 by decide), y1_ne (show (1 : Nat) ≠ 3 by decide), y1_ne (show (1 : Nat) ≠ 10 by decide), y1_ne (show (1 : Nat) ≠ 5 by decide), y1_ne (show (1 : Nat) ≠ 6 by decide), y1_ne (show (2 : Nat) ≠ 3 by decide), y1_ne (show (2 : Nat) ≠ 10 by decide), y1_ne (show (2 : Nat) ≠ 5 by decide), y1_ne (show (2 : Nat) ≠ 6 by decide), y1_ne (show (4 : Nat) ≠ 3 by decide), y1_ne (show (4 : Nat) ≠ 10 by decide), y1_ne (show (4 : Nat) ≠ 5 by decide), y1_ne (show (4 : Nat) ≠ 6 by decide), y1_ne (show (5 : Nat) ≠ 3 by decide), y1_ne (show (5 : Nat) ≠ 10 by decide), y1_ne (show (6 : Nat) ≠ 3 by decide), y1_ne (show (6 : Nat) ≠ 10 by decide), y1_ne (show (6 : Nat) ≠ 5 by decide), y1_ne (show (7 : Nat) ≠ 3 by decide), y1_ne (show (7 : Nat) ≠ 10 by decide), y1_ne (show (7 : Nat) ≠ 5 by decide), y1_ne (show (7 : Nat) ≠ 6 by decide), y1_ne (show (8 : Nat) ≠ 3 by decide), y1_ne (show (8 : Nat) ≠ 10 by decide), y1_ne (show (8 : Nat) ≠ 5 by decide), y1_ne (show (8 : Nat) ≠ 6 by decide), y1_ne (show (9 : Nat) ≠ 3 by decide), y1_ne (show (9 : Nat) ≠ 10 by decide), y1_ne (show (9 : Nat) ≠ 5 by decide), y1_ne (show (9 : Nat) ≠ 6 by decide), y1_ne (show (10 : Nat) ≠ 3 by decide), y1_ne (show (11 : Nat) ≠ 3 by decide), y1_ne (show (11 : Nat) ≠ 10 by decide), y1_ne (show (11 : Nat) ≠ 5 by decide), y1_ne (show (11 : Nat) ≠ 6 by decide), y1_ne (show (12 : Nat) ≠ 3 by decide), y1_ne (show (12 : Nat) ≠ 10 by decide), y1_ne (show (12 : Nat) ≠ 5 by decide), y1_ne (show (12 : Nat) ≠ 6 by decide), y1_ne (show (13 : Nat) ≠ 3 by decide), y1_ne (show (13 : Nat) ≠ 10 by decide), y1_ne (show (13 : Nat) ≠ 5 by decide), y1_ne (show (13 : Nat) ≠ 6 by decide), y1_ne (show (14 : Nat) ≠ 3 by decide), y1_ne (show (14 : Nat) ≠ 10 by decide), y1_ne (show (14 : Nat) ≠ 5 by decide), y1_ne (show (14 : Nat) ≠ 6 by decide), y1_ne (show (1 : Nat) ≠ 8 by decide), y1_ne (show (1 : Nat) ≠ 7 by decide), y1_ne (show (2 : Nat) ≠ 8 by decide), y1_ne (show (2 : Nat) ≠ 7 by decide), y1_ne (show (3 : Nat) ≠ 8 by decide), y1_ne (show (3 : Nat) ≠ 7 by decide), y1_ne (show (3 : Nat) ≠ 6 by decide), y1_ne (show (7 : Nat) ≠ 8 by decide)]
  have rt : ∀ t, t < L.1 4 → upn (L.1 4) (fun _ => pe) (L.2 7) t = pe (L.2 7 t) := fun t ht => upn_lt ht
  have r0 : ∀ t, t < L.1 4 → upn (L.1 4) (fun _ => pe) (L.2 7) t 0 = L.2 7 t 0 := fun t ht => by rw [rt t ht]; exact pe_w (by decide)
  refine ⟨⟨c0, c1, c2, by omega, c4, by omega, by omega, c7, c8, c9, c3, c11, c12, c13, c14⟩, ⟨h7, h8, h9⟩, g1, g2, g3, fun k hk => absurd hk (Nat.not_lt_zero k), fun t ht => by rw [rt t ht]; exact PM_PR (a1 t ht), fun e he => ?_, ⟨fun t u ht hu he => ?_, fun e e' he he' hh => ?_, fun t e ht he => ?_⟩, fun j hj => ?_⟩
  · obtain ⟨x1, x2, x3⟩ := p1 e he
    obtain ⟨m1, ⟨s, s1, s2, s3⟩, m3, m4⟩ := a2 _ x1
    have hs := (kp_eq (k := k) s3 (by omega) (by omega)).2 x2
    rw [x3]
    exact ⟨⟨m1, ⟨s, by omega, hs, s3⟩, m3, m4⟩, s, by omega, s3⟩
  · rw [r0 t ht, r0 u hu] at he
    exact a3 t u ht hu he
  · rw [(p1 e he).2.2, (p1 e' he').2.2] at hh
    exact p2 e e' he he' (a4 _ _ (p1 e he).1 (p1 e' he').1 hh)
  · rw [r0 t ht, (p1 e he).2.2]
    exact a5 t _ ht (p1 e he).1
  · have l0 : cn (fun t => tp (j % 5) (upn (L.1 4) (fun _ => pe) (L.2 7) t)) (L.1 4) = cn (fun t => tp (j % 5) (L.2 7 t)) (L.1 4) := cn_congr (fun t ht => by
      show decide _ = decide _
      rw [rt t ht, pe_w (show 8 < 12 by decide)])
    have l1 := pc j
    have l2 := cn_mono (p := fun u => kpF (k + 1) (L.2 8 u) && lp (k + 1) j (L.2 8 u)) (q := fun u => lp (k + 1) j (L.2 8 u)) (L.1 5) (fun u _ h => by
      rw [Bool.and_eq_true] at h
      exact h.2)
    have l3 := cn_le (fun t => tp (j % 5) (L.2 7 t)) (L.1 4)
    rw [l0, l1]
    cases j with
    | zero =>
      have z := cn_zero (p := fun u => lp (k + 1) 0 (L.2 8 u)) (n := L.1 5) (fun u hu => by
        obtain ⟨s, s1, -, s3⟩ := sL u hu
        show decide _ = false
        rw [s3, ix_nI (by omega)]
        exact decide_eq_false (by omega))
      omega
    | succ j =>
      have e : cn (fun u => lp (k + 1) (j + 1) (L.2 8 u)) (L.1 5) = cn (fun u => lp k j (L.2 8 u)) (L.1 5) := cn_congr (fun u hu => by
        show decide _ = decide _
        exact decide_eq_decide.mpr (by omega))
      have w := a6 j (by omega)
      by_cases q : j % 5 = 4
      · have q1 : (j + 1) / 5 = j / 5 + 1 := by omega
        rw [q1]
        omega
      · have q1 : (j + 1) / 5 = j / 5 := by omega
        have q2 : (j + 1) % 5 = j % 5 + 1 := by omega
        rw [q1, q2]
        omega
