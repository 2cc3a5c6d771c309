/-! ===== the class' sweep: what a step leaves alone; the end ===== -/
theorem cr1_r {a b : Nat} {s : CS} {q : Nat} (h : q ≠ 9) : (cr1 a b s).2 q = s.2 q := by
  unfold cr1
  split
  · cases firm (s.2 7) a && (firm (s.2 7) b && p_cr (s.2 7 a) (s.2 7 b))
    · rfl
    · show noteS s.1 s.2 _ _ _ q = _
      rw [noteS_r h]
  · rfl
theorem cr1s_r {a : Nat} {s : CS} {q : Nat} (h : q ≠ 9) : ∀ n, (itr (cr1 a) n s).2 q = s.2 q
  | 0 => rfl
  | n + 1 => by rw [itr_s', cr1_r h]; exact cr1s_r h n
theorem crs_r {n : Nat} {s : CS} {q : Nat} (h : q ≠ 9) : (crs n s).2 q = s.2 q := by
  unfold crs
  have key : ∀ m, (itr (fun a s => itr (cr1 a) n s) m s).2 q = s.2 q := fun m => by
    induction m with
    | zero => rfl
    | succ m ih => rw [itr_s', cr1s_r h]; exact ih
  exact key n
/-- areas: what stays of a row -/
theorem ar1_7 {a t : Nat} {s : CS} : (∀ q, q ≠ 7 → q ≠ 9 → (ar1 a t s).2 q = s.2 q) ∧ ∀ u w, w ≠ 9 → (ar1 a t s).2 7 u w = s.2 7 u w := by
  have key : ∀ v u w, w ≠ 9 → u1 (s.2 7) t (up (s.2 7 t) 9 v) u w = s.2 7 u w := fun v u w hw => by
    by_cases e : u = t
    · rw [e, y1_eq, up_ne hw]
    · rw [y1_ne e]
  unfold ar1
  simp only
  cases (firm (s.2 7) t && p_in (s.2 7 t 1) (s.2 7 t 2) (s.2 3 a)) && !p_bit (s.2 7 t 9) (nI a)
  · cases p_bit (s.2 7 t 9) (nI a) && (firm (s.2 7) t && !(firm (s.2 7) t && p_in (s.2 7 t 1) (s.2 7 t 2) (s.2 3 a)))
    · simp only [cond_false]
      exact ⟨fun q h7 h9 => y1_ne h7, fun u w hw => by rw [y1_eq]; exact key _ u w hw⟩
    · simp only [cond_false, cond_true]
      exact ⟨fun q h7 h9 => (y1_ne h7).trans (noteS_r h9), fun u w hw => by rw [y1_eq]; exact key _ u w hw⟩
  · simp only [cond_true]
    exact ⟨fun q h7 h9 => (y1_ne h7).trans (noteS_r h9), fun u w hw => by rw [y1_eq]; exact key _ u w hw⟩
theorem ar1s_7 {a : Nat} {s : CS} : ∀ n, (∀ q, q ≠ 7 → q ≠ 9 → (itr (ar1 a) n s).2 q = s.2 q) ∧ ∀ u w, w ≠ 9 → (itr (ar1 a) n s).2 7 u w = s.2 7 u w
  | 0 => ⟨fun _ _ _ => rfl, fun _ _ _ => rfl⟩
  | n + 1 => by
    obtain ⟨h1, h2⟩ := ar1s_7 (a := a) (s := s) n
    obtain ⟨g1, g2⟩ := ar1_7 (a := a) (t := n) (s := itr (ar1 a) n s)
    rw [itr_s']
    exact ⟨fun q h7 h9 => (g1 q h7 h9).trans (h1 q h7 h9), fun u w hw => (g2 u w hw).trans (h2 u w hw)⟩
theorem ars_7 {n : Nat} {s : CS} : ∀ m, (∀ q, q ≠ 7 → q ≠ 9 → (ars m n s).2 q = s.2 q) ∧ (∀ u w, w ≠ 9 → (ars m n s).2 7 u w = s.2 7 u w) ∧ (∀ q, q ≠ 8 → (ars m n s).1 q = s.1 q) ∧ (ars m n s).1 8 ≤ s.1 8 + n * m
  | 0 => ⟨fun _ _ _ => rfl, fun _ _ _ => rfl, fun _ _ => rfl, Nat.le_refl _⟩
  | m + 1 => by
    obtain ⟨h1, h2, h3, h4⟩ := ars_7 (n := n) (s := s) m
    obtain ⟨g1, g2⟩ := ar1s_7 (a := m) (s := ars m n s) n
    obtain ⟨g3, g4, -⟩ := ar_c (a := m) (s := ars m n s) n
    have e : ars (m + 1) n s = itr (ar1 m) n (ars m n s) := rfl
    rw [e]
    exact ⟨fun q h7 h9 => (g1 q h7 h9).trans (h1 q h7 h9), fun u w hw => (g2 u w hw).trans (h2 u w hw), fun q hq => (g3 q hq).trans (h3 q hq), by rw [Nat.mul_succ]; omega⟩
/-- new tracks: what stays -/
theorem beg_r {s : CS} {q : Nat} (h5 : q ≠ 5) (h7 : q ≠ 7) (h9 : q ≠ 9) : ∀ n, (itr beg1 n s).2 q = s.2 q
  | 0 => rfl
  | n + 1 => by
    have ih := beg_r (s := s) h5 h7 h9 n
    rw [itr_s', ← ih]
    unfold beg1
    split
    · show noteS (itr beg1 n s).1 _ _ _ _ q = _
      rw [noteS_r h9, y1_ne h5, y1_ne h7]
    · rfl
theorem pe_w {R : Nat → Int32} {w : Nat} (h : w < 12) : pe R w = R w := by
  unfold pe
  rw [up_ne (by omega), up_ne (by omega), up_ne (by omega)]
  exact if_neg (by omega)
theorem pe_14 {R : Nat → Int32} : pe R 14 = R 1 := by
  unfold pe
  rw [up_ne (by decide), up_ne (by decide), up_eq]
theorem pe_15 {R : Nat → Int32} : pe R 15 = R 2 := by
  unfold pe
  rw [up_ne (by decide), up_eq]
theorem pe_s {R : Nat → Int32} {w : Nat} (h : 16 ≤ w) (h2 : w < 38) : pe R w = R (w - 2) := by
  unfold pe
  rw [up_ne (by omega), up_ne (by omega), up_ne (by omega)]
  exact if_pos ⟨h, h2⟩
theorem TM_TE {f : Nat → Nat → Int32} {A : Nat} {R : Nat → Int32} (h : TM f A R) : TE f A (pe R) := by
  obtain ⟨t0, tw, -, t10, -, t1, t2, tp⟩ := h
  refine ⟨?_, fun w h3 h8 => ?_, ?_, ?_, ?_, fun b hb hlt => ?_⟩
  · rw [pe_w (by decide)]; exact t0
  · rw [pe_w (by omega)]; exact tw w h3 h8
  · rw [pe_w (by decide)]; exact t10
  · rw [pe_w (by decide)]; exact t1
  · rw [pe_w (by decide)]; exact t2
  · rw [pe_w (by decide)] at hlt
    cases b with
    | zero =>
      rw [show 14 + 2 * 0 = 14 from rfl, show 14 + 1 = 15 from rfl, pe_14, pe_15]
      exact ⟨t1, t2⟩
    | succ b =>
      obtain ⟨g1, g2⟩ := tp b (by omega) hlt
      rw [pe_s (by omega) (by omega), pe_s (by omega) (by omega), g1, g2, show 14 + 2 * (b + 1) - 2 = 14 + 2 * b by omega, show 14 + 2 * (b + 1) + 1 - 2 = 14 + 2 * b + 1 by omega]
      exact ⟨rfl, rfl⟩
/-- the sweep's end -/
theorem CRa_end {f f' : Nat → Nat → Int32} {r : Nat → Nat → Option Nat} {σ : Nat → Nat} {L : CS} (hc : CB L.1) (hA : CRa f L.1 L.2) (hp : CPm r 1 σ) (ht : TMs f σ (L.1 4) (L.2 7)) (hz : ∀ u, u < 10 → isZ (f (37 + 3 * u) 11) = true) (g1 : f' 1 = up (f 1) 10 (nI (L.1 6 + 1))) (g22 : ∀ k, k < L.1 3 → f' 22 k = L.2 5 k 4) (gL : CLo f' 1 (u1 L.1 5 (cmp (kpF (L.1 6 + 1)) (L.2 8) (L.1 5)).2) (u1 L.2 8 (cmp (kpF (L.1 6 + 1)) (L.2 8) (L.1 5)).1)) (ge : ∀ a, a ≠ 1 → a ≠ 22 → (a < 23 ∨ 30 < a) → f' a = f a) : CAll f' r 1 σ (sw3 L).1 (sw3 L).2 := by
  obtain ⟨c, S⟩ := L
  simp only at *
  obtain ⟨d1, d2, d3, d4, d5⟩ := hA
  have hn := hc.2.2.2.2.1
  have e1 : (sw3 (c, S)).1 = u1 (u1 (u1 (u1 c 6 (c 6 + 1)) 5 (cmp (kpF (c 6 + 1)) (S 8) (c 5)).2) 10 (c 3)) 3 0 := by
    unfold sw3 forgS
    simp only [y1_eq, y1_ne (show (5 : Nat) ≠ 6 by decide), y1_ne (show (8 : Nat) ≠ 7 by decide), y1_ne (show (3 : Nat) ≠ 5 by decide), y1_ne (show (3 : Nat) ≠ 6 by decide)]
  have e2 : (sw3 (c, S)).2 = u1 (u1 (u1 S 7 (upn (c 4) (fun _ => pe) (S 7))) 8 (cmp (kpF (c 6 + 1)) (S 8) (c 5)).1) 6 (fun k => if k < c 3 then S 5 k else S 6 k) := by
    unfold sw3 forgS
    simp only [y1_eq, y1_ne (show (5 : Nat) ≠ 6 by decide), y1_ne (show (8 : Nat) ≠ 7 by decide), y1_ne (show (3 : Nat) ≠ 5 by decide), y1_ne (show (3 : Nat) ≠ 6 by decide), y1_ne (show (5 : Nat) ≠ 8 by decide), y1_ne (show (5 : Nat) ≠ 7 by decide), y1_ne (show (6 : Nat) ≠ 8 by decide), y1_ne (show (6 : Nat) ≠ 7 by decide)]
  rw [e1, e2]
  refine ⟨?_, ?_, ?_, ?_, ?_, hp, ?_⟩
  · obtain ⟨k5, k6, k7, k8, k9, k10, k11, k12⟩ := d1
    unfold CSc
    rw [g1]
    simp only [up_eq, up_ne (show (5 : Nat) ≠ 10 by decide), up_ne (show (6 : Nat) ≠ 10 by decide), up_ne (show (7 : Nat) ≠ 10 by decide), up_ne (show (8 : Nat) ≠ 10 by decide), up_ne (show (9 : Nat) ≠ 10 by decide), up_ne (show (11 : Nat) ≠ 10 by decide), up_ne (show (12 : Nat) ≠ 10 by decide), y1_eq, y1_ne (show (4 : Nat) ≠ 3 by decide), y1_ne (show (4 : Nat) ≠ 10 by decide), y1_ne (show (4 : Nat) ≠ 5 by decide), y1_ne (show (4 : Nat) ≠ 6 by decide), y1_ne (show (11 : Nat) ≠ 3 by decide), y1_ne (show (11 : Nat) ≠ 10 by decide), y1_ne (show (11 : Nat) ≠ 5 by decide), y1_ne (show (11 : Nat) ≠ 6 by decide), y1_ne (show (12 : Nat) ≠ 3 by decide), y1_ne (show (12 : Nat) ≠ 10 by decide), y1_ne (show (12 : Nat) ≠ 5 by decide), y1_ne (show (12 : Nat) ≠ 6 by decide), y1_ne (show (13 : Nat) ≠ 3 by decide), y1_ne (show (13 : Nat) ≠ 10 by decide), y1_ne (show (13 : Nat) ≠ 5 by decide), y1_ne (show (13 : Nat) ≠ 6 by decide), y1_ne (show (14 : Nat) ≠ 3 by decide), y1_ne (show (14 : Nat) ≠ 10 by decide), y1_ne (show (14 : Nat) ≠ 5 by decide), y1_ne (show (14 : Nat) ≠ 6 by decide), y1_ne (show (6 : Nat) ≠ 3 by decide), y1_ne (show (6 : Nat) ≠ 10 by decide), y1_ne (show (6 : Nat) ≠ 5 by decide), y1_ne (show (7 : Nat) ≠ 3 by decide), y1_ne (show (7 : Nat) ≠ 10 by decide), y1_ne (show (7 : Nat) ≠ 5 by decide), y1_ne (show (7 : Nat) ≠ 6 by decide), y1_ne (show (9 : Nat) ≠ 3 by decide), y1_ne (show (9 : Nat) ≠ 10 by decide), y1_ne (show (9 : Nat) ≠ 5 by decide), y1_ne (show (9 : Nat) ≠ 6 by decide)]
    exact ⟨k5, k6, k7, k8, k9, trivial, k11, k12⟩
  · exact CCo_k d2 (fun a _ _ => ge a (by omega) (by omega) (by omega)) (by rw [y1_ne (by decide), y1_ne (by decide), y1_ne (by decide), y1_ne (by decide)]) (by rw [y1_ne (by decide), y1_ne (by decide), y1_ne (by decide), y1_ne (by decide)]) (by rw [y1_ne (by decide), y1_ne (by decide), y1_ne (by decide), y1_ne (by decide)]) (fun q _ _ => by rw [y1_ne (by omega), y1_ne (by omega), y1_ne (by omega)])
  · right
    obtain ⟨m1, m2, m3⟩ := d3
    have e10 : u1 (u1 (u1 (u1 c 6 (c 6 + 1)) 5 (cmp (kpF (c 6 + 1)) (S 8) (c 5)).2) 10 (c 3)) 3 0 10 = c 3 := by rw [y1_ne (by decide), y1_eq]
    rw [e10, y1_eq, y1_eq]
    refine ⟨?_, rfl, ?_, fun k w hk hw => ?_⟩
    · show f' 17 6 = nI 0
      rw [ge 17 (by decide) (by decide) (by omega)]; exact m2
    · show f' 17 5 = nI (c 3)
      rw [ge 17 (by decide) (by decide) (by omega)]; exact m1
    · show f' (18 + w) k = (if k < c 3 then S 5 k else S 6 k) w
      rw [if_pos hk]
      by_cases h4 : w = 4
      · rw [h4]; exact g22 k hk
      · rw [ge _ (by omega) (by omega) (by omega)]
        exact (m3 k hk).1 w (by omega)
  · unfold CLo at gL ⊢
    rw [y1_eq, y1_eq] at gL
    rw [y1_ne (show (5 : Nat) ≠ 3 by decide), y1_ne (show (5 : Nat) ≠ 10 by decide), y1_eq, y1_ne (show (8 : Nat) ≠ 6 by decide), y1_eq]
    exact gL
  · exact CEv_k d5 (fun a _ _ => ge a (by omega) (by omega) (by omega)) (by rw [y1_ne (by decide), y1_ne (by decide), y1_ne (by decide), y1_ne (by decide)]) (by rw [y1_ne (by decide), y1_ne (by decide), y1_ne (by decide)])
  · have e4 : u1 (u1 (u1 (u1 c 6 (c 6 + 1)) 5 (cmp (kpF (c 6 + 1)) (S 8) (c 5)).2) 10 (c 3)) 3 0 4 = c 4 := by rw [y1_ne (by decide), y1_ne (by decide), y1_ne (by decide), y1_ne (by decide)]
    rw [e4, y1_ne (show (7 : Nat) ≠ 6 by decide), y1_ne (show (7 : Nat) ≠ 8 by decide), y1_eq]
    refine ⟨fun t hlt => ?_, fun u hu => ?_⟩
    · rw [upn_lt hlt]
      have hσ := (hp.1 t (by omega)).1
      exact TE_k (TM_TE (ht t hlt)) (ge _ (by omega) (by omega) (by omega)) (ge _ (by omega) (by omega) (by omega)) (ge _ (by omega) (by omega) (by omega))
    · show isZ (f' (37 + 3 * u) 11) = true
      rw [ge _ (by omega) (by omega) (by omega)]
      exact hz u hu
