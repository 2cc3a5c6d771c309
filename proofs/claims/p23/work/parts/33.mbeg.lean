/-! ===== 3., 4., 5. the reference: all tracks, fields, new tracks ===== -/
/-! fields -/
def clt (k : Nat) (S : Nat → Nat → Nat → Int32) : Nat → Nat → Nat → Int32 := u1 S 4 (u2 (S 4) (fxn (S 5 k 0)) (fxn (S 5 k 1)) (p_mx (nI 0) (p_mn (nI 60) (S 4 (fxn (S 5 k 0)) (fxn (S 5 k 1)) + (if S 5 k 4 = -nI 1 then nI 3 else -nI 1)))))
theorem clt_r {S : Nat → Nat → Nat → Int32} {r : Nat} (h : r ≠ 4) : ∀ n, itr clt n S r = S r
  | 0 => rfl
  | n + 1 => by rw [itr_s']; unfold clt; rw [y1_ne h]; exact clt_r h n
/-! new tracks -/
def nrc (nm x y : Int32) (b : Nat) : Nat → Int32 := up (up (up (up (up (fun w => if w = 38 then nI b else nI 0) 0 nm) 1 x) 2 y) 6 (nI 1)) 8 (nI 1)
def beg1 (k : Nat) (s : CS) : CS := if s.2 5 k 4 = -nI 1 ∧ s.1 4 ≠ 10 then
    (u1 (u1 (noteC s.1) 9 (s.1 9 + 1)) 4 (s.1 4 + 1), noteS s.1 (u1 (u1 s.2 7 (u1 (s.2 7) (s.1 4) (nrc (nI (s.1 9)) (nI 16 * s.2 5 k 0) (nI 16 * s.2 5 k 1) k))) 5 (u1 (s.2 5) k (up (s.2 5 k) 4 (nI (s.1 9))))) (nI 0) (nI (s.1 9)) (-nI 1))
  else s
theorem beg1_c {k : Nat} {s : CS} : (∀ j, j ≠ 4 → j ≠ 8 → j ≠ 9 → (beg1 k s).1 j = s.1 j) ∧ s.1 4 ≤ (beg1 k s).1 4 ∧ (beg1 k s).1 4 ≤ s.1 4 + 1 ∧ ((beg1 k s).1 4 ≤ 10 ∨ (beg1 k s).1 4 = s.1 4 ∨ 10 < s.1 4) ∧ (beg1 k s).1 8 ≤ s.1 8 + 1 ∧ (beg1 k s).1 9 ≤ s.1 9 + 1 := by
  unfold beg1
  by_cases h : s.2 5 k 4 = -nI 1 ∧ s.1 4 ≠ 10
  · rw [if_pos h]
    refine ⟨fun j h4 h8 h9 => ?_, ?_, ?_, ?_, ?_, ?_⟩
    · show u1 (u1 (noteC s.1) 9 (s.1 9 + 1)) 4 (s.1 4 + 1) j = s.1 j
      rw [y1_ne h4, y1_ne h9, noteC_j h8]
    all_goals simp only [y1_eq, y1_ne (show (8 : Nat) ≠ 4 by decide), y1_ne (show (8 : Nat) ≠ 9 by decide), y1_ne (show (9 : Nat) ≠ 4 by decide), noteC_8]
    all_goals omega
  · rw [if_neg h]
    exact ⟨fun _ _ _ _ => rfl, Nat.le_refl _, by omega, Or.inr (Or.inl rfl), by omega, by omega⟩
theorem begs_c {s : CS} (h4 : s.1 4 ≤ 10) : ∀ n, (∀ j, j ≠ 4 → j ≠ 8 → j ≠ 9 → (itr beg1 n s).1 j = s.1 j) ∧ s.1 4 ≤ (itr beg1 n s).1 4 ∧ (itr beg1 n s).1 4 ≤ 10 ∧ (itr beg1 n s).1 8 ≤ s.1 8 + n ∧ (itr beg1 n s).1 9 ≤ s.1 9 + n
  | 0 => ⟨fun _ _ _ _ => rfl, Nat.le_refl _, h4, Nat.le_refl _, Nat.le_refl _⟩
  | n + 1 => by
    obtain ⟨a1, a2, a3, a4, a5⟩ := begs_c h4 n
    obtain ⟨b1, b2, b3, b4, b5, b6⟩ := beg1_c (k := n) (s := itr beg1 n s)
    rw [itr_s']
    exact ⟨fun j h4 h8 h9 => (b1 j h4 h8 h9).trans (a1 j h4 h8 h9), by omega, by omega, by omega, by omega⟩
theorem CB_of2 {c c' : Nat → Nat} (hc : CB c) (h : ∀ j, j ≠ 4 → j ≠ 8 → j ≠ 9 → c' j = c j) (h4 : c' 4 ≤ 10) (h8 : c' 8 ≤ 1000000) (h9 : c' 9 ≤ 1000000) : CB c' := by
  unfold CB at hc ⊢
  rw [h 0 (by decide) (by decide) (by decide), h 1 (by decide) (by decide) (by decide), h 2 (by decide) (by decide) (by decide), h 3 (by decide) (by decide) (by decide), h 5 (by decide) (by decide) (by decide), h 6 (by decide) (by decide) (by decide), h 7 (by decide) (by decide) (by decide), h 10 (by decide) (by decide) (by decide), h 11 (by decide) (by decide) (by decide), h 12 (by decide) (by decide) (by decide), h 13 (by decide) (by decide) (by decide), h 14 (by decide) (by decide) (by decide)]
  obtain ⟨c0, c1, c2, c3, c4, c5, c6, c7, c8, c9, c10, c11, c12, c13, c14⟩ := hc
  exact ⟨c0, c1, c2, c3, h4, c5, c6, c7, h8, h9, c10, c11, c12, c13, c14⟩
def begin' (s : CS) : CS := itr beg1 (s.1 3) (s.1, itr clt (s.1 3) s.2)
