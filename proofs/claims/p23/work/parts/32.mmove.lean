/-! ===== 3. the reference moves its tracks on ===== -/
theorem y1_cm {α : Type} {f : Nat → α} {a b : Nat} {v w : α} (h : a ≠ b) : u1 (u1 f a v) b w = u1 (u1 f b w) a v := by
  funext x
  unfold u1
  by_cases h1 : x = b
  · have : x ≠ a := by omega
    simp [h1, this, show b ≠ a by omega]
  · simp [h1]
theorem y1_id {α : Type} {f : Nat → α} {a : Nat} : u1 f a (f a) = f := by
  funext x
  unfold u1
  split
  · rename_i h; rw [h]
  · rfl
theorem noteS_r {c : Nat → Nat} {S : Nat → Nat → Nat → Int32} {kd nm ot : Int32} {r : Nat} (h : r ≠ 9) : noteS c S kd nm ot r = S r := y1_ne h
def p_near (v : Int32) : Int32 := p_mx (-nI 16384) (p_mn (nI 16384) v)
def aged (R : Nat → Int32) : Nat → Int32 := up (up R 12 (nI 0)) 8 (R 8 + nI 1)
def fwr (p x : Int32) : Int64 := lN 16 * p.toInt64 - x.toInt64
def fwx (a : Nat) (p x : Int32) : Int32 := x + p_rd (fwr p x * (nI a).toInt64) (lN 16)
def fwv (b : Nat) (dt p x v : Int32) : Int32 := p_near (v + p_rd (fwr p x * (nI b).toInt64) dt.toInt64)
def flwR (c : Nat → Nat) (P : Nat → Int32) (dt : Int32) (R : Nat → Int32) : Nat → Int32 := up (up (up (up (up (up R 1 (fwx (c 13) (P 0) (R 1))) 3 (fwv (c 14) dt (P 0) (R 1) (R 3))) 2 (fwx (c 13) (P 1) (R 2))) 4 (fwv (c 14) dt (P 1) (R 2) (R 4))) 7 (nI 0)) 6 (R 6 + nI 1)
abbrev CS : Type := (Nat → Nat) × (Nat → Nat → Nat → Int32)
def flwS (c : Nat → Nat) (S : Nat → Nat → Nat → Int32) (t : Nat) (dt : Int32) (R : Nat → Int32) : CS :=
  if R 5 = nI 2 then (noteC c, u1 (noteS c S (nI 4) (R 0) (-nI 1)) 7 (u1 (S 7) t (up (flwR c (S 5 (ix (R 13))) dt R) 5 (nI 1))))
  else if R 5 = nI 0 ∧ nI 3 ≤ R 6 + nI 1 then (noteC c, u1 (noteS c S (nI 1) (R 0) (-nI 1)) 7 (u1 (S 7) t (up (up (flwR c (S 5 (ix (R 13))) dt R) 5 (nI 1)) 12 (nI 1))))
  else (c, u1 S 7 (u1 (S 7) t (flwR c (S 5 (ix (R 13))) dt R)))
def rc7 (a b c d e g h : Int32) : Nat → Int32 := up (up (rc5 a b c d e) 5 g) 6 h
def mssS (c : Nat → Nat) (S : Nat → Nat → Nat → Int32) (t : Nat) (R : Nat → Int32) : CS :=
  if R 5 = nI 0 then (c, u1 S 7 (u1 (S 7) t (if R 7 + nI 1 = nI 2 then up (up R 7 (R 7 + nI 1)) 5 (nI 3) else up R 7 (R 7 + nI 1))))
  else if R 5 = nI 1 then (noteC c, u1 (noteS c S (nI 2) (R 0) (-nI 1)) 7 (u1 (S 7) t (up (up R 7 (R 7 + nI 1)) 5 (nI 2))))
  else if R 5 = nI 2 ∧ nI 5 ≤ R 7 + nI 1 then (u1 (noteC c) 5 (c 5 + 1), u1 (u1 (noteS c S (nI 3) (R 0) (-nI 1)) 8 (u1 (S 8) (c 5) (rc7 (R 0) (R 1) (R 2) (R 3) (R 4) (nI (c 6)) (nI (c 7))))) 7 (u1 (S 7) t (up (up R 7 (R 7 + nI 1)) 5 (nI 3))))
  else (c, u1 S 7 (u1 (S 7) t (up R 7 (R 7 + nI 1))))
theorem itr_s' {α : Type} {g : Nat → α → α} {n : Nat} {s : α} : itr g (n + 1) s = g n (itr g n s) := rfl
def mv1 (dt : Int32) (t : Nat) (s : CS) : CS := if s.2 7 t 13 = -nI 1 then mssS s.1 s.2 t (aged (s.2 7 t)) else flwS s.1 s.2 t dt (aged (s.2 7 t))
theorem CB_of {c c' : Nat → Nat} (hc : CB c) (h : ∀ j, j ≠ 5 → j ≠ 8 → c' j = c j) (h5 : c' 5 ≤ 60) (h8 : c' 8 ≤ 1000000) : CB c' := by
  unfold CB at hc ⊢
  rw [h 0 (by decide) (by decide), h 1 (by decide) (by decide), h 2 (by decide) (by decide), h 3 (by decide) (by decide), h 4 (by decide) (by decide), h 6 (by decide) (by decide), h 7 (by decide) (by decide), h 9 (by decide) (by decide), h 10 (by decide) (by decide), h 11 (by decide) (by decide), h 12 (by decide) (by decide), h 13 (by decide) (by decide), h 14 (by decide) (by decide)]
  obtain ⟨c0, c1, c2, c3, c4, c5, c6, c7, c8, c9, c10, c11, c12, c13, c14⟩ := hc
  exact ⟨c0, c1, c2, c3, c4, h5, c6, c7, h8, c9, c10, c11, c12, c13, c14⟩
theorem noteC_j {c : Nat → Nat} {j : Nat} (h : j ≠ 8) : noteC c j = c j := y1_ne h
theorem noteC_8 {c : Nat → Nat} : noteC c 8 = c 8 + 1 := y1_eq
/-- what a track's step leaves -/
theorem mv1_c {dt : Int32} {t : Nat} {s : CS} : (∀ j, j ≠ 5 → j ≠ 8 → (mv1 dt t s).1 j = s.1 j) ∧ (mv1 dt t s).1 8 ≤ s.1 8 + 1 ∧ s.1 8 ≤ (mv1 dt t s).1 8 ∧ (∀ a, a ≠ 7 → a ≠ 8 → a ≠ 9 → (mv1 dt t s).2 a = s.2 a) ∧ (∀ u, u ≠ t → (mv1 dt t s).2 7 u = s.2 7 u) := by
  obtain ⟨c, S⟩ := s
  have hn : ∀ (kd nm ot : Int32) a, a ≠ 9 → noteS c S kd nm ot a = S a := fun _ _ _ _ h => noteS_r h
  unfold mv1
  simp only
  by_cases h1 : S 7 t 13 = -nI 1
  · rw [if_pos h1]
    unfold mssS
    refine ⟨fun j h5 h8 => ?_, ?_, ?_, fun a h7 h8 h9 => ?_, fun u hu => ?_⟩
    all_goals (split; · first | rfl | (show _ ≤ _; simp only; omega) | (simp only [y1_ne h7]) | (simp only [y1_eq, y1_ne hu]))
    all_goals (split; · first | exact y1_ne h8 | (simp only [noteC_8]; omega) | (simp only [y1_ne h7, hn _ _ _ _ h9]) | (simp only [y1_eq, y1_ne hu]))
    all_goals (split; · first | (simp only [y1_ne h5, noteC_j h8]) | (simp only [y1_ne (show (8 : Nat) ≠ 5 by decide), noteC_8]; omega) | (simp only [y1_ne h7, y1_ne h8, hn _ _ _ _ h9]) | (simp only [y1_eq, y1_ne hu]))
    all_goals first | rfl | (simp only; omega) | (simp only [y1_ne h7]) | (simp only [y1_eq, y1_ne hu])
  · rw [if_neg h1]
    unfold flwS
    refine ⟨fun j h5 h8 => ?_, ?_, ?_, fun a h7 h8 h9 => ?_, fun u hu => ?_⟩
    all_goals (split; · first | exact y1_ne h8 | (simp only [noteC_8]; omega) | (simp only [y1_ne h7, hn _ _ _ _ h9]) | (simp only [y1_eq, y1_ne hu]))
    all_goals (split; · first | exact y1_ne h8 | (simp only [noteC_8]; omega) | (simp only [y1_ne h7, hn _ _ _ _ h9]) | (simp only [y1_eq, y1_ne hu]))
    all_goals first | rfl | (simp only; omega) | (simp only [y1_ne h7]) | (simp only [y1_eq, y1_ne hu])
theorem mvs_c {dt : Int32} {s : CS} : ∀ n, (∀ j, j ≠ 5 → j ≠ 8 → (itr (mv1 dt) n s).1 j = s.1 j) ∧ (itr (mv1 dt) n s).1 8 ≤ s.1 8 + n ∧ (∀ a, a ≠ 7 → a ≠ 8 → a ≠ 9 → (itr (mv1 dt) n s).2 a = s.2 a) ∧ (∀ u, n ≤ u → (itr (mv1 dt) n s).2 7 u = s.2 7 u)
  | 0 => ⟨fun _ _ _ => rfl, Nat.le_refl _, fun _ _ _ _ => rfl, fun _ _ => rfl⟩
  | n + 1 => by
    obtain ⟨h1, h2, h3, h4⟩ := mvs_c (dt := dt) (s := s) n
    obtain ⟨g1, g2, -, g3, g4⟩ := mv1_c (dt := dt) (t := n) (s := itr (mv1 dt) n s)
    rw [itr_s']
    exact ⟨fun j h5 h8 => (g1 j h5 h8).trans (h1 j h5 h8), by omega, fun a h7 h8 h9 => (g3 a h7 h8 h9).trans (h3 a h7 h8 h9), fun u hu => (g4 u (by omega)).trans (h4 u (by omega))⟩
/-- those that stay, moved together -/
def cmp (kp : (Nat → Int32) → Bool) (T : Nat → Nat → Int32) : Nat → (Nat → Nat → Int32) × Nat := fun n => itr (fun t s => bif kp (s.1 t) then (u1 s.1 s.2 (s.1 t), s.2 + 1) else s) n (T, 0)
def kpT (R : Nat → Int32) : Bool := !decide (R 5 = nI 3)
def move (dt : Int32) (s : CS) : CS := let a := itr (mv1 dt) (s.1 4) s; let b := cmp kpT (a.2 7) (s.1 4); (u1 a.1 4 b.2, u1 a.2 7 b.1)
theorem cmp_le {kp : (Nat → Int32) → Bool} {T : Nat → Nat → Int32} : ∀ n, (cmp kp T n).2 ≤ n
  | 0 => Nat.le_refl _
  | n + 1 => by
    have h := cmp_le (kp := kp) (T := T) n
    unfold cmp at h ⊢
    rw [itr_s']
    generalize itr _ n (T, 0) = s at h ⊢
    show (bif kp (s.1 n) then (u1 s.1 s.2 (s.1 n), s.2 + 1) else s).2 ≤ n + 1
    cases kp (s.1 n) <;> simp <;> omega
