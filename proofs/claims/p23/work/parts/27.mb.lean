/-! ===== the reference's calls that change it ===== -/
abbrev Sp : Type := Int32 × Int32 × (Nat → Nat) × (Nat → Nat → Nat → Int32)
def rc3 (a b c : Int32) : Nat → Int32 := up (up (up (fun _ => nI 0) 0 a) 1 b) 2 c
def rc4 (a b c d : Int32) : Nat → Int32 := up (rc3 a b c) 3 d
def rc5 (a b c d e : Int32) : Nat → Int32 := up (rc4 a b c d) 4 e
def s_addSt (c : Nat → Nat) (S : Nat → Nat → Nat → Int32) (x y z : Int32) : Sp := bif plc x y && wi z (nI 1) (nI 20000) then (if c 0 = 4 then (nI 0, nI 2, c, S) else (nI (c 0), nI 0, u1 c 0 (c 0 + 1), u1 S 1 (u1 (S 1) (c 0) (rc3 x y z)))) else (nI 0, nI 1, c, S)
def s_addPl (c : Nat → Nat) (S : Nat → Nat → Nat → Int32) (w x y u v : Int32) : Sp := bif plc x y && (plc u v && (!decide (u ≤ x) && decide (y < v))) then (if w = nI 0 then (if c 1 = 10 then (nI 0, nI 2, c, S) else (nI (c 1), nI 0, u1 c 1 (c 1 + 1), u1 S 2 (u1 (S 2) (c 1) (rc4 x y u v)))) else (if c 2 = 6 then (nI 0, nI 2, c, S) else (nI (c 2), nI 0, u1 c 2 (c 2 + 1), u1 S 3 (u1 (S 3) (c 2) (rc4 x y u v))))) else (nI 0, nI 1, c, S)
def s_tune (c : Nat → Nat) (S : Nat → Nat → Nat → Int32) (x y z w : Int32) : Sp := bif wi x (nI 0) (nI 500) && wi y (nI 1) (nI 2000) && wi z (nI 0) (nI 16) && wi w (nI 0) (nI 16) then (nI (c 12), nI 0, u1 (u1 (u1 (u1 c 11 (ix x)) 12 (ix y)) 13 (ix z)) 14 (ix w), S) else (nI 0, nI 1, c, S)
theorem wi_pos {w : Int32} {n : Nat} (hn : n < 2147483648) (h : wi w (nI 1) (nI n) = true) : ∃ k, 1 ≤ k ∧ k ≤ n ∧ w = nI k := by
  rw [wi_iff, nI_toInt hn, nI_toInt (by decide)] at h
  obtain ⟨k, h1, h2⟩ := nI_of (x := w) (by rw [fa_lt]; show ¬ (w.toInt < 0); omega)
  rw [h2, nI_toInt h1] at h
  exact ⟨k, by omega, by omega, h2⟩
/-! ===== events ===== -/
def evT (c : Nat → Nat) (T : Nat → Nat → Int32) : Nat → Nat → Int32 := if 120 ≤ c 8 then (fun e => if e < 119 then T (e + 1) else T e) else T
def noteS (c : Nat → Nat) (S : Nat → Nat → Nat → Int32) (kd nm ot : Int32) : Nat → Nat → Nat → Int32 := u1 S 9 (u1 (evT c (S 9)) (min (c 8) 119) (rc4 (nI (c 6)) kd nm ot))
def noteC (c : Nat → Nat) : Nat → Nat := u1 c 8 (c 8 + 1)
