/-! ===== 6. the reference knows again; sorts ===== -/
def lsq (tk : Nat) (R L : Nat → Int32) : Int64 := sq ((R 1).toInt64 - (L 1 + p_wy (L 3) (nI tk - L 6)).toInt64) ((R 2).toInt64 - (L 2 + p_wy (L 4) (nI tk - L 6)).toInt64)
abbrev FS : Type := Option Nat × Int64
def kbt (L : Nat → Nat → Int32) (i : Nat) (its : Int64) (s : FS) : Bool := match s.1 with
  | none => !decide (s.2 < its)
  | some u => decide (its < s.2) || (decide (its = s.2) && !decide (L u 0 ≤ L i 0))
def kst (c : Nat → Nat) (R : Nat → Int32) (L : Nat → Nat → Int32) (i : Nat) (s : FS) : FS := if nI (c 6) - L i 5 ≤ nI 12 then (bif kbt L i (lsq (c 7) R (L i)) s then (some i, lsq (c 7) R (L i)) else s) else s
def krch (c : Nat → Nat) : Int64 := lN 64 * (nI (c 12)).toInt64 * (lN 64 * (nI (c 12)).toInt64)
def kfnd (c : Nat → Nat) (R : Nat → Int32) (L : Nat → Nat → Int32) : Option Nat := (itr (kst c R L) (c 5) (none, krch c)).1
def shl (T : Nat → Nat → Int32) (i n : Nat) : Nat → Nat → Int32 := fun e => if i ≤ e ∧ e < n then T (e + 1) else T e
def rnm (n : Nat) (T : Nat → Nat → Int32) (own nm : Int32) : Nat → Nat → Int32 := upn n (fun _ R => if R 4 = own then up R 4 nm else R) T
def kns (t : Nat) (s : CS) : CS := match kfnd s.1 (s.2 7 t) (s.2 8) with
  | none => s
  | some i => (u1 (noteC s.1) 5 (s.1 5 - 1), u1 (u1 (noteS s.1 (u1 s.2 5 (rnm (s.1 3) (s.2 5) (s.2 7 t 0) (s.2 8 i 0))) (nI 5) (s.2 8 i 0) (s.2 7 t 0)) 7 (u1 (s.2 7) t (up (s.2 7 t) 0 (s.2 8 i 0)))) 8 (shl (s.2 8) i (s.1 5 - 1)))
theorem kst_lt {c : Nat → Nat} {R : Nat → Int32} {L : Nat → Nat → Int32} {v : Int64} : ∀ n, ∀ u, (itr (kst c R L) n (none, v)).1 = some u → u < n
  | 0, _, h => by cases h
  | n + 1, u, h => by
    have ih := kst_lt (c := c) (R := R) (L := L) (v := v) n
    rw [itr_s'] at h
    generalize itr (kst c R L) n (none, v) = s at h ih
    unfold kst at h
    split at h
    · cases hq : kbt L n (lsq (c 7) R (L n)) s with
      | true => rw [hq] at h; simp only [cond_true] at h; cases h; omega
      | false => rw [hq] at h; simp only [cond_false] at h; have := ih u h; omega
    · have := ih u h; omega
theorem m1_ne {n : Nat} (h : n < 2147483648) : ¬ nI n = -nI 1 := by
  intro e
  rw [fa_eq, nI_toInt h] at e
  have : (-nI 1 : Int32).toInt = -1 := by decide
  omega
