/-! ===== the reference's sweep ===== -/
def kpF (k : Nat) (R : Nat → Int32) : Bool := decide (nI k - R 5 ≤ nI 12)
def forgS (s : CS) : CS := let b := cmp (kpF (s.1 6)) (s.2 8) (s.1 5); (u1 s.1 5 b.2, u1 s.2 8 b.1)
theorem cmp_s {kp : (Nat → Int32) → Bool} {T : Nat → Nat → Int32} {i : Nat} : cmp kp T (i + 1) = (bif kp ((cmp kp T i).1 i) then (u1 (cmp kp T i).1 (cmp kp T i).2 ((cmp kp T i).1 i), (cmp kp T i).2 + 1) else cmp kp T i) := rfl
def knw (t : Nat) (s : CS) : CS := if s.2 7 t 12 = nI 1 then kns t s else s
theorem kns_c {t : Nat} {s : CS} : (∀ q, q ≠ 5 → q ≠ 8 → (kns t s).1 q = s.1 q) ∧ (kns t s).1 8 ≤ s.1 8 + 1 ∧ (kns t s).1 5 ≤ s.1 5 := by
  unfold kns
  cases kfnd s.1 (s.2 7 t) (s.2 8) with
  | none => exact ⟨fun _ _ _ => rfl, Nat.le_succ _, Nat.le_refl _⟩
  | some i =>
    refine ⟨fun q h5 h8 => ?_, ?_, ?_⟩
    · show u1 (noteC s.1) 5 (s.1 5 - 1) q = s.1 q
      rw [y1_ne h5, noteC_j h8]
    · show u1 (noteC s.1) 5 (s.1 5 - 1) 8 ≤ s.1 8 + 1
      rw [y1_ne (by decide), noteC_8]
      exact Nat.le_refl _
    · show u1 (noteC s.1) 5 (s.1 5 - 1) 5 ≤ s.1 5
      rw [y1_eq]
      omega
theorem knw_c {t : Nat} {s : CS} : (∀ q, q ≠ 5 → q ≠ 8 → (knw t s).1 q = s.1 q) ∧ (knw t s).1 8 ≤ s.1 8 + 1 ∧ (knw t s).1 5 ≤ s.1 5 := by
  unfold knw
  split
  · exact kns_c
  · exact ⟨fun _ _ _ => rfl, Nat.le_succ _, Nat.le_refl _⟩
theorem knws_c {s : CS} : ∀ n, (∀ q, q ≠ 5 → q ≠ 8 → (itr knw n s).1 q = s.1 q) ∧ (itr knw n s).1 8 ≤ s.1 8 + n ∧ (itr knw n s).1 5 ≤ s.1 5
  | 0 => ⟨fun _ _ _ => rfl, Nat.le_refl _, Nat.le_refl _⟩
  | n + 1 => by
    obtain ⟨h1, h2, h3⟩ := knws_c (s := s) n
    obtain ⟨g1, g2, g3⟩ := knw_c (t := n) (s := itr knw n s)
    rw [itr_s']
    exact ⟨fun q h5 h8 => (g1 q h5 h8).trans (h1 q h5 h8), by omega, by omega⟩
/-- a track's path -/
def pe (R : Nat → Int32) : Nat → Int32 := up (up (up (fun w => if 16 ≤ w ∧ w < 38 then R (w - 2) else R w) 14 (R 1)) 15 (R 2)) 12 (nI 0)
def swS (dt : Int32) (c : Nat → Nat) (S : Nat → Nat → Nat → Int32) : JS × CS :=
  let c1 := u1 c 7 (c 7 + ix dt)
  let J := join c1 (u1 S 7 (upn (c 4) (fun _ => e1 dt) (S 7)))
  (J, move dt (c1, J.1))
def sw2 (s : CS) : CS :=
  let s4 := begin' s
  let s5 := itr knw (s4.1 4) s4
  look (s5.1, u1 s5.2 7 (sortT (s5.1 4) (s5.2 7)))
def sw3 (s : CS) : CS :=
  let s9 := forgS (u1 s.1 6 (s.1 6 + 1), u1 s.2 7 (upn (s.1 4) (fun _ => pe) (s.2 7)))
  (u1 (u1 s9.1 10 (s9.1 3)) 3 0, u1 s9.2 6 (fun k => if k < s9.1 3 then s9.2 5 k else s9.2 6 k))
def s_sweep (dt : Int32) (c : Nat → Nat) (S : Nat → Nat → Nat → Int32) : Sp := bif wi dt (nI 1) (nI 60) then (if c 6 = 500 then (nI 0, nI 2, c, S) else (nI (pop (swS dt c S).1.2), nI 0, sw3 (sw2 (swS dt c S).2))) else (nI 0, nI 1, c, S)
