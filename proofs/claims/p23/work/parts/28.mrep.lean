/-! ===== the reference's report ===== -/
/-- a waiting blip that may be put together with a new one -/
def mrg (R : Nat → Int32) (bl : Int32) (s x y : Int32) : Bool := !p_bit (R 3) s && !decide (bl.toInt64 * bl.toInt64 < sq (x - R 0).toInt64 (y - R 1).toInt64)
def mrgd (R : Nat → Int32) (s x y z : Int32) : Nat → Int32 := up (up (up (up R 0 (p_fi (x + R 0) (nI 2))) 1 (p_fi (y + R 1) (nI 2))) 2 (p_mx (R 2) z)) 3 (R 3 ||| (nI 1 <<< (s &&& nI 31)))
def s_rep2 (c : Nat → Nat) (S : Nat → Nat → Nat → Int32) (s x y z : Int32) : Sp := match ff (fun k => mrg (S 5 k) (nI (c 11)) s x y) (c 3) with
  | some k => (nI 0, nI 0, c, u1 S 5 (u1 (S 5) k (mrgd (S 5 k) s x y z)))
  | none => if c 3 = 10 then (nI 3, nI 0, c, S) else (nI 0, nI 0, u1 c 3 (c 3 + 1), u1 S 5 (u1 (S 5) (c 3) (rc5 x y z (nI 1 <<< (s &&& nI 31)) (-nI 1))))
def s_rep (c : Nat → Nat) (S : Nat → Nat → Nat → Int32) (s x y z : Int32) : Sp := bif wi s (nI 0) (nI (c 0) - nI 1) then (bif plc x y && wi z (nI 1) (nI 99) then (bif p_see c S (ix s) x y then (if S 4 (fxn x) (fxn y) < z then s_rep2 c S s x y z else (nI 2, nI 0, c, S)) else (nI 1, nI 0, c, S)) else (nI 0, nI 2, c, S)) else (nI 0, nI 1, c, S)
theorem h2i : (nI 2 : Int32) ≠ 0 := by decide
/-! ===== the reference's checksum ===== -/
def p_tld (c : Nat → Nat) (S : Nat → Nat → Nat → Int32) : Nat → Nat → Int32 := fun k w => if 0 < c 3 then S 5 k w else S 6 k w
