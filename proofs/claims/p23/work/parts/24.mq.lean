/-! ===== the reference's questions ===== -/
def firm (T : Nat → Nat → Int32) (t : Nat) : Bool := decide (T t 5 = nI 1)
def qcnt (c : Nat → Nat) (T : Nat → Nat → Int32) (w : Nat) : Int32 := if w = 5 then nI (cn (firm T) (c 4)) else if w = 6 then nI (c 5) else nI (c (if w < 5 then w else w - 1))
def pfnd (c : Nat → Nat) (S : Nat → Nat → Nat → Int32) (nm : Int32) : Option Nat := ff (fun t => decide (S 7 t 0 = nm)) (c 4)
