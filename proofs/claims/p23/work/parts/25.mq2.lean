/-! ===== the reference's questions, on ===== -/
def p_bt (v a b : Int64) : Bool := !decide (v < p_mnl a b) && !decide (p_mxl a b < v)
/-- whether a place in sixteenths is in a rectangle, as the reference has it -/
def p_in (x y : Int32) (A : Nat → Int32) : Bool := p_bt x.toInt64 (lN 16 * (A 0).toInt64) (lN 16 * (A 2).toInt64) && p_bt y.toInt64 (lN 16 * (A 1).toInt64) (lN 16 * (A 3).toInt64)
theorem cn_zero {p : Nat → Bool} : ∀ {n : Nat}, (∀ j, j < n → p j = false) → cn p n = 0
  | 0, _ => rfl
  | n + 1, h => by
    unfold cn
    rw [cn_zero (fun j hj => h j (by omega)), h n (by omega)]
    rfl
def insb (T : Nat → Nat → Int32) (A : Nat → Int32) (t : Nat) : Bool := !decide (nI 31 ≤ T t 0) && (firm T t && p_in (T t 1) (T t 2) A)
def insf (T : Nat → Nat → Int32) (A : Nat → Int32) (n : Nat) : Int32 := itr (fun t s => bif insb T A t then s ||| (nI 1 <<< (T t 0 &&& nI 31)) else s) n (nI 0)
theorem mn_nat {a b : Nat} (ha : a < 2147483648) (hb : b < 2147483648) : p_mn (nI a) (nI b) = nI (min a b) := by
  unfold p_mn
  by_cases h : b < a
  · rw [if_pos ((nI_ltI hb ha).mpr h), Nat.min_eq_right (by omega)]
  · rw [if_neg (mt (nI_ltI hb ha).mp h), Nat.min_eq_left (by omega)]
/-! ===== what a station sees ===== -/
abbrev Qd : Type := Int64 × Int64 × Int64 × Int64
/-- the span, narrowed -/
def nar (q : Qd) (fr by' lo hi : Int64) : Qd :=
  let d := p_ab by'
  let a := if lN 0 < by' then lo - fr else fr - hi
  let b := if lN 0 < by' then hi - fr else fr - lo
  let q1 : Int64 × Int64 := if q.1 * d < a * q.2.1 then (a, d) else (q.1, q.2.1)
  let q2 : Int64 × Int64 := if b * q.2.2.2 < q.2.2.1 * d then (b, d) else (q.2.2.1, q.2.2.2)
  (q1.1, q1.2, q2.1, q2.2)
def narB (fr by' lo hi : Int64) : Bool := bif decide (by' = lN 0) then decide (lo < fr) && decide (fr < hi) else true
def narQ (q : Qd) (fr by' lo hi : Int64) : Qd := bif decide (by' = lN 0) then q else nar q fr by' lo hi
def q0 : Qd := (-lN 1, lN 1, lN 2, lN 1)
def hidq (sx sy x y : Int32) (A : Nat → Int32) : Qd := narQ (narQ q0 sx.toInt64 (x - sx).toInt64 (A 0).toInt64 (A 2).toInt64) sy.toInt64 (y - sy).toInt64 (A 1).toInt64 (A 3).toInt64
/-- whether land hides a place, as the reference has it -/
def p_hid (sx sy x y : Int32) (A : Nat → Int32) : Bool := narB sx.toInt64 (x - sx).toInt64 (A 0).toInt64 (A 2).toInt64 && (narB sy.toInt64 (y - sy).toInt64 (A 1).toInt64 (A 3).toInt64 && (!decide ((hidq sx sy x y A).2.2.1 * (hidq sx sy x y A).2.1 ≤ (hidq sx sy x y A).1 * (hidq sx sy x y A).2.2.2) && (!decide ((hidq sx sy x y A).2.1 ≤ (hidq sx sy x y A).1) && !decide ((hidq sx sy x y A).2.2.1 ≤ lN 0))))
/-- whether a station sees a place, as the reference has it -/
def p_see (c : Nat → Nat) (S : Nat → Nat → Nat → Int32) (s : Nat) (x y : Int32) : Bool := !decide ((S 1 s 2).toInt64 * (S 1 s 2).toInt64 < sq (x - S 1 s 0).toInt64 (y - S 1 s 1).toInt64) && decide (ff (fun i => p_hid (S 1 s 0) (S 1 s 1) x y (S 2 i)) (c 1) = none)
