/-! ===== the reference's sweep: frame, expectation ===== -/
theorem u2_u1 {α : Type} {f : Nat → Nat → α} {a j : Nat} {v : α} : u2 f a j v = u1 f a (up (f a) j v) := by
  funext x y
  unfold u2 u1 up
  by_cases h : x = a
  · subst h; simp
  · simp [h]
/-- the first n by a rule -/
def upn {α : Type} (n : Nat) (F : Nat → α → α) (T : Nat → α) : Nat → α := fun t => if t < n then F t (T t) else T t
theorem upn_0 {α : Type} {F : Nat → α → α} {T : Nat → α} : upn 0 F T = T := by funext t; unfold upn; rw [if_neg (Nat.not_lt_zero t)]
theorem upn_s {α : Type} {n : Nat} {F : Nat → α → α} {T : Nat → α} : upn (n + 1) F T = u1 (upn n F T) n (F n (T n)) := by
  funext t
  show (if t < n + 1 then F t (T t) else T t) = (if t = n then F n (T n) else (if t < n then F t (T t) else T t))
  by_cases h : t = n
  · subst h; simp
  · by_cases h2 : t < n
    · rw [if_neg h, if_pos h2, if_pos (by omega)]
    · rw [if_neg h, if_neg h2, if_neg (by omega)]
theorem upn_at {α : Type} {n t : Nat} {F : Nat → α → α} {T : Nat → α} (h : n ≤ t) : upn n F T t = T t := by unfold upn; rw [if_neg (by omega)]
theorem upn_lt {α : Type} {n t : Nat} {F : Nat → α → α} {T : Nat → α} (h : t < n) : upn n F T t = F t (T t) := by unfold upn; rw [if_pos h]
/-- 1. a track where it is expected -/
def e1 (dt : Int32) (R : Nat → Int32) : Nat → Int32 := up (up (up (up R 10 (R 1)) 11 (R 2)) 1 (R 1 + p_wy (R 3) dt)) 2 (R 2 + p_wy (R 4) dt)
