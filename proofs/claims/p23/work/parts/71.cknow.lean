/-! ===== the class knows a track again ===== -/
theorem TM_u0 {f : Nat → Nat → Int32} {A : Nat} {R : Nat → Int32} {v : Int32} (h : TM f A R) : TM (u2 f A 0 v) A (up R 0 v) := by
  obtain ⟨t0, tw, t9, t10, t11, t1, t2, tp⟩ := h
  refine ⟨?_, fun w' h3 h8 => ?_, ?_, ?_, ?_, ?_, ?_, fun b hb hlt => ?_⟩
  · rw [yu_eq, up_eq, up_eq]
  · rw [yu_eq, up_ne (by omega), up_ne (by omega), tw w' h3 h8]
  · rw [yu_eq, up_ne (by omega), up_ne (by omega), t9]
  · rw [yu_eq, up_ne (by omega), up_ne (by omega), t10]
  · rw [yu_eq, up_ne (by omega), up_ne (by omega), t11]
  · rw [yu_ne (by omega), up_ne (by omega), t1]
  · rw [yu_ne (by omega), up_ne (by omega), t2]
  · rw [up_ne (by omega)] at hlt
    rw [yu_ne (by omega), yu_ne (by omega), up_ne (by omega), up_ne (by omega)]
    exact tp b hb hlt
/-- what the lost keep to -/
def LB (c : Nat → Nat) (L : Nat → Nat → Int32) : Prop := (∀ i, i < c 5 → kw c (L i) ∧ IB (L i) ∧ ∃ t, t ≤ 30000 ∧ nI (c 7) - L i 6 = nI t) ∧ ∀ i j, i < c 5 → j < c 5 → (L i 0).toInt = (L j 0).toInt → i = j
theorem LB_v {c : Nat → Nat} {L A : Nat → Nat → Int32} (h : LB c L) (hp : (lv A (c 5)).Perm (lv L (c 5))) : ∀ i, i < c 5 → kw c (A i) ∧ IB (A i) ∧ ∃ t, t ≤ 30000 ∧ nI (c 7) - A i 6 = nI t := by
  intro i hi
  obtain ⟨j, hj, e⟩ := lv_mem.mp (hp.mem_iff.mp (lv_mem.mpr ⟨i, hi, rfl⟩))
  obtain ⟨h1, h2, h3⟩ := h.1 j hj
  have e1 : L j 1 = A i 1 := congrArg (fun v : V7 => v.2.1) e
  have e2 : L j 2 = A i 2 := congrArg (fun v : V7 => v.2.2.1) e
  have e3 : L j 3 = A i 3 := congrArg (fun v : V7 => v.2.2.2.1) e
  have e4 : L j 4 = A i 4 := congrArg (fun v : V7 => v.2.2.2.2.1) e
  have e5 : L j 5 = A i 5 := congrArg (fun v : V7 => v.2.2.2.2.2.1) e
  have e6 : L j 6 = A i 6 := congrArg (fun v : V7 => v.2.2.2.2.2.2) e
  unfold kw at h1 ⊢
  unfold IB at h2 ⊢
  rw [e5] at h1
  rw [e1, e2, e3, e4] at h2
  rw [e6] at h3
  exact ⟨h1, h2, h3⟩
