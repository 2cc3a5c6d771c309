/-! ===== the nearest of the lost, whatever their order ===== -/
def kw (c : Nat → Nat) (L : Nat → Int32) : Prop := nI (c 6) - L 5 ≤ nI 12
def KSP (c : Nat → Nat) (R : Nat → Int32) (L : Nat → Nat → Int32) (K : Int64) (n : Nat) (s : FS) : Prop :=
  (s.1 = none → s.2 = K ∧ ∀ i, i < n → kw c (L i) → K.toInt < (lsq (c 7) R (L i)).toInt) ∧ ∀ u, s.1 = some u → u < n ∧ kw c (L u) ∧ (lsq (c 7) R (L u)).toInt ≤ K.toInt ∧ s.2 = lsq (c 7) R (L u) ∧ ∀ i, i < n → kw c (L i) → (lsq (c 7) R (L i)).toInt ≤ K.toInt → (lsq (c 7) R (L u)).toInt < (lsq (c 7) R (L i)).toInt ∨ ((lsq (c 7) R (L u)).toInt = (lsq (c 7) R (L i)).toInt ∧ (L u 0).toInt ≤ (L i 0).toInt)
theorem kst_sp {c : Nat → Nat} {R : Nat → Int32} {L : Nat → Nat → Int32} {K : Int64} : ∀ n, KSP c R L K n (itr (kst c R L) n (none, K))
  | 0 => ⟨fun _ => ⟨rfl, fun i h => absurd h (Nat.not_lt_zero i)⟩, fun u h => by cases h⟩
  | n + 1 => by
    have ih := kst_sp (c := c) (R := R) (L := L) (K := K) n
    rw [itr_s']
    generalize itr (kst c R L) n (none, K) = s at ih ⊢
    obtain ⟨o, v⟩ := s
    obtain ⟨i1, i2⟩ := ih
    unfold kst
    by_cases w : nI (c 6) - L n 5 ≤ nI 12
    · rw [if_pos w]
      generalize hX : lsq (c 7) R (L n) = X
      cases o with
      | none =>
        obtain ⟨e1, e2⟩ := i1 rfl
        simp only at e1
        unfold kbt
        simp only
        by_cases q : v < X
        · have q' := (fa_lt64 _ _).mp q
          simp only [q, decide_true, Bool.not_true, cond_false]
          refine ⟨fun _ => ⟨e1, fun i hi hw => ?_⟩, fun u h => by cases h⟩
          by_cases qi : i = n
          · rw [qi, hX, ← e1]; exact q'
          · exact e2 i (by omega) hw
        · have q' : ¬ v.toInt < X.toInt := fun h => q ((fa_lt64 _ _).mpr h)
          simp only [q, decide_false, Bool.not_false, cond_true]
          refine ⟨fun h => (by cases h), fun u h => ?_⟩
          cases h
          refine ⟨Nat.lt_succ_self n, w, by rw [hX, ← e1]; omega, hX.symm, fun i hi hw hr => ?_⟩
          by_cases qi : i = n
          · rw [qi]; exact Or.inr ⟨rfl, Int.le_refl _⟩
          · have := e2 i (by omega) hw
            omega
      | some u0 =>
        obtain ⟨e0, e1, e2, e3, e4⟩ := i2 u0 rfl
        simp only at e3
        unfold kbt
        simp only
        by_cases q : X < v
        · have q' := (fa_lt64 _ _).mp q
          simp only [q, decide_true, Bool.true_or, cond_true]
          refine ⟨fun h => (by cases h), fun u h => ?_⟩
          cases h
          rw [e3] at q'
          refine ⟨Nat.lt_succ_self n, w, by rw [hX]; omega, hX.symm, fun i hi hw hr => ?_⟩
          by_cases qi : i = n
          · rw [qi]; exact Or.inr ⟨rfl, Int.le_refl _⟩
          · have := e4 i (by omega) hw hr
            rw [hX]
            omega
        · have q' : ¬ X.toInt < v.toInt := fun h => q ((fa_lt64 _ _).mpr h)
          by_cases qe : X = v
          · have qe' := congrArg Int64.toInt qe
            by_cases ql : L u0 0 ≤ L n 0
            · have ql' := (fa_le _ _).mp ql
              simp only [q, ql, decide_false, decide_true, Bool.not_true, Bool.and_false, Bool.or_false, cond_false]
              refine ⟨fun h => (by cases h), fun u h => ?_⟩
              cases h
              rw [e3] at qe'
              refine ⟨by omega, e1, e2, e3, fun i hi hw hr => ?_⟩
              by_cases qi : i = n
              · rw [qi, hX]; exact Or.inr ⟨qe'.symm, ql'⟩
              · exact e4 i (by omega) hw hr
            · have ql' : ¬ (L u0 0).toInt ≤ (L n 0).toInt := fun h => ql ((fa_le _ _).mpr h)
              simp only [q, qe, ql, decide_false, decide_true, Bool.not_false, Bool.and_true, Bool.or_true, cond_true]
              refine ⟨fun h => (by cases h), fun u h => ?_⟩
              cases h
              rw [e3] at qe'
              refine ⟨Nat.lt_succ_self n, w, by rw [hX]; omega, by rw [hX, qe], fun i hi hw hr => ?_⟩
              by_cases qi : i = n
              · rw [qi]; exact Or.inr ⟨rfl, Int.le_refl _⟩
              · have := e4 i (by omega) hw hr
                rw [hX]
                omega
          · have qe' : ¬ X.toInt = v.toInt := fun h => qe ((fa_eq64 _ _).mpr h)
            simp only [q, qe, decide_false, Bool.false_and, Bool.or_false, cond_false]
            refine ⟨fun h => (by cases h), fun u h => ?_⟩
            cases h
            rw [e3] at q' qe'
            refine ⟨by omega, e1, e2, e3, fun i hi hw hr => ?_⟩
            by_cases qi : i = n
            · rw [qi, hX]; left; omega
            · exact e4 i (by omega) hw hr
    · rw [if_neg w]
      refine ⟨fun h => ?_, fun u h => ?_⟩
      · obtain ⟨e1, e2⟩ := i1 h
        refine ⟨e1, fun i hi hw => ?_⟩
        by_cases qi : i = n
        · rw [qi] at hw; exact absurd hw w
        · exact e2 i (by omega) hw
      · obtain ⟨e0, e1, e2, e3, e4⟩ := i2 u h
        refine ⟨by omega, e1, e2, e3, fun i hi hw hr => ?_⟩
        by_cases qi : i = n
        · rw [qi] at hw; exact absurd hw w
        · exact e4 i (by omega) hw hr
theorem lv_mem {T : Nat → Nat → Int32} {n : Nat} {v : V7} : v ∈ lv T n ↔ ∃ i, i < n ∧ v7 (T i) = v := by
  unfold lv
  rw [List.mem_map]
  exact ⟨fun ⟨i, h, e⟩ => ⟨i, List.mem_range.mp h, e⟩, fun ⟨i, h, e⟩ => ⟨i, List.mem_range.mpr h, e⟩⟩
def lsq7 (tk : Nat) (R : Nat → Int32) (v : V7) : Int64 := sq ((R 1).toInt64 - (v.2.1 + p_wy v.2.2.2.1 (nI tk - v.2.2.2.2.2.2)).toInt64) ((R 2).toInt64 - (v.2.2.1 + p_wy v.2.2.2.2.1 (nI tk - v.2.2.2.2.2.2)).toInt64)
theorem lsq_7 {tk : Nat} {R L : Nat → Int32} : lsq tk R L = lsq7 tk R (v7 L) := rfl
theorem near_p {c : Nat → Nat} {R : Nat → Int32} {A B : Nat → Nat → Int32} {K : Int64} {n : Nat} (hp : (lv A n).Perm (lv B n)) (hd : ∀ i j, i < n → j < n → (B i 0).toInt = (B j 0).toInt → i = j) : match (itr (kst c R A) n (none, K)).1, (itr (kst c R B) n (none, K)).1 with
    | none, none => True
    | some u, some u0 => u < n ∧ u0 < n ∧ v7 (A u) = v7 (B u0)
    | _, _ => False := by
  obtain ⟨a1, a2⟩ := kst_sp (c := c) (R := R) (L := A) (K := K) n
  obtain ⟨b1, b2⟩ := kst_sp (c := c) (R := R) (L := B) (K := K) n
  have ab : ∀ i, i < n → ∃ j, j < n ∧ v7 (B j) = v7 (A i) := fun i hi => lv_mem.mp (hp.mem_iff.mp (lv_mem.mpr ⟨i, hi, rfl⟩))
  have ba : ∀ i, i < n → ∃ j, j < n ∧ v7 (A j) = v7 (B i) := fun i hi => lv_mem.mp (hp.mem_iff.mpr (lv_mem.mpr ⟨i, hi, rfl⟩))
  have kwv : ∀ L L' : Nat → Int32, v7 L = v7 L' → kw c L → kw c L' := fun L L' e h => by
    have e5 : L 5 = L' 5 := congrArg (fun v : V7 => v.2.2.2.2.2.1) e
    unfold kw at h ⊢
    rw [← e5]; exact h
  have lqv : ∀ L L' : Nat → Int32, v7 L = v7 L' → lsq (c 7) R L = lsq (c 7) R L' := fun L L' e => by rw [lsq_7, lsq_7, e]
  have nmv : ∀ L L' : Nat → Int32, v7 L = v7 L' → L 0 = L' 0 := fun L L' e => congrArg (fun v : V7 => v.1) e
  generalize (itr (kst c R A) n (none, K)) = x at *
  generalize (itr (kst c R B) n (none, K)) = y at *
  obtain ⟨o, v⟩ := x
  obtain ⟨o', v'⟩ := y
  cases o with
  | none =>
    cases o' with
    | none => trivial
    | some u0 =>
      obtain ⟨h0, h1, h2, -, -⟩ := b2 u0 rfl
      obtain ⟨j, hj, e⟩ := ba u0 h0
      have := (a1 rfl).2 j hj (kwv _ _ e.symm h1)
      rw [lqv _ _ e] at this
      exact absurd this (by omega)
  | some u =>
    obtain ⟨g0, g1, g2, -, g4⟩ := a2 u rfl
    obtain ⟨j, hj, e⟩ := ab u g0
    cases o' with
    | none =>
      have := (b1 rfl).2 j hj (kwv _ _ e.symm g1)
      rw [lqv _ _ e] at this
      exact absurd this (by omega)
    | some u0 =>
      obtain ⟨h0, h1, h2, -, h4⟩ := b2 u0 rfl
      obtain ⟨j2, hj2, e2⟩ := ba u0 h0
      have m1 := g4 j2 hj2 (kwv _ _ e2.symm h1) (by rw [lqv _ _ e2]; exact h2)
      have m2 := h4 j hj (kwv _ _ e.symm g1) (by rw [lqv _ _ e]; exact g2)
      rw [lqv _ _ e2, nmv _ _ e2] at m1
      rw [lqv _ _ e, nmv _ _ e] at m2
      have : u0 = j := hd u0 j h0 hj (by rw [nmv _ _ e]; omega)
      exact ⟨g0, h0, by rw [this]; exact e.symm⟩
