/-! ===== the start ===== -/
def DD : List (Nat × Nat) := [(0, 2), (133, 2), (133, 1), (133, 0), (0, 1), (102, 9), (130, 2), (130, 1), (102, 8), (127, 2), (127, 1), (102, 7), (124, 2), (124, 1), (102, 6), (121, 2), (121, 1), (102, 5), (118, 2), (118, 1), (102, 4), (115, 2), (115, 1), (102, 3), (112, 2), (112, 1), (102, 2), (109, 2), (109, 1), (102, 1), (106, 2), (106, 1), (102, 0), (103, 2), (103, 1), (67, 4), (67, 3), (97, 3), (97, 2), (97, 1), (97, 0), (67, 2), (89, 6), (89, 5), (89, 4), (89, 3), (89, 2), (89, 1), (89, 0), (67, 1), (83, 4), (83, 3), (83, 2), (83, 1), (83, 0), (67, 0), (68, 6), (68, 5), (77, 3), (77, 2), (77, 1), (77, 0), (68, 4), (72, 3), (72, 2), (72, 1), (72, 0), (68, 2), (68, 1), (68, 0), (0, 0), (36, 9), (64, 2), (64, 1), (36, 8), (61, 2), (61, 1), (36, 7), (58, 2), (58, 1), (36, 6), (55, 2), (55, 1), (36, 5), (52, 2), (52, 1), (36, 4), (49, 2), (49, 1), (36, 3), (46, 2), (46, 1), (36, 2), (43, 2), (43, 1), (36, 1), (40, 2), (40, 1), (36, 0), (37, 2), (37, 1), (1, 4), (1, 3), (31, 3), (31, 2), (31, 1), (31, 0), (1, 2), (23, 6), (23, 5), (23, 4), (23, 3), (23, 2), (23, 1), (23, 0), (1, 1), (17, 4), (17, 3), (17, 2), (17, 1), (17, 0), (1, 0), (2, 6), (2, 5), (11, 3), (11, 2), (11, 1), (11, 0), (2, 4), (6, 3), (6, 2), (6, 1), (6, 0), (2, 2), (2, 1), (2, 0)] ++ []
def EE : List (Nat × Nat) := [(0, 3), (130, 11), (130, 10), (130, 9), (130, 8), (130, 7), (130, 6), (130, 5), (130, 4), (130, 3), (130, 0), (127, 11), (127, 10), (127, 9), (127, 8), (127, 7), (127, 6), (127, 5), (127, 4), (127, 3), (127, 0), (124, 11), (124, 10), (124, 9), (124, 8), (124, 7), (124, 6), (124, 5), (124, 4), (124, 3), (124, 0), (121, 11), (121, 10), (121, 9), (121, 8), (121, 7), (121, 6), (121, 5), (121, 4), (121, 3), (121, 0), (118, 11), (118, 10), (118, 9), (118, 8), (118, 7), (118, 6), (118, 5), (118, 4), (118, 3), (118, 0), (115, 11), (115, 10), (115, 9), (115, 8), (115, 7), (115, 6), (115, 5), (115, 4), (115, 3), (115, 0), (112, 11), (112, 10), (112, 9), (112, 8), (112, 7), (112, 6), (112, 5), (112, 4), (112, 3), (112, 0), (109, 11), (109, 10), (109, 9), (109, 8), (109, 7), (109, 6), (109, 5), (109, 4), (109, 3), (109, 0), (106, 11), (106, 10), (106, 9), (106, 8), (106, 7), (106, 6), (106, 5), (106, 4), (106, 3), (106, 0), (103, 11), (103, 10), (103, 9), (103, 8), (103, 7), (103, 6), (103, 5), (103, 4), (103, 3), (103, 0), (67, 12), (67, 11), (67, 10), (67, 9), (67, 8), (67, 7), (67, 6), (67, 5), (97, 4), (89, 7), (83, 6), (83, 5), (77, 4), (72, 4), (68, 3), (64, 11), (64, 10), (64, 9), (64, 8), (64, 7), (64, 6), (64, 5), (64, 4), (64, 3), (64, 0), (61, 11), (61, 10), (61, 9), (61, 8), (61, 7), (61, 6), (61, 5), (61, 4), (61, 3), (61, 0), (58, 11), (58, 10), (58, 9), (58, 8), (58, 7), (58, 6), (58, 5), (58, 4), (58, 3), (58, 0), (55, 11), (55, 10), (55, 9), (55, 8), (55, 7), (55, 6), (55, 5), (55, 4), (55, 3), (55, 0), (52, 11), (52, 10), (52, 9), (52, 8), (52, 7), (52, 6), (52, 5), (52, 4), (52, 3), (52, 0), (49, 11), (49, 10), (49, 9), (49, 8), (49, 7), (49, 6), (49, 5), (49, 4), (49, 3), (49, 0), (46, 11), (46, 10), (46, 9), (46, 8), (46, 7), (46, 6), (46, 5), (46, 4), (46, 3), (46, 0), (43, 11), (43, 10), (43, 9), (43, 8), (43, 7), (43, 6), (43, 5), (43, 4), (43, 3), (43, 0), (40, 11), (40, 10), (40, 9), (40, 8), (40, 7), (40, 6), (40, 5), (40, 4), (40, 3), (40, 0), (37, 11), (37, 10), (37, 9), (37, 8), (37, 7), (37, 6), (37, 5), (37, 4), (37, 3), (37, 0), (1, 12), (1, 11), (1, 10), (1, 9), (1, 8), (1, 7), (1, 6), (1, 5), (31, 4), (23, 7), (17, 6), (17, 5), (11, 4), (6, 4), (2, 3)] ++ []
theorem start_m {L : Nat} {xs : Nat → Int32} : ∃ m, CALL 65 [.ref 0] (mNew (mu0 L xs) (8, 0) 4) = some (.inl none, m) ∧ Pb m 137 16085 DD EE (L, xs) := by
  have p0 : Pb (mu0 L xs) 0 0 [] [] (L, xs) := ⟨rfl, rfl, rfl, rfl, fun a h => absurd h (Nat.not_lt_zero a), fun q h => (by cases h), fun a j h => absurd h (Nat.not_lt_zero a), fun q h => (by cases h), fun a j h => absurd h (Nat.not_lt_zero a)⟩
  have p1 := Pb_new (k := 4) (sh := (8, 0)) p0 rfl
  obtain ⟨m1, e1, p2⟩ := N74 p1
  exact ⟨m1, e1, Pb_z p2 (by omega)⟩
theorem any_mem {l : List (Nat × Nat)} {a j : Nat} (h : (l.any fun q => Nat.beq q.1 a && Nat.beq q.2 j) = true) : (a, j) ∈ l := by
  obtain ⟨⟨x, y⟩, hq, e⟩ := List.any_eq_true.mp h
  rw [Bool.and_eq_true] at e
  have e1 : x = a := Nat.eq_of_beq_eq_true e.1
  have e2 : y = j := Nat.eq_of_beq_eq_true e.2
  rw [← e1, ← e2]
  exact hq
theorem DD_all0 : ∀ a, a < 137 → ∀ j, j < 20 → RX a j ≠ none → (DD.any fun q => Nat.beq q.1 a && Nat.beq q.2 j) = true := by decide +kernel
theorem DD_all : ∀ a, a < 137 → ∀ j, j < 20 → RX a j ≠ none → (a, j) ∈ DD := fun a ha j hj h => any_mem (DD_all0 a ha j hj h)
theorem RX_RT : ∀ a, a < 137 → ∀ j, j < 20 → RT a j ≠ none → RX a j = RT a j := by decide +kernel
theorem EE_all0 : ∀ a, a < 137 → ∀ j, j < 20 → FI a j ≠ nI 0 → (EE.any fun q => Nat.beq q.1 a && Nat.beq q.2 j) = true := by decide +kernel
theorem EE_all : ∀ a, a < 137 → ∀ j, j < 20 → FI a j ≠ nI 0 → (a, j) ∈ EE := fun a ha j hj h => any_mem (EE_all0 a ha j hj h)
theorem RT_20 {a j v : Nat} (h : RT a j = some v) : j < 20 := by
  have hl : ∀ a, a < 137 → (RTL.getD a []).length ≤ 20 := by decide +kernel
  have ha := RT_lt h
  have hb := hl a ha
  unfold RT at h
  rw [if_pos ha] at h
  rcases Nat.lt_or_ge j 20 with q | q
  · exact q
  · have e : (RTL.getD a []).getD j 0 = 0 := by
      rw [List.getD_eq_getElem?_getD, List.getElem?_eq_none (by omega)]
      rfl
    rw [e] at h
    cases h
theorem FI_20 {a j : Nat} (h : 20 ≤ j) : FI a j = nI 0 := by
  unfold FI
  rw [if_neg (by omega), if_neg (by omega), if_neg (by omega), if_neg (by omega), if_neg (by omega)]
theorem st_f {m : mMu} {b z : Nat} {X : Nat × (Nat → Int32)} (h : Pb m 137 z DD EE X) {a j : Nat} (ha : a < 137) : mI m a j = FI a j := by
  by_cases q : FI a j = nI 0
  · rcases h.2.2.2.2.2.2.2.2 a j ha with e | e
    · rw [e, q]
    · exact e
  · have hj : j < 20 := by
      rcases Nat.lt_or_ge j 20 with hj | hj
      · exact hj
      · exact absurd (FI_20 hj) q
    exact (h.2.2.2.2.2.2.2.1 (a, j) (EE_all a ha j hj q)).2
theorem st_x {m : mMu} {z : Nat} {X : Nat × (Nat → Int32)} (h : Pb m 137 z DD EE X) {a j v : Nat} (ha : a < 137) (hj : j < 20) (hv : RX a j = some v) : mR m a j = some v := Pb_r h (DD_all a ha j hj (by rw [hv]; exact fun hh => by cases hh)) hv
theorem st_rf {m : mMu} {z : Nat} {X : Nat × (Nat → Int32)} (h : Pb m 137 z DD EE X) : Rf (mR m) := fun a j v hv => by
  have ha := RT_lt hv
  have hj := RT_20 hv
  have e := RX_RT a ha j hj (by rw [hv]; exact fun hh => by cases hh)
  exact st_x h ha hj (by rw [e]; exact hv)
def c_0 (w : Nat) : Nat := if w = 11 then 100 else if w = 12 then 300 else if w = 13 then 8 else if w = 14 then 4 else 0
def S_0 : Nat → Nat → Nat → Int32 := fun _ _ _ => nI 0
theorem INV_0 : INV c_0 S_0 := by
  refine ⟨by unfold CB; decide, by decide, fun i hi => absurd hi (Nat.not_lt_zero i), fun i hi => absurd hi (Nat.not_lt_zero i), fun i hi => absurd hi (Nat.not_lt_zero i), fun i hi => absurd hi (Nat.not_lt_zero i), fun i hi => absurd hi (Nat.not_lt_zero i), fun i hi => absurd hi (Nat.not_lt_zero i), ⟨fun t u ht => absurd ht (Nat.not_lt_zero t), fun t u ht => absurd ht (Nat.not_lt_zero t), fun t u ht => absurd ht (Nat.not_lt_zero t)⟩, fun j hj => Nat.zero_le _⟩
theorem FI_z {a j : Nat} (h : (138 ≤ a ∧ a ≤ 153) ∨ (133 ≤ a ∧ a ≤ 136) ∨ (2 ≤ a ∧ a ≤ 36) ∨ (68 ≤ a ∧ a ≤ 102) ∨ a = 0) : FI a j = nI 0 := by
  unfold FI
  rw [if_neg (by omega), if_neg (by omega), if_neg (by omega), if_neg (by omega), if_neg (by omega)]
theorem FI_11 : ∀ u, u < 10 → FI (37 + 3 * u) 11 = nI 0 ∧ FI (103 + 3 * u) 11 = nI 0 := by decide
theorem CAll_st {f : Nat → Nat → Int32} {r : Nat → Nat → Option Nat} (hf : ∀ a j, a < 137 → f a j = FI a j) (hp : CPm r 1 (fun t => t)) : CAll f r 1 (fun t => t) c_0 S_0 := by
  refine ⟨?_, ⟨?_, fun i w hi => absurd hi (Nat.not_lt_zero i), ?_, fun i w hi => absurd hi (Nat.not_lt_zero i), ?_, fun i w hi => absurd hi (Nat.not_lt_zero i), fun x y _ _ => ?_⟩, Or.inr ⟨?_, rfl, ?_, fun k w hk => absurd hk (Nat.not_lt_zero k)⟩, ⟨?_, List.Perm.refl _⟩, ⟨?_, fun e w he => absurd he (by show ¬ e < min 0 120; omega)⟩, hp, fun t ht => absurd ht (Nat.not_lt_zero t), fun u hu => ?_⟩
  · unfold CSc
    rw [hf 1 5 (by omega), hf 1 6 (by omega), hf 1 7 (by omega), hf 1 8 (by omega), hf 1 9 (by omega), hf 1 10 (by omega), hf 1 11 (by omega), hf 1 12 (by omega)]
    decide
  · rw [hf _ _ (by omega)]; exact FI_z (by omega)
  · rw [hf _ _ (by omega)]; exact FI_z (by omega)
  · rw [hf _ _ (by omega)]; exact FI_z (by omega)
  · rw [hf _ _ (by omega)]; exact FI_z (by omega)
  · rw [hf _ _ (by omega)]; exact FI_z (by omega)
  · rw [hf _ _ (by omega)]; exact FI_z (by omega)
  · rw [hf _ _ (by omega)]; exact FI_z (by omega)
  · rw [hf _ _ (by omega)]; exact FI_z (by omega)
  · show isZ (f (37 + 3 * u) 11) = true
    rw [hf _ _ (by omega), (FI_11 u hu).1]
    decide
theorem CPm_r {r r' : Nat → Nat → Option Nat} {s : Nat} {σ : Nat → Nat} (h : CPm r s σ) (e : r' (s + 35) = r (s + 35)) : CPm r' s σ := by
  unfold CPm at h ⊢
  rw [e]
  exact h
theorem CAll_k {f f' : Nat → Nat → Int32} {r r' : Nat → Nat → Option Nat} {s : Nat} {σ : Nat → Nat} {c : Nat → Nat} {S : Nat → Nat → Nat → Int32} (h : CAll f r s σ c S) (hc : CB c) (hf : ∀ a, s ≤ a → a ≤ s + 65 → f' a = f a) (e : r' (s + 35) = r (s + 35)) : CAll f' r' s σ c S := by
  obtain ⟨d1, d2, d3, d4, d5, d6, d7⟩ := h
  exact ⟨CSc_k d1 (hf _ (by omega) (by omega)) (fun _ _ _ _ _ _ _ _ => rfl), CCo_k d2 (fun a _ _ => hf a (by omega) (by omega)) rfl rfl rfl (fun _ _ _ => rfl), CBl_k d3 (fun a _ _ => hf a (by omega) (by omega)) rfl rfl rfl rfl, CLo_k d4 (fun a _ _ => hf a (by omega) (by omega)) rfl rfl, CEv_k d5 (fun a _ _ => hf a (by omega) (by omega)) rfl rfl, CPm_r d6 e, CTr_k d7 d6 hc.2.2.2.2.1 (fun a _ _ => hf a (by omega) (by omega))⟩
theorem burn_st {μ : mMu} {f : Nat → Nat → Int32} {l : Nat → Nat → Int64} {r : Nat → Nat → Option Nat} {z : Nat} : mBurn (st μ f l r) z = st (mBurn μ z) f l r := rfl
theorem burn_S {μ : mMu} {z : Nat} : mS (mBurn μ z) = mS μ := rfl
theorem burn_Sh {μ : mMu} {z : Nat} (h : Sh μ) : Sh (mBurn μ z) := h
theorem no_addSt {c : Nat → Nat} {S : Nat → Nat → Nat → Int32} {x y z : Int32} (h : ¬ (s_addSt c S x y z).2.1 = nI 0) : (s_addSt c S x y z).2.2 = (c, S) := by
  unfold s_addSt at h ⊢
  cases hb : plc x y && wi z (nI 1) (nI 20000) with
  | false => rfl
  | true =>
    rw [hb, cond_true] at h
    rw [cond_true]
    by_cases q : c 0 = 4
    · rw [if_pos q]
    · rw [if_neg q] at h; exact absurd rfl h
theorem no_addPl {c : Nat → Nat} {S : Nat → Nat → Nat → Int32} {w x y u v : Int32} (h : ¬ (s_addPl c S w x y u v).2.1 = nI 0) : (s_addPl c S w x y u v).2.2 = (c, S) := by
  unfold s_addPl at h ⊢
  cases hb : plc x y && (plc u v && (!decide (u ≤ x) && decide (y < v))) with
  | false => rfl
  | true =>
    rw [hb, cond_true] at h
    rw [cond_true]
    by_cases qw : w = nI 0
    · rw [if_pos qw] at h ⊢
      by_cases q : c 1 = 10
      · rw [if_pos q]
      · rw [if_neg q] at h; exact absurd rfl h
    · rw [if_neg qw] at h ⊢
      by_cases q : c 2 = 6
      · rw [if_pos q]
      · rw [if_neg q] at h; exact absurd rfl h
theorem no_tune {c : Nat → Nat} {S : Nat → Nat → Nat → Int32} {x y z w : Int32} (h : ¬ (s_tune c S x y z w).2.1 = nI 0) : (s_tune c S x y z w).2 = (nI 1, c, S) := by
  unfold s_tune at h ⊢
  cases hb : wi x (nI 0) (nI 500) && wi y (nI 1) (nI 2000) && wi z (nI 0) (nI 16) && wi w (nI 0) (nI 16) with
  | false => rfl
  | true =>
    rw [hb, cond_true] at h
    exact absurd rfl h
theorem no_rep {c : Nat → Nat} {S : Nat → Nat → Nat → Int32} {s x y z : Int32} (h : ¬ (s_rep c S s x y z).2.1 = nI 0) : (s_rep c S s x y z).2.2 = (c, S) := by
  unfold s_rep at h ⊢
  cases hb : wi s (nI 0) (nI (c 0) - nI 1) with
  | false => rfl
  | true =>
    rw [hb, cond_true] at h
    rw [cond_true]
    cases hb2 : plc x y && wi z (nI 1) (nI 99) with
    | false => rfl
    | true =>
      rw [hb2, cond_true] at h
      rw [cond_true]
      cases hb3 : p_see c S (ix s) x y with
      | false => rfl
      | true =>
        rw [hb3, cond_true] at h
        rw [cond_true]
        by_cases q : S 4 (fxn x) (fxn y) < z
        · rw [if_pos q] at h
          exfalso
          apply h
          unfold s_rep2
          cases ff (fun k => mrg (S 5 k) (nI (c 11)) s x y) (c 3) with
          | some k => rfl
          | none =>
            by_cases q3 : c 3 = 10
            · simp only [q3, if_true]
            · simp only [q3, if_false]
        · rw [if_neg q]
