/-! ===== the start ===== -/
def DD : List (Nat × Nat) := [(137, 19), (137, 18), (137, 17), (137, 11), (148, 9), (148, 8), (148, 7), (148, 6), (148, 5), (148, 4), (148, 3), (148, 2), (148, 1), (148, 0), (137, 10), (137, 9), (137, 8), (137, 7), (137, 6), (137, 5), (137, 4), (137, 3), (137, 2), (137, 1)] ++ ([(0, 2), (133, 2), (133, 1), (133, 0), (0, 1), (102, 9), (130, 2), (130, 1), (102, 8), (127, 2), (127, 1), (102, 7), (124, 2), (124, 1), (102, 6), (121, 2), (121, 1), (102, 5), (118, 2), (118, 1), (102, 4), (115, 2), (115, 1), (102, 3), (112, 2), (112, 1), (102, 2), (109, 2), (109, 1), (102, 1), (106, 2), (106, 1), (102, 0), (103, 2), (103, 1), (67, 4), (67, 3), (97, 3), (97, 2), (97, 1), (97, 0), (67, 2), (89, 6), (89, 5), (89, 4), (89, 3), (89, 2), (89, 1), (89, 0), (67, 1), (83, 4), (83, 3), (83, 2), (83, 1), (83, 0), (67, 0), (68, 6), (68, 5), (77, 3), (77, 2), (77, 1), (77, 0), (68, 4), (72, 3), (72, 2), (72, 1), (72, 0), (68, 2), (68, 1), (68, 0), (0, 0), (36, 9), (64, 2), (64, 1), (36, 8), (61, 2), (61, 1), (36, 7), (58, 2), (58, 1), (36, 6), (55, 2), (55, 1), (36, 5), (52, 2), (52, 1), (36, 4), (49, 2), (49, 1), (36, 3), (46, 2), (46, 1), (36, 2), (43, 2), (43, 1), (36, 1), (40, 2), (40, 1), (36, 0), (37, 2), (37, 1), (1, 4), (1, 3), (31, 3), (31, 2), (31, 1), (31, 0), (1, 2), (23, 6), (23, 5), (23, 4), (23, 3), (23, 2), (23, 1), (23, 0), (1, 1), (17, 4), (17, 3), (17, 2), (17, 1), (17, 0), (1, 0), (2, 6), (2, 5), (11, 3), (11, 2), (11, 1), (11, 0), (2, 4), (6, 3), (6, 2), (6, 1), (6, 0), (2, 2), (2, 1), (2, 0)] ++ [])
def EE : List (Nat × Nat) := [(138, 14), (138, 13), (138, 12), (138, 11)] ++ ([(0, 3), (130, 11), (130, 10), (130, 9), (130, 8), (130, 7), (130, 6), (130, 5), (130, 4), (130, 3), (130, 0), (127, 11), (127, 10), (127, 9), (127, 8), (127, 7), (127, 6), (127, 5), (127, 4), (127, 3), (127, 0), (124, 11), (124, 10), (124, 9), (124, 8), (124, 7), (124, 6), (124, 5), (124, 4), (124, 3), (124, 0), (121, 11), (121, 10), (121, 9), (121, 8), (121, 7), (121, 6), (121, 5), (121, 4), (121, 3), (121, 0), (118, 11), (118, 10), (118, 9), (118, 8), (118, 7), (118, 6), (118, 5), (118, 4), (118, 3), (118, 0), (115, 11), (115, 10), (115, 9), (115, 8), (115, 7), (115, 6), (115, 5), (115, 4), (115, 3), (115, 0), (112, 11), (112, 10), (112, 9), (112, 8), (112, 7), (112, 6), (112, 5), (112, 4), (112, 3), (112, 0), (109, 11), (109, 10), (109, 9), (109, 8), (109, 7), (109, 6), (109, 5), (109, 4), (109, 3), (109, 0), (106, 11), (106, 10), (106, 9), (106, 8), (106, 7), (106, 6), (106, 5), (106, 4), (106, 3), (106, 0), (103, 11), (103, 10), (103, 9), (103, 8), (103, 7), (103, 6), (103, 5), (103, 4), (103, 3), (103, 0), (67, 12), (67, 11), (67, 10), (67, 9), (67, 8), (67, 7), (67, 6), (67, 5), (97, 4), (89, 7), (83, 6), (83, 5), (77, 4), (72, 4), (68, 3), (64, 11), (64, 10), (64, 9), (64, 8), (64, 7), (64, 6), (64, 5), (64, 4), (64, 3), (64, 0), (61, 11), (61, 10), (61, 9), (61, 8), (61, 7), (61, 6), (61, 5), (61, 4), (61, 3), (61, 0), (58, 11), (58, 10), (58, 9), (58, 8), (58, 7), (58, 6), (58, 5), (58, 4), (58, 3), (58, 0), (55, 11), (55, 10), (55, 9), (55, 8), (55, 7), (55, 6), (55, 5), (55, 4), (55, 3), (55, 0), (52, 11), (52, 10), (52, 9), (52, 8), (52, 7), (52, 6), (52, 5), (52, 4), (52, 3), (52, 0), (49, 11), (49, 10), (49, 9), (49, 8), (49, 7), (49, 6), (49, 5), (49, 4), (49, 3), (49, 0), (46, 11), (46, 10), (46, 9), (46, 8), (46, 7), (46, 6), (46, 5), (46, 4), (46, 3), (46, 0), (43, 11), (43, 10), (43, 9), (43, 8), (43, 7), (43, 6), (43, 5), (43, 4), (43, 3), (43, 0), (40, 11), (40, 10), (40, 9), (40, 8), (40, 7), (40, 6), (40, 5), (40, 4), (40, 3), (40, 0), (37, 11), (37, 10), (37, 9), (37, 8), (37, 7), (37, 6), (37, 5), (37, 4), (37, 3), (37, 0), (1, 12), (1, 11), (1, 10), (1, 9), (1, 8), (1, 7), (1, 6), (1, 5), (31, 4), (23, 7), (17, 6), (17, 5), (11, 4), (6, 4), (2, 3)] ++ [])
theorem start_m {L : Nat} {xs : Nat → Int32} : ∃ m, CALL 0 [.retAddr 0] (mu0 L xs) = RUN 0 28 [some (.retAddr 0), some (.ref 0), some (.ref 137), some (.ref 152), some (.ref 153), some (.int (nI 0)), none, none, none] [] m ∧ Pb m 154 29390 DD EE (L, xs) := by
  have p0 : Pb (mu0 L xs) 0 0 [] [] (L, xs) := ⟨rfl, rfl, rfl, rfl, fun a h => absurd h (Nat.not_lt_zero a), fun q h => (by cases h), fun a j h => absurd h (Nat.not_lt_zero a), fun q h => (by cases h), fun a j h => absurd h (Nat.not_lt_zero a)⟩
  have p1 := Pb_new (k := 4) (sh := (8, 0)) p0 rfl
  obtain ⟨m1, e1, p2⟩ := N74 p1
  have p3 := Pb_new (k := 20) (sh := (9, 0)) p2 rfl
  obtain ⟨m2, e2, p4⟩ := N103 p3
  have p5 := Pb_new (k := 1) (sh := (21, 1)) p4 rfl
  have p6 := Pb_new (k := 1) (sh := (22, 1)) p5 rfl
  rw [B_0_0]
  simp only [fa_lit]
  rw [p0.1, e1, oV_s, p2.1, e2, oV_s, k_nw (by decide), Option.bind_some, k_nw (by decide), Option.bind_some, p4.1, p5.1]
  exact ⟨_, rfl, Pb_z p6 (by omega)⟩
theorem any_mem {l : List (Nat × Nat)} {a j : Nat} (h : (l.any fun q => Nat.beq q.1 a && Nat.beq q.2 j) = true) : (a, j) ∈ l := by
  obtain ⟨⟨x, y⟩, hq, e⟩ := List.any_eq_true.mp h
  rw [Bool.and_eq_true] at e
  have e1 : x = a := Nat.eq_of_beq_eq_true e.1
  have e2 : y = j := Nat.eq_of_beq_eq_true e.2
  rw [← e1, ← e2]
  exact hq
theorem DD_all0 : ∀ a, a < 154 → ∀ j, j < 20 → RX a j ≠ none → (DD.any fun q => Nat.beq q.1 a && Nat.beq q.2 j) = true := by decide +kernel
theorem DD_all : ∀ a, a < 154 → ∀ j, j < 20 → RX a j ≠ none → (a, j) ∈ DD := fun a ha j hj h => any_mem (DD_all0 a ha j hj h)
theorem RX_RT : ∀ a, a < 154 → ∀ j, j < 20 → RT a j ≠ none → RX a j = RT a j := by decide +kernel
theorem EE_all0 : ∀ a, a < 154 → ∀ j, j < 20 → FI a j ≠ nI 0 → (EE.any fun q => Nat.beq q.1 a && Nat.beq q.2 j) = true := by decide +kernel
theorem EE_all : ∀ a, a < 154 → ∀ j, j < 20 → FI a j ≠ nI 0 → (a, j) ∈ EE := fun a ha j hj h => any_mem (EE_all0 a ha j hj h)
theorem RT_20 {a j v : Nat} (h : RT a j = some v) : j < 20 := by
  have hl : ∀ a, a < 154 → (RTL.getD a []).length ≤ 20 := by decide +kernel
  have ha := RT_lt h
  have hb := hl a ha
  unfold RT at h
  rw [if_pos ha] at h
  rcases Nat.lt_or_ge j 20 with q | q
  · exact q
  · have e : (RTL.getD a []).getD j 0 = 0 := by
      rw [List.getD_eq_getElem?_getD, List.getElem?_eq_none (by omega)]
      rfl
    rw [e] at h
    cases h
theorem FI_20 {a j : Nat} (h : 20 ≤ j) : FI a j = nI 0 := by
  unfold FI
  rw [if_neg (by omega), if_neg (by omega), if_neg (by omega), if_neg (by omega), if_neg (by omega)]
theorem st_f {m : mMu} {b z : Nat} {X : Nat × (Nat → Int32)} (h : Pb m 154 z DD EE X) {a j : Nat} (ha : a < 154) : mI m a j = FI a j := by
  by_cases q : FI a j = nI 0
  · rcases h.2.2.2.2.2.2.2.2 a j ha with e | e
    · rw [e, q]
    · exact e
  · have hj : j < 20 := by
      rcases Nat.lt_or_ge j 20 with hj | hj
      · exact hj
      · exact absurd (FI_20 hj) q
    exact (h.2.2.2.2.2.2.2.1 (a, j) (EE_all a ha j hj q)).2
theorem st_x {m : mMu} {z : Nat} {X : Nat × (Nat → Int32)} (h : Pb m 154 z DD EE X) {a j v : Nat} (ha : a < 154) (hj : j < 20) (hv : RX a j = some v) : mR m a j = some v := Pb_r h (DD_all a ha j hj (by rw [hv]; exact fun hh => by cases hh)) hv
theorem st_rf {m : mMu} {z : Nat} {X : Nat × (Nat → Int32)} (h : Pb m 154 z DD EE X) : Rf (mR m) := fun a j v hv => by
  have ha := RT_lt hv
  have hj := RT_20 hv
  have e := RX_RT a ha j hj (by rw [hv]; exact fun hh => by cases hh)
  exact st_x h ha hj (by rw [e]; exact hv)
def c_0 (w : Nat) : Nat := if w = 11 then 100 else if w = 12 then 300 else if w = 13 then 8 else if w = 14 then 4 else 0
def S_0 : Nat → Nat → Nat → Int32 := fun _ _ _ => nI 0
theorem INV_0 : INV c_0 S_0 := by
  refine ⟨by unfold CB; decide, by decide, fun i hi => absurd hi (Nat.not_lt_zero i), fun i hi => absurd hi (Nat.not_lt_zero i), fun i hi => absurd hi (Nat.not_lt_zero i), fun i hi => absurd hi (Nat.not_lt_zero i), fun i hi => absurd hi (Nat.not_lt_zero i), fun i hi => absurd hi (Nat.not_lt_zero i), ⟨fun t u ht => absurd ht (Nat.not_lt_zero t), fun t u ht => absurd ht (Nat.not_lt_zero t), fun t u ht => absurd ht (Nat.not_lt_zero t)⟩, fun j hj => Nat.zero_le _⟩
theorem FI_z {a j : Nat} (h : (139 ≤ a ∧ a ≤ 153) ∨ (133 ≤ a ∧ a ≤ 137) ∨ (2 ≤ a ∧ a ≤ 36) ∨ (68 ≤ a ∧ a ≤ 102) ∨ a = 0) : FI a j = nI 0 := by
  unfold FI
  rw [if_neg (by omega), if_neg (by omega), if_neg (by omega), if_neg (by omega), if_neg (by omega)]
theorem MR_st {f : Nat → Nat → Int32} (hf : ∀ a j, a < 154 → f a j = FI a j) : MR f c_0 S_0 := by
  have z : ∀ a, 139 ≤ a → a ≤ 147 → ∀ n w, MRr (f a) n w (fun _ _ => nI 0) := fun a h1 h2 n w i k _ _ => by rw [hf _ _ (by omega)]; exact FI_z (by omega)
  have c : ∀ w, w < 15 → FI 138 w = nI (c_0 w) := by decide
  exact ⟨fun w hw => by rw [hf _ _ (by omega)]; exact c w hw, z 139 (by omega) (by omega) 4 3, z 140 (by omega) (by omega) 10 4, z 141 (by omega) (by omega) 6 4, z 142 (by omega) (by omega) 20 20, z 143 (by omega) (by omega) 10 5, z 144 (by omega) (by omega) 10 5, z 145 (by omega) (by omega) 10 38, z 146 (by omega) (by omega) 60 7, z 147 (by omega) (by omega) 120 4⟩
theorem FI_11 : ∀ u, u < 10 → FI (37 + 3 * u) 11 = nI 0 ∧ FI (103 + 3 * u) 11 = nI 0 := by decide
theorem CAll_st {f : Nat → Nat → Int32} {r : Nat → Nat → Option Nat} (hf : ∀ a j, a < 154 → f a j = FI a j) (hp : CPm r 1 (fun t => t)) : CAll f r 1 (fun t => t) c_0 S_0 := by
  refine ⟨?_, ⟨?_, fun i w hi => absurd hi (Nat.not_lt_zero i), ?_, fun i w hi => absurd hi (Nat.not_lt_zero i), ?_, fun i w hi => absurd hi (Nat.not_lt_zero i), fun x y _ _ => ?_⟩, Or.inr ⟨?_, rfl, ?_, fun k w hk => absurd hk (Nat.not_lt_zero k)⟩, ⟨?_, List.Perm.refl _⟩, ⟨?_, fun e w he => absurd he (by show ¬ e < min 0 120; omega)⟩, hp, fun t ht => absurd ht (Nat.not_lt_zero t), fun u hu => ?_⟩
  · unfold CSc
    rw [hf 1 5 (by omega), hf 1 6 (by omega), hf 1 7 (by omega), hf 1 8 (by omega), hf 1 9 (by omega), hf 1 10 (by omega), hf 1 11 (by omega), hf 1 12 (by omega)]
    decide
  · rw [hf _ _ (by omega)]; exact FI_z (by omega)
  · rw [hf _ _ (by omega)]; exact FI_z (by omega)
  · rw [hf _ _ (by omega)]; exact FI_z (by omega)
  · rw [hf _ _ (by omega)]; exact FI_z (by omega)
  · rw [hf _ _ (by omega)]; exact FI_z (by omega)
  · rw [hf _ _ (by omega)]; exact FI_z (by omega)
  · rw [hf _ _ (by omega)]; exact FI_z (by omega)
  · rw [hf _ _ (by omega)]; exact FI_z (by omega)
  · show isZ (f (37 + 3 * u) 11) = true
    rw [hf _ _ (by omega), (FI_11 u hu).1]
    decide
/-! ===== what holds of class, reference and memory between two calls of the law ===== -/
def KEPT (μ : mMu) (f : Nat → Nat → Int32) (r : Nat → Nat → Option Nat) (σk : Nat → Nat) : Prop := (f 0 3 = nI 0 ∧ r 137 12 = none) ∨ (f 0 3 = nI 1 ∧ ∃ kb c' S', KS μ r kb ∧ MRk f (kb + 1) c' S' ∧ CAll f r 67 σk c' S' ∧ INV c' S')
def WI (k : Nat) (X : Nat × (Nat → Int32)) (μ : mMu) (f : Nat → Nat → Int32) (r : Nat → Nat → Option Nat) : Prop := (Sh μ ∧ Rf r ∧ 154 ≤ mN μ) ∧ (mX μ = X ∧ mC μ ≤ 154 + 300 * k ∧ mZ μ ≤ 29390 + 6000 * k) ∧ ∃ σ σk c S, MR f c S ∧ CAll f r 1 σ c S ∧ INV c S ∧ KC f r σk ∧ KEPT μ f r σk
theorem start_WI {m : mMu} {X : Nat × (Nat → Int32)} (h : Pb m 154 29390 DD EE X) : WI 0 X m (mI m) (mR m) := by
  have hf : ∀ a j, a < 154 → mI m a j = FI a j := fun a j ha => st_f (b := 0) h ha
  have p1 : ∀ t, t < 10 → RX 36 t = some (37 + 3 * t) ∧ RX 102 t = some (103 + 3 * t) := by decide
  refine ⟨⟨fun a ha => h.2.2.2.2.1 a ha, st_rf h, by rw [h.1]; exact Nat.le_refl _⟩, ⟨h.2.2.2.1, by rw [h.2.1]; exact Nat.le_refl _, by rw [h.2.2.1]; exact Nat.le_refl _⟩, fun t => t, fun t => t, c_0, S_0, MR_st hf, CAll_st hf ⟨fun t ht => ⟨ht, st_x h (by omega) (by omega) (p1 t ht).1⟩, fun t u _ _ e => e⟩, INV_0, ⟨⟨fun t ht => ⟨ht, st_x h (by omega) (by omega) (p1 t ht).2⟩, fun t u _ _ e => e⟩, fun u hu => ?_⟩, Or.inl ⟨?_, ?_⟩⟩
  · rw [hf _ _ (by omega), (FI_11 u hu).2]; decide
  · rw [hf _ _ (by omega)]; exact FI_z (by omega)
  · rcases h.2.2.2.2.2.2.1 137 12 (by omega) with e | e
    · exact e
    · rw [e]; decide
