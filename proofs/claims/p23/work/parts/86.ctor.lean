/-! ===== the constructors ===== -/
def RX (a j : Nat) : Option Nat := if a = 36 ∧ j < 10 then some (37 + 3 * j) else if a = 102 ∧ j < 10 then some (103 + 3 * j) else if a = 137 ∧ j < 4 then some (138 + j) else if a = 137 ∧ 8 ≤ j ∧ j < 12 then some (134 + j) else RT a j
def FI (a j : Nat) : Int32 := if (a = 1 ∨ a = 67) ∧ j = 6 ∨ a = 137 ∧ j = 5 then nI 100 else if (a = 1 ∨ a = 67) ∧ j = 7 ∨ a = 137 ∧ j = 4 then nI 300 else if (a = 1 ∨ a = 67) ∧ j = 8 ∨ a = 137 ∧ j = 6 then nI 8 else if (a = 1 ∨ a = 67) ∧ j = 9 ∨ a = 137 ∧ j = 7 then nI 4 else if j = 9 ∧ ((37 ≤ a ∧ a ≤ 66 ∧ (a - 37) % 3 = 0) ∨ (103 ≤ a ∧ a ≤ 132 ∧ (a - 103) % 3 = 0)) then -nI 1 else nI 0
/-- built so far -/
def Pb (m : mMu) (b z : Nat) (D E : List (Nat × Nat)) (X : Nat × (Nat → Int32)) : Prop := mN m = b ∧ mC m = b ∧ mZ m = z ∧ mX m = X ∧ (∀ a, a < b → mS m a = SH a) ∧ (∀ q, q ∈ D → q.1 < b ∧ mR m q.1 q.2 = RX q.1 q.2) ∧ (∀ a j, a < b → mR m a j = none ∨ mR m a j = RX a j) ∧ (∀ q, q ∈ E → q.1 < b ∧ mI m q.1 q.2 = FI q.1 q.2) ∧ ∀ a j, a < b → mI m a j = nI 0 ∨ mI m a j = FI a j
theorem k_nw {m : mMu} {t n : Nat} (h : n < 65536) : nwA m t (nI n) = some (mNew m (t, n) n) := by
  unfold nwA
  rw [inb_ok h (by decide), ix_nI (by omega)]
  rfl
theorem k_pfR {m : mMu} {ci a j b : Nat} (h : (mS m a).1 = ci) : pfR m ci a j b = some (sR m a j (some b)) := by
  unfold pfR; rw [h, beq_rf]; rfl
theorem k_pfI {m : mMu} {ci a j : Nat} {v : Int32} (h : (mS m a).1 = ci) : pfI m ci a j v = some (sI m a j v) := by
  unfold pfI; rw [h, beq_rf]; rfl
theorem k_pfZ {m : mMu} {ci a j : Nat} (h : (mS m a).1 = ci) : pfZ m ci a j (nI 0) = some (sI m a j (nI 0)) := by
  unfold pfZ; rw [h, beq_rf]; rfl
theorem k_gfR {m : mMu} {ci a j : Nat} (h : (mS m a).1 = ci) : gfR m ci a j = mR m a j := by
  unfold gfR; rw [h, beq_rf]; rfl
theorem k_stoI {m : mMu} {a k n : Nat} {v : Int32} (h : mS m a = (20, n)) (hk : k < n) (hn : n < 2147483648) : stoI m a (nI k) v = some (sI m a k v) := by
  unfold stoI; rw [h, inb_ok hk hn, ix_nI (by omega)]; rfl
theorem k_stoR {m : mMu} {a k b : Nat} (h : mS m a = (23, 10)) (hb : (mS m b).1 = 7) (hk : k < 10) : stoR m a (nI k) b = some (sR m a k (some b)) := by
  unfold stoR; rw [h, hb, inb_ok hk (by decide), ix_nI (by omega)]; rfl
theorem Pb_new {m : mMu} {b z k : Nat} {D E : List (Nat × Nat)} {X : Nat × (Nat → Int32)} {sh : Nat × Nat} (h : Pb m b z D E X) (hs : sh = SH b) : Pb (mNew m sh k) (b + 1) (z + k) D E X := by
  obtain ⟨h1, h2, h3, h4, h5, h6, h7, h8, h9⟩ := h
  have eS : mS (mNew m sh k) = u1 (mS m) b sh := by show u1 (mS m) (mN m) sh = _; rw [h1]
  have eR : mR (mNew m sh k) = u2r (mR m) b (fun _ => none) := by show u2r (mR m) (mN m) _ = _; rw [h1]
  have eI : mI (mNew m sh k) = u2r (mI m) b (fun _ => 0) := by show u2r (mI m) (mN m) _ = _; rw [h1]
  refine ⟨by show mN m + 1 = _; rw [h1], by show mC m + 1 = _; rw [h2], by show mZ m + k = _; rw [h3], h4, fun a ha => ?_, fun q hq => ?_, fun a j ha => ?_, fun q hq => ?_, fun a j ha => ?_⟩
  · rw [eS]
    by_cases e : a = b
    · rw [e, y1_eq, hs]
    · rw [y1_ne e]; exact h5 a (by omega)
  · obtain ⟨g1, g2⟩ := h6 q hq
    rw [eR, yur_ne (by omega)]
    exact ⟨by omega, g2⟩
  · rw [eR]
    by_cases e : a = b
    · rw [e, yur_eq]; exact Or.inl rfl
    · rw [yur_ne e]; exact h7 a j (by omega)
  · obtain ⟨g1, g2⟩ := h8 q hq
    rw [eI, yur_ne (by omega)]
    exact ⟨by omega, g2⟩
  · rw [eI]
    by_cases e : a = b
    · rw [e, yur_eq]; exact Or.inl rfl
    · rw [yur_ne e]; exact h9 a j (by omega)
theorem Pb_ref {m : mMu} {b z a j v : Nat} {D E : List (Nat × Nat)} {X : Nat × (Nat → Int32)} (h : Pb m b z D E X) (ha : a < b) (hv : RX a j = some v) : Pb (sR m a j (some v)) b z ((a, j) :: D) E X := by
  obtain ⟨h1, h2, h3, h4, h5, h6, h7, h8, h9⟩ := h
  have key : ∀ a' j', mR (sR m a j (some v)) a' j' = if a' = a ∧ j' = j then RX a j else mR m a' j' := fun a' j' => by
    show u2 (mR m) a j (some v) a' j' = _
    unfold u2
    by_cases e : a' = a
    · by_cases e' : j' = j
      · rw [if_pos e, if_pos e', if_pos ⟨e, e'⟩, hv]
      · rw [if_pos e, if_neg e', if_neg (fun h => e' h.2)]
    · rw [if_neg e, if_neg (fun h => e h.1)]
  refine ⟨h1, h2, h3, h4, h5, fun q hq => ?_, fun a' j' ha' => ?_, h8, h9⟩
  · rw [key]
    by_cases e : q.1 = a ∧ q.2 = j
    · rw [if_pos e, e.1, e.2]; exact ⟨ha, rfl⟩
    · rw [if_neg e]
      rcases List.mem_cons.mp hq with hq | hq
      · exact absurd ⟨by rw [hq], by rw [hq]⟩ e
      · exact h6 q hq
  · rw [key]
    by_cases e : a' = a ∧ j' = j
    · rw [if_pos e, e.1, e.2]; exact Or.inr rfl
    · rw [if_neg e]; exact h7 a' j' ha'
theorem Pb_int {m : mMu} {b z a j : Nat} {v : Int32} {D E : List (Nat × Nat)} {X : Nat × (Nat → Int32)} (h : Pb m b z D E X) (ha : a < b) (hv : FI a j = v) : Pb (sI m a j v) b z D ((a, j) :: E) X := by
  obtain ⟨h1, h2, h3, h4, h5, h6, h7, h8, h9⟩ := h
  have key : ∀ a' j', mI (sI m a j v) a' j' = if a' = a ∧ j' = j then FI a j else mI m a' j' := fun a' j' => by
    show u2 (mI m) a j v a' j' = _
    unfold u2
    by_cases e : a' = a
    · by_cases e' : j' = j
      · rw [if_pos e, if_pos e', if_pos ⟨e, e'⟩, hv]
      · rw [if_pos e, if_neg e', if_neg (fun h => e' h.2)]
    · rw [if_neg e, if_neg (fun h => e h.1)]
  refine ⟨h1, h2, h3, h4, h5, h6, h7, fun q hq => ?_, fun a' j' ha' => ?_⟩
  · rw [key]
    by_cases e : q.1 = a ∧ q.2 = j
    · rw [if_pos e, e.1, e.2]; exact ⟨ha, rfl⟩
    · rw [if_neg e]
      rcases List.mem_cons.mp hq with hq | hq
      · exact absurd ⟨by rw [hq], by rw [hq]⟩ e
      · exact h8 q hq
  · rw [key]
    by_cases e : a' = a ∧ j' = j
    · rw [if_pos e, e.1, e.2]; exact Or.inr rfl
    · rw [if_neg e]; exact h9 a' j' ha'
theorem Pb_z {m : mMu} {b z z' : Nat} {D E : List (Nat × Nat)} {X : Nat × (Nat → Int32)} (h : Pb m b z D E X) (e : z = z') : Pb m b z' D E X := e ▸ h
theorem Pb_s {m : mMu} {b z a : Nat} {D E : List (Nat × Nat)} {X : Nat × (Nat → Int32)} (h : Pb m b z D E X) (ha : a < b) : mS m a = SH a := h.2.2.2.2.1 a ha
theorem Pb_r {m : mMu} {b z a j v : Nat} {D E : List (Nat × Nat)} {X : Nat × (Nat → Int32)} (h : Pb m b z D E X) (hq : (a, j) ∈ D) (hv : RX a j = some v) : mR m a j = some v := by rw [(h.2.2.2.2.2.1 (a, j) hq).2]; exact hv

theorem N9_6 {m : mMu} {z : Nat} {D E : List (Nat × Nat)} {X : Nat × (Nat → Int32)} (h : Pb m 7 z D E X) : ∃ m', CALL 8 [.ref 6] m = some (.inl none, m') ∧ Pb m' 11 (z + 40) ([(6, 3), (6, 2), (6, 1), (6, 0)] ++ D) ([(6, 4)] ++ E) X := by
  have p1 := Pb_new (k := 10) (sh := (20, 10)) h rfl
  have p2 := Pb_ref (a := 6) (j := 0) (v := 7) p1 (by omega) rfl
  have p3 := Pb_new (k := 10) (sh := (20, 10)) p2 rfl
  have p4 := Pb_ref (a := 6) (j := 1) (v := 8) p3 (by omega) rfl
  have p5 := Pb_new (k := 10) (sh := (20, 10)) p4 rfl
  have p6 := Pb_ref (a := 6) (j := 2) (v := 9) p5 (by omega) rfl
  have p7 := Pb_new (k := 10) (sh := (20, 10)) p6 rfl
  have p8 := Pb_ref (a := 6) (j := 3) (v := 10) p7 (by omega) rfl
  have p9 := Pb_int (a := 6) (j := 4) (v := nI 0) p8 (by omega) (by decide)
  rw [B_8_0]
  simp only [fa_lit]
  rw [k_nw (by decide), Option.bind_some, h.1, k_pfR (by rw [Pb_s p1 (by omega)]; rfl), Option.bind_some, k_nw (by decide), Option.bind_some, p2.1, k_pfR (by rw [Pb_s p3 (by omega)]; rfl), Option.bind_some, k_nw (by decide), Option.bind_some, p4.1, k_pfR (by rw [Pb_s p5 (by omega)]; rfl), Option.bind_some, k_nw (by decide), Option.bind_some, p6.1, k_pfR (by rw [Pb_s p7 (by omega)]; rfl), Option.bind_some, k_pfI (by rw [Pb_s p8 (by omega)]; rfl), Option.bind_some]
  exact ⟨_, rfl, Pb_z p9 (by omega)⟩
theorem N9_11 {m : mMu} {z : Nat} {D E : List (Nat × Nat)} {X : Nat × (Nat → Int32)} (h : Pb m 12 z D E X) : ∃ m', CALL 8 [.ref 11] m = some (.inl none, m') ∧ Pb m' 16 (z + 40) ([(11, 3), (11, 2), (11, 1), (11, 0)] ++ D) ([(11, 4)] ++ E) X := by
  have p1 := Pb_new (k := 10) (sh := (20, 10)) h rfl
  have p2 := Pb_ref (a := 11) (j := 0) (v := 12) p1 (by omega) rfl
  have p3 := Pb_new (k := 10) (sh := (20, 10)) p2 rfl
  have p4 := Pb_ref (a := 11) (j := 1) (v := 13) p3 (by omega) rfl
  have p5 := Pb_new (k := 10) (sh := (20, 10)) p4 rfl
  have p6 := Pb_ref (a := 11) (j := 2) (v := 14) p5 (by omega) rfl
  have p7 := Pb_new (k := 10) (sh := (20, 10)) p6 rfl
  have p8 := Pb_ref (a := 11) (j := 3) (v := 15) p7 (by omega) rfl
  have p9 := Pb_int (a := 11) (j := 4) (v := nI 0) p8 (by omega) (by decide)
  rw [B_8_0]
  simp only [fa_lit]
  rw [k_nw (by decide), Option.bind_some, h.1, k_pfR (by rw [Pb_s p1 (by omega)]; rfl), Option.bind_some, k_nw (by decide), Option.bind_some, p2.1, k_pfR (by rw [Pb_s p3 (by omega)]; rfl), Option.bind_some, k_nw (by decide), Option.bind_some, p4.1, k_pfR (by rw [Pb_s p5 (by omega)]; rfl), Option.bind_some, k_nw (by decide), Option.bind_some, p6.1, k_pfR (by rw [Pb_s p7 (by omega)]; rfl), Option.bind_some, k_pfI (by rw [Pb_s p8 (by omega)]; rfl), Option.bind_some]
  exact ⟨_, rfl, Pb_z p9 (by omega)⟩
theorem N14_1 {m : mMu} {z : Nat} {D E : List (Nat × Nat)} {X : Nat × (Nat → Int32)} (h : Pb m 3 z D E X) : ∃ m', CALL 12 [.ref 2] m = some (.inl none, m') ∧ Pb m' 17 (z + 502) ([(2, 6), (2, 5), (11, 3), (11, 2), (11, 1), (11, 0), (2, 4), (6, 3), (6, 2), (6, 1), (6, 0), (2, 2), (2, 1), (2, 0)] ++ D) ([(11, 4), (6, 4), (2, 3)] ++ E) X := by
  have p1 := Pb_new (k := 4) (sh := (20, 4)) h rfl
  have p2 := Pb_ref (a := 2) (j := 0) (v := 3) p1 (by omega) rfl
  have p3 := Pb_new (k := 4) (sh := (20, 4)) p2 rfl
  have p4 := Pb_ref (a := 2) (j := 1) (v := 4) p3 (by omega) rfl
  have p5 := Pb_new (k := 4) (sh := (20, 4)) p4 rfl
  have p6 := Pb_ref (a := 2) (j := 2) (v := 5) p5 (by omega) rfl
  have p7 := Pb_int (a := 2) (j := 3) (v := nI 0) p6 (by omega) (by decide)
  have p8 := Pb_new (k := 5) (sh := (1, 0)) p7 rfl
  obtain ⟨m9, e9, p9⟩ := N9_6 p8
  have p10 := Pb_ref (a := 2) (j := 4) (v := 6) p9 (by omega) rfl
  have p11 := Pb_new (k := 5) (sh := (1, 0)) p10 rfl
  obtain ⟨m12, e12, p12⟩ := N9_11 p11
  have p13 := Pb_ref (a := 2) (j := 5) (v := 11) p12 (by omega) rfl
  have p14 := Pb_new (k := 400) (sh := (20, 400)) p13 rfl
  have p15 := Pb_ref (a := 2) (j := 6) (v := 16) p14 (by omega) rfl
  rw [B_12_0]
  simp only [fa_lit]
  rw [k_nw (by decide), Option.bind_some, h.1, k_pfR (by rw [Pb_s p1 (by omega)]; rfl), Option.bind_some, k_nw (by decide), Option.bind_some, p2.1, k_pfR (by rw [Pb_s p3 (by omega)]; rfl), Option.bind_some, k_nw (by decide), Option.bind_some, p4.1, k_pfR (by rw [Pb_s p5 (by omega)]; rfl), Option.bind_some, k_pfI (by rw [Pb_s p6 (by omega)]; rfl), Option.bind_some, p7.1, e9, oV_s, k_pfR (by rw [Pb_s p9 (by omega)]; rfl), Option.bind_some, p10.1, e12, oV_s, k_pfR (by rw [Pb_s p12 (by omega)]; rfl), Option.bind_some, k_nw (by decide), Option.bind_some, p13.1, k_pfR (by rw [Pb_s p14 (by omega)]; rfl), Option.bind_some]
  exact ⟨_, rfl, Pb_z p15 (by omega)⟩
theorem N1_1 {m : mMu} {z : Nat} {D E : List (Nat × Nat)} {X : Nat × (Nat → Int32)} (h : Pb m 18 z D E X) : ∃ m', CALL 1 [.ref 17] m = some (.inl none, m') ∧ Pb m' 23 (z + 50) ([(17, 4), (17, 3), (17, 2), (17, 1), (17, 0)] ++ D) ([(17, 6), (17, 5)] ++ E) X := by
  have p1 := Pb_new (k := 10) (sh := (20, 10)) h rfl
  have p2 := Pb_ref (a := 17) (j := 0) (v := 18) p1 (by omega) rfl
  have p3 := Pb_new (k := 10) (sh := (20, 10)) p2 rfl
  have p4 := Pb_ref (a := 17) (j := 1) (v := 19) p3 (by omega) rfl
  have p5 := Pb_new (k := 10) (sh := (20, 10)) p4 rfl
  have p6 := Pb_ref (a := 17) (j := 2) (v := 20) p5 (by omega) rfl
  have p7 := Pb_new (k := 10) (sh := (20, 10)) p6 rfl
  have p8 := Pb_ref (a := 17) (j := 3) (v := 21) p7 (by omega) rfl
  have p9 := Pb_new (k := 10) (sh := (20, 10)) p8 rfl
  have p10 := Pb_ref (a := 17) (j := 4) (v := 22) p9 (by omega) rfl
  have p11 := Pb_int (a := 17) (j := 5) (v := nI 0) p10 (by omega) (by decide)
  have p12 := Pb_int (a := 17) (j := 6) (v := nI 0) p11 (by omega) (by decide)
  rw [B_1_0]
  simp only [fa_lit]
  rw [k_nw (by decide), Option.bind_some, h.1, k_pfR (by rw [Pb_s p1 (by omega)]; rfl), Option.bind_some, k_nw (by decide), Option.bind_some, p2.1, k_pfR (by rw [Pb_s p3 (by omega)]; rfl), Option.bind_some, k_nw (by decide), Option.bind_some, p4.1, k_pfR (by rw [Pb_s p5 (by omega)]; rfl), Option.bind_some, k_nw (by decide), Option.bind_some, p6.1, k_pfR (by rw [Pb_s p7 (by omega)]; rfl), Option.bind_some, k_nw (by decide), Option.bind_some, p8.1, k_pfR (by rw [Pb_s p9 (by omega)]; rfl), Option.bind_some, k_pfI (by rw [Pb_s p10 (by omega)]; rfl), Option.bind_some, k_pfZ (by rw [Pb_s p11 (by omega)]; rfl), Option.bind_some]
  exact ⟨_, rfl, Pb_z p12 (by omega)⟩
theorem N33_1 {m : mMu} {z : Nat} {D E : List (Nat × Nat)} {X : Nat × (Nat → Int32)} (h : Pb m 24 z D E X) : ∃ m', CALL 29 [.ref 23] m = some (.inl none, m') ∧ Pb m' 31 (z + 910) ([(23, 6), (23, 5), (23, 4), (23, 3), (23, 2), (23, 1), (23, 0)] ++ D) ([(23, 7)] ++ E) X := by
  have p1 := Pb_new (k := 130) (sh := (20, 130)) h rfl
  have p2 := Pb_ref (a := 23) (j := 0) (v := 24) p1 (by omega) rfl
  have p3 := Pb_new (k := 130) (sh := (20, 130)) p2 rfl
  have p4 := Pb_ref (a := 23) (j := 1) (v := 25) p3 (by omega) rfl
  have p5 := Pb_new (k := 130) (sh := (20, 130)) p4 rfl
  have p6 := Pb_ref (a := 23) (j := 2) (v := 26) p5 (by omega) rfl
  have p7 := Pb_new (k := 130) (sh := (20, 130)) p6 rfl
  have p8 := Pb_ref (a := 23) (j := 3) (v := 27) p7 (by omega) rfl
  have p9 := Pb_new (k := 130) (sh := (20, 130)) p8 rfl
  have p10 := Pb_ref (a := 23) (j := 4) (v := 28) p9 (by omega) rfl
  have p11 := Pb_new (k := 130) (sh := (20, 130)) p10 rfl
  have p12 := Pb_ref (a := 23) (j := 5) (v := 29) p11 (by omega) rfl
  have p13 := Pb_new (k := 130) (sh := (20, 130)) p12 rfl
  have p14 := Pb_ref (a := 23) (j := 6) (v := 30) p13 (by omega) rfl
  have p15 := Pb_int (a := 23) (j := 7) (v := nI 0) p14 (by omega) (by decide)
  rw [B_29_0]
  simp only [fa_lit]
  rw [k_nw (by decide), Option.bind_some, h.1, k_pfR (by rw [Pb_s p1 (by omega)]; rfl), Option.bind_some, k_nw (by decide), Option.bind_some, p2.1, k_pfR (by rw [Pb_s p3 (by omega)]; rfl), Option.bind_some, k_nw (by decide), Option.bind_some, p4.1, k_pfR (by rw [Pb_s p5 (by omega)]; rfl), Option.bind_some, k_nw (by decide), Option.bind_some, p6.1, k_pfR (by rw [Pb_s p7 (by omega)]; rfl), Option.bind_some, k_nw (by decide), Option.bind_some, p8.1, k_pfR (by rw [Pb_s p9 (by omega)]; rfl), Option.bind_some, k_nw (by decide), Option.bind_some, p10.1, k_pfR (by rw [Pb_s p11 (by omega)]; rfl), Option.bind_some, k_nw (by decide), Option.bind_some, p12.1, k_pfR (by rw [Pb_s p13 (by omega)]; rfl), Option.bind_some, k_pfI (by rw [Pb_s p14 (by omega)]; rfl), Option.bind_some]
  exact ⟨_, rfl, Pb_z p15 (by omega)⟩
theorem N21_1 {m : mMu} {z : Nat} {D E : List (Nat × Nat)} {X : Nat × (Nat → Int32)} (h : Pb m 32 z D E X) : ∃ m', CALL 18 [.ref 31] m = some (.inl none, m') ∧ Pb m' 36 (z + 480) ([(31, 3), (31, 2), (31, 1), (31, 0)] ++ D) ([(31, 4)] ++ E) X := by
  have p1 := Pb_new (k := 120) (sh := (20, 120)) h rfl
  have p2 := Pb_ref (a := 31) (j := 0) (v := 32) p1 (by omega) rfl
  have p3 := Pb_new (k := 120) (sh := (20, 120)) p2 rfl
  have p4 := Pb_ref (a := 31) (j := 1) (v := 33) p3 (by omega) rfl
  have p5 := Pb_new (k := 120) (sh := (20, 120)) p4 rfl
  have p6 := Pb_ref (a := 31) (j := 2) (v := 34) p5 (by omega) rfl
  have p7 := Pb_new (k := 120) (sh := (20, 120)) p6 rfl
  have p8 := Pb_ref (a := 31) (j := 3) (v := 35) p7 (by omega) rfl
  have p9 := Pb_int (a := 31) (j := 4) (v := nI 0) p8 (by omega) (by decide)
  rw [B_18_0]
  simp only [fa_lit]
  rw [k_nw (by decide), Option.bind_some, h.1, k_pfR (by rw [Pb_s p1 (by omega)]; rfl), Option.bind_some, k_nw (by decide), Option.bind_some, p2.1, k_pfR (by rw [Pb_s p3 (by omega)]; rfl), Option.bind_some, k_nw (by decide), Option.bind_some, p4.1, k_pfR (by rw [Pb_s p5 (by omega)]; rfl), Option.bind_some, k_nw (by decide), Option.bind_some, p6.1, k_pfR (by rw [Pb_s p7 (by omega)]; rfl), Option.bind_some, k_pfI (by rw [Pb_s p8 (by omega)]; rfl), Option.bind_some]
  exact ⟨_, rfl, Pb_z p9 (by omega)⟩
theorem N60_37 {m : mMu} {z : Nat} {D E : List (Nat × Nat)} {X : Nat × (Nat → Int32)} (h : Pb m 38 z D E X) : ∃ m', CALL 53 [.ref 37] m = some (.inl none, m') ∧ Pb m' 40 (z + 24) ([(37, 2), (37, 1)] ++ D) ([(37, 11), (37, 10), (37, 9), (37, 8), (37, 7), (37, 6), (37, 5), (37, 4), (37, 3), (37, 0)] ++ E) X := by
  have p1 := Pb_int (a := 37) (j := 0) (v := nI 0) h (by omega) (by decide)
  have p2 := Pb_new (k := 12) (sh := (20, 12)) p1 rfl
  have p3 := Pb_ref (a := 37) (j := 1) (v := 38) p2 (by omega) rfl
  have p4 := Pb_new (k := 12) (sh := (20, 12)) p3 rfl
  have p5 := Pb_ref (a := 37) (j := 2) (v := 39) p4 (by omega) rfl
  have p6 := Pb_int (a := 37) (j := 3) (v := nI 0) p5 (by omega) (by decide)
  have p7 := Pb_int (a := 37) (j := 4) (v := nI 0) p6 (by omega) (by decide)
  have p8 := Pb_int (a := 37) (j := 5) (v := nI 0) p7 (by omega) (by decide)
  have p9 := Pb_int (a := 37) (j := 6) (v := nI 0) p8 (by omega) (by decide)
  have p10 := Pb_int (a := 37) (j := 7) (v := nI 0) p9 (by omega) (by decide)
  have p11 := Pb_int (a := 37) (j := 8) (v := nI 0) p10 (by omega) (by decide)
  have p12 := Pb_int (a := 37) (j := 9) (v := -nI 1) p11 (by omega) (by decide)
  have p13 := Pb_int (a := 37) (j := 10) (v := nI 0) p12 (by omega) (by decide)
  have p14 := Pb_int (a := 37) (j := 11) (v := nI 0) p13 (by omega) (by decide)
  rw [B_53_0]
  simp only [fa_lit]
  rw [k_pfI (by rw [Pb_s h (by omega)]; rfl), Option.bind_some, k_nw (by decide), Option.bind_some, p1.1, k_pfR (by rw [Pb_s p2 (by omega)]; rfl), Option.bind_some, k_nw (by decide), Option.bind_some, p3.1, k_pfR (by rw [Pb_s p4 (by omega)]; rfl), Option.bind_some, k_pfI (by rw [Pb_s p5 (by omega)]; rfl), Option.bind_some, k_pfI (by rw [Pb_s p6 (by omega)]; rfl), Option.bind_some, k_pfI (by rw [Pb_s p7 (by omega)]; rfl), Option.bind_some, k_pfI (by rw [Pb_s p8 (by omega)]; rfl), Option.bind_some, k_pfI (by rw [Pb_s p9 (by omega)]; rfl), Option.bind_some, k_pfI (by rw [Pb_s p10 (by omega)]; rfl), Option.bind_some, k_pfI (by rw [Pb_s p11 (by omega)]; rfl), Option.bind_some, k_pfI (by rw [Pb_s p12 (by omega)]; rfl), Option.bind_some, k_pfZ (by rw [Pb_s p13 (by omega)]; rfl), Option.bind_some]
  exact ⟨_, rfl, Pb_z p14 (by omega)⟩
theorem N60_40 {m : mMu} {z : Nat} {D E : List (Nat × Nat)} {X : Nat × (Nat → Int32)} (h : Pb m 41 z D E X) : ∃ m', CALL 53 [.ref 40] m = some (.inl none, m') ∧ Pb m' 43 (z + 24) ([(40, 2), (40, 1)] ++ D) ([(40, 11), (40, 10), (40, 9), (40, 8), (40, 7), (40, 6), (40, 5), (40, 4), (40, 3), (40, 0)] ++ E) X := by
  have p1 := Pb_int (a := 40) (j := 0) (v := nI 0) h (by omega) (by decide)
  have p2 := Pb_new (k := 12) (sh := (20, 12)) p1 rfl
  have p3 := Pb_ref (a := 40) (j := 1) (v := 41) p2 (by omega) rfl
  have p4 := Pb_new (k := 12) (sh := (20, 12)) p3 rfl
  have p5 := Pb_ref (a := 40) (j := 2) (v := 42) p4 (by omega) rfl
  have p6 := Pb_int (a := 40) (j := 3) (v := nI 0) p5 (by omega) (by decide)
  have p7 := Pb_int (a := 40) (j := 4) (v := nI 0) p6 (by omega) (by decide)
  have p8 := Pb_int (a := 40) (j := 5) (v := nI 0) p7 (by omega) (by decide)
  have p9 := Pb_int (a := 40) (j := 6) (v := nI 0) p8 (by omega) (by decide)
  have p10 := Pb_int (a := 40) (j := 7) (v := nI 0) p9 (by omega) (by decide)
  have p11 := Pb_int (a := 40) (j := 8) (v := nI 0) p10 (by omega) (by decide)
  have p12 := Pb_int (a := 40) (j := 9) (v := -nI 1) p11 (by omega) (by decide)
  have p13 := Pb_int (a := 40) (j := 10) (v := nI 0) p12 (by omega) (by decide)
  have p14 := Pb_int (a := 40) (j := 11) (v := nI 0) p13 (by omega) (by decide)
  rw [B_53_0]
  simp only [fa_lit]
  rw [k_pfI (by rw [Pb_s h (by omega)]; rfl), Option.bind_some, k_nw (by decide), Option.bind_some, p1.1, k_pfR (by rw [Pb_s p2 (by omega)]; rfl), Option.bind_some, k_nw (by decide), Option.bind_some, p3.1, k_pfR (by rw [Pb_s p4 (by omega)]; rfl), Option.bind_some, k_pfI (by rw [Pb_s p5 (by omega)]; rfl), Option.bind_some, k_pfI (by rw [Pb_s p6 (by omega)]; rfl), Option.bind_some, k_pfI (by rw [Pb_s p7 (by omega)]; rfl), Option.bind_some, k_pfI (by rw [Pb_s p8 (by omega)]; rfl), Option.bind_some, k_pfI (by rw [Pb_s p9 (by omega)]; rfl), Option.bind_some, k_pfI (by rw [Pb_s p10 (by omega)]; rfl), Option.bind_some, k_pfI (by rw [Pb_s p11 (by omega)]; rfl), Option.bind_some, k_pfI (by rw [Pb_s p12 (by omega)]; rfl), Option.bind_some, k_pfZ (by rw [Pb_s p13 (by omega)]; rfl), Option.bind_some]
  exact ⟨_, rfl, Pb_z p14 (by omega)⟩
theorem N60_43 {m : mMu} {z : Nat} {D E : List (Nat × Nat)} {X : Nat × (Nat → Int32)} (h : Pb m 44 z D E X) : ∃ m', CALL 53 [.ref 43] m = some (.inl none, m') ∧ Pb m' 46 (z + 24) ([(43, 2), (43, 1)] ++ D) ([(43, 11), (43, 10), (43, 9), (43, 8), (43, 7), (43, 6), (43, 5), (43, 4), (43, 3), (43, 0)] ++ E) X := by
  have p1 := Pb_int (a := 43) (j := 0) (v := nI 0) h (by omega) (by decide)
  have p2 := Pb_new (k := 12) (sh := (20, 12)) p1 rfl
  have p3 := Pb_ref (a := 43) (j := 1) (v := 44) p2 (by omega) rfl
  have p4 := Pb_new (k := 12) (sh := (20, 12)) p3 rfl
  have p5 := Pb_ref (a := 43) (j := 2) (v := 45) p4 (by omega) rfl
  have p6 := Pb_int (a := 43) (j := 3) (v := nI 0) p5 (by omega) (by decide)
  have p7 := Pb_int (a := 43) (j := 4) (v := nI 0) p6 (by omega) (by decide)
  have p8 := Pb_int (a := 43) (j := 5) (v := nI 0) p7 (by omega) (by decide)
  have p9 := Pb_int (a := 43) (j := 6) (v := nI 0) p8 (by omega) (by decide)
  have p10 := Pb_int (a := 43) (j := 7) (v := nI 0) p9 (by omega) (by decide)
  have p11 := Pb_int (a := 43) (j := 8) (v := nI 0) p10 (by omega) (by decide)
  have p12 := Pb_int (a := 43) (j := 9) (v := -nI 1) p11 (by omega) (by decide)
  have p13 := Pb_int (a := 43) (j := 10) (v := nI 0) p12 (by omega) (by decide)
  have p14 := Pb_int (a := 43) (j := 11) (v := nI 0) p13 (by omega) (by decide)
  rw [B_53_0]
  simp only [fa_lit]
  rw [k_pfI (by rw [Pb_s h (by omega)]; rfl), Option.bind_some, k_nw (by decide), Option.bind_some, p1.1, k_pfR (by rw [Pb_s p2 (by omega)]; rfl), Option.bind_some, k_nw (by decide), Option.bind_some, p3.1, k_pfR (by rw [Pb_s p4 (by omega)]; rfl), Option.bind_some, k_pfI (by rw [Pb_s p5 (by omega)]; rfl), Option.bind_some, k_pfI (by rw [Pb_s p6 (by omega)]; rfl), Option.bind_some, k_pfI (by rw [Pb_s p7 (by omega)]; rfl), Option.bind_some, k_pfI (by rw [Pb_s p8 (by omega)]; rfl), Option.bind_some, k_pfI (by rw [Pb_s p9 (by omega)]; rfl), Option.bind_some, k_pfI (by rw [Pb_s p10 (by omega)]; rfl), Option.bind_some, k_pfI (by rw [Pb_s p11 (by omega)]; rfl), Option.bind_some, k_pfI (by rw [Pb_s p12 (by omega)]; rfl), Option.bind_some, k_pfZ (by rw [Pb_s p13 (by omega)]; rfl), Option.bind_some]
  exact ⟨_, rfl, Pb_z p14 (by omega)⟩
theorem N60_46 {m : mMu} {z : Nat} {D E : List (Nat × Nat)} {X : Nat × (Nat → Int32)} (h : Pb m 47 z D E X) : ∃ m', CALL 53 [.ref 46] m = some (.inl none, m') ∧ Pb m' 49 (z + 24) ([(46, 2), (46, 1)] ++ D) ([(46, 11), (46, 10), (46, 9), (46, 8), (46, 7), (46, 6), (46, 5), (46, 4), (46, 3), (46, 0)] ++ E) X := by
  have p1 := Pb_int (a := 46) (j := 0) (v := nI 0) h (by omega) (by decide)
  have p2 := Pb_new (k := 12) (sh := (20, 12)) p1 rfl
  have p3 := Pb_ref (a := 46) (j := 1) (v := 47) p2 (by omega) rfl
  have p4 := Pb_new (k := 12) (sh := (20, 12)) p3 rfl
  have p5 := Pb_ref (a := 46) (j := 2) (v := 48) p4 (by omega) rfl
  have p6 := Pb_int (a := 46) (j := 3) (v := nI 0) p5 (by omega) (by decide)
  have p7 := Pb_int (a := 46) (j := 4) (v := nI 0) p6 (by omega) (by decide)
  have p8 := Pb_int (a := 46) (j := 5) (v := nI 0) p7 (by omega) (by decide)
  have p9 := Pb_int (a := 46) (j := 6) (v := nI 0) p8 (by omega) (by decide)
  have p10 := Pb_int (a := 46) (j := 7) (v := nI 0) p9 (by omega) (by decide)
  have p11 := Pb_int (a := 46) (j := 8) (v := nI 0) p10 (by omega) (by decide)
  have p12 := Pb_int (a := 46) (j := 9) (v := -nI 1) p11 (by omega) (by decide)
  have p13 := Pb_int (a := 46) (j := 10) (v := nI 0) p12 (by omega) (by decide)
  have p14 := Pb_int (a := 46) (j := 11) (v := nI 0) p13 (by omega) (by decide)
  rw [B_53_0]
  simp only [fa_lit]
  rw [k_pfI (by rw [Pb_s h (by omega)]; rfl), Option.bind_some, k_nw (by decide), Option.bind_some, p1.1, k_pfR (by rw [Pb_s p2 (by omega)]; rfl), Option.bind_some, k_nw (by decide), Option.bind_some, p3.1, k_pfR (by rw [Pb_s p4 (by omega)]; rfl), Option.bind_some, k_pfI (by rw [Pb_s p5 (by omega)]; rfl), Option.bind_some, k_pfI (by rw [Pb_s p6 (by omega)]; rfl), Option.bind_some, k_pfI (by rw [Pb_s p7 (by omega)]; rfl), Option.bind_some, k_pfI (by rw [Pb_s p8 (by omega)]; rfl), Option.bind_some, k_pfI (by rw [Pb_s p9 (by omega)]; rfl), Option.bind_some, k_pfI (by rw [Pb_s p10 (by omega)]; rfl), Option.bind_some, k_pfI (by rw [Pb_s p11 (by omega)]; rfl), Option.bind_some, k_pfI (by rw [Pb_s p12 (by omega)]; rfl), Option.bind_some, k_pfZ (by rw [Pb_s p13 (by omega)]; rfl), Option.bind_some]
  exact ⟨_, rfl, Pb_z p14 (by omega)⟩
theorem N60_49 {m : mMu} {z : Nat} {D E : List (Nat × Nat)} {X : Nat × (Nat → Int32)} (h : Pb m 50 z D E X) : ∃ m', CALL 53 [.ref 49] m = some (.inl none, m') ∧ Pb m' 52 (z + 24) ([(49, 2), (49, 1)] ++ D) ([(49, 11), (49, 10), (49, 9), (49, 8), (49, 7), (49, 6), (49, 5), (49, 4), (49, 3), (49, 0)] ++ E) X := by
  have p1 := Pb_int (a := 49) (j := 0) (v := nI 0) h (by omega) (by decide)
  have p2 := Pb_new (k := 12) (sh := (20, 12)) p1 rfl
  have p3 := Pb_ref (a := 49) (j := 1) (v := 50) p2 (by omega) rfl
  have p4 := Pb_new (k := 12) (sh := (20, 12)) p3 rfl
  have p5 := Pb_ref (a := 49) (j := 2) (v := 51) p4 (by omega) rfl
  have p6 := Pb_int (a := 49) (j := 3) (v := nI 0) p5 (by omega) (by decide)
  have p7 := Pb_int (a := 49) (j := 4) (v := nI 0) p6 (by omega) (by decide)
  have p8 := Pb_int (a := 49) (j := 5) (v := nI 0) p7 (by omega) (by decide)
  have p9 := Pb_int (a := 49) (j := 6) (v := nI 0) p8 (by omega) (by decide)
  have p10 := Pb_int (a := 49) (j := 7) (v := nI 0) p9 (by omega) (by decide)
  have p11 := Pb_int (a := 49) (j := 8) (v := nI 0) p10 (by omega) (by decide)
  have p12 := Pb_int (a := 49) (j := 9) (v := -nI 1) p11 (by omega) (by decide)
  have p13 := Pb_int (a := 49) (j := 10) (v := nI 0) p12 (by omega) (by decide)
  have p14 := Pb_int (a := 49) (j := 11) (v := nI 0) p13 (by omega) (by decide)
  rw [B_53_0]
  simp only [fa_lit]
  rw [k_pfI (by rw [Pb_s h (by omega)]; rfl), Option.bind_some, k_nw (by decide), Option.bind_some, p1.1, k_pfR (by rw [Pb_s p2 (by omega)]; rfl), Option.bind_some, k_nw (by decide), Option.bind_some, p3.1, k_pfR (by rw [Pb_s p4 (by omega)]; rfl), Option.bind_some, k_pfI (by rw [Pb_s p5 (by omega)]; rfl), Option.bind_some, k_pfI (by rw [Pb_s p6 (by omega)]; rfl), Option.bind_some, k_pfI (by rw [Pb_s p7 (by omega)]; rfl), Option.bind_some, k_pfI (by rw [Pb_s p8 (by omega)]; rfl), Option.bind_some, k_pfI (by rw [Pb_s p9 (by omega)]; rfl), Option.bind_some, k_pfI (by rw [Pb_s p10 (by omega)]; rfl), Option.bind_some, k_pfI (by rw [Pb_s p11 (by omega)]; rfl), Option.bind_some, k_pfI (by rw [Pb_s p12 (by omega)]; rfl), Option.bind_some, k_pfZ (by rw [Pb_s p13 (by omega)]; rfl), Option.bind_some]
  exact ⟨_, rfl, Pb_z p14 (by omega)⟩
theorem N60_52 {m : mMu} {z : Nat} {D E : List (Nat × Nat)} {X : Nat × (Nat → Int32)} (h : Pb m 53 z D E X) : ∃ m', CALL 53 [.ref 52] m = some (.inl none, m') ∧ Pb m' 55 (z + 24) ([(52, 2), (52, 1)] ++ D) ([(52, 11), (52, 10), (52, 9), (52, 8), (52, 7), (52, 6), (52, 5), (52, 4), (52, 3), (52, 0)] ++ E) X := by
  have p1 := Pb_int (a := 52) (j := 0) (v := nI 0) h (by omega) (by decide)
  have p2 := Pb_new (k := 12) (sh := (20, 12)) p1 rfl
  have p3 := Pb_ref (a := 52) (j := 1) (v := 53) p2 (by omega) rfl
  have p4 := Pb_new (k := 12) (sh := (20, 12)) p3 rfl
  have p5 := Pb_ref (a := 52) (j := 2) (v := 54) p4 (by omega) rfl
  have p6 := Pb_int (a := 52) (j := 3) (v := nI 0) p5 (by omega) (by decide)
  have p7 := Pb_int (a := 52) (j := 4) (v := nI 0) p6 (by omega) (by decide)
  have p8 := Pb_int (a := 52) (j := 5) (v := nI 0) p7 (by omega) (by decide)
  have p9 := Pb_int (a := 52) (j := 6) (v := nI 0) p8 (by omega) (by decide)
  have p10 := Pb_int (a := 52) (j := 7) (v := nI 0) p9 (by omega) (by decide)
  have p11 := Pb_int (a := 52) (j := 8) (v := nI 0) p10 (by omega) (by decide)
  have p12 := Pb_int (a := 52) (j := 9) (v := -nI 1) p11 (by omega) (by decide)
  have p13 := Pb_int (a := 52) (j := 10) (v := nI 0) p12 (by omega) (by decide)
  have p14 := Pb_int (a := 52) (j := 11) (v := nI 0) p13 (by omega) (by decide)
  rw [B_53_0]
  simp only [fa_lit]
  rw [k_pfI (by rw [Pb_s h (by omega)]; rfl), Option.bind_some, k_nw (by decide), Option.bind_some, p1.1, k_pfR (by rw [Pb_s p2 (by omega)]; rfl), Option.bind_some, k_nw (by decide), Option.bind_some, p3.1, k_pfR (by rw [Pb_s p4 (by omega)]; rfl), Option.bind_some, k_pfI (by rw [Pb_s p5 (by omega)]; rfl), Option.bind_some, k_pfI (by rw [Pb_s p6 (by omega)]; rfl), Option.bind_some, k_pfI (by rw [Pb_s p7 (by omega)]; rfl), Option.bind_some, k_pfI (by rw [Pb_s p8 (by omega)]; rfl), Option.bind_some, k_pfI (by rw [Pb_s p9 (by omega)]; rfl), Option.bind_some, k_pfI (by rw [Pb_s p10 (by omega)]; rfl), Option.bind_some, k_pfI (by rw [Pb_s p11 (by omega)]; rfl), Option.bind_some, k_pfI (by rw [Pb_s p12 (by omega)]; rfl), Option.bind_some, k_pfZ (by rw [Pb_s p13 (by omega)]; rfl), Option.bind_some]
  exact ⟨_, rfl, Pb_z p14 (by omega)⟩
theorem N60_55 {m : mMu} {z : Nat} {D E : List (Nat × Nat)} {X : Nat × (Nat → Int32)} (h : Pb m 56 z D E X) : ∃ m', CALL 53 [.ref 55] m = some (.inl none, m') ∧ Pb m' 58 (z + 24) ([(55, 2), (55, 1)] ++ D) ([(55, 11), (55, 10), (55, 9), (55, 8), (55, 7), (55, 6), (55, 5), (55, 4), (55, 3), (55, 0)] ++ E) X := by
  have p1 := Pb_int (a := 55) (j := 0) (v := nI 0) h (by omega) (by decide)
  have p2 := Pb_new (k := 12) (sh := (20, 12)) p1 rfl
  have p3 := Pb_ref (a := 55) (j := 1) (v := 56) p2 (by omega) rfl
  have p4 := Pb_new (k := 12) (sh := (20, 12)) p3 rfl
  have p5 := Pb_ref (a := 55) (j := 2) (v := 57) p4 (by omega) rfl
  have p6 := Pb_int (a := 55) (j := 3) (v := nI 0) p5 (by omega) (by decide)
  have p7 := Pb_int (a := 55) (j := 4) (v := nI 0) p6 (by omega) (by decide)
  have p8 := Pb_int (a := 55) (j := 5) (v := nI 0) p7 (by omega) (by decide)
  have p9 := Pb_int (a := 55) (j := 6) (v := nI 0) p8 (by omega) (by decide)
  have p10 := Pb_int (a := 55) (j := 7) (v := nI 0) p9 (by omega) (by decide)
  have p11 := Pb_int (a := 55) (j := 8) (v := nI 0) p10 (by omega) (by decide)
  have p12 := Pb_int (a := 55) (j := 9) (v := -nI 1) p11 (by omega) (by decide)
  have p13 := Pb_int (a := 55) (j := 10) (v := nI 0) p12 (by omega) (by decide)
  have p14 := Pb_int (a := 55) (j := 11) (v := nI 0) p13 (by omega) (by decide)
  rw [B_53_0]
  simp only [fa_lit]
  rw [k_pfI (by rw [Pb_s h (by omega)]; rfl), Option.bind_some, k_nw (by decide), Option.bind_some, p1.1, k_pfR (by rw [Pb_s p2 (by omega)]; rfl), Option.bind_some, k_nw (by decide), Option.bind_some, p3.1, k_pfR (by rw [Pb_s p4 (by omega)]; rfl), Option.bind_some, k_pfI (by rw [Pb_s p5 (by omega)]; rfl), Option.bind_some, k_pfI (by rw [Pb_s p6 (by omega)]; rfl), Option.bind_some, k_pfI (by rw [Pb_s p7 (by omega)]; rfl), Option.bind_some, k_pfI (by rw [Pb_s p8 (by omega)]; rfl), Option.bind_some, k_pfI (by rw [Pb_s p9 (by omega)]; rfl), Option.bind_some, k_pfI (by rw [Pb_s p10 (by omega)]; rfl), Option.bind_some, k_pfI (by rw [Pb_s p11 (by omega)]; rfl), Option.bind_some, k_pfI (by rw [Pb_s p12 (by omega)]; rfl), Option.bind_some, k_pfZ (by rw [Pb_s p13 (by omega)]; rfl), Option.bind_some]
  exact ⟨_, rfl, Pb_z p14 (by omega)⟩
theorem N60_58 {m : mMu} {z : Nat} {D E : List (Nat × Nat)} {X : Nat × (Nat → Int32)} (h : Pb m 59 z D E X) : ∃ m', CALL 53 [.ref 58] m = some (.inl none, m') ∧ Pb m' 61 (z + 24) ([(58, 2), (58, 1)] ++ D) ([(58, 11), (58, 10), (58, 9), (58, 8), (58, 7), (58, 6), (58, 5), (58, 4), (58, 3), (58, 0)] ++ E) X := by
  have p1 := Pb_int (a := 58) (j := 0) (v := nI 0) h (by omega) (by decide)
  have p2 := Pb_new (k := 12) (sh := (20, 12)) p1 rfl
  have p3 := Pb_ref (a := 58) (j := 1) (v := 59) p2 (by omega) rfl
  have p4 := Pb_new (k := 12) (sh := (20, 12)) p3 rfl
  have p5 := Pb_ref (a := 58) (j := 2) (v := 60) p4 (by omega) rfl
  have p6 := Pb_int (a := 58) (j := 3) (v := nI 0) p5 (by omega) (by decide)
  have p7 := Pb_int (a := 58) (j := 4) (v := nI 0) p6 (by omega) (by decide)
  have p8 := Pb_int (a := 58) (j := 5) (v := nI 0) p7 (by omega) (by decide)
  have p9 := Pb_int (a := 58) (j := 6) (v := nI 0) p8 (by omega) (by decide)
  have p10 := Pb_int (a := 58) (j := 7) (v := nI 0) p9 (by omega) (by decide)
  have p11 := Pb_int (a := 58) (j := 8) (v := nI 0) p10 (by omega) (by decide)
  have p12 := Pb_int (a := 58) (j := 9) (v := -nI 1) p11 (by omega) (by decide)
  have p13 := Pb_int (a := 58) (j := 10) (v := nI 0) p12 (by omega) (by decide)
  have p14 := Pb_int (a := 58) (j := 11) (v := nI 0) p13 (by omega) (by decide)
  rw [B_53_0]
  simp only [fa_lit]
  rw [k_pfI (by rw [Pb_s h (by omega)]; rfl), Option.bind_some, k_nw (by decide), Option.bind_some, p1.1, k_pfR (by rw [Pb_s p2 (by omega)]; rfl), Option.bind_some, k_nw (by decide), Option.bind_some, p3.1, k_pfR (by rw [Pb_s p4 (by omega)]; rfl), Option.bind_some, k_pfI (by rw [Pb_s p5 (by omega)]; rfl), Option.bind_some, k_pfI (by rw [Pb_s p6 (by omega)]; rfl), Option.bind_some, k_pfI (by rw [Pb_s p7 (by omega)]; rfl), Option.bind_some, k_pfI (by rw [Pb_s p8 (by omega)]; rfl), Option.bind_some, k_pfI (by rw [Pb_s p9 (by omega)]; rfl), Option.bind_some, k_pfI (by rw [Pb_s p10 (by omega)]; rfl), Option.bind_some, k_pfI (by rw [Pb_s p11 (by omega)]; rfl), Option.bind_some, k_pfI (by rw [Pb_s p12 (by omega)]; rfl), Option.bind_some, k_pfZ (by rw [Pb_s p13 (by omega)]; rfl), Option.bind_some]
  exact ⟨_, rfl, Pb_z p14 (by omega)⟩
theorem N60_61 {m : mMu} {z : Nat} {D E : List (Nat × Nat)} {X : Nat × (Nat → Int32)} (h : Pb m 62 z D E X) : ∃ m', CALL 53 [.ref 61] m = some (.inl none, m') ∧ Pb m' 64 (z + 24) ([(61, 2), (61, 1)] ++ D) ([(61, 11), (61, 10), (61, 9), (61, 8), (61, 7), (61, 6), (61, 5), (61, 4), (61, 3), (61, 0)] ++ E) X := by
  have p1 := Pb_int (a := 61) (j := 0) (v := nI 0) h (by omega) (by decide)
  have p2 := Pb_new (k := 12) (sh := (20, 12)) p1 rfl
  have p3 := Pb_ref (a := 61) (j := 1) (v := 62) p2 (by omega) rfl
  have p4 := Pb_new (k := 12) (sh := (20, 12)) p3 rfl
  have p5 := Pb_ref (a := 61) (j := 2) (v := 63) p4 (by omega) rfl
  have p6 := Pb_int (a := 61) (j := 3) (v := nI 0) p5 (by omega) (by decide)
  have p7 := Pb_int (a := 61) (j := 4) (v := nI 0) p6 (by omega) (by decide)
  have p8 := Pb_int (a := 61) (j := 5) (v := nI 0) p7 (by omega) (by decide)
  have p9 := Pb_int (a := 61) (j := 6) (v := nI 0) p8 (by omega) (by decide)
  have p10 := Pb_int (a := 61) (j := 7) (v := nI 0) p9 (by omega) (by decide)
  have p11 := Pb_int (a := 61) (j := 8) (v := nI 0) p10 (by omega) (by decide)
  have p12 := Pb_int (a := 61) (j := 9) (v := -nI 1) p11 (by omega) (by decide)
  have p13 := Pb_int (a := 61) (j := 10) (v := nI 0) p12 (by omega) (by decide)
  have p14 := Pb_int (a := 61) (j := 11) (v := nI 0) p13 (by omega) (by decide)
  rw [B_53_0]
  simp only [fa_lit]
  rw [k_pfI (by rw [Pb_s h (by omega)]; rfl), Option.bind_some, k_nw (by decide), Option.bind_some, p1.1, k_pfR (by rw [Pb_s p2 (by omega)]; rfl), Option.bind_some, k_nw (by decide), Option.bind_some, p3.1, k_pfR (by rw [Pb_s p4 (by omega)]; rfl), Option.bind_some, k_pfI (by rw [Pb_s p5 (by omega)]; rfl), Option.bind_some, k_pfI (by rw [Pb_s p6 (by omega)]; rfl), Option.bind_some, k_pfI (by rw [Pb_s p7 (by omega)]; rfl), Option.bind_some, k_pfI (by rw [Pb_s p8 (by omega)]; rfl), Option.bind_some, k_pfI (by rw [Pb_s p9 (by omega)]; rfl), Option.bind_some, k_pfI (by rw [Pb_s p10 (by omega)]; rfl), Option.bind_some, k_pfI (by rw [Pb_s p11 (by omega)]; rfl), Option.bind_some, k_pfI (by rw [Pb_s p12 (by omega)]; rfl), Option.bind_some, k_pfZ (by rw [Pb_s p13 (by omega)]; rfl), Option.bind_some]
  exact ⟨_, rfl, Pb_z p14 (by omega)⟩
theorem N60_64 {m : mMu} {z : Nat} {D E : List (Nat × Nat)} {X : Nat × (Nat → Int32)} (h : Pb m 65 z D E X) : ∃ m', CALL 53 [.ref 64] m = some (.inl none, m') ∧ Pb m' 67 (z + 24) ([(64, 2), (64, 1)] ++ D) ([(64, 11), (64, 10), (64, 9), (64, 8), (64, 7), (64, 6), (64, 5), (64, 4), (64, 3), (64, 0)] ++ E) X := by
  have p1 := Pb_int (a := 64) (j := 0) (v := nI 0) h (by omega) (by decide)
  have p2 := Pb_new (k := 12) (sh := (20, 12)) p1 rfl
  have p3 := Pb_ref (a := 64) (j := 1) (v := 65) p2 (by omega) rfl
  have p4 := Pb_new (k := 12) (sh := (20, 12)) p3 rfl
  have p5 := Pb_ref (a := 64) (j := 2) (v := 66) p4 (by omega) rfl
  have p6 := Pb_int (a := 64) (j := 3) (v := nI 0) p5 (by omega) (by decide)
  have p7 := Pb_int (a := 64) (j := 4) (v := nI 0) p6 (by omega) (by decide)
  have p8 := Pb_int (a := 64) (j := 5) (v := nI 0) p7 (by omega) (by decide)
  have p9 := Pb_int (a := 64) (j := 6) (v := nI 0) p8 (by omega) (by decide)
  have p10 := Pb_int (a := 64) (j := 7) (v := nI 0) p9 (by omega) (by decide)
  have p11 := Pb_int (a := 64) (j := 8) (v := nI 0) p10 (by omega) (by decide)
  have p12 := Pb_int (a := 64) (j := 9) (v := -nI 1) p11 (by omega) (by decide)
  have p13 := Pb_int (a := 64) (j := 10) (v := nI 0) p12 (by omega) (by decide)
  have p14 := Pb_int (a := 64) (j := 11) (v := nI 0) p13 (by omega) (by decide)
  rw [B_53_0]
  simp only [fa_lit]
  rw [k_pfI (by rw [Pb_s h (by omega)]; rfl), Option.bind_some, k_nw (by decide), Option.bind_some, p1.1, k_pfR (by rw [Pb_s p2 (by omega)]; rfl), Option.bind_some, k_nw (by decide), Option.bind_some, p3.1, k_pfR (by rw [Pb_s p4 (by omega)]; rfl), Option.bind_some, k_pfI (by rw [Pb_s p5 (by omega)]; rfl), Option.bind_some, k_pfI (by rw [Pb_s p6 (by omega)]; rfl), Option.bind_some, k_pfI (by rw [Pb_s p7 (by omega)]; rfl), Option.bind_some, k_pfI (by rw [Pb_s p8 (by omega)]; rfl), Option.bind_some, k_pfI (by rw [Pb_s p9 (by omega)]; rfl), Option.bind_some, k_pfI (by rw [Pb_s p10 (by omega)]; rfl), Option.bind_some, k_pfI (by rw [Pb_s p11 (by omega)]; rfl), Option.bind_some, k_pfI (by rw [Pb_s p12 (by omega)]; rfl), Option.bind_some, k_pfZ (by rw [Pb_s p13 (by omega)]; rfl), Option.bind_some]
  exact ⟨_, rfl, Pb_z p14 (by omega)⟩
theorem NL_37 {m : mMu} {z : Nat} {D E : List (Nat × Nat)} {X : Nat × (Nat → Int32)} (h : Pb m 37 z D E X) (hd : (1, 4) ∈ D) : ∃ m', RUN 35 103 [some (.ref 1), some (.int (nI 0))] [] m = RUN 35 103 [some (.ref 1), some (.int (nI 1))] [] m' ∧ Pb m' 40 (z + 36) ([(36, 0), (37, 2), (37, 1)] ++ D) ([(37, 11), (37, 10), (37, 9), (37, 8), (37, 7), (37, 6), (37, 5), (37, 4), (37, 3), (37, 0)] ++ E) X := by
  have p1 := Pb_new (k := 12) (sh := (7, 0)) h rfl
  obtain ⟨m2, e2, p2⟩ := N60_37 p1
  have p3 := Pb_ref (a := 36) (j := 0) (v := 37) p2 (by omega) rfl
  rw [B_35_103]
  have hle : ¬ nI 10 ≤ nI 0 := by decide
  simp only [fa_lit, decide_eq_true_eq, hle, if_false]
  rw [k_gfR (by rw [Pb_s h (by omega)]; rfl), Pb_r (v := 36) h hd rfl, Option.bind_some, h.1, e2, oV_s, k_stoR (Pb_s p2 (by omega)) (by rw [Pb_s p2 (by omega)]; rfl) (by decide), Option.bind_some, nI_add]
  exact ⟨_, rfl, p3⟩
theorem NL_40 {m : mMu} {z : Nat} {D E : List (Nat × Nat)} {X : Nat × (Nat → Int32)} (h : Pb m 40 z D E X) (hd : (1, 4) ∈ D) : ∃ m', RUN 35 103 [some (.ref 1), some (.int (nI 1))] [] m = RUN 35 103 [some (.ref 1), some (.int (nI 2))] [] m' ∧ Pb m' 43 (z + 36) ([(36, 1), (40, 2), (40, 1)] ++ D) ([(40, 11), (40, 10), (40, 9), (40, 8), (40, 7), (40, 6), (40, 5), (40, 4), (40, 3), (40, 0)] ++ E) X := by
  have p1 := Pb_new (k := 12) (sh := (7, 0)) h rfl
  obtain ⟨m2, e2, p2⟩ := N60_40 p1
  have p3 := Pb_ref (a := 36) (j := 1) (v := 40) p2 (by omega) rfl
  rw [B_35_103]
  have hle : ¬ nI 10 ≤ nI 1 := by decide
  simp only [fa_lit, decide_eq_true_eq, hle, if_false]
  rw [k_gfR (by rw [Pb_s h (by omega)]; rfl), Pb_r (v := 36) h hd rfl, Option.bind_some, h.1, e2, oV_s, k_stoR (Pb_s p2 (by omega)) (by rw [Pb_s p2 (by omega)]; rfl) (by decide), Option.bind_some, nI_add]
  exact ⟨_, rfl, p3⟩
theorem NL_43 {m : mMu} {z : Nat} {D E : List (Nat × Nat)} {X : Nat × (Nat → Int32)} (h : Pb m 43 z D E X) (hd : (1, 4) ∈ D) : ∃ m', RUN 35 103 [some (.ref 1), some (.int (nI 2))] [] m = RUN 35 103 [some (.ref 1), some (.int (nI 3))] [] m' ∧ Pb m' 46 (z + 36) ([(36, 2), (43, 2), (43, 1)] ++ D) ([(43, 11), (43, 10), (43, 9), (43, 8), (43, 7), (43, 6), (43, 5), (43, 4), (43, 3), (43, 0)] ++ E) X := by
  have p1 := Pb_new (k := 12) (sh := (7, 0)) h rfl
  obtain ⟨m2, e2, p2⟩ := N60_43 p1
  have p3 := Pb_ref (a := 36) (j := 2) (v := 43) p2 (by omega) rfl
  rw [B_35_103]
  have hle : ¬ nI 10 ≤ nI 2 := by decide
  simp only [fa_lit, decide_eq_true_eq, hle, if_false]
  rw [k_gfR (by rw [Pb_s h (by omega)]; rfl), Pb_r (v := 36) h hd rfl, Option.bind_some, h.1, e2, oV_s, k_stoR (Pb_s p2 (by omega)) (by rw [Pb_s p2 (by omega)]; rfl) (by decide), Option.bind_some, nI_add]
  exact ⟨_, rfl, p3⟩
theorem NL_46 {m : mMu} {z : Nat} {D E : List (Nat × Nat)} {X : Nat × (Nat → Int32)} (h : Pb m 46 z D E X) (hd : (1, 4) ∈ D) : ∃ m', RUN 35 103 [some (.ref 1), some (.int (nI 3))] [] m = RUN 35 103 [some (.ref 1), some (.int (nI 4))] [] m' ∧ Pb m' 49 (z + 36) ([(36, 3), (46, 2), (46, 1)] ++ D) ([(46, 11), (46, 10), (46, 9), (46, 8), (46, 7), (46, 6), (46, 5), (46, 4), (46, 3), (46, 0)] ++ E) X := by
  have p1 := Pb_new (k := 12) (sh := (7, 0)) h rfl
  obtain ⟨m2, e2, p2⟩ := N60_46 p1
  have p3 := Pb_ref (a := 36) (j := 3) (v := 46) p2 (by omega) rfl
  rw [B_35_103]
  have hle : ¬ nI 10 ≤ nI 3 := by decide
  simp only [fa_lit, decide_eq_true_eq, hle, if_false]
  rw [k_gfR (by rw [Pb_s h (by omega)]; rfl), Pb_r (v := 36) h hd rfl, Option.bind_some, h.1, e2, oV_s, k_stoR (Pb_s p2 (by omega)) (by rw [Pb_s p2 (by omega)]; rfl) (by decide), Option.bind_some, nI_add]
  exact ⟨_, rfl, p3⟩
theorem NL_49 {m : mMu} {z : Nat} {D E : List (Nat × Nat)} {X : Nat × (Nat → Int32)} (h : Pb m 49 z D E X) (hd : (1, 4) ∈ D) : ∃ m', RUN 35 103 [some (.ref 1), some (.int (nI 4))] [] m = RUN 35 103 [some (.ref 1), some (.int (nI 5))] [] m' ∧ Pb m' 52 (z + 36) ([(36, 4), (49, 2), (49, 1)] ++ D) ([(49, 11), (49, 10), (49, 9), (49, 8), (49, 7), (49, 6), (49, 5), (49, 4), (49, 3), (49, 0)] ++ E) X := by
  have p1 := Pb_new (k := 12) (sh := (7, 0)) h rfl
  obtain ⟨m2, e2, p2⟩ := N60_49 p1
  have p3 := Pb_ref (a := 36) (j := 4) (v := 49) p2 (by omega) rfl
  rw [B_35_103]
  have hle : ¬ nI 10 ≤ nI 4 := by decide
  simp only [fa_lit, decide_eq_true_eq, hle, if_false]
  rw [k_gfR (by rw [Pb_s h (by omega)]; rfl), Pb_r (v := 36) h hd rfl, Option.bind_some, h.1, e2, oV_s, k_stoR (Pb_s p2 (by omega)) (by rw [Pb_s p2 (by omega)]; rfl) (by decide), Option.bind_some, nI_add]
  exact ⟨_, rfl, p3⟩
theorem NL_52 {m : mMu} {z : Nat} {D E : List (Nat × Nat)} {X : Nat × (Nat → Int32)} (h : Pb m 52 z D E X) (hd : (1, 4) ∈ D) : ∃ m', RUN 35 103 [some (.ref 1), some (.int (nI 5))] [] m = RUN 35 103 [some (.ref 1), some (.int (nI 6))] [] m' ∧ Pb m' 55 (z + 36) ([(36, 5), (52, 2), (52, 1)] ++ D) ([(52, 11), (52, 10), (52, 9), (52, 8), (52, 7), (52, 6), (52, 5), (52, 4), (52, 3), (52, 0)] ++ E) X := by
  have p1 := Pb_new (k := 12) (sh := (7, 0)) h rfl
  obtain ⟨m2, e2, p2⟩ := N60_52 p1
  have p3 := Pb_ref (a := 36) (j := 5) (v := 52) p2 (by omega) rfl
  rw [B_35_103]
  have hle : ¬ nI 10 ≤ nI 5 := by decide
  simp only [fa_lit, decide_eq_true_eq, hle, if_false]
  rw [k_gfR (by rw [Pb_s h (by omega)]; rfl), Pb_r (v := 36) h hd rfl, Option.bind_some, h.1, e2, oV_s, k_stoR (Pb_s p2 (by omega)) (by rw [Pb_s p2 (by omega)]; rfl) (by decide), Option.bind_some, nI_add]
  exact ⟨_, rfl, p3⟩
theorem NL_55 {m : mMu} {z : Nat} {D E : List (Nat × Nat)} {X : Nat × (Nat → Int32)} (h : Pb m 55 z D E X) (hd : (1, 4) ∈ D) : ∃ m', RUN 35 103 [some (.ref 1), some (.int (nI 6))] [] m = RUN 35 103 [some (.ref 1), some (.int (nI 7))] [] m' ∧ Pb m' 58 (z + 36) ([(36, 6), (55, 2), (55, 1)] ++ D) ([(55, 11), (55, 10), (55, 9), (55, 8), (55, 7), (55, 6), (55, 5), (55, 4), (55, 3), (55, 0)] ++ E) X := by
  have p1 := Pb_new (k := 12) (sh := (7, 0)) h rfl
  obtain ⟨m2, e2, p2⟩ := N60_55 p1
  have p3 := Pb_ref (a := 36) (j := 6) (v := 55) p2 (by omega) rfl
  rw [B_35_103]
  have hle : ¬ nI 10 ≤ nI 6 := by decide
  simp only [fa_lit, decide_eq_true_eq, hle, if_false]
  rw [k_gfR (by rw [Pb_s h (by omega)]; rfl), Pb_r (v := 36) h hd rfl, Option.bind_some, h.1, e2, oV_s, k_stoR (Pb_s p2 (by omega)) (by rw [Pb_s p2 (by omega)]; rfl) (by decide), Option.bind_some, nI_add]
  exact ⟨_, rfl, p3⟩
theorem NL_58 {m : mMu} {z : Nat} {D E : List (Nat × Nat)} {X : Nat × (Nat → Int32)} (h : Pb m 58 z D E X) (hd : (1, 4) ∈ D) : ∃ m', RUN 35 103 [some (.ref 1), some (.int (nI 7))] [] m = RUN 35 103 [some (.ref 1), some (.int (nI 8))] [] m' ∧ Pb m' 61 (z + 36) ([(36, 7), (58, 2), (58, 1)] ++ D) ([(58, 11), (58, 10), (58, 9), (58, 8), (58, 7), (58, 6), (58, 5), (58, 4), (58, 3), (58, 0)] ++ E) X := by
  have p1 := Pb_new (k := 12) (sh := (7, 0)) h rfl
  obtain ⟨m2, e2, p2⟩ := N60_58 p1
  have p3 := Pb_ref (a := 36) (j := 7) (v := 58) p2 (by omega) rfl
  rw [B_35_103]
  have hle : ¬ nI 10 ≤ nI 7 := by decide
  simp only [fa_lit, decide_eq_true_eq, hle, if_false]
  rw [k_gfR (by rw [Pb_s h (by omega)]; rfl), Pb_r (v := 36) h hd rfl, Option.bind_some, h.1, e2, oV_s, k_stoR (Pb_s p2 (by omega)) (by rw [Pb_s p2 (by omega)]; rfl) (by decide), Option.bind_some, nI_add]
  exact ⟨_, rfl, p3⟩
theorem NL_61 {m : mMu} {z : Nat} {D E : List (Nat × Nat)} {X : Nat × (Nat → Int32)} (h : Pb m 61 z D E X) (hd : (1, 4) ∈ D) : ∃ m', RUN 35 103 [some (.ref 1), some (.int (nI 8))] [] m = RUN 35 103 [some (.ref 1), some (.int (nI 9))] [] m' ∧ Pb m' 64 (z + 36) ([(36, 8), (61, 2), (61, 1)] ++ D) ([(61, 11), (61, 10), (61, 9), (61, 8), (61, 7), (61, 6), (61, 5), (61, 4), (61, 3), (61, 0)] ++ E) X := by
  have p1 := Pb_new (k := 12) (sh := (7, 0)) h rfl
  obtain ⟨m2, e2, p2⟩ := N60_61 p1
  have p3 := Pb_ref (a := 36) (j := 8) (v := 61) p2 (by omega) rfl
  rw [B_35_103]
  have hle : ¬ nI 10 ≤ nI 8 := by decide
  simp only [fa_lit, decide_eq_true_eq, hle, if_false]
  rw [k_gfR (by rw [Pb_s h (by omega)]; rfl), Pb_r (v := 36) h hd rfl, Option.bind_some, h.1, e2, oV_s, k_stoR (Pb_s p2 (by omega)) (by rw [Pb_s p2 (by omega)]; rfl) (by decide), Option.bind_some, nI_add]
  exact ⟨_, rfl, p3⟩
theorem NL_64 {m : mMu} {z : Nat} {D E : List (Nat × Nat)} {X : Nat × (Nat → Int32)} (h : Pb m 64 z D E X) (hd : (1, 4) ∈ D) : ∃ m', RUN 35 103 [some (.ref 1), some (.int (nI 9))] [] m = RUN 35 103 [some (.ref 1), some (.int (nI 10))] [] m' ∧ Pb m' 67 (z + 36) ([(36, 9), (64, 2), (64, 1)] ++ D) ([(64, 11), (64, 10), (64, 9), (64, 8), (64, 7), (64, 6), (64, 5), (64, 4), (64, 3), (64, 0)] ++ E) X := by
  have p1 := Pb_new (k := 12) (sh := (7, 0)) h rfl
  obtain ⟨m2, e2, p2⟩ := N60_64 p1
  have p3 := Pb_ref (a := 36) (j := 9) (v := 64) p2 (by omega) rfl
  rw [B_35_103]
  have hle : ¬ nI 10 ≤ nI 9 := by decide
  simp only [fa_lit, decide_eq_true_eq, hle, if_false]
  rw [k_gfR (by rw [Pb_s h (by omega)]; rfl), Pb_r (v := 36) h hd rfl, Option.bind_some, h.1, e2, oV_s, k_stoR (Pb_s p2 (by omega)) (by rw [Pb_s p2 (by omega)]; rfl) (by decide), Option.bind_some, nI_add]
  exact ⟨_, rfl, p3⟩
theorem N40_1 {m : mMu} {z : Nat} {D E : List (Nat × Nat)} {X : Nat × (Nat → Int32)} (h : Pb m 2 z D E X) : ∃ m', CALL 35 [.ref 1] m = some (.inl none, m') ∧ Pb m' 67 (z + 2339) ([(36, 9), (64, 2), (64, 1), (36, 8), (61, 2), (61, 1), (36, 7), (58, 2), (58, 1), (36, 6), (55, 2), (55, 1), (36, 5), (52, 2), (52, 1), (36, 4), (49, 2), (49, 1), (36, 3), (46, 2), (46, 1), (36, 2), (43, 2), (43, 1), (36, 1), (40, 2), (40, 1), (36, 0), (37, 2), (37, 1), (1, 4), (1, 3), (31, 3), (31, 2), (31, 1), (31, 0), (1, 2), (23, 6), (23, 5), (23, 4), (23, 3), (23, 2), (23, 1), (23, 0), (1, 1), (17, 4), (17, 3), (17, 2), (17, 1), (17, 0), (1, 0), (2, 6), (2, 5), (11, 3), (11, 2), (11, 1), (11, 0), (2, 4), (6, 3), (6, 2), (6, 1), (6, 0), (2, 2), (2, 1), (2, 0)] ++ D) ([(64, 11), (64, 10), (64, 9), (64, 8), (64, 7), (64, 6), (64, 5), (64, 4), (64, 3), (64, 0), (61, 11), (61, 10), (61, 9), (61, 8), (61, 7), (61, 6), (61, 5), (61, 4), (61, 3), (61, 0), (58, 11), (58, 10), (58, 9), (58, 8), (58, 7), (58, 6), (58, 5), (58, 4), (58, 3), (58, 0), (55, 11), (55, 10), (55, 9), (55, 8), (55, 7), (55, 6), (55, 5), (55, 4), (55, 3), (55, 0), (52, 11), (52, 10), (52, 9), (52, 8), (52, 7), (52, 6), (52, 5), (52, 4), (52, 3), (52, 0), (49, 11), (49, 10), (49, 9), (49, 8), (49, 7), (49, 6), (49, 5), (49, 4), (49, 3), (49, 0), (46, 11), (46, 10), (46, 9), (46, 8), (46, 7), (46, 6), (46, 5), (46, 4), (46, 3), (46, 0), (43, 11), (43, 10), (43, 9), (43, 8), (43, 7), (43, 6), (43, 5), (43, 4), (43, 3), (43, 0), (40, 11), (40, 10), (40, 9), (40, 8), (40, 7), (40, 6), (40, 5), (40, 4), (40, 3), (40, 0), (37, 11), (37, 10), (37, 9), (37, 8), (37, 7), (37, 6), (37, 5), (37, 4), (37, 3), (37, 0), (1, 12), (1, 11), (1, 10), (1, 9), (1, 8), (1, 7), (1, 6), (1, 5), (31, 4), (23, 7), (17, 6), (17, 5), (11, 4), (6, 4), (2, 3)] ++ E) X := by
  have a1 := Pb_new (k := 7) (sh := (2, 0)) h rfl
  obtain ⟨m1, e1, b1⟩ := N14_1 a1
  have c1 := Pb_ref (a := 1) (j := 0) (v := 2) b1 (by omega) rfl
  have a2 := Pb_new (k := 7) (sh := (0, 0)) c1 rfl
  obtain ⟨m2, e2, b2⟩ := N1_1 a2
  have c2 := Pb_ref (a := 1) (j := 1) (v := 17) b2 (by omega) rfl
  have a3 := Pb_new (k := 8) (sh := (5, 0)) c2 rfl
  obtain ⟨m3, e3, b3⟩ := N33_1 a3
  have c3 := Pb_ref (a := 1) (j := 2) (v := 23) b3 (by omega) rfl
  have a4 := Pb_new (k := 5) (sh := (3, 0)) c3 rfl
  obtain ⟨m4, e4, b4⟩ := N21_1 a4
  have c4 := Pb_ref (a := 1) (j := 3) (v := 31) b4 (by omega) rfl
  have a5 := Pb_new (k := 10) (sh := (23, 10)) c4 rfl
  have c5 := Pb_ref (a := 1) (j := 4) (v := 36) a5 (by omega) rfl
  have d0 := Pb_int (a := 1) (j := 5) (v := nI 0) c5 (by omega) (by decide)
  have d1 := Pb_int (a := 1) (j := 6) (v := nI 100) d0 (by omega) (by decide)
  have d2 := Pb_int (a := 1) (j := 7) (v := nI 300) d1 (by omega) (by decide)
  have d3 := Pb_int (a := 1) (j := 8) (v := nI 8) d2 (by omega) (by decide)
  have d4 := Pb_int (a := 1) (j := 9) (v := nI 4) d3 (by omega) (by decide)
  have d5 := Pb_int (a := 1) (j := 10) (v := nI 0) d4 (by omega) (by decide)
  have d6 := Pb_int (a := 1) (j := 11) (v := nI 0) d5 (by omega) (by decide)
  have d7 := Pb_int (a := 1) (j := 12) (v := nI 0) d6 (by omega) (by decide)
  obtain ⟨n0, f0, g0⟩ := NL_37 d7 (by simp)
  obtain ⟨n1, f1, g1⟩ := NL_40 g0 (by simp)
  obtain ⟨n2, f2, g2⟩ := NL_43 g1 (by simp)
  obtain ⟨n3, f3, g3⟩ := NL_46 g2 (by simp)
  obtain ⟨n4, f4, g4⟩ := NL_49 g3 (by simp)
  obtain ⟨n5, f5, g5⟩ := NL_52 g4 (by simp)
  obtain ⟨n6, f6, g6⟩ := NL_55 g5 (by simp)
  obtain ⟨n7, f7, g7⟩ := NL_58 g6 (by simp)
  obtain ⟨n8, f8, g8⟩ := NL_61 g7 (by simp)
  obtain ⟨n9, f9, g9⟩ := NL_64 g8 (by simp)
  rw [B_35_0]
  simp only [fa_lit]
  rw [h.1, e1, oV_s, k_pfR (by rw [Pb_s b1 (by omega)]; rfl), Option.bind_some, c1.1, e2, oV_s, k_pfR (by rw [Pb_s b2 (by omega)]; rfl), Option.bind_some, c2.1, e3, oV_s, k_pfR (by rw [Pb_s b3 (by omega)]; rfl), Option.bind_some, c3.1, e4, oV_s, k_pfR (by rw [Pb_s b4 (by omega)]; rfl), Option.bind_some, k_nw (by decide), Option.bind_some, c4.1, k_pfR (by rw [Pb_s a5 (by omega)]; rfl), Option.bind_some, k_pfI (by rw [Pb_s c5 (by omega)]; rfl), Option.bind_some, k_pfI (by rw [Pb_s d0 (by omega)]; rfl), Option.bind_some, k_pfI (by rw [Pb_s d1 (by omega)]; rfl), Option.bind_some, k_pfI (by rw [Pb_s d2 (by omega)]; rfl), Option.bind_some, k_pfI (by rw [Pb_s d3 (by omega)]; rfl), Option.bind_some, k_pfI (by rw [Pb_s d4 (by omega)]; rfl), Option.bind_some, k_pfI (by rw [Pb_s d5 (by omega)]; rfl), Option.bind_some, k_pfI (by rw [Pb_s d6 (by omega)]; rfl), Option.bind_some, f0, f1, f2, f3, f4, f5, f6, f7, f8, f9, B_35_103]
  have hle : nI 10 ≤ nI 10 := by decide
  simp only [fa_lit, decide_eq_true_eq, hle, if_true]
  exact ⟨_, rfl, Pb_z g9 (by omega)⟩
theorem N9_72 {m : mMu} {z : Nat} {D E : List (Nat × Nat)} {X : Nat × (Nat → Int32)} (h : Pb m 73 z D E X) : ∃ m', CALL 8 [.ref 72] m = some (.inl none, m') ∧ Pb m' 77 (z + 40) ([(72, 3), (72, 2), (72, 1), (72, 0)] ++ D) ([(72, 4)] ++ E) X := by
  have p1 := Pb_new (k := 10) (sh := (20, 10)) h rfl
  have p2 := Pb_ref (a := 72) (j := 0) (v := 73) p1 (by omega) rfl
  have p3 := Pb_new (k := 10) (sh := (20, 10)) p2 rfl
  have p4 := Pb_ref (a := 72) (j := 1) (v := 74) p3 (by omega) rfl
  have p5 := Pb_new (k := 10) (sh := (20, 10)) p4 rfl
  have p6 := Pb_ref (a := 72) (j := 2) (v := 75) p5 (by omega) rfl
  have p7 := Pb_new (k := 10) (sh := (20, 10)) p6 rfl
  have p8 := Pb_ref (a := 72) (j := 3) (v := 76) p7 (by omega) rfl
  have p9 := Pb_int (a := 72) (j := 4) (v := nI 0) p8 (by omega) (by decide)
  rw [B_8_0]
  simp only [fa_lit]
  rw [k_nw (by decide), Option.bind_some, h.1, k_pfR (by rw [Pb_s p1 (by omega)]; rfl), Option.bind_some, k_nw (by decide), Option.bind_some, p2.1, k_pfR (by rw [Pb_s p3 (by omega)]; rfl), Option.bind_some, k_nw (by decide), Option.bind_some, p4.1, k_pfR (by rw [Pb_s p5 (by omega)]; rfl), Option.bind_some, k_nw (by decide), Option.bind_some, p6.1, k_pfR (by rw [Pb_s p7 (by omega)]; rfl), Option.bind_some, k_pfI (by rw [Pb_s p8 (by omega)]; rfl), Option.bind_some]
  exact ⟨_, rfl, Pb_z p9 (by omega)⟩
theorem N9_77 {m : mMu} {z : Nat} {D E : List (Nat × Nat)} {X : Nat × (Nat → Int32)} (h : Pb m 78 z D E X) : ∃ m', CALL 8 [.ref 77] m = some (.inl none, m') ∧ Pb m' 82 (z + 40) ([(77, 3), (77, 2), (77, 1), (77, 0)] ++ D) ([(77, 4)] ++ E) X := by
  have p1 := Pb_new (k := 10) (sh := (20, 10)) h rfl
  have p2 := Pb_ref (a := 77) (j := 0) (v := 78) p1 (by omega) rfl
  have p3 := Pb_new (k := 10) (sh := (20, 10)) p2 rfl
  have p4 := Pb_ref (a := 77) (j := 1) (v := 79) p3 (by omega) rfl
  have p5 := Pb_new (k := 10) (sh := (20, 10)) p4 rfl
  have p6 := Pb_ref (a := 77) (j := 2) (v := 80) p5 (by omega) rfl
  have p7 := Pb_new (k := 10) (sh := (20, 10)) p6 rfl
  have p8 := Pb_ref (a := 77) (j := 3) (v := 81) p7 (by omega) rfl
  have p9 := Pb_int (a := 77) (j := 4) (v := nI 0) p8 (by omega) (by decide)
  rw [B_8_0]
  simp only [fa_lit]
  rw [k_nw (by decide), Option.bind_some, h.1, k_pfR (by rw [Pb_s p1 (by omega)]; rfl), Option.bind_some, k_nw (by decide), Option.bind_some, p2.1, k_pfR (by rw [Pb_s p3 (by omega)]; rfl), Option.bind_some, k_nw (by decide), Option.bind_some, p4.1, k_pfR (by rw [Pb_s p5 (by omega)]; rfl), Option.bind_some, k_nw (by decide), Option.bind_some, p6.1, k_pfR (by rw [Pb_s p7 (by omega)]; rfl), Option.bind_some, k_pfI (by rw [Pb_s p8 (by omega)]; rfl), Option.bind_some]
  exact ⟨_, rfl, Pb_z p9 (by omega)⟩
theorem N14_67 {m : mMu} {z : Nat} {D E : List (Nat × Nat)} {X : Nat × (Nat → Int32)} (h : Pb m 69 z D E X) : ∃ m', CALL 12 [.ref 68] m = some (.inl none, m') ∧ Pb m' 83 (z + 502) ([(68, 6), (68, 5), (77, 3), (77, 2), (77, 1), (77, 0), (68, 4), (72, 3), (72, 2), (72, 1), (72, 0), (68, 2), (68, 1), (68, 0)] ++ D) ([(77, 4), (72, 4), (68, 3)] ++ E) X := by
  have p1 := Pb_new (k := 4) (sh := (20, 4)) h rfl
  have p2 := Pb_ref (a := 68) (j := 0) (v := 69) p1 (by omega) rfl
  have p3 := Pb_new (k := 4) (sh := (20, 4)) p2 rfl
  have p4 := Pb_ref (a := 68) (j := 1) (v := 70) p3 (by omega) rfl
  have p5 := Pb_new (k := 4) (sh := (20, 4)) p4 rfl
  have p6 := Pb_ref (a := 68) (j := 2) (v := 71) p5 (by omega) rfl
  have p7 := Pb_int (a := 68) (j := 3) (v := nI 0) p6 (by omega) (by decide)
  have p8 := Pb_new (k := 5) (sh := (1, 0)) p7 rfl
  obtain ⟨m9, e9, p9⟩ := N9_72 p8
  have p10 := Pb_ref (a := 68) (j := 4) (v := 72) p9 (by omega) rfl
  have p11 := Pb_new (k := 5) (sh := (1, 0)) p10 rfl
  obtain ⟨m12, e12, p12⟩ := N9_77 p11
  have p13 := Pb_ref (a := 68) (j := 5) (v := 77) p12 (by omega) rfl
  have p14 := Pb_new (k := 400) (sh := (20, 400)) p13 rfl
  have p15 := Pb_ref (a := 68) (j := 6) (v := 82) p14 (by omega) rfl
  rw [B_12_0]
  simp only [fa_lit]
  rw [k_nw (by decide), Option.bind_some, h.1, k_pfR (by rw [Pb_s p1 (by omega)]; rfl), Option.bind_some, k_nw (by decide), Option.bind_some, p2.1, k_pfR (by rw [Pb_s p3 (by omega)]; rfl), Option.bind_some, k_nw (by decide), Option.bind_some, p4.1, k_pfR (by rw [Pb_s p5 (by omega)]; rfl), Option.bind_some, k_pfI (by rw [Pb_s p6 (by omega)]; rfl), Option.bind_some, p7.1, e9, oV_s, k_pfR (by rw [Pb_s p9 (by omega)]; rfl), Option.bind_some, p10.1, e12, oV_s, k_pfR (by rw [Pb_s p12 (by omega)]; rfl), Option.bind_some, k_nw (by decide), Option.bind_some, p13.1, k_pfR (by rw [Pb_s p14 (by omega)]; rfl), Option.bind_some]
  exact ⟨_, rfl, Pb_z p15 (by omega)⟩
theorem N1_67 {m : mMu} {z : Nat} {D E : List (Nat × Nat)} {X : Nat × (Nat → Int32)} (h : Pb m 84 z D E X) : ∃ m', CALL 1 [.ref 83] m = some (.inl none, m') ∧ Pb m' 89 (z + 50) ([(83, 4), (83, 3), (83, 2), (83, 1), (83, 0)] ++ D) ([(83, 6), (83, 5)] ++ E) X := by
  have p1 := Pb_new (k := 10) (sh := (20, 10)) h rfl
  have p2 := Pb_ref (a := 83) (j := 0) (v := 84) p1 (by omega) rfl
  have p3 := Pb_new (k := 10) (sh := (20, 10)) p2 rfl
  have p4 := Pb_ref (a := 83) (j := 1) (v := 85) p3 (by omega) rfl
  have p5 := Pb_new (k := 10) (sh := (20, 10)) p4 rfl
  have p6 := Pb_ref (a := 83) (j := 2) (v := 86) p5 (by omega) rfl
  have p7 := Pb_new (k := 10) (sh := (20, 10)) p6 rfl
  have p8 := Pb_ref (a := 83) (j := 3) (v := 87) p7 (by omega) rfl
  have p9 := Pb_new (k := 10) (sh := (20, 10)) p8 rfl
  have p10 := Pb_ref (a := 83) (j := 4) (v := 88) p9 (by omega) rfl
  have p11 := Pb_int (a := 83) (j := 5) (v := nI 0) p10 (by omega) (by decide)
  have p12 := Pb_int (a := 83) (j := 6) (v := nI 0) p11 (by omega) (by decide)
  rw [B_1_0]
  simp only [fa_lit]
  rw [k_nw (by decide), Option.bind_some, h.1, k_pfR (by rw [Pb_s p1 (by omega)]; rfl), Option.bind_some, k_nw (by decide), Option.bind_some, p2.1, k_pfR (by rw [Pb_s p3 (by omega)]; rfl), Option.bind_some, k_nw (by decide), Option.bind_some, p4.1, k_pfR (by rw [Pb_s p5 (by omega)]; rfl), Option.bind_some, k_nw (by decide), Option.bind_some, p6.1, k_pfR (by rw [Pb_s p7 (by omega)]; rfl), Option.bind_some, k_nw (by decide), Option.bind_some, p8.1, k_pfR (by rw [Pb_s p9 (by omega)]; rfl), Option.bind_some, k_pfI (by rw [Pb_s p10 (by omega)]; rfl), Option.bind_some, k_pfZ (by rw [Pb_s p11 (by omega)]; rfl), Option.bind_some]
  exact ⟨_, rfl, Pb_z p12 (by omega)⟩
theorem N33_67 {m : mMu} {z : Nat} {D E : List (Nat × Nat)} {X : Nat × (Nat → Int32)} (h : Pb m 90 z D E X) : ∃ m', CALL 29 [.ref 89] m = some (.inl none, m') ∧ Pb m' 97 (z + 910) ([(89, 6), (89, 5), (89, 4), (89, 3), (89, 2), (89, 1), (89, 0)] ++ D) ([(89, 7)] ++ E) X := by
  have p1 := Pb_new (k := 130) (sh := (20, 130)) h rfl
  have p2 := Pb_ref (a := 89) (j := 0) (v := 90) p1 (by omega) rfl
  have p3 := Pb_new (k := 130) (sh := (20, 130)) p2 rfl
  have p4 := Pb_ref (a := 89) (j := 1) (v := 91) p3 (by omega) rfl
  have p5 := Pb_new (k := 130) (sh := (20, 130)) p4 rfl
  have p6 := Pb_ref (a := 89) (j := 2) (v := 92) p5 (by omega) rfl
  have p7 := Pb_new (k := 130) (sh := (20, 130)) p6 rfl
  have p8 := Pb_ref (a := 89) (j := 3) (v := 93) p7 (by omega) rfl
  have p9 := Pb_new (k := 130) (sh := (20, 130)) p8 rfl
  have p10 := Pb_ref (a := 89) (j := 4) (v := 94) p9 (by omega) rfl
  have p11 := Pb_new (k := 130) (sh := (20, 130)) p10 rfl
  have p12 := Pb_ref (a := 89) (j := 5) (v := 95) p11 (by omega) rfl
  have p13 := Pb_new (k := 130) (sh := (20, 130)) p12 rfl
  have p14 := Pb_ref (a := 89) (j := 6) (v := 96) p13 (by omega) rfl
  have p15 := Pb_int (a := 89) (j := 7) (v := nI 0) p14 (by omega) (by decide)
  rw [B_29_0]
  simp only [fa_lit]
  rw [k_nw (by decide), Option.bind_some, h.1, k_pfR (by rw [Pb_s p1 (by omega)]; rfl), Option.bind_some, k_nw (by decide), Option.bind_some, p2.1, k_pfR (by rw [Pb_s p3 (by omega)]; rfl), Option.bind_some, k_nw (by decide), Option.bind_some, p4.1, k_pfR (by rw [Pb_s p5 (by omega)]; rfl), Option.bind_some, k_nw (by decide), Option.bind_some, p6.1, k_pfR (by rw [Pb_s p7 (by omega)]; rfl), Option.bind_some, k_nw (by decide), Option.bind_some, p8.1, k_pfR (by rw [Pb_s p9 (by omega)]; rfl), Option.bind_some, k_nw (by decide), Option.bind_some, p10.1, k_pfR (by rw [Pb_s p11 (by omega)]; rfl), Option.bind_some, k_nw (by decide), Option.bind_some, p12.1, k_pfR (by rw [Pb_s p13 (by omega)]; rfl), Option.bind_some, k_pfI (by rw [Pb_s p14 (by omega)]; rfl), Option.bind_some]
  exact ⟨_, rfl, Pb_z p15 (by omega)⟩
theorem N21_67 {m : mMu} {z : Nat} {D E : List (Nat × Nat)} {X : Nat × (Nat → Int32)} (h : Pb m 98 z D E X) : ∃ m', CALL 18 [.ref 97] m = some (.inl none, m') ∧ Pb m' 102 (z + 480) ([(97, 3), (97, 2), (97, 1), (97, 0)] ++ D) ([(97, 4)] ++ E) X := by
  have p1 := Pb_new (k := 120) (sh := (20, 120)) h rfl
  have p2 := Pb_ref (a := 97) (j := 0) (v := 98) p1 (by omega) rfl
  have p3 := Pb_new (k := 120) (sh := (20, 120)) p2 rfl
  have p4 := Pb_ref (a := 97) (j := 1) (v := 99) p3 (by omega) rfl
  have p5 := Pb_new (k := 120) (sh := (20, 120)) p4 rfl
  have p6 := Pb_ref (a := 97) (j := 2) (v := 100) p5 (by omega) rfl
  have p7 := Pb_new (k := 120) (sh := (20, 120)) p6 rfl
  have p8 := Pb_ref (a := 97) (j := 3) (v := 101) p7 (by omega) rfl
  have p9 := Pb_int (a := 97) (j := 4) (v := nI 0) p8 (by omega) (by decide)
  rw [B_18_0]
  simp only [fa_lit]
  rw [k_nw (by decide), Option.bind_some, h.1, k_pfR (by rw [Pb_s p1 (by omega)]; rfl), Option.bind_some, k_nw (by decide), Option.bind_some, p2.1, k_pfR (by rw [Pb_s p3 (by omega)]; rfl), Option.bind_some, k_nw (by decide), Option.bind_some, p4.1, k_pfR (by rw [Pb_s p5 (by omega)]; rfl), Option.bind_some, k_nw (by decide), Option.bind_some, p6.1, k_pfR (by rw [Pb_s p7 (by omega)]; rfl), Option.bind_some, k_pfI (by rw [Pb_s p8 (by omega)]; rfl), Option.bind_some]
  exact ⟨_, rfl, Pb_z p9 (by omega)⟩
theorem N60_103 {m : mMu} {z : Nat} {D E : List (Nat × Nat)} {X : Nat × (Nat → Int32)} (h : Pb m 104 z D E X) : ∃ m', CALL 53 [.ref 103] m = some (.inl none, m') ∧ Pb m' 106 (z + 24) ([(103, 2), (103, 1)] ++ D) ([(103, 11), (103, 10), (103, 9), (103, 8), (103, 7), (103, 6), (103, 5), (103, 4), (103, 3), (103, 0)] ++ E) X := by
  have p1 := Pb_int (a := 103) (j := 0) (v := nI 0) h (by omega) (by decide)
  have p2 := Pb_new (k := 12) (sh := (20, 12)) p1 rfl
  have p3 := Pb_ref (a := 103) (j := 1) (v := 104) p2 (by omega) rfl
  have p4 := Pb_new (k := 12) (sh := (20, 12)) p3 rfl
  have p5 := Pb_ref (a := 103) (j := 2) (v := 105) p4 (by omega) rfl
  have p6 := Pb_int (a := 103) (j := 3) (v := nI 0) p5 (by omega) (by decide)
  have p7 := Pb_int (a := 103) (j := 4) (v := nI 0) p6 (by omega) (by decide)
  have p8 := Pb_int (a := 103) (j := 5) (v := nI 0) p7 (by omega) (by decide)
  have p9 := Pb_int (a := 103) (j := 6) (v := nI 0) p8 (by omega) (by decide)
  have p10 := Pb_int (a := 103) (j := 7) (v := nI 0) p9 (by omega) (by decide)
  have p11 := Pb_int (a := 103) (j := 8) (v := nI 0) p10 (by omega) (by decide)
  have p12 := Pb_int (a := 103) (j := 9) (v := -nI 1) p11 (by omega) (by decide)
  have p13 := Pb_int (a := 103) (j := 10) (v := nI 0) p12 (by omega) (by decide)
  have p14 := Pb_int (a := 103) (j := 11) (v := nI 0) p13 (by omega) (by decide)
  rw [B_53_0]
  simp only [fa_lit]
  rw [k_pfI (by rw [Pb_s h (by omega)]; rfl), Option.bind_some, k_nw (by decide), Option.bind_some, p1.1, k_pfR (by rw [Pb_s p2 (by omega)]; rfl), Option.bind_some, k_nw (by decide), Option.bind_some, p3.1, k_pfR (by rw [Pb_s p4 (by omega)]; rfl), Option.bind_some, k_pfI (by rw [Pb_s p5 (by omega)]; rfl), Option.bind_some, k_pfI (by rw [Pb_s p6 (by omega)]; rfl), Option.bind_some, k_pfI (by rw [Pb_s p7 (by omega)]; rfl), Option.bind_some, k_pfI (by rw [Pb_s p8 (by omega)]; rfl), Option.bind_some, k_pfI (by rw [Pb_s p9 (by omega)]; rfl), Option.bind_some, k_pfI (by rw [Pb_s p10 (by omega)]; rfl), Option.bind_some, k_pfI (by rw [Pb_s p11 (by omega)]; rfl), Option.bind_some, k_pfI (by rw [Pb_s p12 (by omega)]; rfl), Option.bind_some, k_pfZ (by rw [Pb_s p13 (by omega)]; rfl), Option.bind_some]
  exact ⟨_, rfl, Pb_z p14 (by omega)⟩
theorem N60_106 {m : mMu} {z : Nat} {D E : List (Nat × Nat)} {X : Nat × (Nat → Int32)} (h : Pb m 107 z D E X) : ∃ m', CALL 53 [.ref 106] m = some (.inl none, m') ∧ Pb m' 109 (z + 24) ([(106, 2), (106, 1)] ++ D) ([(106, 11), (106, 10), (106, 9), (106, 8), (106, 7), (106, 6), (106, 5), (106, 4), (106, 3), (106, 0)] ++ E) X := by
  have p1 := Pb_int (a := 106) (j := 0) (v := nI 0) h (by omega) (by decide)
  have p2 := Pb_new (k := 12) (sh := (20, 12)) p1 rfl
  have p3 := Pb_ref (a := 106) (j := 1) (v := 107) p2 (by omega) rfl
  have p4 := Pb_new (k := 12) (sh := (20, 12)) p3 rfl
  have p5 := Pb_ref (a := 106) (j := 2) (v := 108) p4 (by omega) rfl
  have p6 := Pb_int (a := 106) (j := 3) (v := nI 0) p5 (by omega) (by decide)
  have p7 := Pb_int (a := 106) (j := 4) (v := nI 0) p6 (by omega) (by decide)
  have p8 := Pb_int (a := 106) (j := 5) (v := nI 0) p7 (by omega) (by decide)
  have p9 := Pb_int (a := 106) (j := 6) (v := nI 0) p8 (by omega) (by decide)
  have p10 := Pb_int (a := 106) (j := 7) (v := nI 0) p9 (by omega) (by decide)
  have p11 := Pb_int (a := 106) (j := 8) (v := nI 0) p10 (by omega) (by decide)
  have p12 := Pb_int (a := 106) (j := 9) (v := -nI 1) p11 (by omega) (by decide)
  have p13 := Pb_int (a := 106) (j := 10) (v := nI 0) p12 (by omega) (by decide)
  have p14 := Pb_int (a := 106) (j := 11) (v := nI 0) p13 (by omega) (by decide)
  rw [B_53_0]
  simp only [fa_lit]
  rw [k_pfI (by rw [Pb_s h (by omega)]; rfl), Option.bind_some, k_nw (by decide), Option.bind_some, p1.1, k_pfR (by rw [Pb_s p2 (by omega)]; rfl), Option.bind_some, k_nw (by decide), Option.bind_some, p3.1, k_pfR (by rw [Pb_s p4 (by omega)]; rfl), Option.bind_some, k_pfI (by rw [Pb_s p5 (by omega)]; rfl), Option.bind_some, k_pfI (by rw [Pb_s p6 (by omega)]; rfl), Option.bind_some, k_pfI (by rw [Pb_s p7 (by omega)]; rfl), Option.bind_some, k_pfI (by rw [Pb_s p8 (by omega)]; rfl), Option.bind_some, k_pfI (by rw [Pb_s p9 (by omega)]; rfl), Option.bind_some, k_pfI (by rw [Pb_s p10 (by omega)]; rfl), Option.bind_some, k_pfI (by rw [Pb_s p11 (by omega)]; rfl), Option.bind_some, k_pfI (by rw [Pb_s p12 (by omega)]; rfl), Option.bind_some, k_pfZ (by rw [Pb_s p13 (by omega)]; rfl), Option.bind_some]
  exact ⟨_, rfl, Pb_z p14 (by omega)⟩
theorem N60_109 {m : mMu} {z : Nat} {D E : List (Nat × Nat)} {X : Nat × (Nat → Int32)} (h : Pb m 110 z D E X) : ∃ m', CALL 53 [.ref 109] m = some (.inl none, m') ∧ Pb m' 112 (z + 24) ([(109, 2), (109, 1)] ++ D) ([(109, 11), (109, 10), (109, 9), (109, 8), (109, 7), (109, 6), (109, 5), (109, 4), (109, 3), (109, 0)] ++ E) X := by
  have p1 := Pb_int (a := 109) (j := 0) (v := nI 0) h (by omega) (by decide)
  have p2 := Pb_new (k := 12) (sh := (20, 12)) p1 rfl
  have p3 := Pb_ref (a := 109) (j := 1) (v := 110) p2 (by omega) rfl
  have p4 := Pb_new (k := 12) (sh := (20, 12)) p3 rfl
  have p5 := Pb_ref (a := 109) (j := 2) (v := 111) p4 (by omega) rfl
  have p6 := Pb_int (a := 109) (j := 3) (v := nI 0) p5 (by omega) (by decide)
  have p7 := Pb_int (a := 109) (j := 4) (v := nI 0) p6 (by omega) (by decide)
  have p8 := Pb_int (a := 109) (j := 5) (v := nI 0) p7 (by omega) (by decide)
  have p9 := Pb_int (a := 109) (j := 6) (v := nI 0) p8 (by omega) (by decide)
  have p10 := Pb_int (a := 109) (j := 7) (v := nI 0) p9 (by omega) (by decide)
  have p11 := Pb_int (a := 109) (j := 8) (v := nI 0) p10 (by omega) (by decide)
  have p12 := Pb_int (a := 109) (j := 9) (v := -nI 1) p11 (by omega) (by decide)
  have p13 := Pb_int (a := 109) (j := 10) (v := nI 0) p12 (by omega) (by decide)
  have p14 := Pb_int (a := 109) (j := 11) (v := nI 0) p13 (by omega) (by decide)
  rw [B_53_0]
  simp only [fa_lit]
  rw [k_pfI (by rw [Pb_s h (by omega)]; rfl), Option.bind_some, k_nw (by decide), Option.bind_some, p1.1, k_pfR (by rw [Pb_s p2 (by omega)]; rfl), Option.bind_some, k_nw (by decide), Option.bind_some, p3.1, k_pfR (by rw [Pb_s p4 (by omega)]; rfl), Option.bind_some, k_pfI (by rw [Pb_s p5 (by omega)]; rfl), Option.bind_some, k_pfI (by rw [Pb_s p6 (by omega)]; rfl), Option.bind_some, k_pfI (by rw [Pb_s p7 (by omega)]; rfl), Option.bind_some, k_pfI (by rw [Pb_s p8 (by omega)]; rfl), Option.bind_some, k_pfI (by rw [Pb_s p9 (by omega)]; rfl), Option.bind_some, k_pfI (by rw [Pb_s p10 (by omega)]; rfl), Option.bind_some, k_pfI (by rw [Pb_s p11 (by omega)]; rfl), Option.bind_some, k_pfI (by rw [Pb_s p12 (by omega)]; rfl), Option.bind_some, k_pfZ (by rw [Pb_s p13 (by omega)]; rfl), Option.bind_some]
  exact ⟨_, rfl, Pb_z p14 (by omega)⟩
theorem N60_112 {m : mMu} {z : Nat} {D E : List (Nat × Nat)} {X : Nat × (Nat → Int32)} (h : Pb m 113 z D E X) : ∃ m', CALL 53 [.ref 112] m = some (.inl none, m') ∧ Pb m' 115 (z + 24) ([(112, 2), (112, 1)] ++ D) ([(112, 11), (112, 10), (112, 9), (112, 8), (112, 7), (112, 6), (112, 5), (112, 4), (112, 3), (112, 0)] ++ E) X := by
  have p1 := Pb_int (a := 112) (j := 0) (v := nI 0) h (by omega) (by decide)
  have p2 := Pb_new (k := 12) (sh := (20, 12)) p1 rfl
  have p3 := Pb_ref (a := 112) (j := 1) (v := 113) p2 (by omega) rfl
  have p4 := Pb_new (k := 12) (sh := (20, 12)) p3 rfl
  have p5 := Pb_ref (a := 112) (j := 2) (v := 114) p4 (by omega) rfl
  have p6 := Pb_int (a := 112) (j := 3) (v := nI 0) p5 (by omega) (by decide)
  have p7 := Pb_int (a := 112) (j := 4) (v := nI 0) p6 (by omega) (by decide)
  have p8 := Pb_int (a := 112) (j := 5) (v := nI 0) p7 (by omega) (by decide)
  have p9 := Pb_int (a := 112) (j := 6) (v := nI 0) p8 (by omega) (by decide)
  have p10 := Pb_int (a := 112) (j := 7) (v := nI 0) p9 (by omega) (by decide)
  have p11 := Pb_int (a := 112) (j := 8) (v := nI 0) p10 (by omega) (by decide)
  have p12 := Pb_int (a := 112) (j := 9) (v := -nI 1) p11 (by omega) (by decide)
  have p13 := Pb_int (a := 112) (j := 10) (v := nI 0) p12 (by omega) (by decide)
  have p14 := Pb_int (a := 112) (j := 11) (v := nI 0) p13 (by omega) (by decide)
  rw [B_53_0]
  simp only [fa_lit]
  rw [k_pfI (by rw [Pb_s h (by omega)]; rfl), Option.bind_some, k_nw (by decide), Option.bind_some, p1.1, k_pfR (by rw [Pb_s p2 (by omega)]; rfl), Option.bind_some, k_nw (by decide), Option.bind_some, p3.1, k_pfR (by rw [Pb_s p4 (by omega)]; rfl), Option.bind_some, k_pfI (by rw [Pb_s p5 (by omega)]; rfl), Option.bind_some, k_pfI (by rw [Pb_s p6 (by omega)]; rfl), Option.bind_some, k_pfI (by rw [Pb_s p7 (by omega)]; rfl), Option.bind_some, k_pfI (by rw [Pb_s p8 (by omega)]; rfl), Option.bind_some, k_pfI (by rw [Pb_s p9 (by omega)]; rfl), Option.bind_some, k_pfI (by rw [Pb_s p10 (by omega)]; rfl), Option.bind_some, k_pfI (by rw [Pb_s p11 (by omega)]; rfl), Option.bind_some, k_pfI (by rw [Pb_s p12 (by omega)]; rfl), Option.bind_some, k_pfZ (by rw [Pb_s p13 (by omega)]; rfl), Option.bind_some]
  exact ⟨_, rfl, Pb_z p14 (by omega)⟩
theorem N60_115 {m : mMu} {z : Nat} {D E : List (Nat × Nat)} {X : Nat × (Nat → Int32)} (h : Pb m 116 z D E X) : ∃ m', CALL 53 [.ref 115] m = some (.inl none, m') ∧ Pb m' 118 (z + 24) ([(115, 2), (115, 1)] ++ D) ([(115, 11), (115, 10), (115, 9), (115, 8), (115, 7), (115, 6), (115, 5), (115, 4), (115, 3), (115, 0)] ++ E) X := by
  have p1 := Pb_int (a := 115) (j := 0) (v := nI 0) h (by omega) (by decide)
  have p2 := Pb_new (k := 12) (sh := (20, 12)) p1 rfl
  have p3 := Pb_ref (a := 115) (j := 1) (v := 116) p2 (by omega) rfl
  have p4 := Pb_new (k := 12) (sh := (20, 12)) p3 rfl
  have p5 := Pb_ref (a := 115) (j := 2) (v := 117) p4 (by omega) rfl
  have p6 := Pb_int (a := 115) (j := 3) (v := nI 0) p5 (by omega) (by decide)
  have p7 := Pb_int (a := 115) (j := 4) (v := nI 0) p6 (by omega) (by decide)
  have p8 := Pb_int (a := 115) (j := 5) (v := nI 0) p7 (by omega) (by decide)
  have p9 := Pb_int (a := 115) (j := 6) (v := nI 0) p8 (by omega) (by decide)
  have p10 := Pb_int (a := 115) (j := 7) (v := nI 0) p9 (by omega) (by decide)
  have p11 := Pb_int (a := 115) (j := 8) (v := nI 0) p10 (by omega) (by decide)
  have p12 := Pb_int (a := 115) (j := 9) (v := -nI 1) p11 (by omega) (by decide)
  have p13 := Pb_int (a := 115) (j := 10) (v := nI 0) p12 (by omega) (by decide)
  have p14 := Pb_int (a := 115) (j := 11) (v := nI 0) p13 (by omega) (by decide)
  rw [B_53_0]
  simp only [fa_lit]
  rw [k_pfI (by rw [Pb_s h (by omega)]; rfl), Option.bind_some, k_nw (by decide), Option.bind_some, p1.1, k_pfR (by rw [Pb_s p2 (by omega)]; rfl), Option.bind_some, k_nw (by decide), Option.bind_some, p3.1, k_pfR (by rw [Pb_s p4 (by omega)]; rfl), Option.bind_some, k_pfI (by rw [Pb_s p5 (by omega)]; rfl), Option.bind_some, k_pfI (by rw [Pb_s p6 (by omega)]; rfl), Option.bind_some, k_pfI (by rw [Pb_s p7 (by omega)]; rfl), Option.bind_some, k_pfI (by rw [Pb_s p8 (by omega)]; rfl), Option.bind_some, k_pfI (by rw [Pb_s p9 (by omega)]; rfl), Option.bind_some, k_pfI (by rw [Pb_s p10 (by omega)]; rfl), Option.bind_some, k_pfI (by rw [Pb_s p11 (by omega)]; rfl), Option.bind_some, k_pfI (by rw [Pb_s p12 (by omega)]; rfl), Option.bind_some, k_pfZ (by rw [Pb_s p13 (by omega)]; rfl), Option.bind_some]
  exact ⟨_, rfl, Pb_z p14 (by omega)⟩
theorem N60_118 {m : mMu} {z : Nat} {D E : List (Nat × Nat)} {X : Nat × (Nat → Int32)} (h : Pb m 119 z D E X) : ∃ m', CALL 53 [.ref 118] m = some (.inl none, m') ∧ Pb m' 121 (z + 24) ([(118, 2), (118, 1)] ++ D) ([(118, 11), (118, 10), (118, 9), (118, 8), (118, 7), (118, 6), (118, 5), (118, 4), (118, 3), (118, 0)] ++ E) X := by
  have p1 := Pb_int (a := 118) (j := 0) (v := nI 0) h (by omega) (by decide)
  have p2 := Pb_new (k := 12) (sh := (20, 12)) p1 rfl
  have p3 := Pb_ref (a := 118) (j := 1) (v := 119) p2 (by omega) rfl
  have p4 := Pb_new (k := 12) (sh := (20, 12)) p3 rfl
  have p5 := Pb_ref (a := 118) (j := 2) (v := 120) p4 (by omega) rfl
  have p6 := Pb_int (a := 118) (j := 3) (v := nI 0) p5 (by omega) (by decide)
  have p7 := Pb_int (a := 118) (j := 4) (v := nI 0) p6 (by omega) (by decide)
  have p8 := Pb_int (a := 118) (j := 5) (v := nI 0) p7 (by omega) (by decide)
  have p9 := Pb_int (a := 118) (j := 6) (v := nI 0) p8 (by omega) (by decide)
  have p10 := Pb_int (a := 118) (j := 7) (v := nI 0) p9 (by omega) (by decide)
  have p11 := Pb_int (a := 118) (j := 8) (v := nI 0) p10 (by omega) (by decide)
  have p12 := Pb_int (a := 118) (j := 9) (v := -nI 1) p11 (by omega) (by decide)
  have p13 := Pb_int (a := 118) (j := 10) (v := nI 0) p12 (by omega) (by decide)
  have p14 := Pb_int (a := 118) (j := 11) (v := nI 0) p13 (by omega) (by decide)
  rw [B_53_0]
  simp only [fa_lit]
  rw [k_pfI (by rw [Pb_s h (by omega)]; rfl), Option.bind_some, k_nw (by decide), Option.bind_some, p1.1, k_pfR (by rw [Pb_s p2 (by omega)]; rfl), Option.bind_some, k_nw (by decide), Option.bind_some, p3.1, k_pfR (by rw [Pb_s p4 (by omega)]; rfl), Option.bind_some, k_pfI (by rw [Pb_s p5 (by omega)]; rfl), Option.bind_some, k_pfI (by rw [Pb_s p6 (by omega)]; rfl), Option.bind_some, k_pfI (by rw [Pb_s p7 (by omega)]; rfl), Option.bind_some, k_pfI (by rw [Pb_s p8 (by omega)]; rfl), Option.bind_some, k_pfI (by rw [Pb_s p9 (by omega)]; rfl), Option.bind_some, k_pfI (by rw [Pb_s p10 (by omega)]; rfl), Option.bind_some, k_pfI (by rw [Pb_s p11 (by omega)]; rfl), Option.bind_some, k_pfI (by rw [Pb_s p12 (by omega)]; rfl), Option.bind_some, k_pfZ (by rw [Pb_s p13 (by omega)]; rfl), Option.bind_some]
  exact ⟨_, rfl, Pb_z p14 (by omega)⟩
theorem N60_121 {m : mMu} {z : Nat} {D E : List (Nat × Nat)} {X : Nat × (Nat → Int32)} (h : Pb m 122 z D E X) : ∃ m', CALL 53 [.ref 121] m = some (.inl none, m') ∧ Pb m' 124 (z + 24) ([(121, 2), (121, 1)] ++ D) ([(121, 11), (121, 10), (121, 9), (121, 8), (121, 7), (121, 6), (121, 5), (121, 4), (121, 3), (121, 0)] ++ E) X := by
  have p1 := Pb_int (a := 121) (j := 0) (v := nI 0) h (by omega) (by decide)
  have p2 := Pb_new (k := 12) (sh := (20, 12)) p1 rfl
  have p3 := Pb_ref (a := 121) (j := 1) (v := 122) p2 (by omega) rfl
  have p4 := Pb_new (k := 12) (sh := (20, 12)) p3 rfl
  have p5 := Pb_ref (a := 121) (j := 2) (v := 123) p4 (by omega) rfl
  have p6 := Pb_int (a := 121) (j := 3) (v := nI 0) p5 (by omega) (by decide)
  have p7 := Pb_int (a := 121) (j := 4) (v := nI 0) p6 (by omega) (by decide)
  have p8 := Pb_int (a := 121) (j := 5) (v := nI 0) p7 (by omega) (by decide)
  have p9 := Pb_int (a := 121) (j := 6) (v := nI 0) p8 (by omega) (by decide)
  have p10 := Pb_int (a := 121) (j := 7) (v := nI 0) p9 (by omega) (by decide)
  have p11 := Pb_int (a := 121) (j := 8) (v := nI 0) p10 (by omega) (by decide)
  have p12 := Pb_int (a := 121) (j := 9) (v := -nI 1) p11 (by omega) (by decide)
  have p13 := Pb_int (a := 121) (j := 10) (v := nI 0) p12 (by omega) (by decide)
  have p14 := Pb_int (a := 121) (j := 11) (v := nI 0) p13 (by omega) (by decide)
  rw [B_53_0]
  simp only [fa_lit]
  rw [k_pfI (by rw [Pb_s h (by omega)]; rfl), Option.bind_some, k_nw (by decide), Option.bind_some, p1.1, k_pfR (by rw [Pb_s p2 (by omega)]; rfl), Option.bind_some, k_nw (by decide), Option.bind_some, p3.1, k_pfR (by rw [Pb_s p4 (by omega)]; rfl), Option.bind_some, k_pfI (by rw [Pb_s p5 (by omega)]; rfl), Option.bind_some, k_pfI (by rw [Pb_s p6 (by omega)]; rfl), Option.bind_some, k_pfI (by rw [Pb_s p7 (by omega)]; rfl), Option.bind_some, k_pfI (by rw [Pb_s p8 (by omega)]; rfl), Option.bind_some, k_pfI (by rw [Pb_s p9 (by omega)]; rfl), Option.bind_some, k_pfI (by rw [Pb_s p10 (by omega)]; rfl), Option.bind_some, k_pfI (by rw [Pb_s p11 (by omega)]; rfl), Option.bind_some, k_pfI (by rw [Pb_s p12 (by omega)]; rfl), Option.bind_some, k_pfZ (by rw [Pb_s p13 (by omega)]; rfl), Option.bind_some]
  exact ⟨_, rfl, Pb_z p14 (by omega)⟩
theorem N60_124 {m : mMu} {z : Nat} {D E : List (Nat × Nat)} {X : Nat × (Nat → Int32)} (h : Pb m 125 z D E X) : ∃ m', CALL 53 [.ref 124] m = some (.inl none, m') ∧ Pb m' 127 (z + 24) ([(124, 2), (124, 1)] ++ D) ([(124, 11), (124, 10), (124, 9), (124, 8), (124, 7), (124, 6), (124, 5), (124, 4), (124, 3), (124, 0)] ++ E) X := by
  have p1 := Pb_int (a := 124) (j := 0) (v := nI 0) h (by omega) (by decide)
  have p2 := Pb_new (k := 12) (sh := (20, 12)) p1 rfl
  have p3 := Pb_ref (a := 124) (j := 1) (v := 125) p2 (by omega) rfl
  have p4 := Pb_new (k := 12) (sh := (20, 12)) p3 rfl
  have p5 := Pb_ref (a := 124) (j := 2) (v := 126) p4 (by omega) rfl
  have p6 := Pb_int (a := 124) (j := 3) (v := nI 0) p5 (by omega) (by decide)
  have p7 := Pb_int (a := 124) (j := 4) (v := nI 0) p6 (by omega) (by decide)
  have p8 := Pb_int (a := 124) (j := 5) (v := nI 0) p7 (by omega) (by decide)
  have p9 := Pb_int (a := 124) (j := 6) (v := nI 0) p8 (by omega) (by decide)
  have p10 := Pb_int (a := 124) (j := 7) (v := nI 0) p9 (by omega) (by decide)
  have p11 := Pb_int (a := 124) (j := 8) (v := nI 0) p10 (by omega) (by decide)
  have p12 := Pb_int (a := 124) (j := 9) (v := -nI 1) p11 (by omega) (by decide)
  have p13 := Pb_int (a := 124) (j := 10) (v := nI 0) p12 (by omega) (by decide)
  have p14 := Pb_int (a := 124) (j := 11) (v := nI 0) p13 (by omega) (by decide)
  rw [B_53_0]
  simp only [fa_lit]
  rw [k_pfI (by rw [Pb_s h (by omega)]; rfl), Option.bind_some, k_nw (by decide), Option.bind_some, p1.1, k_pfR (by rw [Pb_s p2 (by omega)]; rfl), Option.bind_some, k_nw (by decide), Option.bind_some, p3.1, k_pfR (by rw [Pb_s p4 (by omega)]; rfl), Option.bind_some, k_pfI (by rw [Pb_s p5 (by omega)]; rfl), Option.bind_some, k_pfI (by rw [Pb_s p6 (by omega)]; rfl), Option.bind_some, k_pfI (by rw [Pb_s p7 (by omega)]; rfl), Option.bind_some, k_pfI (by rw [Pb_s p8 (by omega)]; rfl), Option.bind_some, k_pfI (by rw [Pb_s p9 (by omega)]; rfl), Option.bind_some, k_pfI (by rw [Pb_s p10 (by omega)]; rfl), Option.bind_some, k_pfI (by rw [Pb_s p11 (by omega)]; rfl), Option.bind_some, k_pfI (by rw [Pb_s p12 (by omega)]; rfl), Option.bind_some, k_pfZ (by rw [Pb_s p13 (by omega)]; rfl), Option.bind_some]
  exact ⟨_, rfl, Pb_z p14 (by omega)⟩
theorem N60_127 {m : mMu} {z : Nat} {D E : List (Nat × Nat)} {X : Nat × (Nat → Int32)} (h : Pb m 128 z D E X) : ∃ m', CALL 53 [.ref 127] m = some (.inl none, m') ∧ Pb m' 130 (z + 24) ([(127, 2), (127, 1)] ++ D) ([(127, 11), (127, 10), (127, 9), (127, 8), (127, 7), (127, 6), (127, 5), (127, 4), (127, 3), (127, 0)] ++ E) X := by
  have p1 := Pb_int (a := 127) (j := 0) (v := nI 0) h (by omega) (by decide)
  have p2 := Pb_new (k := 12) (sh := (20, 12)) p1 rfl
  have p3 := Pb_ref (a := 127) (j := 1) (v := 128) p2 (by omega) rfl
  have p4 := Pb_new (k := 12) (sh := (20, 12)) p3 rfl
  have p5 := Pb_ref (a := 127) (j := 2) (v := 129) p4 (by omega) rfl
  have p6 := Pb_int (a := 127) (j := 3) (v := nI 0) p5 (by omega) (by decide)
  have p7 := Pb_int (a := 127) (j := 4) (v := nI 0) p6 (by omega) (by decide)
  have p8 := Pb_int (a := 127) (j := 5) (v := nI 0) p7 (by omega) (by decide)
  have p9 := Pb_int (a := 127) (j := 6) (v := nI 0) p8 (by omega) (by decide)
  have p10 := Pb_int (a := 127) (j := 7) (v := nI 0) p9 (by omega) (by decide)
  have p11 := Pb_int (a := 127) (j := 8) (v := nI 0) p10 (by omega) (by decide)
  have p12 := Pb_int (a := 127) (j := 9) (v := -nI 1) p11 (by omega) (by decide)
  have p13 := Pb_int (a := 127) (j := 10) (v := nI 0) p12 (by omega) (by decide)
  have p14 := Pb_int (a := 127) (j := 11) (v := nI 0) p13 (by omega) (by decide)
  rw [B_53_0]
  simp only [fa_lit]
  rw [k_pfI (by rw [Pb_s h (by omega)]; rfl), Option.bind_some, k_nw (by decide), Option.bind_some, p1.1, k_pfR (by rw [Pb_s p2 (by omega)]; rfl), Option.bind_some, k_nw (by decide), Option.bind_some, p3.1, k_pfR (by rw [Pb_s p4 (by omega)]; rfl), Option.bind_some, k_pfI (by rw [Pb_s p5 (by omega)]; rfl), Option.bind_some, k_pfI (by rw [Pb_s p6 (by omega)]; rfl), Option.bind_some, k_pfI (by rw [Pb_s p7 (by omega)]; rfl), Option.bind_some, k_pfI (by rw [Pb_s p8 (by omega)]; rfl), Option.bind_some, k_pfI (by rw [Pb_s p9 (by omega)]; rfl), Option.bind_some, k_pfI (by rw [Pb_s p10 (by omega)]; rfl), Option.bind_some, k_pfI (by rw [Pb_s p11 (by omega)]; rfl), Option.bind_some, k_pfI (by rw [Pb_s p12 (by omega)]; rfl), Option.bind_some, k_pfZ (by rw [Pb_s p13 (by omega)]; rfl), Option.bind_some]
  exact ⟨_, rfl, Pb_z p14 (by omega)⟩
theorem N60_130 {m : mMu} {z : Nat} {D E : List (Nat × Nat)} {X : Nat × (Nat → Int32)} (h : Pb m 131 z D E X) : ∃ m', CALL 53 [.ref 130] m = some (.inl none, m') ∧ Pb m' 133 (z + 24) ([(130, 2), (130, 1)] ++ D) ([(130, 11), (130, 10), (130, 9), (130, 8), (130, 7), (130, 6), (130, 5), (130, 4), (130, 3), (130, 0)] ++ E) X := by
  have p1 := Pb_int (a := 130) (j := 0) (v := nI 0) h (by omega) (by decide)
  have p2 := Pb_new (k := 12) (sh := (20, 12)) p1 rfl
  have p3 := Pb_ref (a := 130) (j := 1) (v := 131) p2 (by omega) rfl
  have p4 := Pb_new (k := 12) (sh := (20, 12)) p3 rfl
  have p5 := Pb_ref (a := 130) (j := 2) (v := 132) p4 (by omega) rfl
  have p6 := Pb_int (a := 130) (j := 3) (v := nI 0) p5 (by omega) (by decide)
  have p7 := Pb_int (a := 130) (j := 4) (v := nI 0) p6 (by omega) (by decide)
  have p8 := Pb_int (a := 130) (j := 5) (v := nI 0) p7 (by omega) (by decide)
  have p9 := Pb_int (a := 130) (j := 6) (v := nI 0) p8 (by omega) (by decide)
  have p10 := Pb_int (a := 130) (j := 7) (v := nI 0) p9 (by omega) (by decide)
  have p11 := Pb_int (a := 130) (j := 8) (v := nI 0) p10 (by omega) (by decide)
  have p12 := Pb_int (a := 130) (j := 9) (v := -nI 1) p11 (by omega) (by decide)
  have p13 := Pb_int (a := 130) (j := 10) (v := nI 0) p12 (by omega) (by decide)
  have p14 := Pb_int (a := 130) (j := 11) (v := nI 0) p13 (by omega) (by decide)
  rw [B_53_0]
  simp only [fa_lit]
  rw [k_pfI (by rw [Pb_s h (by omega)]; rfl), Option.bind_some, k_nw (by decide), Option.bind_some, p1.1, k_pfR (by rw [Pb_s p2 (by omega)]; rfl), Option.bind_some, k_nw (by decide), Option.bind_some, p3.1, k_pfR (by rw [Pb_s p4 (by omega)]; rfl), Option.bind_some, k_pfI (by rw [Pb_s p5 (by omega)]; rfl), Option.bind_some, k_pfI (by rw [Pb_s p6 (by omega)]; rfl), Option.bind_some, k_pfI (by rw [Pb_s p7 (by omega)]; rfl), Option.bind_some, k_pfI (by rw [Pb_s p8 (by omega)]; rfl), Option.bind_some, k_pfI (by rw [Pb_s p9 (by omega)]; rfl), Option.bind_some, k_pfI (by rw [Pb_s p10 (by omega)]; rfl), Option.bind_some, k_pfI (by rw [Pb_s p11 (by omega)]; rfl), Option.bind_some, k_pfI (by rw [Pb_s p12 (by omega)]; rfl), Option.bind_some, k_pfZ (by rw [Pb_s p13 (by omega)]; rfl), Option.bind_some]
  exact ⟨_, rfl, Pb_z p14 (by omega)⟩
theorem NL_103 {m : mMu} {z : Nat} {D E : List (Nat × Nat)} {X : Nat × (Nat → Int32)} (h : Pb m 103 z D E X) (hd : (67, 4) ∈ D) : ∃ m', RUN 35 103 [some (.ref 67), some (.int (nI 0))] [] m = RUN 35 103 [some (.ref 67), some (.int (nI 1))] [] m' ∧ Pb m' 106 (z + 36) ([(102, 0), (103, 2), (103, 1)] ++ D) ([(103, 11), (103, 10), (103, 9), (103, 8), (103, 7), (103, 6), (103, 5), (103, 4), (103, 3), (103, 0)] ++ E) X := by
  have p1 := Pb_new (k := 12) (sh := (7, 0)) h rfl
  obtain ⟨m2, e2, p2⟩ := N60_103 p1
  have p3 := Pb_ref (a := 102) (j := 0) (v := 103) p2 (by omega) rfl
  rw [B_35_103]
  have hle : ¬ nI 10 ≤ nI 0 := by decide
  simp only [fa_lit, decide_eq_true_eq, hle, if_false]
  rw [k_gfR (by rw [Pb_s h (by omega)]; rfl), Pb_r (v := 102) h hd rfl, Option.bind_some, h.1, e2, oV_s, k_stoR (Pb_s p2 (by omega)) (by rw [Pb_s p2 (by omega)]; rfl) (by decide), Option.bind_some, nI_add]
  exact ⟨_, rfl, p3⟩
theorem NL_106 {m : mMu} {z : Nat} {D E : List (Nat × Nat)} {X : Nat × (Nat → Int32)} (h : Pb m 106 z D E X) (hd : (67, 4) ∈ D) : ∃ m', RUN 35 103 [some (.ref 67), some (.int (nI 1))] [] m = RUN 35 103 [some (.ref 67), some (.int (nI 2))] [] m' ∧ Pb m' 109 (z + 36) ([(102, 1), (106, 2), (106, 1)] ++ D) ([(106, 11), (106, 10), (106, 9), (106, 8), (106, 7), (106, 6), (106, 5), (106, 4), (106, 3), (106, 0)] ++ E) X := by
  have p1 := Pb_new (k := 12) (sh := (7, 0)) h rfl
  obtain ⟨m2, e2, p2⟩ := N60_106 p1
  have p3 := Pb_ref (a := 102) (j := 1) (v := 106) p2 (by omega) rfl
  rw [B_35_103]
  have hle : ¬ nI 10 ≤ nI 1 := by decide
  simp only [fa_lit, decide_eq_true_eq, hle, if_false]
  rw [k_gfR (by rw [Pb_s h (by omega)]; rfl), Pb_r (v := 102) h hd rfl, Option.bind_some, h.1, e2, oV_s, k_stoR (Pb_s p2 (by omega)) (by rw [Pb_s p2 (by omega)]; rfl) (by decide), Option.bind_some, nI_add]
  exact ⟨_, rfl, p3⟩
theorem NL_109 {m : mMu} {z : Nat} {D E : List (Nat × Nat)} {X : Nat × (Nat → Int32)} (h : Pb m 109 z D E X) (hd : (67, 4) ∈ D) : ∃ m', RUN 35 103 [some (.ref 67), some (.int (nI 2))] [] m = RUN 35 103 [some (.ref 67), some (.int (nI 3))] [] m' ∧ Pb m' 112 (z + 36) ([(102, 2), (109, 2), (109, 1)] ++ D) ([(109, 11), (109, 10), (109, 9), (109, 8), (109, 7), (109, 6), (109, 5), (109, 4), (109, 3), (109, 0)] ++ E) X := by
  have p1 := Pb_new (k := 12) (sh := (7, 0)) h rfl
  obtain ⟨m2, e2, p2⟩ := N60_109 p1
  have p3 := Pb_ref (a := 102) (j := 2) (v := 109) p2 (by omega) rfl
  rw [B_35_103]
  have hle : ¬ nI 10 ≤ nI 2 := by decide
  simp only [fa_lit, decide_eq_true_eq, hle, if_false]
  rw [k_gfR (by rw [Pb_s h (by omega)]; rfl), Pb_r (v := 102) h hd rfl, Option.bind_some, h.1, e2, oV_s, k_stoR (Pb_s p2 (by omega)) (by rw [Pb_s p2 (by omega)]; rfl) (by decide), Option.bind_some, nI_add]
  exact ⟨_, rfl, p3⟩
theorem NL_112 {m : mMu} {z : Nat} {D E : List (Nat × Nat)} {X : Nat × (Nat → Int32)} (h : Pb m 112 z D E X) (hd : (67, 4) ∈ D) : ∃ m', RUN 35 103 [some (.ref 67), some (.int (nI 3))] [] m = RUN 35 103 [some (.ref 67), some (.int (nI 4))] [] m' ∧ Pb m' 115 (z + 36) ([(102, 3), (112, 2), (112, 1)] ++ D) ([(112, 11), (112, 10), (112, 9), (112, 8), (112, 7), (112, 6), (112, 5), (112, 4), (112, 3), (112, 0)] ++ E) X := by
  have p1 := Pb_new (k := 12) (sh := (7, 0)) h rfl
  obtain ⟨m2, e2, p2⟩ := N60_112 p1
  have p3 := Pb_ref (a := 102) (j := 3) (v := 112) p2 (by omega) rfl
  rw [B_35_103]
  have hle : ¬ nI 10 ≤ nI 3 := by decide
  simp only [fa_lit, decide_eq_true_eq, hle, if_false]
  rw [k_gfR (by rw [Pb_s h (by omega)]; rfl), Pb_r (v := 102) h hd rfl, Option.bind_some, h.1, e2, oV_s, k_stoR (Pb_s p2 (by omega)) (by rw [Pb_s p2 (by omega)]; rfl) (by decide), Option.bind_some, nI_add]
  exact ⟨_, rfl, p3⟩
theorem NL_115 {m : mMu} {z : Nat} {D E : List (Nat × Nat)} {X : Nat × (Nat → Int32)} (h : Pb m 115 z D E X) (hd : (67, 4) ∈ D) : ∃ m', RUN 35 103 [some (.ref 67), some (.int (nI 4))] [] m = RUN 35 103 [some (.ref 67), some (.int (nI 5))] [] m' ∧ Pb m' 118 (z + 36) ([(102, 4), (115, 2), (115, 1)] ++ D) ([(115, 11), (115, 10), (115, 9), (115, 8), (115, 7), (115, 6), (115, 5), (115, 4), (115, 3), (115, 0)] ++ E) X := by
  have p1 := Pb_new (k := 12) (sh := (7, 0)) h rfl
  obtain ⟨m2, e2, p2⟩ := N60_115 p1
  have p3 := Pb_ref (a := 102) (j := 4) (v := 115) p2 (by omega) rfl
  rw [B_35_103]
  have hle : ¬ nI 10 ≤ nI 4 := by decide
  simp only [fa_lit, decide_eq_true_eq, hle, if_false]
  rw [k_gfR (by rw [Pb_s h (by omega)]; rfl), Pb_r (v := 102) h hd rfl, Option.bind_some, h.1, e2, oV_s, k_stoR (Pb_s p2 (by omega)) (by rw [Pb_s p2 (by omega)]; rfl) (by decide), Option.bind_some, nI_add]
  exact ⟨_, rfl, p3⟩
theorem NL_118 {m : mMu} {z : Nat} {D E : List (Nat × Nat)} {X : Nat × (Nat → Int32)} (h : Pb m 118 z D E X) (hd : (67, 4) ∈ D) : ∃ m', RUN 35 103 [some (.ref 67), some (.int (nI 5))] [] m = RUN 35 103 [some (.ref 67), some (.int (nI 6))] [] m' ∧ Pb m' 121 (z + 36) ([(102, 5), (118, 2), (118, 1)] ++ D) ([(118, 11), (118, 10), (118, 9), (118, 8), (118, 7), (118, 6), (118, 5), (118, 4), (118, 3), (118, 0)] ++ E) X := by
  have p1 := Pb_new (k := 12) (sh := (7, 0)) h rfl
  obtain ⟨m2, e2, p2⟩ := N60_118 p1
  have p3 := Pb_ref (a := 102) (j := 5) (v := 118) p2 (by omega) rfl
  rw [B_35_103]
  have hle : ¬ nI 10 ≤ nI 5 := by decide
  simp only [fa_lit, decide_eq_true_eq, hle, if_false]
  rw [k_gfR (by rw [Pb_s h (by omega)]; rfl), Pb_r (v := 102) h hd rfl, Option.bind_some, h.1, e2, oV_s, k_stoR (Pb_s p2 (by omega)) (by rw [Pb_s p2 (by omega)]; rfl) (by decide), Option.bind_some, nI_add]
  exact ⟨_, rfl, p3⟩
theorem NL_121 {m : mMu} {z : Nat} {D E : List (Nat × Nat)} {X : Nat × (Nat → Int32)} (h : Pb m 121 z D E X) (hd : (67, 4) ∈ D) : ∃ m', RUN 35 103 [some (.ref 67), some (.int (nI 6))] [] m = RUN 35 103 [some (.ref 67), some (.int (nI 7))] [] m' ∧ Pb m' 124 (z + 36) ([(102, 6), (121, 2), (121, 1)] ++ D) ([(121, 11), (121, 10), (121, 9), (121, 8), (121, 7), (121, 6), (121, 5), (121, 4), (121, 3), (121, 0)] ++ E) X := by
  have p1 := Pb_new (k := 12) (sh := (7, 0)) h rfl
  obtain ⟨m2, e2, p2⟩ := N60_121 p1
  have p3 := Pb_ref (a := 102) (j := 6) (v := 121) p2 (by omega) rfl
  rw [B_35_103]
  have hle : ¬ nI 10 ≤ nI 6 := by decide
  simp only [fa_lit, decide_eq_true_eq, hle, if_false]
  rw [k_gfR (by rw [Pb_s h (by omega)]; rfl), Pb_r (v := 102) h hd rfl, Option.bind_some, h.1, e2, oV_s, k_stoR (Pb_s p2 (by omega)) (by rw [Pb_s p2 (by omega)]; rfl) (by decide), Option.bind_some, nI_add]
  exact ⟨_, rfl, p3⟩
theorem NL_124 {m : mMu} {z : Nat} {D E : List (Nat × Nat)} {X : Nat × (Nat → Int32)} (h : Pb m 124 z D E X) (hd : (67, 4) ∈ D) : ∃ m', RUN 35 103 [some (.ref 67), some (.int (nI 7))] [] m = RUN 35 103 [some (.ref 67), some (.int (nI 8))] [] m' ∧ Pb m' 127 (z + 36) ([(102, 7), (124, 2), (124, 1)] ++ D) ([(124, 11), (124, 10), (124, 9), (124, 8), (124, 7), (124, 6), (124, 5), (124, 4), (124, 3), (124, 0)] ++ E) X := by
  have p1 := Pb_new (k := 12) (sh := (7, 0)) h rfl
  obtain ⟨m2, e2, p2⟩ := N60_124 p1
  have p3 := Pb_ref (a := 102) (j := 7) (v := 124) p2 (by omega) rfl
  rw [B_35_103]
  have hle : ¬ nI 10 ≤ nI 7 := by decide
  simp only [fa_lit, decide_eq_true_eq, hle, if_false]
  rw [k_gfR (by rw [Pb_s h (by omega)]; rfl), Pb_r (v := 102) h hd rfl, Option.bind_some, h.1, e2, oV_s, k_stoR (Pb_s p2 (by omega)) (by rw [Pb_s p2 (by omega)]; rfl) (by decide), Option.bind_some, nI_add]
  exact ⟨_, rfl, p3⟩
theorem NL_127 {m : mMu} {z : Nat} {D E : List (Nat × Nat)} {X : Nat × (Nat → Int32)} (h : Pb m 127 z D E X) (hd : (67, 4) ∈ D) : ∃ m', RUN 35 103 [some (.ref 67), some (.int (nI 8))] [] m = RUN 35 103 [some (.ref 67), some (.int (nI 9))] [] m' ∧ Pb m' 130 (z + 36) ([(102, 8), (127, 2), (127, 1)] ++ D) ([(127, 11), (127, 10), (127, 9), (127, 8), (127, 7), (127, 6), (127, 5), (127, 4), (127, 3), (127, 0)] ++ E) X := by
  have p1 := Pb_new (k := 12) (sh := (7, 0)) h rfl
  obtain ⟨m2, e2, p2⟩ := N60_127 p1
  have p3 := Pb_ref (a := 102) (j := 8) (v := 127) p2 (by omega) rfl
  rw [B_35_103]
  have hle : ¬ nI 10 ≤ nI 8 := by decide
  simp only [fa_lit, decide_eq_true_eq, hle, if_false]
  rw [k_gfR (by rw [Pb_s h (by omega)]; rfl), Pb_r (v := 102) h hd rfl, Option.bind_some, h.1, e2, oV_s, k_stoR (Pb_s p2 (by omega)) (by rw [Pb_s p2 (by omega)]; rfl) (by decide), Option.bind_some, nI_add]
  exact ⟨_, rfl, p3⟩
theorem NL_130 {m : mMu} {z : Nat} {D E : List (Nat × Nat)} {X : Nat × (Nat → Int32)} (h : Pb m 130 z D E X) (hd : (67, 4) ∈ D) : ∃ m', RUN 35 103 [some (.ref 67), some (.int (nI 9))] [] m = RUN 35 103 [some (.ref 67), some (.int (nI 10))] [] m' ∧ Pb m' 133 (z + 36) ([(102, 9), (130, 2), (130, 1)] ++ D) ([(130, 11), (130, 10), (130, 9), (130, 8), (130, 7), (130, 6), (130, 5), (130, 4), (130, 3), (130, 0)] ++ E) X := by
  have p1 := Pb_new (k := 12) (sh := (7, 0)) h rfl
  obtain ⟨m2, e2, p2⟩ := N60_130 p1
  have p3 := Pb_ref (a := 102) (j := 9) (v := 130) p2 (by omega) rfl
  rw [B_35_103]
  have hle : ¬ nI 10 ≤ nI 9 := by decide
  simp only [fa_lit, decide_eq_true_eq, hle, if_false]
  rw [k_gfR (by rw [Pb_s h (by omega)]; rfl), Pb_r (v := 102) h hd rfl, Option.bind_some, h.1, e2, oV_s, k_stoR (Pb_s p2 (by omega)) (by rw [Pb_s p2 (by omega)]; rfl) (by decide), Option.bind_some, nI_add]
  exact ⟨_, rfl, p3⟩
theorem N40_67 {m : mMu} {z : Nat} {D E : List (Nat × Nat)} {X : Nat × (Nat → Int32)} (h : Pb m 68 z D E X) : ∃ m', CALL 35 [.ref 67] m = some (.inl none, m') ∧ Pb m' 133 (z + 2339) ([(102, 9), (130, 2), (130, 1), (102, 8), (127, 2), (127, 1), (102, 7), (124, 2), (124, 1), (102, 6), (121, 2), (121, 1), (102, 5), (118, 2), (118, 1), (102, 4), (115, 2), (115, 1), (102, 3), (112, 2), (112, 1), (102, 2), (109, 2), (109, 1), (102, 1), (106, 2), (106, 1), (102, 0), (103, 2), (103, 1), (67, 4), (67, 3), (97, 3), (97, 2), (97, 1), (97, 0), (67, 2), (89, 6), (89, 5), (89, 4), (89, 3), (89, 2), (89, 1), (89, 0), (67, 1), (83, 4), (83, 3), (83, 2), (83, 1), (83, 0), (67, 0), (68, 6), (68, 5), (77, 3), (77, 2), (77, 1), (77, 0), (68, 4), (72, 3), (72, 2), (72, 1), (72, 0), (68, 2), (68, 1), (68, 0)] ++ D) ([(130, 11), (130, 10), (130, 9), (130, 8), (130, 7), (130, 6), (130, 5), (130, 4), (130, 3), (130, 0), (127, 11), (127, 10), (127, 9), (127, 8), (127, 7), (127, 6), (127, 5), (127, 4), (127, 3), (127, 0), (124, 11), (124, 10), (124, 9), (124, 8), (124, 7), (124, 6), (124, 5), (124, 4), (124, 3), (124, 0), (121, 11), (121, 10), (121, 9), (121, 8), (121, 7), (121, 6), (121, 5), (121, 4), (121, 3), (121, 0), (118, 11), (118, 10), (118, 9), (118, 8), (118, 7), (118, 6), (118, 5), (118, 4), (118, 3), (118, 0), (115, 11), (115, 10), (115, 9), (115, 8), (115, 7), (115, 6), (115, 5), (115, 4), (115, 3), (115, 0), (112, 11), (112, 10), (112, 9), (112, 8), (112, 7), (112, 6), (112, 5), (112, 4), (112, 3), (112, 0), (109, 11), (109, 10), (109, 9), (109, 8), (109, 7), (109, 6), (109, 5), (109, 4), (109, 3), (109, 0), (106, 11), (106, 10), (106, 9), (106, 8), (106, 7), (106, 6), (106, 5), (106, 4), (106, 3), (106, 0), (103, 11), (103, 10), (103, 9), (103, 8), (103, 7), (103, 6), (103, 5), (103, 4), (103, 3), (103, 0), (67, 12), (67, 11), (67, 10), (67, 9), (67, 8), (67, 7), (67, 6), (67, 5), (97, 4), (89, 7), (83, 6), (83, 5), (77, 4), (72, 4), (68, 3)] ++ E) X := by
  have a1 := Pb_new (k := 7) (sh := (2, 0)) h rfl
  obtain ⟨m1, e1, b1⟩ := N14_67 a1
  have c1 := Pb_ref (a := 67) (j := 0) (v := 68) b1 (by omega) rfl
  have a2 := Pb_new (k := 7) (sh := (0, 0)) c1 rfl
  obtain ⟨m2, e2, b2⟩ := N1_67 a2
  have c2 := Pb_ref (a := 67) (j := 1) (v := 83) b2 (by omega) rfl
  have a3 := Pb_new (k := 8) (sh := (5, 0)) c2 rfl
  obtain ⟨m3, e3, b3⟩ := N33_67 a3
  have c3 := Pb_ref (a := 67) (j := 2) (v := 89) b3 (by omega) rfl
  have a4 := Pb_new (k := 5) (sh := (3, 0)) c3 rfl
  obtain ⟨m4, e4, b4⟩ := N21_67 a4
  have c4 := Pb_ref (a := 67) (j := 3) (v := 97) b4 (by omega) rfl
  have a5 := Pb_new (k := 10) (sh := (23, 10)) c4 rfl
  have c5 := Pb_ref (a := 67) (j := 4) (v := 102) a5 (by omega) rfl
  have d0 := Pb_int (a := 67) (j := 5) (v := nI 0) c5 (by omega) (by decide)
  have d1 := Pb_int (a := 67) (j := 6) (v := nI 100) d0 (by omega) (by decide)
  have d2 := Pb_int (a := 67) (j := 7) (v := nI 300) d1 (by omega) (by decide)
  have d3 := Pb_int (a := 67) (j := 8) (v := nI 8) d2 (by omega) (by decide)
  have d4 := Pb_int (a := 67) (j := 9) (v := nI 4) d3 (by omega) (by decide)
  have d5 := Pb_int (a := 67) (j := 10) (v := nI 0) d4 (by omega) (by decide)
  have d6 := Pb_int (a := 67) (j := 11) (v := nI 0) d5 (by omega) (by decide)
  have d7 := Pb_int (a := 67) (j := 12) (v := nI 0) d6 (by omega) (by decide)
  obtain ⟨n0, f0, g0⟩ := NL_103 d7 (by simp)
  obtain ⟨n1, f1, g1⟩ := NL_106 g0 (by simp)
  obtain ⟨n2, f2, g2⟩ := NL_109 g1 (by simp)
  obtain ⟨n3, f3, g3⟩ := NL_112 g2 (by simp)
  obtain ⟨n4, f4, g4⟩ := NL_115 g3 (by simp)
  obtain ⟨n5, f5, g5⟩ := NL_118 g4 (by simp)
  obtain ⟨n6, f6, g6⟩ := NL_121 g5 (by simp)
  obtain ⟨n7, f7, g7⟩ := NL_124 g6 (by simp)
  obtain ⟨n8, f8, g8⟩ := NL_127 g7 (by simp)
  obtain ⟨n9, f9, g9⟩ := NL_130 g8 (by simp)
  rw [B_35_0]
  simp only [fa_lit]
  rw [h.1, e1, oV_s, k_pfR (by rw [Pb_s b1 (by omega)]; rfl), Option.bind_some, c1.1, e2, oV_s, k_pfR (by rw [Pb_s b2 (by omega)]; rfl), Option.bind_some, c2.1, e3, oV_s, k_pfR (by rw [Pb_s b3 (by omega)]; rfl), Option.bind_some, c3.1, e4, oV_s, k_pfR (by rw [Pb_s b4 (by omega)]; rfl), Option.bind_some, k_nw (by decide), Option.bind_some, c4.1, k_pfR (by rw [Pb_s a5 (by omega)]; rfl), Option.bind_some, k_pfI (by rw [Pb_s c5 (by omega)]; rfl), Option.bind_some, k_pfI (by rw [Pb_s d0 (by omega)]; rfl), Option.bind_some, k_pfI (by rw [Pb_s d1 (by omega)]; rfl), Option.bind_some, k_pfI (by rw [Pb_s d2 (by omega)]; rfl), Option.bind_some, k_pfI (by rw [Pb_s d3 (by omega)]; rfl), Option.bind_some, k_pfI (by rw [Pb_s d4 (by omega)]; rfl), Option.bind_some, k_pfI (by rw [Pb_s d5 (by omega)]; rfl), Option.bind_some, k_pfI (by rw [Pb_s d6 (by omega)]; rfl), Option.bind_some, f0, f1, f2, f3, f4, f5, f6, f7, f8, f9, B_35_103]
  have hle : nI 10 ≤ nI 10 := by decide
  simp only [fa_lit, decide_eq_true_eq, hle, if_true]
  exact ⟨_, rfl, Pb_z g9 (by omega)⟩
theorem N26_133 {m : mMu} {z : Nat} {D E : List (Nat × Nat)} {X : Nat × (Nat → Int32)} (h : Pb m 134 z D E X) : ∃ m', CALL 22 [.ref 133] m = some (.inl none, m') ∧ Pb m' 137 (z + 11374) ([(133, 2), (133, 1), (133, 0)] ++ D) (E) X := by
  have p1 := Pb_new (k := 10) (sh := (20, 10)) h rfl
  have p2 := Pb_ref (a := 133) (j := 0) (v := 134) p1 (by omega) rfl
  have p3 := Pb_new (k := 100) (sh := (21, 100)) p2 rfl
  have p4 := Pb_ref (a := 133) (j := 1) (v := 135) p3 (by omega) rfl
  have p5 := Pb_new (k := 11264) (sh := (21, 11264)) p4 rfl
  have p6 := Pb_ref (a := 133) (j := 2) (v := 136) p5 (by omega) rfl
  rw [B_22_0]
  simp only [fa_lit]
  rw [k_nw (by decide), Option.bind_some, h.1, k_pfR (by rw [Pb_s p1 (by omega)]; rfl), Option.bind_some, k_nw (by decide), Option.bind_some, p2.1, k_pfR (by rw [Pb_s p3 (by omega)]; rfl), Option.bind_some, k_nw (by decide), Option.bind_some, p4.1, k_pfR (by rw [Pb_s p5 (by omega)]; rfl), Option.bind_some]
  exact ⟨_, rfl, Pb_z p6 (by omega)⟩
theorem N74 {m : mMu} {z : Nat} {D E : List (Nat × Nat)} {X : Nat × (Nat → Int32)} (h : Pb m 1 z D E X) : ∃ m', CALL 65 [.ref 0] m = some (.inl none, m') ∧ Pb m' 137 (z + 16081) ([(0, 2), (133, 2), (133, 1), (133, 0), (0, 1), (102, 9), (130, 2), (130, 1), (102, 8), (127, 2), (127, 1), (102, 7), (124, 2), (124, 1), (102, 6), (121, 2), (121, 1), (102, 5), (118, 2), (118, 1), (102, 4), (115, 2), (115, 1), (102, 3), (112, 2), (112, 1), (102, 2), (109, 2), (109, 1), (102, 1), (106, 2), (106, 1), (102, 0), (103, 2), (103, 1), (67, 4), (67, 3), (97, 3), (97, 2), (97, 1), (97, 0), (67, 2), (89, 6), (89, 5), (89, 4), (89, 3), (89, 2), (89, 1), (89, 0), (67, 1), (83, 4), (83, 3), (83, 2), (83, 1), (83, 0), (67, 0), (68, 6), (68, 5), (77, 3), (77, 2), (77, 1), (77, 0), (68, 4), (72, 3), (72, 2), (72, 1), (72, 0), (68, 2), (68, 1), (68, 0), (0, 0), (36, 9), (64, 2), (64, 1), (36, 8), (61, 2), (61, 1), (36, 7), (58, 2), (58, 1), (36, 6), (55, 2), (55, 1), (36, 5), (52, 2), (52, 1), (36, 4), (49, 2), (49, 1), (36, 3), (46, 2), (46, 1), (36, 2), (43, 2), (43, 1), (36, 1), (40, 2), (40, 1), (36, 0), (37, 2), (37, 1), (1, 4), (1, 3), (31, 3), (31, 2), (31, 1), (31, 0), (1, 2), (23, 6), (23, 5), (23, 4), (23, 3), (23, 2), (23, 1), (23, 0), (1, 1), (17, 4), (17, 3), (17, 2), (17, 1), (17, 0), (1, 0), (2, 6), (2, 5), (11, 3), (11, 2), (11, 1), (11, 0), (2, 4), (6, 3), (6, 2), (6, 1), (6, 0), (2, 2), (2, 1), (2, 0)] ++ D) ([(0, 3), (130, 11), (130, 10), (130, 9), (130, 8), (130, 7), (130, 6), (130, 5), (130, 4), (130, 3), (130, 0), (127, 11), (127, 10), (127, 9), (127, 8), (127, 7), (127, 6), (127, 5), (127, 4), (127, 3), (127, 0), (124, 11), (124, 10), (124, 9), (124, 8), (124, 7), (124, 6), (124, 5), (124, 4), (124, 3), (124, 0), (121, 11), (121, 10), (121, 9), (121, 8), (121, 7), (121, 6), (121, 5), (121, 4), (121, 3), (121, 0), (118, 11), (118, 10), (118, 9), (118, 8), (118, 7), (118, 6), (118, 5), (118, 4), (118, 3), (118, 0), (115, 11), (115, 10), (115, 9), (115, 8), (115, 7), (115, 6), (115, 5), (115, 4), (115, 3), (115, 0), (112, 11), (112, 10), (112, 9), (112, 8), (112, 7), (112, 6), (112, 5), (112, 4), (112, 3), (112, 0), (109, 11), (109, 10), (109, 9), (109, 8), (109, 7), (109, 6), (109, 5), (109, 4), (109, 3), (109, 0), (106, 11), (106, 10), (106, 9), (106, 8), (106, 7), (106, 6), (106, 5), (106, 4), (106, 3), (106, 0), (103, 11), (103, 10), (103, 9), (103, 8), (103, 7), (103, 6), (103, 5), (103, 4), (103, 3), (103, 0), (67, 12), (67, 11), (67, 10), (67, 9), (67, 8), (67, 7), (67, 6), (67, 5), (97, 4), (89, 7), (83, 6), (83, 5), (77, 4), (72, 4), (68, 3), (64, 11), (64, 10), (64, 9), (64, 8), (64, 7), (64, 6), (64, 5), (64, 4), (64, 3), (64, 0), (61, 11), (61, 10), (61, 9), (61, 8), (61, 7), (61, 6), (61, 5), (61, 4), (61, 3), (61, 0), (58, 11), (58, 10), (58, 9), (58, 8), (58, 7), (58, 6), (58, 5), (58, 4), (58, 3), (58, 0), (55, 11), (55, 10), (55, 9), (55, 8), (55, 7), (55, 6), (55, 5), (55, 4), (55, 3), (55, 0), (52, 11), (52, 10), (52, 9), (52, 8), (52, 7), (52, 6), (52, 5), (52, 4), (52, 3), (52, 0), (49, 11), (49, 10), (49, 9), (49, 8), (49, 7), (49, 6), (49, 5), (49, 4), (49, 3), (49, 0), (46, 11), (46, 10), (46, 9), (46, 8), (46, 7), (46, 6), (46, 5), (46, 4), (46, 3), (46, 0), (43, 11), (43, 10), (43, 9), (43, 8), (43, 7), (43, 6), (43, 5), (43, 4), (43, 3), (43, 0), (40, 11), (40, 10), (40, 9), (40, 8), (40, 7), (40, 6), (40, 5), (40, 4), (40, 3), (40, 0), (37, 11), (37, 10), (37, 9), (37, 8), (37, 7), (37, 6), (37, 5), (37, 4), (37, 3), (37, 0), (1, 12), (1, 11), (1, 10), (1, 9), (1, 8), (1, 7), (1, 6), (1, 5), (31, 4), (23, 7), (17, 6), (17, 5), (11, 4), (6, 4), (2, 3)] ++ E) X := by
  have a0 := Pb_new (k := 13) (sh := (6, 0)) h rfl
  obtain ⟨m0, e0, b0⟩ := N40_1 a0
  have c0 := Pb_ref (a := 0) (j := 0) (v := 1) b0 (by omega) rfl
  have a1 := Pb_new (k := 13) (sh := (6, 0)) c0 rfl
  obtain ⟨m1, e1, b1⟩ := N40_67 a1
  have c1 := Pb_ref (a := 0) (j := 1) (v := 67) b1 (by omega) rfl
  have a2 := Pb_new (k := 3) (sh := (4, 0)) c1 rfl
  obtain ⟨m2, e2, b2⟩ := N26_133 a2
  have c2 := Pb_ref (a := 0) (j := 2) (v := 133) b2 (by omega) rfl
  have d0 := Pb_int (a := 0) (j := 3) (v := nI 0) c2 (by omega) (by decide)
  rw [B_65_0]
  simp only [fa_lit]
  rw [h.1, e0, oV_s, k_pfR (by rw [Pb_s b0 (by omega)]; rfl), Option.bind_some, c0.1, e1, oV_s, k_pfR (by rw [Pb_s b1 (by omega)]; rfl), Option.bind_some, c1.1, e2, oV_s, k_pfR (by rw [Pb_s b2 (by omega)]; rfl), Option.bind_some, k_pfZ (by rw [Pb_s c2 (by omega)]; rfl), Option.bind_some]
  exact ⟨_, rfl, Pb_z d0 (by omega)⟩
theorem N87 {m : mMu} {z : Nat} {D E : List (Nat × Nat)} {X : Nat × (Nat → Int32)} (h : Pb m 138 z D E X) : ∃ m', CALL 87 [.ref 137] m = some (.inl none, m') ∧ Pb m' 146 (z + 400) ([(137, 11), (137, 10), (137, 9), (137, 8), (137, 3), (137, 2), (137, 1), (137, 0)] ++ D) ([(137, 7), (137, 6), (137, 5), (137, 4)] ++ E) X := by
  have p1 := Pb_new (k := 0) (sh := (24, 0)) h rfl
  have p2 := Pb_ref (a := 137) (j := 0) (v := 138) p1 (by omega) rfl
  have p3 := Pb_new (k := 0) (sh := (24, 0)) p2 rfl
  have p4 := Pb_ref (a := 137) (j := 1) (v := 139) p3 (by omega) rfl
  have p5 := Pb_new (k := 0) (sh := (24, 0)) p4 rfl
  have p6 := Pb_ref (a := 137) (j := 2) (v := 140) p5 (by omega) rfl
  have p7 := Pb_new (k := 400) (sh := (20, 400)) p6 rfl
  have p8 := Pb_ref (a := 137) (j := 3) (v := 141) p7 (by omega) rfl
  have p9 := Pb_int (a := 137) (j := 4) (v := nI 300) p8 (by omega) (by decide)
  have p10 := Pb_int (a := 137) (j := 5) (v := nI 100) p9 (by omega) (by decide)
  have p11 := Pb_int (a := 137) (j := 6) (v := nI 8) p10 (by omega) (by decide)
  have p12 := Pb_int (a := 137) (j := 7) (v := nI 4) p11 (by omega) (by decide)
  have p13 := Pb_new (k := 0) (sh := (24, 0)) p12 rfl
  have p14 := Pb_ref (a := 137) (j := 8) (v := 142) p13 (by omega) rfl
  have p15 := Pb_new (k := 0) (sh := (22, 0)) p14 rfl
  have p16 := Pb_ref (a := 137) (j := 9) (v := 143) p15 (by omega) rfl
  have p17 := Pb_new (k := 0) (sh := (22, 0)) p16 rfl
  have p18 := Pb_ref (a := 137) (j := 10) (v := 144) p17 (by omega) rfl
  have p19 := Pb_new (k := 0) (sh := (22, 0)) p18 rfl
  have p20 := Pb_ref (a := 137) (j := 11) (v := 145) p19 (by omega) rfl
  rw [B_87_0]
  simp only [fa_lit]
  rw [k_nw (by decide), Option.bind_some, h.1, k_pfR (by rw [Pb_s p1 (by omega)]; rfl), Option.bind_some, k_nw (by decide), Option.bind_some, p2.1, k_pfR (by rw [Pb_s p3 (by omega)]; rfl), Option.bind_some, k_nw (by decide), Option.bind_some, p4.1, k_pfR (by rw [Pb_s p5 (by omega)]; rfl), Option.bind_some, k_nw (by decide), Option.bind_some, p6.1, k_pfR (by rw [Pb_s p7 (by omega)]; rfl), Option.bind_some, k_pfI (by rw [Pb_s p8 (by omega)]; rfl), Option.bind_some, k_pfI (by rw [Pb_s p9 (by omega)]; rfl), Option.bind_some, k_pfI (by rw [Pb_s p10 (by omega)]; rfl), Option.bind_some, k_pfI (by rw [Pb_s p11 (by omega)]; rfl), Option.bind_some, k_nw (by decide), Option.bind_some, p12.1, k_pfR (by rw [Pb_s p13 (by omega)]; rfl), Option.bind_some, k_nw (by decide), Option.bind_some, p14.1, k_pfR (by rw [Pb_s p15 (by omega)]; rfl), Option.bind_some, k_nw (by decide), Option.bind_some, p16.1, k_pfR (by rw [Pb_s p17 (by omega)]; rfl), Option.bind_some, k_nw (by decide), Option.bind_some, p18.1, k_pfR (by rw [Pb_s p19 (by omega)]; rfl), Option.bind_some]
  exact ⟨_, rfl, Pb_z p20 (by omega)⟩
