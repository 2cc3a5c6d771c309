/-! ===== what holds mid-sweep ===== -/
def lp (k j : Nat) (L : Nat → Int32) : Bool := decide (k ≤ ix (L 5) + j)
def tp (j : Nat) (R : Nat → Int32) : Bool := decide (j < ix (R 8))
/-- names differ -/
def DN (c : Nat → Nat) (S : Nat → Nat → Nat → Int32) : Prop := (∀ t u, t < c 4 → u < c 4 → S 7 t 0 = S 7 u 0 → t = u) ∧ (∀ e e', e < c 5 → e' < c 5 → S 8 e 0 = S 8 e' 0 → e = e') ∧ ∀ t e, t < c 4 → e < c 5 → S 7 t 0 ≠ S 8 e 0
def SM (k : Nat) (s : CS) : Prop := (∀ t, t < s.1 4 → PM k (s.1 9) (s.2 7 t)) ∧ (∀ e, e < s.1 5 → PL (k + 1) k (s.1 9) (s.1 7) (s.2 8 e)) ∧ DN s.1 s.2 ∧ (∀ j, j ≤ 11 → cn (fun e => lp k j (s.2 8 e)) (s.1 5) + cn (fun t => tp (j % 5 + 1) (s.2 7 t)) (s.1 4) ≤ 10 * (j / 5 + 1)) ∧ NB s.1 s.2
theorem cn_one {p p' : Nat → Bool} {i : Nat} : ∀ n, i < n → (∀ u, u < n → u ≠ i → p' u = p u) → cn p' n + (bif p i then 1 else 0) = cn p n + (bif p' i then 1 else 0)
  | 0, h, _ => absurd h (Nat.not_lt_zero _)
  | n + 1, h, e => by
    have s1 : cn p' (n + 1) = cn p' n + (bif p' n then 1 else 0) := rfl
    have s2 : cn p (n + 1) = cn p n + (bif p n then 1 else 0) := rfl
    rw [s1, s2]
    by_cases q : i = n
    · subst q
      rw [cn_congr (p := p') (q := p) (fun j hj => e j (by omega) (by omega))]
      omega
    · rw [e n (by omega) (fun h => q h.symm)]
      have := cn_one n (by omega) (fun u hu hne => e u (by omega) hne)
      omega
theorem PM_e {k n n' : Nat} {R R' : Nat → Int32} (h : PM k n R) (e : ∀ w, w ≠ 0 → w ≠ 9 → R' w = R w) (h0 : nmd n' (R' 0)) : PM k n' R' := by
  obtain ⟨hm, hi, ⟨g, m, h8, h7, hg⟩, -, ⟨o1, o2, o3, o4⟩, hf⟩ := h
  refine ⟨mvb_e hm (e 1 (by decide) (by decide)) (e 2 (by decide) (by decide)) (e 3 (by decide) (by decide)) (e 4 (by decide) (by decide)), IS_e hi (e 5 (by decide) (by decide)) (e 7 (by decide) (by decide)), ⟨g, m, by rw [e 8 (by decide) (by decide)]; exact h8, by rw [e 7 (by decide) (by decide)]; exact h7, hg⟩, h0, ⟨by rw [e 10 (by decide) (by decide)]; exact o1, by rw [e 11 (by decide) (by decide)]; exact o2, by rw [e 14 (by decide) (by decide), e 10 (by decide) (by decide)]; exact o3, by rw [e 15 (by decide) (by decide), e 11 (by decide) (by decide)]; exact o4⟩, fun h5 => ?_⟩
  rw [e 5 (by decide) (by decide)] at h5
  rw [e 8 (by decide) (by decide)]
  exact hf h5
theorem PM_n {k n : Nat} {R : Nat → Int32} (h : PM k n R) : nmd n (R 0) := h.2.2.2.1
theorem SM_e {k : Nat} {s s' : CS} (h : SM k s) (hc : ∀ q, q ≠ 8 → s'.1 q = s.1 q) (h7 : ∀ u w, w ≠ 9 → s'.2 7 u w = s.2 7 u w) (h8 : s'.2 8 = s.2 8) (h5 : s'.2 5 = s.2 5) : SM k s' := by
  obtain ⟨a1, a2, ⟨a3, a4, a5⟩, a6, a7, a8⟩ := h
  unfold SM DN NB
  rw [hc 4 (by decide), hc 9 (by decide), hc 5 (by decide), hc 7 (by decide), hc 3 (by decide), h8, h5]
  refine ⟨fun t ht => PM_e (a1 t ht) (fun w _ h9 => h7 t w h9) (by rw [h7 t 0 (by decide)]; exact PM_n (a1 t ht)), a2, ⟨fun t u ht hu he => a3 t u ht hu (by rw [← h7 t 0 (by decide), ← h7 u 0 (by decide)]; exact he), a4, fun t e ht he => by rw [h7 t 0 (by decide)]; exact a5 t e ht he⟩, fun j hj => ?_, fun t ht => ?_, fun k' hk => ?_⟩
  · rw [cn_congr (p := fun t => tp (j % 5 + 1) (s'.2 7 t)) (q := fun t => tp (j % 5 + 1) (s.2 7 t)) (fun u _ => by show decide _ = decide _; rw [h7 u 8 (by decide)])]
    exact a6 j hj
  · rw [h7 t 38 (by decide), h7 t 0 (by decide)]; exact a7 t ht
  · rcases a8 k' hk with q | ⟨t, ht, q⟩
    · exact Or.inl q
    · exact Or.inr ⟨t, ht, by rw [h7 t 38 (by decide)]; exact q⟩
/-! moved on -/
theorem mvs_row {k : Nat} {dt : Int32} {c : Nat → Nat} {S : Nat → Nat → Nat → Int32} (hk : k ≤ 499) (h6 : c 6 = k) (ha : c 13 ≤ 16) (h3 : c 3 ≤ 10) (hR : ∀ u, u < c 4 → PJ k (c 9) (S 7 u) ∧ (S 7 u 13 = -nI 1 ∨ ∃ b, b < c 3 ∧ S 7 u 13 = nI b)) (hP : ∀ b, b < c 3 → IP (S 5 b)) (hL : ∀ e, e < c 5 → PL (k + 1) k (c 9) (c 7) (S 8 e)) (hD : DN c S) (hW : ∀ j, j ≤ 11 → cn (fun e => lp k j (S 8 e)) (c 5) + cn (fun t => tp (j % 5) (S 7 t)) (c 4) ≤ 10 * (j / 5 + 1)) : ∀ i, i ≤ c 4 →
    (∀ u, u < i → (kpT ((itr (mv1 dt) i (c, S)).2 7 u) = true → PM k (c 9) ((itr (mv1 dt) i (c, S)).2 7 u) ∧ (itr (mv1 dt) i (c, S)).2 7 u 38 = S 7 u 38 ∧ (itr (mv1 dt) i (c, S)).2 7 u 0 = S 7 u 0) ∧ (kpT ((itr (mv1 dt) i (c, S)).2 7 u) = false → S 7 u 13 = -nI 1)) ∧
    (∀ e, e < (itr (mv1 dt) i (c, S)).1 5 → PL (k + 1) k (c 9) (c 7) ((itr (mv1 dt) i (c, S)).2 8 e)) ∧
    (∀ e e', e < (itr (mv1 dt) i (c, S)).1 5 → e' < (itr (mv1 dt) i (c, S)).1 5 → (itr (mv1 dt) i (c, S)).2 8 e 0 = (itr (mv1 dt) i (c, S)).2 8 e' 0 → e = e') ∧
    (∀ u e, u < c 4 → e < (itr (mv1 dt) i (c, S)).1 5 → (i ≤ u ∨ kpT ((itr (mv1 dt) i (c, S)).2 7 u) = true) → S 7 u 0 ≠ (itr (mv1 dt) i (c, S)).2 8 e 0) ∧
    (∀ j, j ≤ 11 → cn (fun e => lp k j ((itr (mv1 dt) i (c, S)).2 8 e)) ((itr (mv1 dt) i (c, S)).1 5) + cn (fun u => if u < i then kpT ((itr (mv1 dt) i (c, S)).2 7 u) && tp (j % 5 + 1) ((itr (mv1 dt) i (c, S)).2 7 u) else tp (j % 5) (S 7 u)) (c 4) ≤ 10 * (j / 5 + 1))
  | 0, _ => ⟨fun u hu => absurd hu (Nat.not_lt_zero u), hL, hD.2.1, fun u e hu he _ => hD.2.2 u e hu he, fun j hj => by
      rw [cn_congr (p := fun u => if u < 0 then kpT ((itr (mv1 dt) 0 (c, S)).2 7 u) && tp (j % 5 + 1) ((itr (mv1 dt) 0 (c, S)).2 7 u) else tp (j % 5) (S 7 u)) (q := fun t => tp (j % 5) (S 7 t)) (fun u _ => if_neg (Nat.not_lt_zero u))]
      exact hW j hj⟩
  | i + 1, hi => by
    obtain ⟨b1, b2, b3, b4, b5⟩ := mvs_row (dt := dt) hk h6 ha h3 hR hP hL hD hW i (by omega)
    obtain ⟨m1, m2, m3, m4⟩ := mvs_c (dt := dt) (s := (c, S)) i
    have row : (itr (mv1 dt) i (c, S)).2 7 i = S 7 i := m4 i (Nat.le_refl _)
    rw [itr_s']
    generalize itr (mv1 dt) i (c, S) = s at *
    simp only at m1 m2 m3 m4
    obtain ⟨hRi, hJi⟩ := hR i (by omega)
    obtain ⟨Q, e7, hcase⟩ := mv_row (dt := dt) (t := i) (s := s) (n := c 9) (τ := c 7) hk (by rw [m1 6 (by decide) (by decide)]; exact h6) (m1 7 (by decide) (by decide)) (by rw [m1 13 (by decide) (by decide)]; exact ha) (by rw [row]; exact hRi) (by
      rw [row, m3 5 (by decide) (by decide) (by decide)]
      rcases hJi with h | ⟨b, hb, h⟩
      · exact Or.inl h
      · exact Or.inr ⟨b, by omega, h, hP b hb⟩)
    rw [row] at hcase
    obtain ⟨g, m, g8, -, hmg, hgk, -⟩ := hRi.2.2.1
    have ixg : ix (S 7 i 8) = g := by rw [g8, ix_nI (by omega)]
    have ri : (mv1 dt i s).2 7 i = Q := by rw [e7, y1_eq]
    have ro : ∀ u, u ≠ i → (mv1 dt i s).2 7 u = s.2 7 u := fun u hu => by rw [e7, y1_ne hu]
    -- the count of the rows, at i
    have cnt : ∀ j, cn (fun u => if u < i + 1 then kpT ((mv1 dt i s).2 7 u) && tp (j % 5 + 1) ((mv1 dt i s).2 7 u) else tp (j % 5) (S 7 u)) (c 4) + (bif tp (j % 5) (S 7 i) then 1 else 0) = cn (fun u => if u < i then kpT (s.2 7 u) && tp (j % 5 + 1) (s.2 7 u) else tp (j % 5) (S 7 u)) (c 4) + (bif kpT Q && tp (j % 5 + 1) Q then 1 else 0) := fun j => by
      have := cn_one (p := fun u => if u < i then kpT (s.2 7 u) && tp (j % 5 + 1) (s.2 7 u) else tp (j % 5) (S 7 u)) (p' := fun u => if u < i + 1 then kpT ((mv1 dt i s).2 7 u) && tp (j % 5 + 1) ((mv1 dt i s).2 7 u) else tp (j % 5) (S 7 u)) (i := i) (c 4) (by omega) (fun u hu hne => by
        by_cases q : u < i
        · simp only [if_pos q, if_pos (show u < i + 1 by omega), ro u hne]
        · simp only [if_neg q, if_neg (show ¬ u < i + 1 by omega)])
      simp only [if_neg (Nat.lt_irrefl i), if_pos (Nat.lt_succ_self i), ri] at this
      exact this
    rcases hcase with ⟨kq, pm, q38, q0, q8, h5, h8⟩ | ⟨kq, j13, h5, h8⟩ | ⟨kq, j13, ⟨g', hg5, hg', eg'⟩, h5, X, h8, pX, x0, x5⟩
    · rw [h5, h8]
      refine ⟨fun u hu => ?_, b2, b3, fun u e hu he hh => ?_, fun j hj => ?_⟩
      · by_cases q : u = i
        · rw [q, ri]; exact ⟨fun _ => ⟨pm, q38, q0⟩, fun hf => (by rw [kq] at hf; cases hf)⟩
        · rw [ro u q]; exact b1 u (by omega)
      · by_cases q : u = i
        · rw [q]; exact b4 i e (by omega) he (Or.inl (Nat.le_refl _))
        · rw [ro u q] at hh
          exact b4 u e hu he (hh.elim (fun h => Or.inl (by omega)) Or.inr)
      · have c1 := cnt j
        have c2 := b5 j hj
        have ee : (kpT Q && tp (j % 5 + 1) Q) = tp (j % 5) (S 7 i) := by
          rw [kq, Bool.true_and]
          unfold tp
          rw [q8, g8, nI_add, ix_nI (by omega), ix_nI (by omega)]
          exact decide_eq_decide.mpr (by omega)
        rw [ee] at c1
        omega
    · rw [h5, h8]
      refine ⟨fun u hu => ?_, b2, b3, fun u e hu he hh => ?_, fun j hj => ?_⟩
      · by_cases q : u = i
        · rw [q, ri]; exact ⟨fun hf => (by rw [kq] at hf; cases hf), fun _ => j13⟩
        · rw [ro u q]; exact b1 u (by omega)
      · by_cases q : u = i
        · rw [q]; exact b4 i e (by omega) he (Or.inl (Nat.le_refl _))
        · rw [ro u q] at hh
          exact b4 u e hu he (hh.elim (fun h => Or.inl (by omega)) Or.inr)
      · have c1 := cnt j
        have c2 := b5 j hj
        rw [kq, Bool.false_and, cond_false] at c1
        omega
    · rw [h5, h8]
      refine ⟨fun u hu => ?_, fun e he => ?_, fun e e' he he' hh => ?_, fun u e hu he hh => ?_, fun j hj => ?_⟩
      · by_cases q : u = i
        · rw [q, ri]; exact ⟨fun hf => (by rw [kq] at hf; cases hf), fun _ => j13⟩
        · rw [ro u q]; exact b1 u (by omega)
      · by_cases q : e = s.1 5
        · rw [q, y1_eq]; exact pX
        · rw [y1_ne q]; exact b2 e (by omega)
      · by_cases q : e = s.1 5
        · by_cases q' : e' = s.1 5
          · omega
          · rw [q, y1_eq, y1_ne q', x0] at hh
            exact absurd hh (b4 i e' (by omega) (by omega) (Or.inl (Nat.le_refl _)))
        · by_cases q' : e' = s.1 5
          · rw [q', y1_eq, y1_ne q, x0] at hh
            exact absurd hh.symm (b4 i e (by omega) (by omega) (Or.inl (Nat.le_refl _)))
          · rw [y1_ne q, y1_ne q'] at hh
            exact b3 e e' (by omega) (by omega) hh
      · have hne : u ≠ i := fun q => by
          rcases hh with h | h
          · omega
          · rw [q, ri, kq] at h; cases h
        rw [ro u hne] at hh
        by_cases q : e = s.1 5
        · rw [q, y1_eq, x0]
          exact fun hx => hne (hD.1 u i hu (by omega) hx)
        · rw [y1_ne q]
          exact b4 u e hu (by omega) (hh.elim (fun h => Or.inl (by omega)) Or.inr)
      · have c1 := cnt j
        have c2 := b5 j hj
        rw [kq, Bool.false_and, cond_false] at c1
        have t1 : tp (j % 5) (S 7 i) = true := by
          unfold tp
          rw [eg', ix_nI (by omega)]
          exact decide_eq_true (by omega)
        rw [t1, cond_true] at c1
        have l1 : cn (fun e => lp k j (u1 (s.2 8) (s.1 5) X e)) (s.1 5 + 1) = cn (fun e => lp k j (u1 (s.2 8) (s.1 5) X e)) (s.1 5) + (bif lp k j (u1 (s.2 8) (s.1 5) X (s.1 5)) then 1 else 0) := rfl
        have l2 : lp k j X = true := by
          unfold lp
          rw [x5, ix_nI (by omega)]
          exact decide_eq_true (by omega)
        rw [l1, y1_eq, l2, cond_true, cn_congr (p := fun e => lp k j (u1 (s.2 8) (s.1 5) X e)) (q := fun e => lp k j (s.2 8 e)) (fun e he => by
          show lp k j (u1 (s.2 8) (s.1 5) X e) = _
          rw [y1_ne (by omega)])]
        omega
theorem move_SM {k : Nat} {dt : Int32} {c : Nat → Nat} {S : Nat → Nat → Nat → Int32} (hk : k ≤ 499) (h6 : c 6 = k) (ha : c 13 ≤ 16) (h3 : c 3 ≤ 10) (hR : ∀ u, u < c 4 → PJ k (c 9) (S 7 u) ∧ S 7 u 38 = S 7 u 13 ∧ (S 7 u 13 = -nI 1 ∨ ∃ b, b < c 3 ∧ S 7 u 13 = nI b ∧ S 5 b 4 = S 7 u 0)) (hP : ∀ b, b < c 3 → IP (S 5 b)) (hN : ∀ k', k' < c 3 → S 5 k' 4 = -nI 1 ∨ ∃ t, t < c 4 ∧ S 7 t 38 = nI k') (hL : ∀ e, e < c 5 → PL (k + 1) k (c 9) (c 7) (S 8 e)) (hD : DN c S) (hW : ∀ j, j ≤ 11 → cn (fun e => lp k j (S 8 e)) (c 5) + cn (fun t => tp (j % 5) (S 7 t)) (c 4) ≤ 10 * (j / 5 + 1)) : SM k (move dt (c, S)) := by
  obtain ⟨b1, b2, b3, b4, b5⟩ := mvs_row (dt := dt) hk h6 ha h3 (fun u hu => ⟨(hR u hu).1, by
    rcases (hR u hu).2.2 with h | ⟨b, h1, h2, -⟩
    · exact Or.inl h
    · exact Or.inr ⟨b, h1, h2⟩⟩) hP hL hD hW (c 4) (Nat.le_refl _)
  obtain ⟨m1, m2, m3, m4⟩ := mvs_c (dt := dt) (s := (c, S)) (c 4)
  obtain ⟨π, p1, p2, p3⟩ := cmp_pi (kp := kpT) (T := (itr (mv1 dt) (c 4) (c, S)).2 7) (c 4)
  have pc := fun j => cmp_cn (kp := kpT) (p := tp j) (T := (itr (mv1 dt) (c 4) (c, S)).2 7) (c 4)
  have em : move dt (c, S) = (u1 (itr (mv1 dt) (c 4) (c, S)).1 4 (cmp kpT ((itr (mv1 dt) (c 4) (c, S)).2 7) (c 4)).2, u1 (itr (mv1 dt) (c 4) (c, S)).2 7 (cmp kpT ((itr (mv1 dt) (c 4) (c, S)).2 7) (c 4)).1) := rfl
  rw [em]
  generalize itr (mv1 dt) (c 4) (c, S) = s at *
  simp only at m1 m2 m3 m4
  generalize cmp kpT (s.2 7) (c 4) = b at *
  unfold SM DN NB
  simp only [y1_eq, y1_ne (show (9 : Nat) ≠ 4 by decide), y1_ne (show (5 : Nat) ≠ 4 by decide), y1_ne (show (7 : Nat) ≠ 4 by decide), y1_ne (show (3 : Nat) ≠ 4 by decide), y1_ne (show (8 : Nat) ≠ 7 by decide), y1_ne (show (5 : Nat) ≠ 7 by decide)]
  rw [m1 9 (by decide) (by decide), m1 7 (by decide) (by decide), m1 3 (by decide) (by decide), m3 5 (by decide) (by decide) (by decide)]
  have rw' : ∀ t, t < b.2 → PM k (c 9) (b.1 t) ∧ b.1 t 38 = S 7 (π t) 38 ∧ b.1 t 0 = S 7 (π t) 0 := fun t ht => by
    obtain ⟨x1, x2, x3⟩ := p1 t ht
    rw [x3]
    exact (b1 _ x1).1 x2
  refine ⟨fun t ht => (rw' t ht).1, b2, ⟨fun t u ht hu he => ?_, b3, fun t e ht he => ?_⟩, fun j hj => ?_, fun t ht => ?_, fun k' hk' => ?_⟩
  · rw [(rw' t ht).2.2, (rw' u hu).2.2] at he
    exact p2 t u ht hu (hD.1 _ _ (p1 t ht).1 (p1 u hu).1 he)
  · rw [(rw' t ht).2.2]
    exact b4 _ e (p1 t ht).1 he (Or.inr (p1 t ht).2.1)
  · rw [pc]
    have := b5 j hj
    rw [cn_congr (p := fun u => if u < c 4 then kpT (s.2 7 u) && tp (j % 5 + 1) (s.2 7 u) else tp (j % 5) (S 7 u)) (q := fun u => kpT (s.2 7 u) && tp (j % 5 + 1) (s.2 7 u)) (fun u hu => if_pos hu)] at this
    exact this
  · rw [(rw' t ht).2.1, (rw' t ht).2.2]
    obtain ⟨-, j1, j2⟩ := hR _ (p1 t ht).1
    rw [j1]
    exact j2
  · rcases hN k' hk' with h | ⟨u, hu, h⟩
    · exact Or.inl h
    · obtain ⟨-, j1, -⟩ := hR u hu
      have ku : kpT (s.2 7 u) = true := by
        cases hkp : kpT (s.2 7 u) with
        | true => rfl
        | false =>
          have := (b1 u hu).2 hkp
          rw [← j1, h] at this
          exact absurd this (nI_nm (by omega))
      obtain ⟨t, ht, et⟩ := p3 u hu ku
      exact Or.inr ⟨t, ht, by rw [(rw' t ht).2.1, et]; exact h⟩
