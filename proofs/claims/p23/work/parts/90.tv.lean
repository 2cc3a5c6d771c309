/-! ===== the property of its own: states against joins and misses; the ghost of a joined track ===== -/
/-- state, joins, misses, age of a track -/
def TV (k : Nat) (R : Nat → Int32) : Prop := ∃ j g m : Nat, (R 6 = nI j ∧ R 8 = nI g ∧ R 7 = nI m) ∧ (j ≤ g ∧ 1 ≤ g ∧ g ≤ k) ∧ ((R 5 = nI 0 ∧ j ≤ 2 ∧ m ≤ 1) ∨ (R 5 = nI 1 ∧ m = 0 ∧ 3 ≤ j) ∨ (R 5 = nI 2 ∧ 1 ≤ m ∧ m ≤ 4 ∧ 3 ≤ j))
/-- joined in this sweep: its blip -/
def GH (R : Nat → Int32) : Prop := R 38 = -nI 1 ↔ ¬ R 7 = nI 0
theorem TV_e {k : Nat} {R R' : Nat → Int32} (h : TV k R) (e5 : R' 5 = R 5) (e6 : R' 6 = R 6) (e7 : R' 7 = R 7) (e8 : R' 8 = R 8) : TV k R' := by
  unfold TV at h ⊢
  rw [e5, e6, e7, e8]
  exact h
theorem TV_le {k k' : Nat} {R : Nat → Int32} (h : TV k R) (hk : k ≤ k') : TV k' R := by
  obtain ⟨j, g, m, h1, ⟨h2, h3, h4⟩, h5⟩ := h
  exact ⟨j, g, m, h1, ⟨h2, h3, by omega⟩, h5⟩
theorem GH_e {R R' : Nat → Int32} (h : GH R) (e7 : R' 7 = R 7) (e38 : R' 38 = R 38) : GH R' := by
  unfold GH at h ⊢
  rw [e7, e38]
  exact h
theorem nI_n0 {m : Nat} (h : m < 2147483648) (h0 : m ≠ 0) : ¬ nI m = nI 0 := by
  rw [nI_eq' h (by decide)]
  exact h0
/-- a track's step -/
theorem mv_tv {k t : Nat} {dt : Int32} {s : CS} (hk : k ≤ 499) (h : TV k (s.2 7 t)) (hg : s.2 7 t 38 = s.2 7 t 13) (hkp : kpT ((mv1 dt t s).2 7 t) = true) : TV (k + 1) ((mv1 dt t s).2 7 t) ∧ GH ((mv1 dt t s).2 7 t) ∧ ¬ (mv1 dt t s).2 7 t 8 = nI 1 := by
  obtain ⟨j, g, m, ⟨h6, h8, h7⟩, ⟨hjg, hg1, hgk⟩, hst⟩ := h
  have A0 : ∀ w, w ≠ 8 → w ≠ 12 → aged (s.2 7 t) w = s.2 7 t w := fun w h h' => aged_w h h'
  have A8 : aged (s.2 7 t) 8 = nI (g + 1) := by unfold aged; rw [up_eq, h8, nI_add]
  have key : ∀ (Q : Nat → Int32) (j' m' : Nat), Q 6 = nI j' → Q 8 = nI (g + 1) → Q 7 = nI m' → j' ≤ g + 1 → ((Q 5 = nI 0 ∧ j' ≤ 2 ∧ m' ≤ 1) ∨ (Q 5 = nI 1 ∧ m' = 0 ∧ 3 ≤ j') ∨ (Q 5 = nI 2 ∧ 1 ≤ m' ∧ m' ≤ 4 ∧ 3 ≤ j')) → (Q 38 = -nI 1 ↔ ¬ m' = 0) → TV (k + 1) Q ∧ GH Q ∧ ¬ Q 8 = nI 1 := fun Q j' m' q6 q8 q7 hj' hs hgh => by
    have hm4 : m' ≤ 4 := by omega
    refine ⟨⟨j', g + 1, m', ⟨q6, q8, q7⟩, ⟨hj', by omega, by omega⟩, hs⟩, ?_, ?_⟩
    · unfold GH
      rw [q7, nI_eq' (by omega) (by decide)]
      exact hgh
    · rw [q8, nI_eq' (by omega) (by decide)]
      omega
  by_cases hj : s.2 7 t 13 = -nI 1
  · have em : mv1 dt t s = mssS s.1 s.2 t (aged (s.2 7 t)) := if_pos hj
    rw [em] at hkp ⊢
    unfold mssS at hkp ⊢
    rw [A0 5 (by decide) (by decide), A0 7 (by decide) (by decide), A0 0 (by decide) (by decide)] at hkp ⊢
    have g38 : s.2 7 t 38 = -nI 1 := by rw [hg]; exact hj
    rcases hst with ⟨h5, hj2, hm⟩ | ⟨h5, hm, hj3⟩ | ⟨h5, hm1, hm4, hj3⟩
    · rw [if_pos h5] at hkp ⊢
      by_cases e : s.2 7 t 7 + nI 1 = nI 2
      · exfalso
        rw [if_pos e] at hkp
        simp (disch := decide) only [y1_eq] at hkp
        rw [kpT_3 (by simp (disch := decide) only [up_eq])] at hkp
        cases hkp
      · rw [if_neg e]
        have m0 : m = 0 := by
          rw [h7, nI_add, nI_eq' (by omega) (by decide)] at e
          omega
        simp (disch := decide) only [y1_eq]
        refine key _ j 1 ?_ ?_ ?_ (by omega) (Or.inl ⟨?_, hj2, by omega⟩) ⟨fun _ => by omega, fun _ => ?_⟩
        · simp (disch := decide) only [up_ne, A0]; exact h6
        · simp (disch := decide) only [up_ne]; exact A8
        · simp (disch := decide) only [up_eq]; rw [h7, nI_add, m0]
        · simp (disch := decide) only [up_ne, A0]; exact h5
        · simp (disch := decide) only [up_ne, A0]; exact g38
    · rw [if_neg (by rw [h5]; exact q10), if_pos h5]
      simp (disch := decide) only [y1_eq]
      refine key _ j 1 ?_ ?_ ?_ (by omega) (Or.inr (Or.inr ⟨?_, by omega, by omega, hj3⟩)) ⟨fun _ => by omega, fun _ => ?_⟩
      · simp (disch := decide) only [up_ne, A0]; exact h6
      · simp (disch := decide) only [up_ne]; exact A8
      · simp (disch := decide) only [up_ne, up_eq]; rw [h7, nI_add, hm]
      · simp (disch := decide) only [up_eq]
      · simp (disch := decide) only [up_ne, A0]; exact g38
    · rw [if_neg (by rw [h5]; exact q20), if_neg (by rw [h5]; exact q21)] at hkp ⊢
      by_cases h55 : nI 5 ≤ s.2 7 t 7 + nI 1
      · exfalso
        rw [if_pos ⟨h5, h55⟩] at hkp
        simp (disch := decide) only [y1_eq] at hkp
        rw [kpT_3 (by simp (disch := decide) only [up_eq])] at hkp
        cases hkp
      · rw [if_neg (fun hh => h55 hh.2)]
        have m5 : m + 1 ≤ 4 := by
          rw [h7, nI_add, nI_leI (by omega) (by omega)] at h55
          omega
        simp (disch := decide) only [y1_eq]
        refine key _ j (m + 1) ?_ ?_ ?_ (by omega) (Or.inr (Or.inr ⟨?_, by omega, by omega, hj3⟩)) ⟨fun _ => by omega, fun _ => ?_⟩
        · simp (disch := decide) only [up_ne, A0]; exact h6
        · simp (disch := decide) only [up_ne]; exact A8
        · simp (disch := decide) only [up_eq]; rw [h7, nI_add]
        · simp (disch := decide) only [up_ne, A0]; exact h5
        · simp (disch := decide) only [up_ne, A0]; exact g38
  · have em : mv1 dt t s = flwS s.1 s.2 t dt (aged (s.2 7 t)) := if_neg hj
    rw [em]
    unfold flwS
    rw [A0 5 (by decide) (by decide), A0 6 (by decide) (by decide)]
    have g38 : ¬ s.2 7 t 38 = -nI 1 := by rw [hg]; exact hj
    obtain ⟨P, hP⟩ : ∃ P, s.2 5 (ix (aged (s.2 7 t) 13)) = P := ⟨_, rfl⟩
    rw [hP]
    have fw : ∀ w, w ≠ 1 → w ≠ 2 → w ≠ 3 → w ≠ 4 → w ≠ 6 → w ≠ 7 → flwR s.1 P dt (aged (s.2 7 t)) w = aged (s.2 7 t) w := fun w h1 h2 h3 h4 h6 h7 => flw_w h1 h2 h3 h4 h6 h7
    have f6 : flwR s.1 P dt (aged (s.2 7 t)) 6 = nI (j + 1) := by
      unfold flwR
      rw [up_eq, A0 6 (by decide) (by decide), h6, nI_add]
    have f8 : flwR s.1 P dt (aged (s.2 7 t)) 8 = nI (g + 1) := by rw [fw 8 (by decide) (by decide) (by decide) (by decide) (by decide) (by decide)]; exact A8
    have f5 : flwR s.1 P dt (aged (s.2 7 t)) 5 = s.2 7 t 5 := by rw [fw 5 (by decide) (by decide) (by decide) (by decide) (by decide) (by decide), A0 5 (by decide) (by decide)]
    have f38 : flwR s.1 P dt (aged (s.2 7 t)) 38 = s.2 7 t 38 := by rw [fw 38 (by decide) (by decide) (by decide) (by decide) (by decide) (by decide), A0 38 (by decide) (by decide)]
    have f7 : flwR s.1 P dt (aged (s.2 7 t)) 7 = nI 0 := flw_7
    generalize flwR s.1 P dt (aged (s.2 7 t)) = F at f5 f6 f7 f8 f38 ⊢
    by_cases c2 : s.2 7 t 5 = nI 2
    · rw [if_pos c2]
      have hj3 : 3 ≤ j := by
        rcases hst with ⟨h5, -⟩ | ⟨h5, -⟩ | ⟨-, -, -, h⟩
        · rw [h5, nI_eq' (by decide) (by decide)] at c2; omega
        · rw [h5, nI_eq' (by decide) (by decide)] at c2; omega
        · exact h
      simp (disch := decide) only [y1_eq]
      refine key _ (j + 1) 0 ?_ ?_ ?_ (by omega) (Or.inr (Or.inl ⟨?_, rfl, by omega⟩)) ⟨fun hh => ?_, fun hh => absurd rfl hh⟩
      · simp (disch := decide) only [up_ne]; exact f6
      · simp (disch := decide) only [up_ne]; exact f8
      · simp (disch := decide) only [up_ne]; exact f7
      · simp (disch := decide) only [up_eq]
      · simp (disch := decide) only [up_ne] at hh
        rw [f38] at hh
        exact absurd hh g38
    · rw [if_neg c2]
      by_cases c0 : s.2 7 t 5 = nI 0 ∧ nI 3 ≤ s.2 7 t 6 + nI 1
      · rw [if_pos c0]
        have hj3 : 3 ≤ j + 1 := by
          have := c0.2
          rw [h6, nI_add, nI_leI (by omega) (by omega)] at this
          exact this
        simp (disch := decide) only [y1_eq]
        refine key _ (j + 1) 0 ?_ ?_ ?_ (by omega) (Or.inr (Or.inl ⟨?_, rfl, hj3⟩)) ⟨fun hh => ?_, fun hh => absurd rfl hh⟩
        · simp (disch := decide) only [up_ne]; exact f6
        · simp (disch := decide) only [up_ne]; exact f8
        · simp (disch := decide) only [up_ne]; exact f7
        · simp (disch := decide) only [up_ne, up_eq]
        · simp (disch := decide) only [up_ne] at hh
          rw [f38] at hh
          exact absurd hh g38
      · rw [if_neg c0]
        simp (disch := decide) only [y1_eq]
        refine key _ (j + 1) 0 f6 f8 f7 (by omega) ?_ ⟨fun hh => absurd (f38.symm.trans hh) g38, fun hh => absurd rfl hh⟩
        rw [f5]
        rcases hst with ⟨h5, hj2, -⟩ | ⟨h5, -, hj3⟩ | ⟨h5, -⟩
        · refine Or.inl ⟨h5, ?_, by omega⟩
          rcases Nat.lt_or_ge (j + 1) 3 with q | q
          · omega
          · exfalso
            refine c0 ⟨h5, ?_⟩
            rw [h6, nI_add, nI_leI (by omega) (by omega)]
            exact q
        · exact Or.inr (Or.inl ⟨h5, rfl, by omega⟩)
        · exact absurd h5 c2
/-! ===== two ways to count ===== -/
def sm (f : Nat → Nat) : Nat → Nat
  | 0 => 0
  | n + 1 => sm f n + f n
theorem sm_congr {f g : Nat → Nat} : ∀ {n : Nat}, (∀ j, j < n → f j = g j) → sm f n = sm g n
  | 0, _ => rfl
  | n + 1, h => by
    unfold sm
    rw [sm_congr (fun j hj => h j (by omega)), h n (by omega)]
theorem sm_add {f g : Nat → Nat} : ∀ n, sm (fun t => f t + g t) n = sm f n + sm g n
  | 0 => rfl
  | n + 1 => by
    unfold sm
    rw [sm_add n]
    omega
theorem sm_zero : ∀ n, sm (fun _ => 0) n = 0
  | 0 => rfl
  | n + 1 => by
    unfold sm
    rw [sm_zero n]
theorem sm_cn {p : Nat → Bool} : ∀ n, sm (fun t => bif p t then 1 else 0) n = cn p n
  | 0 => rfl
  | n + 1 => by
    unfold sm cn
    rw [sm_cn n]
theorem cn_swap {r : Nat → Nat → Bool} {n : Nat} : ∀ m, sm (fun t => cn (r t) m) n = sm (fun b => cn (fun t => r t b) n) m
  | 0 => by
    show sm (fun _ => 0) n = 0
    exact sm_zero n
  | m + 1 => by
    have e : ∀ t, cn (r t) (m + 1) = cn (r t) m + (bif r t m then 1 else 0) := fun _ => rfl
    rw [sm_congr (f := fun t => cn (r t) (m + 1)) (g := fun t => cn (r t) m + (bif r t m then 1 else 0)) (fun t _ => e t), sm_add, cn_swap m]
    show _ + _ = sm _ m + cn (fun t => r t m) n
    rw [sm_cn]
theorem cn_one1 {p : Nat → Bool} {i : Nat} : ∀ {n : Nat}, i < n → p i = true → (∀ j, j < n → p j = true → j = i) → cn p n = 1
  | 0, h, _, _ => absurd h (Nat.not_lt_zero _)
  | n + 1, h, hp, hu => by
    unfold cn
    by_cases q : i = n
    · subst q
      rw [hp, cn_zero (fun j hj => by
        cases hj2 : p j with
        | false => rfl
        | true => have := hu j (by omega) hj2; omega)]
      rfl
    · have e : p n = false := by
        cases hj2 : p n with
        | false => rfl
        | true => have := hu n (by omega) hj2; omega
      rw [e, cn_one1 (by omega) hp (fun j hj h2 => hu j (by omega) h2)]
      rfl
theorem cn_not {p : Nat → Bool} : ∀ n, cn p n + cn (fun t => !p t) n = n
  | 0 => rfl
  | n + 1 => by
    have ih := cn_not (p := p) n
    unfold cn
    cases p n <;> simp <;> omega
theorem cn_and {p q : Nat → Bool} : ∀ n, cn (fun t => p t && q t) n + cn (fun t => p t && !q t) n = cn p n
  | 0 => rfl
  | n + 1 => by
    have ih := cn_and (p := p) (q := q) n
    unfold cn
    cases p n <;> cases q n <;> simp <;> omega
/-- those joined or begun in this sweep, and the blips with a name, are as many -/
def nmb (T : Nat → Nat → Int32) (b : Nat) : Bool := !decide (T b 4 = -nI 1)
def ms0 (R : Nat → Int32) : Bool := decide (R 7 = nI 0)
theorem gh_one {k : Nat} {s : CS} (h : SM k s) (h3 : s.1 3 ≤ 10) (hg : ∀ t, t < s.1 4 → GH (s.2 7 t)) {t : Nat} (ht : t < s.1 4) : cn (fun b => decide (s.2 7 t 38 = nI b)) (s.1 3) = bif ms0 (s.2 7 t) then 1 else 0 := by
  obtain ⟨a1, -, -, -, a7, -⟩ := h
  unfold ms0
  by_cases q : s.2 7 t 7 = nI 0
  · rw [decide_eq_true q, cond_true]
    rcases a7 t ht with e | ⟨b, h1, h2, -⟩
    · exact absurd q ((hg t ht).mp e)
    · exact cn_one1 h1 (decide_eq_true h2) (fun j hj hp => by
        have := of_decide_eq_true hp
        rw [h2, nI_eq' (by omega) (by omega)] at this
        exact this.symm)
  · rw [decide_eq_false q, cond_false]
    have e := (hg t ht).mpr q
    exact cn_zero (fun j hj => decide_eq_false (fun hh => by
      rw [e] at hh
      exact nI_nm (by omega) hh.symm))
theorem gh_col {k : Nat} {s : CS} (h : SM k s) (h3 : s.1 3 ≤ 10) (h9 : s.1 9 ≤ 2000000) {b : Nat} (hb : b < s.1 3) : cn (fun t => decide (s.2 7 t 38 = nI b)) (s.1 4) = bif nmb (s.2 5) b then 1 else 0 := by
  obtain ⟨a1, -, ⟨a3, -, -⟩, -, a7, a8⟩ := h
  have key : ∀ t, t < s.1 4 → s.2 7 t 38 = nI b → s.2 5 b 4 = s.2 7 t 0 := fun t ht e => by
    rcases a7 t ht with e2 | ⟨b', h1, h2, h4⟩
    · rw [e] at e2
      exact absurd e2 (nI_nm (by omega))
    · rw [e, nI_eq' (by omega) (by omega)] at h2
      rw [h2]
      exact h4
  unfold nmb
  by_cases q : s.2 5 b 4 = -nI 1
  · rw [decide_eq_true q]
    exact cn_zero (fun t ht => decide_eq_false (fun hh => by
      have := key t ht hh
      rw [q] at this
      exact (nmd_ne h9 (PM_n (a1 t ht))).2 this.symm))
  · rw [decide_eq_false q]
    rcases a8 b hb with e | ⟨t, ht, e⟩
    · exact absurd e q
    · exact cn_one1 ht (decide_eq_true e) (fun u hu hp => a3 u t hu ht ((key u hu (of_decide_eq_true hp)).symm.trans (key t ht e)))
theorem cn_nm {k : Nat} {s : CS} (h : SM k s) (h3 : s.1 3 ≤ 10) (h9 : s.1 9 ≤ 2000000) (hg : ∀ t, t < s.1 4 → GH (s.2 7 t)) : cn (fun t => ms0 (s.2 7 t)) (s.1 4) = cn (nmb (s.2 5)) (s.1 3) := by
  rw [← sm_cn, ← sm_cn, ← sm_congr (fun t ht => gh_one h h3 hg ht), ← sm_congr (fun b hb => gh_col h h3 h9 hb)]
  exact cn_swap _
/-- a track's blips, by their names -/
theorem nm_one {k : Nat} {s : CS} (h : SM k s) (h3 : s.1 3 ≤ 10) (h9 : s.1 9 ≤ 2000000) (hg : ∀ t, t < s.1 4 → GH (s.2 7 t)) {t : Nat} (ht : t < s.1 4) : cn (fun b => decide (s.2 5 b 4 = s.2 7 t 0)) (s.1 3) = bif ms0 (s.2 7 t) then 1 else 0 := by
  rw [← gh_one h h3 hg ht]
  obtain ⟨a1, -, ⟨a3, -, -⟩, -, a7, a8⟩ := h
  refine cn_congr (fun b hb => decide_eq_decide.mpr ⟨fun e => ?_, fun e => ?_⟩)
  · rcases a8 b hb with e2 | ⟨u, hu, e2⟩
    · rw [e2] at e
      exact absurd e.symm (nmd_ne h9 (PM_n (a1 t ht))).2
    · rcases a7 u hu with e3 | ⟨b', h1, h2, h4⟩
      · rw [e2] at e3
        exact absurd e3 (nI_nm (by omega))
      · rw [e2, nI_eq' (by omega) (by omega)] at h2
        rw [← h2] at h4
        rw [e] at h4
        rw [a3 t u ht hu h4]
        exact e2
  · rcases a7 t ht with e3 | ⟨b', h1, h2, h4⟩
    · rw [e] at e3
      exact absurd e3 (nI_nm (by omega))
    · rw [e, nI_eq' (by omega) (by omega)] at h2
      rw [h2]
      exact h4
