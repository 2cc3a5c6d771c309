/-! ===== rows of records: stores, copies; what is made anew ===== -/
theorem blk_le {w d i j : Nat} (hj : j < w) : (w * d ≤ w * i + j) = (d ≤ i) := by
  apply propext
  constructor
  · intro h
    rcases Nat.lt_or_ge i d with h1 | h1
    · have h2 := Nat.mul_le_mul_left w (show i + 1 ≤ d by omega)
      rw [Nat.mul_succ] at h2
      omega
    · exact h1
  · intro h
    have := Nat.mul_le_mul_left w h
    omega
theorem blk_inj {w i j i' j' : Nat} (hj : j < w) (hj' : j' < w) : (w * i + j = w * i' + j') = (i = i' ∧ j = j') := by
  apply propext
  constructor
  · intro h
    have h1 : i' ≤ i := by rw [← blk_le (w := w) (d := i') (i := i) hj]; omega
    have h2 : i ≤ i' := by rw [← blk_le (w := w) (d := i) (i := i') hj']; omega
    have h3 : i = i' := by omega
    subst h3
    exact ⟨rfl, by omega⟩
  · rintro ⟨rfl, rfl⟩; rfl
theorem MRr_sto {g : Nat → Int32} {n w i j : Nat} {T : Nat → Nat → Int32} {v : Int32} (h : MRr g n w T) (hj : j < w) : MRr (up g (w * i + j) v) n w (u2 T i j v) := by
  intro i' j' hi' hj'
  unfold up u2
  rw [h i' j' hi' hj']
  simp only [blk_inj hj' hj]
  by_cases h1 : i' = i
  · by_cases h2 : j' = j <;> simp [h1, h2]
  · simp [h1]
theorem MRr_sto0 {g : Nat → Int32} {n w i : Nat} {T : Nat → Nat → Int32} {v : Int32} (h : MRr g n w T) (hj : 0 < w) : MRr (up g (w * i) v) n w (u2 T i 0 v) := MRr_sto (j := 0) h hj
theorem MRr_cp {g h : Nat → Int32} {n n' w s d k : Nat} {T T' : Nat → Nat → Int32} (hg : MRr g n w T) (hh : MRr h n' w T') (hk : s + k ≤ n) : MRr (cpF g h (w * s) (w * d) (w * k)) n' w (fun e => if d ≤ e ∧ e < d + k then T (s + (e - d)) else T' e) := by
  intro i j hi hj
  unfold cpF
  have e1 : (w * i + j < w * d + w * k) = (i < d + k) := by
    rw [← Nat.mul_add]
    have := blk_le (w := w) (d := d + k) (i := i) hj
    apply propext
    constructor
    · intro h1
      rcases Nat.lt_or_ge i (d + k) with h2 | h2
      · exact h2
      · have := this.mpr h2; omega
    · intro h1
      rcases Nat.lt_or_ge (w * i + j) (w * (d + k)) with h2 | h2
      · exact h2
      · have := this.mp h2; omega
  simp only [blk_le hj, e1]
  by_cases h1 : d ≤ i ∧ i < d + k
  · rw [if_pos h1, if_pos h1]
    have e2 : w * s + (w * i + j - w * d) = w * (s + (i - d)) + j := by
      have h3 := Nat.mul_le_mul_left w h1.1
      rw [Nat.mul_add, Nat.mul_sub]
      omega
    rw [e2]
    exact hg _ _ (by omega) hj
  · rw [if_neg h1, if_neg h1]
    exact hh _ _ hi hj
theorem MRr_put {t g : Nat → Int32} {n w p : Nat} {T : Nat → Nat → Int32} (h : MRr g n w T) : MRr (cpF t g 0 (w * p) w) n w (u1 T p t) := by
  have h1 : MRr t 1 w (fun _ => t) := fun i j hi hj => by
    have : i = 0 := by omega
    subst this
    simp
  have h2 := MRr_cp (s := 0) (d := p) (k := 1) h1 h (by omega)
  rw [Nat.mul_zero, Nat.mul_one] at h2
  intro i j hi hj
  rw [h2 i j hi hj]
  unfold u1
  by_cases h3 : i = p
  · subst h3; simp
  · have : ¬ (p ≤ i ∧ i < p + 1) := by omega
    simp [h3, this]
theorem MRr_ext {g : Nat → Int32} {n w : Nat} {T T' : Nat → Nat → Int32} (h : MRr g n w T) (e : ∀ i j, i < n → j < w → T i j = T' i j) : MRr g n w T' := fun i j hi hj => by rw [h i j hi hj, e i j hi hj]
theorem MR_0 {f f' : Nat → Nat → Int32} {c c' : Nat → Nat} {S : Nat → Nat → Nat → Int32} (hm : MR f c S) (h : ∀ a, 139 ≤ a → a ≤ 147 → f' a = f a) (h0 : ∀ w, w < 15 → f' 138 w = nI (c' w)) : MR f' c' S := by
  unfold MR at hm ⊢
  rw [h 139 (by decide) (by decide), h 140 (by decide) (by decide), h 141 (by decide) (by decide), h 142 (by decide) (by decide), h 143 (by decide) (by decide), h 144 (by decide) (by decide), h 145 (by decide) (by decide), h 146 (by decide) (by decide), h 147 (by decide) (by decide)]
  exact ⟨h0, hm.2⟩
theorem MR_c {f : Nat → Nat → Int32} {c : Nat → Nat} {S : Nat → Nat → Nat → Int32} {k v : Nat} (hm : MR f c S) : MR (u2 f 138 k (nI v)) (u1 c k v) S := by
  refine MR_0 hm (fun a h1 h2 => yu_ne (by omega)) fun w hw => ?_
  rw [yu_eq]
  unfold up u1
  by_cases h : w = k
  · simp [h]
  · simp [h, hm.1 w hw]
theorem MR_1 {f f' : Nat → Nat → Int32} {c : Nat → Nat} {S : Nat → Nat → Nat → Int32} {T : Nat → Nat → Int32} (hm : MR f c S) (h : ∀ a, 138 ≤ a → a ≤ 147 → a ≠ 139 → f' a = f a) (ht : MRr (f' 139) 4 3 T) : MR f' c (u1 S 1 T) := by
  unfold MR at hm ⊢
  rw [h 138 (by decide) (by decide) (by decide), h 140 (by decide) (by decide) (by decide), h 141 (by decide) (by decide) (by decide), h 142 (by decide) (by decide) (by decide), h 143 (by decide) (by decide) (by decide), h 144 (by decide) (by decide) (by decide), h 145 (by decide) (by decide) (by decide), h 146 (by decide) (by decide) (by decide), h 147 (by decide) (by decide) (by decide)]
  refine ⟨hm.1, ht, hm.2.2.1, hm.2.2.2.1, hm.2.2.2.2.1, hm.2.2.2.2.2.1, hm.2.2.2.2.2.2.1, hm.2.2.2.2.2.2.2.1, hm.2.2.2.2.2.2.2.2.1, hm.2.2.2.2.2.2.2.2.2⟩
theorem MR_2 {f f' : Nat → Nat → Int32} {c : Nat → Nat} {S : Nat → Nat → Nat → Int32} {T : Nat → Nat → Int32} (hm : MR f c S) (h : ∀ a, 138 ≤ a → a ≤ 147 → a ≠ 140 → f' a = f a) (ht : MRr (f' 140) 10 4 T) : MR f' c (u1 S 2 T) := by
  unfold MR at hm ⊢
  rw [h 138 (by decide) (by decide) (by decide), h 139 (by decide) (by decide) (by decide), h 141 (by decide) (by decide) (by decide), h 142 (by decide) (by decide) (by decide), h 143 (by decide) (by decide) (by decide), h 144 (by decide) (by decide) (by decide), h 145 (by decide) (by decide) (by decide), h 146 (by decide) (by decide) (by decide), h 147 (by decide) (by decide) (by decide)]
  refine ⟨hm.1, hm.2.1, ht, hm.2.2.2.1, hm.2.2.2.2.1, hm.2.2.2.2.2.1, hm.2.2.2.2.2.2.1, hm.2.2.2.2.2.2.2.1, hm.2.2.2.2.2.2.2.2.1, hm.2.2.2.2.2.2.2.2.2⟩
theorem MR_3 {f f' : Nat → Nat → Int32} {c : Nat → Nat} {S : Nat → Nat → Nat → Int32} {T : Nat → Nat → Int32} (hm : MR f c S) (h : ∀ a, 138 ≤ a → a ≤ 147 → a ≠ 141 → f' a = f a) (ht : MRr (f' 141) 6 4 T) : MR f' c (u1 S 3 T) := by
  unfold MR at hm ⊢
  rw [h 138 (by decide) (by decide) (by decide), h 139 (by decide) (by decide) (by decide), h 140 (by decide) (by decide) (by decide), h 142 (by decide) (by decide) (by decide), h 143 (by decide) (by decide) (by decide), h 144 (by decide) (by decide) (by decide), h 145 (by decide) (by decide) (by decide), h 146 (by decide) (by decide) (by decide), h 147 (by decide) (by decide) (by decide)]
  refine ⟨hm.1, hm.2.1, hm.2.2.1, ht, hm.2.2.2.2.1, hm.2.2.2.2.2.1, hm.2.2.2.2.2.2.1, hm.2.2.2.2.2.2.2.1, hm.2.2.2.2.2.2.2.2.1, hm.2.2.2.2.2.2.2.2.2⟩
theorem MR_4 {f f' : Nat → Nat → Int32} {c : Nat → Nat} {S : Nat → Nat → Nat → Int32} {T : Nat → Nat → Int32} (hm : MR f c S) (h : ∀ a, 138 ≤ a → a ≤ 147 → a ≠ 142 → f' a = f a) (ht : MRr (f' 142) 20 20 T) : MR f' c (u1 S 4 T) := by
  unfold MR at hm ⊢
  rw [h 138 (by decide) (by decide) (by decide), h 139 (by decide) (by decide) (by decide), h 140 (by decide) (by decide) (by decide), h 141 (by decide) (by decide) (by decide), h 143 (by decide) (by decide) (by decide), h 144 (by decide) (by decide) (by decide), h 145 (by decide) (by decide) (by decide), h 146 (by decide) (by decide) (by decide), h 147 (by decide) (by decide) (by decide)]
  refine ⟨hm.1, hm.2.1, hm.2.2.1, hm.2.2.2.1, ht, hm.2.2.2.2.2.1, hm.2.2.2.2.2.2.1, hm.2.2.2.2.2.2.2.1, hm.2.2.2.2.2.2.2.2.1, hm.2.2.2.2.2.2.2.2.2⟩
theorem MR_5 {f f' : Nat → Nat → Int32} {c : Nat → Nat} {S : Nat → Nat → Nat → Int32} {T : Nat → Nat → Int32} (hm : MR f c S) (h : ∀ a, 138 ≤ a → a ≤ 147 → a ≠ 143 → f' a = f a) (ht : MRr (f' 143) 10 5 T) : MR f' c (u1 S 5 T) := by
  unfold MR at hm ⊢
  rw [h 138 (by decide) (by decide) (by decide), h 139 (by decide) (by decide) (by decide), h 140 (by decide) (by decide) (by decide), h 141 (by decide) (by decide) (by decide), h 142 (by decide) (by decide) (by decide), h 144 (by decide) (by decide) (by decide), h 145 (by decide) (by decide) (by decide), h 146 (by decide) (by decide) (by decide), h 147 (by decide) (by decide) (by decide)]
  refine ⟨hm.1, hm.2.1, hm.2.2.1, hm.2.2.2.1, hm.2.2.2.2.1, ht, hm.2.2.2.2.2.2.1, hm.2.2.2.2.2.2.2.1, hm.2.2.2.2.2.2.2.2.1, hm.2.2.2.2.2.2.2.2.2⟩
theorem MR_6 {f f' : Nat → Nat → Int32} {c : Nat → Nat} {S : Nat → Nat → Nat → Int32} {T : Nat → Nat → Int32} (hm : MR f c S) (h : ∀ a, 138 ≤ a → a ≤ 147 → a ≠ 144 → f' a = f a) (ht : MRr (f' 144) 10 5 T) : MR f' c (u1 S 6 T) := by
  unfold MR at hm ⊢
  rw [h 138 (by decide) (by decide) (by decide), h 139 (by decide) (by decide) (by decide), h 140 (by decide) (by decide) (by decide), h 141 (by decide) (by decide) (by decide), h 142 (by decide) (by decide) (by decide), h 143 (by decide) (by decide) (by decide), h 145 (by decide) (by decide) (by decide), h 146 (by decide) (by decide) (by decide), h 147 (by decide) (by decide) (by decide)]
  refine ⟨hm.1, hm.2.1, hm.2.2.1, hm.2.2.2.1, hm.2.2.2.2.1, hm.2.2.2.2.2.1, ht, hm.2.2.2.2.2.2.2.1, hm.2.2.2.2.2.2.2.2.1, hm.2.2.2.2.2.2.2.2.2⟩
theorem MR_7 {f f' : Nat → Nat → Int32} {c : Nat → Nat} {S : Nat → Nat → Nat → Int32} {T : Nat → Nat → Int32} (hm : MR f c S) (h : ∀ a, 138 ≤ a → a ≤ 147 → a ≠ 145 → f' a = f a) (ht : MRr (f' 145) 10 38 T) : MR f' c (u1 S 7 T) := by
  unfold MR at hm ⊢
  rw [h 138 (by decide) (by decide) (by decide), h 139 (by decide) (by decide) (by decide), h 140 (by decide) (by decide) (by decide), h 141 (by decide) (by decide) (by decide), h 142 (by decide) (by decide) (by decide), h 143 (by decide) (by decide) (by decide), h 144 (by decide) (by decide) (by decide), h 146 (by decide) (by decide) (by decide), h 147 (by decide) (by decide) (by decide)]
  refine ⟨hm.1, hm.2.1, hm.2.2.1, hm.2.2.2.1, hm.2.2.2.2.1, hm.2.2.2.2.2.1, hm.2.2.2.2.2.2.1, ht, hm.2.2.2.2.2.2.2.2.1, hm.2.2.2.2.2.2.2.2.2⟩
theorem MR_8 {f f' : Nat → Nat → Int32} {c : Nat → Nat} {S : Nat → Nat → Nat → Int32} {T : Nat → Nat → Int32} (hm : MR f c S) (h : ∀ a, 138 ≤ a → a ≤ 147 → a ≠ 146 → f' a = f a) (ht : MRr (f' 146) 60 7 T) : MR f' c (u1 S 8 T) := by
  unfold MR at hm ⊢
  rw [h 138 (by decide) (by decide) (by decide), h 139 (by decide) (by decide) (by decide), h 140 (by decide) (by decide) (by decide), h 141 (by decide) (by decide) (by decide), h 142 (by decide) (by decide) (by decide), h 143 (by decide) (by decide) (by decide), h 144 (by decide) (by decide) (by decide), h 145 (by decide) (by decide) (by decide), h 147 (by decide) (by decide) (by decide)]
  refine ⟨hm.1, hm.2.1, hm.2.2.1, hm.2.2.2.1, hm.2.2.2.2.1, hm.2.2.2.2.2.1, hm.2.2.2.2.2.2.1, hm.2.2.2.2.2.2.2.1, ht, hm.2.2.2.2.2.2.2.2.2⟩
theorem MR_9 {f f' : Nat → Nat → Int32} {c : Nat → Nat} {S : Nat → Nat → Nat → Int32} {T : Nat → Nat → Int32} (hm : MR f c S) (h : ∀ a, 138 ≤ a → a ≤ 147 → a ≠ 147 → f' a = f a) (ht : MRr (f' 147) 120 4 T) : MR f' c (u1 S 9 T) := by
  unfold MR at hm ⊢
  rw [h 138 (by decide) (by decide) (by decide), h 139 (by decide) (by decide) (by decide), h 140 (by decide) (by decide) (by decide), h 141 (by decide) (by decide) (by decide), h 142 (by decide) (by decide) (by decide), h 143 (by decide) (by decide) (by decide), h 144 (by decide) (by decide) (by decide), h 145 (by decide) (by decide) (by decide), h 146 (by decide) (by decide) (by decide)]
  refine ⟨hm.1, hm.2.1, hm.2.2.1, hm.2.2.2.1, hm.2.2.2.2.1, hm.2.2.2.2.2.1, hm.2.2.2.2.2.2.1, hm.2.2.2.2.2.2.2.1, hm.2.2.2.2.2.2.2.2.1, ht⟩
/-- what a call of the reference may do to the memory: its own cells, and new ones -/
def Al (m m' : mMu) (c z : Nat) : Prop := mN m ≤ mN m' ∧ (∀ a, a < mN m → mS m' a = mS m a ∧ mD m' a = mD m a ∧ (a ≠ 137 → mR m' a = mR m a) ∧ (¬ (138 ≤ a ∧ a ≤ 151) → mI m' a = mI m a) ∧ (¬ (137 ≤ a ∧ a ≤ 151) → mL m' a = mL m a)) ∧ (∀ j, mR m' 137 j = mR m 137 j) ∧ mC m' ≤ mC m + c ∧ mZ m' ≤ mZ m + z ∧ mX m' = mX m
theorem Al_refl (m : mMu) : Al m m 0 0 := ⟨Nat.le_refl _, fun a h => ⟨rfl, rfl, fun _ => rfl, fun _ => rfl, fun _ => rfl⟩, fun _ => rfl, Nat.le_refl _, Nat.le_refl _, rfl⟩
theorem Al_trans {m m' m'' : mMu} {c c' z z' : Nat} (h : Al m m' c z) (h' : Al m' m'' c' z') : Al m m'' (c + c') (z + z') := by
  obtain ⟨h1, h2, h3, h4, h5, h6⟩ := h
  obtain ⟨g1, g2, g3, g4, g5, g6⟩ := h'
  refine ⟨by omega, fun a ha => ?_, fun j => (g3 j).trans (h3 j), by omega, by omega, g6.trans h6⟩
  obtain ⟨p1, p2, p3, p4, p5⟩ := h2 a ha
  obtain ⟨q1, q2, q3, q4, q5⟩ := g2 a (by omega)
  exact ⟨q1.trans p1, q2.trans p2, fun ha => (q3 ha).trans (p3 ha), fun h => (q4 h).trans (p4 h), fun h => (q5 h).trans (p5 h)⟩
theorem Al_le {m m' : mMu} {c z c' z' : Nat} (h : Al m m' c z) (hc : c ≤ c') (hz : z ≤ z') : Al m m' c' z' := by
  obtain ⟨h1, h2, h3, h4, h5, h6⟩ := h
  exact ⟨h1, h2, h3, by omega, by omega, h6⟩
theorem Al_Sh {m m' : mMu} {c z : Nat} (h : Al m m' c z) (hN : 154 ≤ mN m) (hs : Sh m) : Sh m' := fun a ha => ((h.2.1 a (by omega)).1).trans (hs a ha)
theorem Al_Rf {m m' : mMu} {c z : Nat} (h : Al m m' c z) (hN : 154 ≤ mN m) (hr : Rf (mR m)) : Rf (mR m') := fun a j v hv => by
  have ha : a < 154 := RT_lt hv
  by_cases h137 : a = 137
  · subst h137
    rw [h.2.2.1 j]
    exact hr 137 j v hv
  · rw [(h.2.1 a (by omega)).2.2.1 h137]
    exact hr a j v hv
/-- its own ints and longs alone -/
theorem Al_own {μ : mMu} {f : Nat → Nat → Int32} {l : Nat → Nat → Int64} {r : Nat → Nat → Option Nat} (hs : Sh μ) (hr : Rf r) {f' : Nat → Nat → Int32} {l' : Nat → Nat → Int64} (h : ∀ a, ¬ (138 ≤ a ∧ a ≤ 151) → f' a = f a) (h2 : ∀ a, ¬ (137 ≤ a ∧ a ≤ 151) → l' a = l a) : Al (st μ f l r) (st μ f' l' r) 0 0 :=
  ⟨Nat.le_refl _, fun a _ => ⟨rfl, rfl, fun _ => rfl, fun q => h a q, fun q => h2 a q⟩, fun _ => rfl, Nat.le_refl _, Nat.le_refl _, rfl⟩
/-! a new row of ints -/
def nw (μ : mMu) (n : Nat) : mMu := mNew μ (20, n) n
theorem nw_S {μ : mMu} {n a : Nat} (h : a ≠ mN μ) : mS (nw μ n) a = mS μ a := by
  show u1 (mS μ) (mN μ) (20, n) a = _
  exact y1_ne h
theorem nw_S1 {μ : mMu} {n : Nat} : (mS (nw μ n) (mN μ)).1 = 20 := by
  show (u1 (mS μ) (mN μ) (20, n) (mN μ)).1 = _
  rw [y1_eq]
theorem nw_S2 {μ : mMu} {n : Nat} : (mS (nw μ n) (mN μ)).2 = n := by
  show (u1 (mS μ) (mN μ) (20, n) (mN μ)).2 = _
  rw [y1_eq]
theorem nw_Sh {μ : mMu} {n : Nat} (hN : 154 ≤ mN μ) (hs : Sh μ) : Sh (nw μ n) := fun a ha => (nw_S (by omega)).trans (hs a ha)
theorem nwA_st {μ : mMu} {f : Nat → Nat → Int32} {l : Nat → Nat → Int64} {r : Nat → Nat → Option Nat} {n : Nat} (hn : n < 65536) : nwA (st μ f l r) 20 (nI n) = some (st (nw μ n) (u2r f (mN μ) (fun _ => nI 0)) (u2r l (mN μ) (fun _ => lN 0)) (u2r r (mN μ) (fun _ => none))) := by
  unfold nwA
  rw [inb_ok hn (by decide), ix_nI (by omega)]
  rfl
theorem nw_Rf {μ : mMu} {r : Nat → Nat → Option Nat} (hN : 154 ≤ mN μ) (hr : Rf r) : Rf (u2r r (mN μ) (fun _ => none)) := fun a j v hv => by
  have ha : a < 154 := RT_lt hv
  rw [yur_ne (by omega)]
  exact hr a j v hv
theorem Al_nw {μ : mMu} {f : Nat → Nat → Int32} {l : Nat → Nat → Int64} {r : Nat → Nat → Option Nat} (hs : Sh μ) (hr : Rf r) (hN : 154 ≤ mN μ) {n : Nat} {f' : Nat → Nat → Int32} {l' : Nat → Nat → Int64} (h : ∀ a, a ≠ mN μ → ¬ (138 ≤ a ∧ a ≤ 151) → f' a = f a) (h2 : ∀ a, a ≠ mN μ → ¬ (137 ≤ a ∧ a ≤ 151) → l' a = l a) : Al (st μ f l r) (st (nw μ n) f' l' (u2r r (mN μ) (fun _ => none))) 1 n := by
  refine ⟨by show mN μ ≤ mN μ + 1; omega, fun a ha => ?_, fun j => ?_, Nat.le_refl _, Nat.le_refl _, rfl⟩
  · have hne : a ≠ mN μ := by have : a < mN μ := ha; omega
    refine ⟨nw_S hne, ?_, fun _ => ?_, fun q => h a hne q, fun q => h2 a hne q⟩
    · show u2r (mD μ) (mN μ) (fun _ => 0) a = mD μ a
      exact yur_ne hne
    · show u2r r (mN μ) (fun _ => none) a = r a
      exact yur_ne hne
  · show u2r r (mN μ) (fun _ => none) 137 j = r 137 j
    rw [yur_ne (by omega)]
/-! the reference's rows of another memory are the same -/
def EqM (f f' : Nat → Nat → Int32) : Prop := ∀ a, 138 ≤ a → a ≤ 147 → f' a = f a
theorem EqM_rfl {f : Nat → Nat → Int32} : EqM f f := fun _ _ _ => rfl
theorem EqM_u2 {f f' : Nat → Nat → Int32} {i j : Nat} {v : Int32} (h : EqM f f') : EqM (u2 f i j v) (u2 f' i j v) := fun a h1 h2 => by
  by_cases q : a = i
  · subst q; rw [yu_eq, yu_eq, h a h1 h2]
  · rw [yu_ne q, yu_ne q, h a h1 h2]
theorem EqM_u2r {f f' : Nat → Nat → Int32} {i : Nat} {G : Nat → Int32} (h : EqM f f') : EqM (u2r f i G) (u2r f' i G) := fun a h1 h2 => by
  by_cases q : a = i
  · subst q; rw [yur_eq, yur_eq]
  · rw [yur_ne q, yur_ne q, h a h1 h2]
theorem EqM_s2 {f f' : Nat → Nat → Int32} {i j : Nat} {v : Int32} (hi : i < 138 ∨ 147 < i) (h : EqM f f') : EqM f (u2 f' i j v) := fun a h1 h2 => by rw [yu_ne (by omega), h a h1 h2]
theorem EqM_s2r {f f' : Nat → Nat → Int32} {i : Nat} {G : Nat → Int32} (hi : i < 138 ∨ 147 < i) (h : EqM f f') : EqM f (u2r f' i G) := fun a h1 h2 => by rw [yur_ne (by omega), h a h1 h2]
theorem EqM_MR {f f' : Nat → Nat → Int32} {c : Nat → Nat} {S : Nat → Nat → Nat → Int32} (hm : MR f c S) (h : EqM f f') : MR f' c S := MR_congr hm h
theorem MRr_1 {f : Nat → Nat → Int32} {c : Nat → Nat} {S : Nat → Nat → Nat → Int32} {G : Nat → Int32} {T : Nat → Nat → Int32} (hm : MR f c S) (ht : MRr G 4 3 T) : MR (u2r f 139 G) c (u1 S 1 T) := MR_1 hm (fun a _ _ q => yur_ne q) (by rw [yur_eq]; exact ht)
theorem MRs_1 {f : Nat → Nat → Int32} {c : Nat → Nat} {S : Nat → Nat → Nat → Int32} {i j : Nat} {v : Int32} (hm : MR f c S) (hj : j < 3) : MR (u2 f 139 (3 * i + j) v) c (u1 S 1 (u2 (S 1) i j v)) := MR_1 hm (fun a _ _ q => yu_ne q) (by rw [yu_eq]; exact MRr_sto hm.2.1 hj)
theorem MRs_1z {f : Nat → Nat → Int32} {c : Nat → Nat} {S : Nat → Nat → Nat → Int32} {i : Nat} {v : Int32} (hm : MR f c S) : MR (u2 f 139 (3 * i) v) c (u1 S 1 (u2 (S 1) i 0 v)) := MRs_1 (j := 0) hm (by decide)
theorem MRr_2 {f : Nat → Nat → Int32} {c : Nat → Nat} {S : Nat → Nat → Nat → Int32} {G : Nat → Int32} {T : Nat → Nat → Int32} (hm : MR f c S) (ht : MRr G 10 4 T) : MR (u2r f 140 G) c (u1 S 2 T) := MR_2 hm (fun a _ _ q => yur_ne q) (by rw [yur_eq]; exact ht)
theorem MRs_2 {f : Nat → Nat → Int32} {c : Nat → Nat} {S : Nat → Nat → Nat → Int32} {i j : Nat} {v : Int32} (hm : MR f c S) (hj : j < 4) : MR (u2 f 140 (4 * i + j) v) c (u1 S 2 (u2 (S 2) i j v)) := MR_2 hm (fun a _ _ q => yu_ne q) (by rw [yu_eq]; exact MRr_sto hm.2.2.1 hj)
theorem MRs_2z {f : Nat → Nat → Int32} {c : Nat → Nat} {S : Nat → Nat → Nat → Int32} {i : Nat} {v : Int32} (hm : MR f c S) : MR (u2 f 140 (4 * i) v) c (u1 S 2 (u2 (S 2) i 0 v)) := MRs_2 (j := 0) hm (by decide)
theorem MRr_3 {f : Nat → Nat → Int32} {c : Nat → Nat} {S : Nat → Nat → Nat → Int32} {G : Nat → Int32} {T : Nat → Nat → Int32} (hm : MR f c S) (ht : MRr G 6 4 T) : MR (u2r f 141 G) c (u1 S 3 T) := MR_3 hm (fun a _ _ q => yur_ne q) (by rw [yur_eq]; exact ht)
theorem MRs_3 {f : Nat → Nat → Int32} {c : Nat → Nat} {S : Nat → Nat → Nat → Int32} {i j : Nat} {v : Int32} (hm : MR f c S) (hj : j < 4) : MR (u2 f 141 (4 * i + j) v) c (u1 S 3 (u2 (S 3) i j v)) := MR_3 hm (fun a _ _ q => yu_ne q) (by rw [yu_eq]; exact MRr_sto hm.2.2.2.1 hj)
theorem MRs_3z {f : Nat → Nat → Int32} {c : Nat → Nat} {S : Nat → Nat → Nat → Int32} {i : Nat} {v : Int32} (hm : MR f c S) : MR (u2 f 141 (4 * i) v) c (u1 S 3 (u2 (S 3) i 0 v)) := MRs_3 (j := 0) hm (by decide)
theorem MRr_4 {f : Nat → Nat → Int32} {c : Nat → Nat} {S : Nat → Nat → Nat → Int32} {G : Nat → Int32} {T : Nat → Nat → Int32} (hm : MR f c S) (ht : MRr G 20 20 T) : MR (u2r f 142 G) c (u1 S 4 T) := MR_4 hm (fun a _ _ q => yur_ne q) (by rw [yur_eq]; exact ht)
theorem MRs_4 {f : Nat → Nat → Int32} {c : Nat → Nat} {S : Nat → Nat → Nat → Int32} {i j : Nat} {v : Int32} (hm : MR f c S) (hj : j < 20) : MR (u2 f 142 (20 * i + j) v) c (u1 S 4 (u2 (S 4) i j v)) := MR_4 hm (fun a _ _ q => yu_ne q) (by rw [yu_eq]; exact MRr_sto hm.2.2.2.2.1 hj)
theorem MRs_4z {f : Nat → Nat → Int32} {c : Nat → Nat} {S : Nat → Nat → Nat → Int32} {i : Nat} {v : Int32} (hm : MR f c S) : MR (u2 f 142 (20 * i) v) c (u1 S 4 (u2 (S 4) i 0 v)) := MRs_4 (j := 0) hm (by decide)
theorem MRr_5 {f : Nat → Nat → Int32} {c : Nat → Nat} {S : Nat → Nat → Nat → Int32} {G : Nat → Int32} {T : Nat → Nat → Int32} (hm : MR f c S) (ht : MRr G 10 5 T) : MR (u2r f 143 G) c (u1 S 5 T) := MR_5 hm (fun a _ _ q => yur_ne q) (by rw [yur_eq]; exact ht)
theorem MRs_5 {f : Nat → Nat → Int32} {c : Nat → Nat} {S : Nat → Nat → Nat → Int32} {i j : Nat} {v : Int32} (hm : MR f c S) (hj : j < 5) : MR (u2 f 143 (5 * i + j) v) c (u1 S 5 (u2 (S 5) i j v)) := MR_5 hm (fun a _ _ q => yu_ne q) (by rw [yu_eq]; exact MRr_sto hm.2.2.2.2.2.1 hj)
theorem MRs_5z {f : Nat → Nat → Int32} {c : Nat → Nat} {S : Nat → Nat → Nat → Int32} {i : Nat} {v : Int32} (hm : MR f c S) : MR (u2 f 143 (5 * i) v) c (u1 S 5 (u2 (S 5) i 0 v)) := MRs_5 (j := 0) hm (by decide)
theorem MRr_6 {f : Nat → Nat → Int32} {c : Nat → Nat} {S : Nat → Nat → Nat → Int32} {G : Nat → Int32} {T : Nat → Nat → Int32} (hm : MR f c S) (ht : MRr G 10 5 T) : MR (u2r f 144 G) c (u1 S 6 T) := MR_6 hm (fun a _ _ q => yur_ne q) (by rw [yur_eq]; exact ht)
theorem MRs_6 {f : Nat → Nat → Int32} {c : Nat → Nat} {S : Nat → Nat → Nat → Int32} {i j : Nat} {v : Int32} (hm : MR f c S) (hj : j < 5) : MR (u2 f 144 (5 * i + j) v) c (u1 S 6 (u2 (S 6) i j v)) := MR_6 hm (fun a _ _ q => yu_ne q) (by rw [yu_eq]; exact MRr_sto hm.2.2.2.2.2.2.1 hj)
theorem MRs_6z {f : Nat → Nat → Int32} {c : Nat → Nat} {S : Nat → Nat → Nat → Int32} {i : Nat} {v : Int32} (hm : MR f c S) : MR (u2 f 144 (5 * i) v) c (u1 S 6 (u2 (S 6) i 0 v)) := MRs_6 (j := 0) hm (by decide)
theorem MRr_7 {f : Nat → Nat → Int32} {c : Nat → Nat} {S : Nat → Nat → Nat → Int32} {G : Nat → Int32} {T : Nat → Nat → Int32} (hm : MR f c S) (ht : MRr G 10 38 T) : MR (u2r f 145 G) c (u1 S 7 T) := MR_7 hm (fun a _ _ q => yur_ne q) (by rw [yur_eq]; exact ht)
theorem MRs_7 {f : Nat → Nat → Int32} {c : Nat → Nat} {S : Nat → Nat → Nat → Int32} {i j : Nat} {v : Int32} (hm : MR f c S) (hj : j < 38) : MR (u2 f 145 (38 * i + j) v) c (u1 S 7 (u2 (S 7) i j v)) := MR_7 hm (fun a _ _ q => yu_ne q) (by rw [yu_eq]; exact MRr_sto hm.2.2.2.2.2.2.2.1 hj)
theorem MRs_7z {f : Nat → Nat → Int32} {c : Nat → Nat} {S : Nat → Nat → Nat → Int32} {i : Nat} {v : Int32} (hm : MR f c S) : MR (u2 f 145 (38 * i) v) c (u1 S 7 (u2 (S 7) i 0 v)) := MRs_7 (j := 0) hm (by decide)
theorem MRr_8 {f : Nat → Nat → Int32} {c : Nat → Nat} {S : Nat → Nat → Nat → Int32} {G : Nat → Int32} {T : Nat → Nat → Int32} (hm : MR f c S) (ht : MRr G 60 7 T) : MR (u2r f 146 G) c (u1 S 8 T) := MR_8 hm (fun a _ _ q => yur_ne q) (by rw [yur_eq]; exact ht)
theorem MRs_8 {f : Nat → Nat → Int32} {c : Nat → Nat} {S : Nat → Nat → Nat → Int32} {i j : Nat} {v : Int32} (hm : MR f c S) (hj : j < 7) : MR (u2 f 146 (7 * i + j) v) c (u1 S 8 (u2 (S 8) i j v)) := MR_8 hm (fun a _ _ q => yu_ne q) (by rw [yu_eq]; exact MRr_sto hm.2.2.2.2.2.2.2.2.1 hj)
theorem MRs_8z {f : Nat → Nat → Int32} {c : Nat → Nat} {S : Nat → Nat → Nat → Int32} {i : Nat} {v : Int32} (hm : MR f c S) : MR (u2 f 146 (7 * i) v) c (u1 S 8 (u2 (S 8) i 0 v)) := MRs_8 (j := 0) hm (by decide)
theorem MRr_9 {f : Nat → Nat → Int32} {c : Nat → Nat} {S : Nat → Nat → Nat → Int32} {G : Nat → Int32} {T : Nat → Nat → Int32} (hm : MR f c S) (ht : MRr G 120 4 T) : MR (u2r f 147 G) c (u1 S 9 T) := MR_9 hm (fun a _ _ q => yur_ne q) (by rw [yur_eq]; exact ht)
theorem MRs_9 {f : Nat → Nat → Int32} {c : Nat → Nat} {S : Nat → Nat → Nat → Int32} {i j : Nat} {v : Int32} (hm : MR f c S) (hj : j < 4) : MR (u2 f 147 (4 * i + j) v) c (u1 S 9 (u2 (S 9) i j v)) := MR_9 hm (fun a _ _ q => yu_ne q) (by rw [yu_eq]; exact MRr_sto hm.2.2.2.2.2.2.2.2.2 hj)
theorem MRs_9z {f : Nat → Nat → Int32} {c : Nat → Nat} {S : Nat → Nat → Nat → Int32} {i : Nat} {v : Int32} (hm : MR f c S) : MR (u2 f 147 (4 * i) v) c (u1 S 9 (u2 (S 9) i 0 v)) := MRs_9 (j := 0) hm (by decide)
