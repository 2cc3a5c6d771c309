/-! ===== what a track's row keeps to ===== -/
def pxb (k : Nat) (x : Int32) : Prop := -(160000 + 61441 * (k : Int)) ≤ x.toInt ∧ x.toInt ≤ 160000 + 61441 * (k : Int)
def vb (v : Int32) : Prop := -16384 ≤ v.toInt ∧ v.toInt ≤ 16384
def mvb (k : Nat) (R : Nat → Int32) : Prop := pxb k (R 1) ∧ pxb k (R 2) ∧ vb (R 3) ∧ vb (R 4)
theorem mvb_IB {k : Nat} {R : Nat → Int32} (hk : k ≤ 500) (h : mvb k R) : IB R := by
  obtain ⟨⟨a1, a2⟩, ⟨b1, b2⟩, h3, h4⟩ := h
  exact ⟨⟨by omega, by omega⟩, ⟨by omega, by omega⟩, h3, h4⟩
theorem mvb_le {k k' : Nat} {R : Nat → Int32} (hk : k ≤ k') (h : mvb k R) : mvb k' R := by
  obtain ⟨⟨a1, a2⟩, ⟨b1, b2⟩, h3, h4⟩ := h
  exact ⟨⟨by omega, by omega⟩, ⟨by omega, by omega⟩, h3, h4⟩
theorem mvb_e {k : Nat} {R R' : Nat → Int32} (h : mvb k R) (e1 : R' 1 = R 1) (e2 : R' 2 = R 2) (e3 : R' 3 = R 3) (e4 : R' 4 = R 4) : mvb k R' := by
  unfold mvb at h ⊢
  rw [e1, e2, e3, e4]
  exact h
def ag (k : Nat) (R : Nat → Int32) : Prop := ∃ g m : Nat, R 8 = nI g ∧ R 7 = nI m ∧ m < g ∧ g ≤ k ∧ m ≤ 4
def nmd (n : Nat) (x : Int32) : Prop := ∃ m, m < n ∧ x = nI m
def old (R : Nat → Int32) : Prop := IQ (R 10) ∧ IQ (R 11) ∧ R 14 = R 10 ∧ R 15 = R 11
/-- between sweeps; joined; moved on -/
def PR (k n : Nat) (R : Nat → Int32) : Prop := mvb k R ∧ IS R ∧ ag k R ∧ nmd n (R 0) ∧ R 14 = R 1 ∧ R 15 = R 2
def PJ (k n : Nat) (R : Nat → Int32) : Prop := mvb (k + 1) R ∧ IS R ∧ ag k R ∧ nmd n (R 0) ∧ old R
def PM (k n : Nat) (R : Nat → Int32) : Prop := mvb (k + 1) R ∧ IS R ∧ ag (k + 1) R ∧ nmd n (R 0) ∧ old R ∧ (R 5 = nI 1 → nI 1 < R 8)
/-- the lost, in sweep k -/
def PL (K k n τ : Nat) (L : Nat → Int32) : Prop := mvb K L ∧ (∃ s, s ≤ k ∧ k ≤ s + 12 ∧ L 5 = nI s) ∧ (∃ t, t ≤ τ ∧ L 6 = nI t) ∧ nmd n (L 0)
theorem nmd_le {n n' : Nat} {x : Int32} (h : nmd n x) (hn : n ≤ n') : nmd n' x := by
  obtain ⟨m, h1, h2⟩ := h
  exact ⟨m, by omega, h2⟩
theorem IS_7 {R : Nat → Int32} (h : IS R) : ∃ m, m ≤ 4 ∧ R 7 = nI m := by
  rcases h with ⟨-, h | h⟩ | ⟨-, h⟩ | ⟨-, m, h1, h2⟩
  · exact ⟨0, by omega, h⟩
  · exact ⟨1, by omega, h⟩
  · exact ⟨0, by omega, h⟩
  · exact ⟨m, h1, h2⟩
theorem IS_e {R R' : Nat → Int32} (h : IS R) (e5 : R' 5 = R 5) (e7 : R' 7 = R 7) : IS R' := by
  unfold IS at h ⊢
  rw [e5, e7]
  exact h
/-! the expectation -/
theorem ex1_w {dt : Int32} {R : Nat → Int32} {w : Nat} (h1 : w ≠ 1) (h2 : w ≠ 2) (h3 : w ≠ 10) (h4 : w ≠ 11) : e1 dt R w = R w := by
  unfold e1
  rw [up_ne h2, up_ne h1, up_ne h4, up_ne h3]
theorem ex1_1 {dt : Int32} {R : Nat → Int32} : e1 dt R 1 = R 1 + p_wy (R 3) dt := by
  unfold e1
  rw [up_ne (by decide), up_eq]
theorem ex1_2 {dt : Int32} {R : Nat → Int32} : e1 dt R 2 = R 2 + p_wy (R 4) dt := by
  unfold e1
  rw [up_eq]
theorem ex1_10 {dt : Int32} {R : Nat → Int32} : e1 dt R 10 = R 1 := by
  unfold e1
  rw [up_ne (by decide), up_ne (by decide), up_ne (by decide), up_eq]
theorem ex1_11 {dt : Int32} {R : Nat → Int32} : e1 dt R 11 = R 2 := by
  unfold e1
  rw [up_ne (by decide), up_ne (by decide), up_eq]
theorem pxb_wy {k t : Nat} {x v : Int32} (hk : k ≤ 499) (hx : pxb k x) (hv : vb v) (ht : t ≤ 60) : pxb (k + 1) (x + p_wy v (nI t)) := by
  obtain ⟨a1, a2⟩ := hx
  obtain ⟨-, -, -, w⟩ := way_b hv.1 hv.2 (t := t) (by omega)
  obtain ⟨w1, w2⟩ := w ht
  have e : (x + p_wy v (nI t)).toInt = x.toInt + (p_wy v (nI t)).toInt := i_add (by omega) (by omega)
  unfold pxb
  rw [e]
  constructor <;> omega
theorem PR_PJ {k n t : Nat} {R : Nat → Int32} (hk : k ≤ 499) (ht : t ≤ 60) (h : PR k n R) : PJ k n (e1 (nI t) R) := by
  obtain ⟨⟨b1, b2, b3, b4⟩, hi, ⟨g, m, h8, h7, hg⟩, hn, h14, h15⟩ := h
  refine ⟨⟨?_, ?_, ?_, ?_⟩, IS_e hi (ex1_w (by decide) (by decide) (by decide) (by decide)) (ex1_w (by decide) (by decide) (by decide) (by decide)), ⟨g, m, ?_, ?_, hg⟩, ?_, ?_, ?_, ?_, ?_⟩
  · rw [ex1_1]; exact pxb_wy hk b1 b3 ht
  · rw [ex1_2]; exact pxb_wy hk b2 b4 ht
  · rw [ex1_w (by decide) (by decide) (by decide) (by decide)]; exact b3
  · rw [ex1_w (by decide) (by decide) (by decide) (by decide)]; exact b4
  · rw [ex1_w (by decide) (by decide) (by decide) (by decide)]; exact h8
  · rw [ex1_w (by decide) (by decide) (by decide) (by decide)]; exact h7
  · rw [ex1_w (by decide) (by decide) (by decide) (by decide)]; exact hn
  · rw [ex1_10]; exact ⟨by have := b1.1; omega, by have := b1.2; omega⟩
  · rw [ex1_11]; exact ⟨by have := b2.1; omega, by have := b2.2; omega⟩
  · rw [ex1_w (by decide) (by decide) (by decide) (by decide), ex1_10]; exact h14
  · rw [ex1_w (by decide) (by decide) (by decide) (by decide), ex1_11]; exact h15
/-! joined -/
theorem near_vb (v : Int32) : vb (p_near v) := by
  have e1 : (-nI 16384).toInt = -16384 := by decide
  have e2 : (nI 16384).toInt = 16384 := by decide
  unfold vb p_near
  rw [mx_int, mn_int, e1, e2]
  split <;> split <;> constructor <;> omega
theorem fwx_b {k a : Nat} {p x : Int32} (hk : k ≤ 500) (hp : -9999 ≤ p.toInt ∧ p.toInt ≤ 9999) (hx : pxb k x) (ha : a ≤ 16) : pxb k (fwx a p x) := by
  obtain ⟨x1, x2⟩ := hx
  obtain ⟨p1, p2⟩ := hp
  have l16 : (lN 16).toInt = 16 := by decide
  have ea : (nI a).toInt = (a : Int) := nI_toInt (by omega)
  have e1 : (lN 16 * p.toInt64).toInt = 16 * p.toInt := by rw [l_mul (by rw [l16, i2l]; omega) (by rw [l16, i2l]; omega), l16, i2l]
  have e2 : (fwr p x).toInt = 16 * p.toInt - x.toInt := by
    unfold fwr
    rw [l_sub (by rw [e1, i2l]; omega) (by rw [e1, i2l]; omega), e1, i2l]
  obtain ⟨r, hr⟩ : ∃ r, 16 * p.toInt - x.toInt = r := ⟨_, rfl⟩
  rw [hr] at e2
  have rb1 : -32000000 ≤ r := by omega
  have rb2 : r ≤ 32000000 := by omega
  have mb := mul_b2 (a := r) (b := (a : Int)) (A := 32000000) (B := 16) rb1 rb2 (by omega) (by omega)
  have e3 : (fwr p x * (nI a).toInt64).toInt = r * a := by rw [l_mul (by rw [e2, i2l, ea]; omega) (by rw [e2, i2l, ea]; omega), e2, i2l, ea]
  have e4 := rd_int e3 l16 (by omega) (by omega) (by omega) (by omega) (by omega) (by omega)
  have sg : (0 ≤ r → 0 ≤ r * a ∧ r * a ≤ r * 16) ∧ (r ≤ 0 → r * 16 ≤ r * a ∧ r * a ≤ 0) := by
    constructor
    · intro h
      exact ⟨Int.mul_nonneg h (by omega), Int.mul_le_mul_of_nonneg_left (by omega) h⟩
    · intro h
      have q1 := Int.mul_nonneg (a := -r) (b := (a : Int)) (by omega) (by omega)
      have q2 := Int.mul_le_mul_of_nonneg_left (a := (a : Int)) (b := 16) (c := -r) (by omega) (by omega)
      rw [Int.neg_mul] at q1 q2
      rw [Int.neg_mul] at q2
      exact ⟨by omega, by omega⟩
  generalize r * (a : Int) = U at *
  have e5 : (fwx a p x).toInt = x.toInt + (2 * U + 16) / (2 * 16) := by
    unfold fwx
    rw [i_add (by rw [e4]; omega) (by rw [e4]; omega), e4]
  unfold pxb
  rw [e5]
  rcases Int.le_total 0 r with h | h
  · have := sg.1 h
    constructor <;> omega
  · have := sg.2 h
    constructor <;> omega
theorem flw_w {c : Nat → Nat} {P R : Nat → Int32} {dt : Int32} {w : Nat} (h1 : w ≠ 1) (h2 : w ≠ 2) (h3 : w ≠ 3) (h4 : w ≠ 4) (h6 : w ≠ 6) (h7 : w ≠ 7) : flwR c P dt R w = R w := by
  unfold flwR
  rw [up_ne h6, up_ne h7, up_ne h4, up_ne h2, up_ne h3, up_ne h1]
theorem flw_m {k : Nat} {c : Nat → Nat} {P R : Nat → Int32} {dt : Int32} (hk : k ≤ 500) (hP : IP P) (ha : c 13 ≤ 16) (h : mvb k R) : mvb k (flwR c P dt R) := by
  obtain ⟨b1, b2, b3, b4⟩ := h
  obtain ⟨p1, p2⟩ := plc_iff.mp hP
  have e1 : flwR c P dt R 1 = fwx (c 13) (P 0) (R 1) := by
    unfold flwR
    rw [up_ne (by decide), up_ne (by decide), up_ne (by decide), up_ne (by decide), up_ne (by decide), up_eq]
  have e2 : flwR c P dt R 2 = fwx (c 13) (P 1) (R 2) := by
    unfold flwR
    rw [up_ne (by decide), up_ne (by decide), up_ne (by decide), up_eq]
  have e3 : flwR c P dt R 3 = fwv (c 14) dt (P 0) (R 1) (R 3) := by
    unfold flwR
    rw [up_ne (by decide), up_ne (by decide), up_ne (by decide), up_ne (by decide), up_eq]
  have e4 : flwR c P dt R 4 = fwv (c 14) dt (P 1) (R 2) (R 4) := by
    unfold flwR
    rw [up_ne (by decide), up_ne (by decide), up_eq]
  unfold mvb
  rw [e1, e2, e3, e4]
  exact ⟨fwx_b hk p1 b1 ha, fwx_b hk p2 b2 ha, near_vb _, near_vb _⟩
theorem flw_7 {c : Nat → Nat} {P R : Nat → Int32} {dt : Int32} : flwR c P dt R 7 = nI 0 := by
  unfold flwR
  rw [up_ne (by decide), up_eq]
theorem PM_of {k n : Nat} {R R' : Nat → Int32} (hk : k ≤ 499) (h : PJ k n R) (e0 : R' 0 = R 0) (hm : mvb (k + 1) R') (hi : IS R') (e8 : R' 8 = R 8 + nI 1) (e7 : R' 7 = nI 0 ∨ R' 7 = R 7 + nI 1) (eo : R' 10 = R 10 ∧ R' 11 = R 11 ∧ R' 14 = R 14 ∧ R' 15 = R 15) : PM k n R' := by
  obtain ⟨-, -, ⟨g, m, h8, h7, h1, h2, h3⟩, hn, ho1, ho2, ho3, ho4⟩ := h
  obtain ⟨o1, o2, o3, o4⟩ := eo
  have g8 : R' 8 = nI (g + 1) := by rw [e8, h8, nI_add]
  obtain ⟨m', hm', q7⟩ := IS_7 hi
  refine ⟨hm, hi, ⟨g + 1, m', g8, q7, ?_, by omega, hm'⟩, by rw [e0]; exact hn, ⟨by rw [o1]; exact ho1, by rw [o2]; exact ho2, by rw [o3, o1]; exact ho3, by rw [o4, o2]; exact ho4⟩, fun _ => by rw [g8, nI_ltI (by omega) (by omega)]; omega⟩
  rcases e7 with e | e
  · rw [q7, nI_eq' (by omega) (by omega)] at e
    omega
  · rw [q7, h7, nI_add, nI_eq' (by omega) (by omega)] at e
    omega
/-! a track's step, told by its row -/
theorem kpT_t {R : Nat → Int32} (h : R 5 = nI 0 ∨ R 5 = nI 1 ∨ R 5 = nI 2) : kpT R = true := by
  unfold kpT
  rcases h with h | h | h <;> rw [h] <;> decide
theorem IS_kp {R : Nat → Int32} (h : IS R) : kpT R = true := by
  rcases h with ⟨h, -⟩ | ⟨h, -⟩ | ⟨h, -⟩
  · exact kpT_t (Or.inl h)
  · exact kpT_t (Or.inr (Or.inl h))
  · exact kpT_t (Or.inr (Or.inr h))
theorem kpT_3 {R : Nat → Int32} (h : R 5 = nI 3) : kpT R = false := by
  unfold kpT
  rw [h]
  decide
theorem mv_row {k n τ t : Nat} {dt : Int32} {s : CS} (hk : k ≤ 499) (h6 : s.1 6 = k) (hτ : s.1 7 = τ) (ha : s.1 13 ≤ 16) (hR : PJ k n (s.2 7 t)) (hJ : s.2 7 t 13 = -nI 1 ∨ ∃ b, b < 10 ∧ s.2 7 t 13 = nI b ∧ IP (s.2 5 b)) : ∃ Q, (mv1 dt t s).2 7 = u1 (s.2 7) t Q ∧
    ((kpT Q = true ∧ PM k n Q ∧ Q 38 = s.2 7 t 38 ∧ Q 0 = s.2 7 t 0 ∧ Q 8 = s.2 7 t 8 + nI 1 ∧ (mv1 dt t s).1 5 = s.1 5 ∧ (mv1 dt t s).2 8 = s.2 8)
    ∨ (kpT Q = false ∧ s.2 7 t 13 = -nI 1 ∧ (mv1 dt t s).1 5 = s.1 5 ∧ (mv1 dt t s).2 8 = s.2 8)
    ∨ (kpT Q = false ∧ s.2 7 t 13 = -nI 1 ∧ (∃ g, 5 ≤ g ∧ g ≤ k ∧ s.2 7 t 8 = nI g) ∧ (mv1 dt t s).1 5 = s.1 5 + 1 ∧ ∃ X, (mv1 dt t s).2 8 = u1 (s.2 8) (s.1 5) X ∧ PL (k + 1) k n τ X ∧ X 0 = s.2 7 t 0 ∧ X 5 = nI k)) := by
  have hR' := hR
  obtain ⟨hm, hi, ⟨g, m, h8, h7, a1, a2, a3⟩, hn, ho⟩ := hR'
  have A0 : ∀ w, w ≠ 8 → w ≠ 12 → aged (s.2 7 t) w = s.2 7 t w := fun w h h' => aged_w h h'
  have A8 : aged (s.2 7 t) 8 = s.2 7 t 8 + nI 1 := by unfold aged; rw [up_eq]
  have Am : mvb (k + 1) (aged (s.2 7 t)) := mvb_e hm (A0 1 (by decide) (by decide)) (A0 2 (by decide) (by decide)) (A0 3 (by decide) (by decide)) (A0 4 (by decide) (by decide))
  by_cases hj : s.2 7 t 13 = -nI 1
  · -- missed
    have em : mv1 dt t s = mssS s.1 s.2 t (aged (s.2 7 t)) := if_pos hj
    rw [em]
    unfold mssS
    rw [A0 5 (by decide) (by decide), A0 7 (by decide) (by decide), A0 0 (by decide) (by decide)]
    have keep : ∀ Q : Nat → Int32, (∀ w, w ≠ 5 → w ≠ 7 → Q w = aged (s.2 7 t) w) → Q 7 = s.2 7 t 7 + nI 1 → IS Q → kpT Q = true ∧ PM k n Q ∧ Q 38 = s.2 7 t 38 ∧ Q 0 = s.2 7 t 0 ∧ Q 8 = s.2 7 t 8 + nI 1 := fun Q e e7 his => by
      have q0 : Q 0 = s.2 7 t 0 := by rw [e 0 (by decide) (by decide), A0 0 (by decide) (by decide)]
      have q8 : Q 8 = s.2 7 t 8 + nI 1 := by rw [e 8 (by decide) (by decide), A8]
      refine ⟨IS_kp his, PM_of hk hR q0 (mvb_e Am (e 1 (by decide) (by decide)) (e 2 (by decide) (by decide)) (e 3 (by decide) (by decide)) (e 4 (by decide) (by decide))) his q8 (Or.inr e7) ⟨?_, ?_, ?_, ?_⟩, ?_, q0, q8⟩
      all_goals rw [e _ (by decide) (by decide), A0 _ (by decide) (by decide)]
    rcases hi with ⟨h5, h0⟩ | ⟨h5, h0⟩ | ⟨h5, m2, hm2, h0⟩
    · rw [if_pos h5]
      rcases h0 with h0 | h0
      · rw [h0]
        have e : ¬ nI 0 + nI 1 = nI 2 := by decide
        rw [if_neg e]
        simp only
        refine ⟨_, y1_eq, Or.inl ?_⟩
        obtain ⟨k1, k2, k3, k4, k5⟩ := keep (up (aged (s.2 7 t)) 7 (nI 0 + nI 1)) (fun w _ hw => up_ne hw) (by rw [up_eq, h0]) (Or.inl ⟨by rw [up_ne (by decide), A0 5 (by decide) (by decide)]; exact h5, Or.inr (by rw [up_eq]; rfl)⟩)
        exact ⟨k1, k2, k3, k4, k5, (by first | rfl | trivial), y1_ne (by decide)⟩
      · rw [h0]
        have e : nI 1 + nI 1 = nI 2 := by decide
        rw [if_pos e]
        simp only
        exact ⟨_, y1_eq, Or.inr (Or.inl ⟨kpT_3 (up_eq), hj, (by first | rfl | trivial), y1_ne (by decide)⟩)⟩
    · rw [if_neg (by rw [h5]; exact q10), if_pos h5]
      simp only
      refine ⟨_, y1_eq, Or.inl ?_⟩
      obtain ⟨k1, k2, k3, k4, k5⟩ := keep (up (up (aged (s.2 7 t)) 7 (s.2 7 t 7 + nI 1)) 5 (nI 2)) (fun w hw hw' => by rw [up_ne hw, up_ne hw']) (by rw [up_ne (by decide), up_eq]) (Or.inr (Or.inr ⟨up_eq, 1, by omega, by rw [up_ne (by decide), up_eq, h0]; rfl⟩))
      exact ⟨k1, k2, k3, k4, k5, noteC_j (by decide), (y1_ne (by decide)).trans (noteS_r (by decide))⟩
    · rw [if_neg (by rw [h5]; exact q20), if_neg (by rw [h5]; exact q21)]
      by_cases h55 : nI 5 ≤ s.2 7 t 7 + nI 1
      · rw [if_pos ⟨h5, h55⟩]
        simp only
        refine ⟨up (up (aged (s.2 7 t)) 7 (s.2 7 t 7 + nI 1)) 5 (nI 3), y1_eq, Or.inr (Or.inr ⟨kpT_3 (up_eq), hj, ?_, ?_, ?_⟩)⟩
        · rw [h0, nI_add, nI_leI (by omega) (by omega)] at h55
          rw [h7, nI_eq' (by omega) (by omega)] at h0
          exact ⟨g, by omega, by omega, h8⟩
        · exact y1_eq
        · refine ⟨rc7 (s.2 7 t 0) (aged (s.2 7 t) 1) (aged (s.2 7 t) 2) (aged (s.2 7 t) 3) (aged (s.2 7 t) 4) (nI (s.1 6)) (nI (s.1 7)), ?_, ⟨?_, ⟨k, by omega, by omega, ?_⟩, ⟨τ, by omega, ?_⟩, ?_⟩, ?_, ?_⟩
          · rw [y1_ne (by decide), y1_eq]
          · exact mvb_e Am rfl rfl rfl rfl
          · rw [← h6]; rfl
          · rw [← hτ]; rfl
          · exact hn
          · rfl
          · rw [← h6]; rfl
      · rw [if_neg (fun hh => h55 hh.2)]
        simp only
        refine ⟨_, y1_eq, Or.inl ?_⟩
        have h4 : m2 + 1 ≤ 4 := by
          rw [h0, nI_add, nI_leI (by omega) (by omega)] at h55
          omega
        obtain ⟨k1, k2, k3, k4, k5⟩ := keep (up (aged (s.2 7 t)) 7 (s.2 7 t 7 + nI 1)) (fun w _ hw => up_ne hw) (by rw [up_eq]) (Or.inr (Or.inr ⟨by rw [up_ne (by decide), A0 5 (by decide) (by decide)]; exact h5, m2 + 1, h4, by rw [up_eq, h0, nI_add]⟩))
        exact ⟨k1, k2, k3, k4, k5, (by first | rfl | trivial), y1_ne (by decide)⟩
  · -- joined
    obtain ⟨b, hb, eb, hP⟩ : ∃ b, b < 10 ∧ s.2 7 t 13 = nI b ∧ IP (s.2 5 b) := by
      rcases hJ with h | h
      · exact absurd h hj
      · exact h
    have em : mv1 dt t s = flwS s.1 s.2 t dt (aged (s.2 7 t)) := if_neg hj
    rw [em]
    unfold flwS
    rw [A0 5 (by decide) (by decide), A0 13 (by decide) (by decide), eb, ix_nI (by omega)]
    have Fm : mvb (k + 1) (flwR s.1 (s.2 5 b) dt (aged (s.2 7 t))) := flw_m (by omega) hP ha Am
    have keep : ∀ Q : Nat → Int32, (∀ w, w ≠ 5 → w ≠ 12 → Q w = flwR s.1 (s.2 5 b) dt (aged (s.2 7 t)) w) → (Q 5 = nI 0 ∨ Q 5 = nI 1) → kpT Q = true ∧ PM k n Q ∧ Q 38 = s.2 7 t 38 ∧ Q 0 = s.2 7 t 0 ∧ Q 8 = s.2 7 t 8 + nI 1 := fun Q e e5 => by
      have q7 : Q 7 = nI 0 := by rw [e 7 (by decide) (by decide), flw_7]
      have his : IS Q := by
        rcases e5 with h | h
        · exact Or.inl ⟨h, Or.inl q7⟩
        · exact Or.inr (Or.inl ⟨h, q7⟩)
      have fl : ∀ w, w ≠ 1 → w ≠ 2 → w ≠ 3 → w ≠ 4 → w ≠ 6 → w ≠ 7 → w ≠ 5 → w ≠ 12 → w ≠ 8 → Q w = s.2 7 t w := fun w h1 h2 h3 h4 h6 h7 h5 h12 h8 => by rw [e w h5 h12, flw_w h1 h2 h3 h4 h6 h7, A0 w h8 h12]
      have q0 : Q 0 = s.2 7 t 0 := fl 0 (by decide) (by decide) (by decide) (by decide) (by decide) (by decide) (by decide) (by decide) (by decide)
      have q8 : Q 8 = s.2 7 t 8 + nI 1 := by rw [e 8 (by decide) (by decide), flw_w (by decide) (by decide) (by decide) (by decide) (by decide) (by decide), A8]
      refine ⟨IS_kp his, PM_of hk hR q0 (mvb_e Fm (e 1 (by decide) (by decide)) (e 2 (by decide) (by decide)) (e 3 (by decide) (by decide)) (e 4 (by decide) (by decide))) his q8 (Or.inl q7) ⟨?_, ?_, ?_, ?_⟩, ?_, q0, q8⟩
      all_goals exact fl _ (by decide) (by decide) (by decide) (by decide) (by decide) (by decide) (by decide) (by decide) (by decide)
    have F5 : flwR s.1 (s.2 5 b) dt (aged (s.2 7 t)) 5 = s.2 7 t 5 := by rw [flw_w (by decide) (by decide) (by decide) (by decide) (by decide) (by decide), A0 5 (by decide) (by decide)]
    by_cases c2 : s.2 7 t 5 = nI 2
    · rw [if_pos c2]
      simp only
      refine ⟨_, y1_eq, Or.inl ?_⟩
      obtain ⟨k1, k2, k3, k4, k5⟩ := keep (up (flwR s.1 (s.2 5 b) dt (aged (s.2 7 t))) 5 (nI 1)) (fun w hw _ => up_ne hw) (Or.inr up_eq)
      exact ⟨k1, k2, k3, k4, k5, noteC_j (by decide), (y1_ne (by decide)).trans (noteS_r (by decide))⟩
    · rw [if_neg c2]
      by_cases c0 : s.2 7 t 5 = nI 0 ∧ nI 3 ≤ aged (s.2 7 t) 6 + nI 1
      · rw [if_pos c0]
        simp only
        refine ⟨_, y1_eq, Or.inl ?_⟩
        obtain ⟨k1, k2, k3, k4, k5⟩ := keep (up (up (flwR s.1 (s.2 5 b) dt (aged (s.2 7 t))) 5 (nI 1)) 12 (nI 1)) (fun w hw hw' => by rw [up_ne hw', up_ne hw]) (Or.inr (by rw [up_ne (by decide), up_eq]))
        exact ⟨k1, k2, k3, k4, k5, noteC_j (by decide), (y1_ne (by decide)).trans (noteS_r (by decide))⟩
      · rw [if_neg c0]
        simp only
        refine ⟨_, y1_eq, Or.inl ?_⟩
        obtain ⟨k1, k2, k3, k4, k5⟩ := keep (flwR s.1 (s.2 5 b) dt (aged (s.2 7 t))) (fun _ _ _ => rfl) (by
          rw [F5]
          rcases hi with ⟨h5, -⟩ | ⟨h5, -⟩ | ⟨h5, -⟩
          · exact Or.inl h5
          · exact Or.inr h5
          · exact absurd h5 c2)
        exact ⟨k1, k2, k3, k4, k5, (by first | rfl | trivial), y1_ne (by decide)⟩
