/-! ===== numbers ===== -/
theorem i_lo (a : Int32) : -2147483648 ≤ a.toInt := Int32.le_toInt a
theorem i_hi (a : Int32) : a.toInt < 2147483648 := Int32.toInt_lt a
theorem l_lo (a : Int64) : -9223372036854775808 ≤ a.toInt := Int64.le_toInt a
theorem l_hi (a : Int64) : a.toInt < 9223372036854775808 := Int64.toInt_lt a
theorem i_add {a b : Int32} (h1 : -2147483648 ≤ a.toInt + b.toInt) (h2 : a.toInt + b.toInt < 2147483648) : (a + b).toInt = a.toInt + b.toInt := by
  rw [Int32.toInt_add]
  simp only [Int.bmod_def]
  split <;> omega
theorem i_sub {a b : Int32} (h1 : -2147483648 ≤ a.toInt - b.toInt) (h2 : a.toInt - b.toInt < 2147483648) : (a - b).toInt = a.toInt - b.toInt := by
  rw [Int32.toInt_sub]
  simp only [Int.bmod_def]
  split <;> omega
theorem i_mul {a b : Int32} (h1 : -2147483648 ≤ a.toInt * b.toInt) (h2 : a.toInt * b.toInt < 2147483648) : (a * b).toInt = a.toInt * b.toInt := by
  rw [Int32.toInt_mul]
  simp only [Int.bmod_def]
  split <;> omega
theorem l_add {a b : Int64} (h1 : -9223372036854775808 ≤ a.toInt + b.toInt) (h2 : a.toInt + b.toInt < 9223372036854775808) : (a + b).toInt = a.toInt + b.toInt := by
  rw [Int64.toInt_add]
  simp only [Int.bmod_def]
  split <;> omega
theorem l_sub {a b : Int64} (h1 : -9223372036854775808 ≤ a.toInt - b.toInt) (h2 : a.toInt - b.toInt < 9223372036854775808) : (a - b).toInt = a.toInt - b.toInt := by
  rw [Int64.toInt_sub]
  simp only [Int.bmod_def]
  split <;> omega
theorem l_mul {a b : Int64} (h1 : -9223372036854775808 ≤ a.toInt * b.toInt) (h2 : a.toInt * b.toInt < 9223372036854775808) : (a * b).toInt = a.toInt * b.toInt := by
  rw [Int64.toInt_mul]
  simp only [Int.bmod_def]
  split <;> omega
theorem i2l (a : Int32) : a.toInt64.toInt = a.toInt := Int32.toInt_toInt64 a
theorem l2i {a : Int64} (h1 : -2147483648 ≤ a.toInt) (h2 : a.toInt < 2147483648) : a.toInt32.toInt = a.toInt := by
  rw [Int64.toInt_toInt32]
  simp only [Int.bmod_def]
  split <;> omega
theorem i_neg {a : Int32} (h1 : -2147483648 < a.toInt) : (-a).toInt = -a.toInt := by
  rw [Int32.toInt_neg]
  simp only [Int.bmod_def]
  have := i_hi a
  split <;> omega
theorem l_neg {a : Int64} (h1 : -9223372036854775808 < a.toInt) : (-a).toInt = -a.toInt := by
  rw [Int64.toInt_neg]
  simp only [Int.bmod_def]
  have := l_hi a
  split <;> omega
theorem i_xor (a b : Int32) : (0 ≤ (a ^^^ b)) ↔ (a.toInt < 0 ↔ b.toInt < 0) := by
  rw [fa_le]
  have h : ∀ x : Int32, (x.toInt < 0) ↔ x.toBitVec.msb = true := fun x => by
    rw [BitVec.msb_eq_toInt, decide_eq_true_eq]; rfl
  have h0 : (0 : Int32).toInt = 0 := by decide
  have hx : (a ^^^ b).toBitVec = a.toBitVec ^^^ b.toBitVec := Int32.toBitVec_xor a b
  have h1 := h (a ^^^ b)
  rw [hx, BitVec.msb_xor] at h1
  rw [h0, h a, h b]
  constructor
  · intro q
    have : ¬ (a.toBitVec.msb ^^ b.toBitVec.msb) = true := fun q2 => absurd (h1.mpr q2) (by omega)
    revert this
    cases a.toBitVec.msb <;> cases b.toBitVec.msb <;> simp
  · intro q
    have : ¬ (a.toBitVec.msb ^^ b.toBitVec.msb) = true := by
      revert q
      cases a.toBitVec.msb <;> cases b.toBitVec.msb <;> simp
    have h2 := mt h1.mp this
    omega
theorem l_xor (a b : Int64) : (0 ≤ (a ^^^ b)) ↔ (a.toInt < 0 ↔ b.toInt < 0) := by
  rw [fa_le64]
  have h : ∀ x : Int64, (x.toInt < 0) ↔ x.toBitVec.msb = true := fun x => by
    rw [BitVec.msb_eq_toInt, decide_eq_true_eq]; rfl
  have h0 : (0 : Int64).toInt = 0 := by decide
  have hx : (a ^^^ b).toBitVec = a.toBitVec ^^^ b.toBitVec := Int64.toBitVec_xor a b
  have h1 := h (a ^^^ b)
  rw [hx, BitVec.msb_xor] at h1
  rw [h0, h a, h b]
  constructor
  · intro q
    have : ¬ (a.toBitVec.msb ^^ b.toBitVec.msb) = true := fun q2 => absurd (h1.mpr q2) (by omega)
    revert this
    cases a.toBitVec.msb <;> cases b.toBitVec.msb <;> simp
  · intro q
    have : ¬ (a.toBitVec.msb ^^ b.toBitVec.msb) = true := by
      revert q
      cases a.toBitVec.msb <;> cases b.toBitVec.msb <;> simp
    have h2 := mt h1.mp this
    omega
/-- the quotient as Java divides, and the floor -/
theorem fl_int {A B : Int} (hB : 0 < B) : A / B = (if 0 ≤ A then A.tdiv B else if A.tdiv B * B = A then A.tdiv B else A.tdiv B - 1) := by
  rw [Int.tdiv_eq_ediv]
  have hs : B.sign = 1 := Int.sign_eq_one_of_pos hB
  by_cases h : 0 ≤ A
  · simp [h]
  · by_cases hd : B ∣ A
    · have := Int.ediv_mul_cancel hd
      simp [h, hd, this]
    · have hne : ¬ ((A / B + 1) * B = A) := fun e => hd ⟨A / B + 1, by rw [Int.mul_comm]; exact e.symm⟩
      simp only [h, hd, or_self, if_false, hs, hne]
      omega
theorem td_bd {A B : Int} (hB : 0 < B) : (0 ≤ A → 0 ≤ A.tdiv B ∧ A.tdiv B ≤ A) ∧ (A ≤ 0 → A ≤ A.tdiv B ∧ A.tdiv B ≤ 0) := by
  constructor
  · intro h
    rw [Int.tdiv_eq_ediv_of_nonneg h]
    exact ⟨Int.ediv_nonneg h (by omega), Int.ediv_le_self B h⟩
  · intro h
    have e : A.tdiv B = -((-A).tdiv B) := by rw [Int.neg_tdiv]; omega
    rw [e, Int.tdiv_eq_ediv_of_nonneg (by omega)]
    have h1 := Int.ediv_nonneg (a := -A) (b := B) (by omega) (by omega)
    have h2 := Int.ediv_le_self B (a := -A) (by omega)
    omega
theorem fi_int {a b : Int32} (hb : 0 < b.toInt) : (p_fi a b).toInt = a.toInt / b.toInt := by
  have hA := i_lo a
  have hA2 := i_hi a
  have hq := td_bd (A := a.toInt) hb
  have hd : (a / b).toInt = a.toInt.tdiv b.toInt := by
    rw [Int32.toInt_div]
    simp only [Int.bmod_def]
    split <;> omega
  have hm : a / b * b = a ↔ a.toInt.tdiv b.toInt * b.toInt = a.toInt := by
    have h0 : a.toInt = b.toInt * a.toInt.tdiv b.toInt + a.toInt.tmod b.toInt := (Int.mul_tdiv_add_tmod a.toInt b.toInt).symm
    have h1 : 0 ≤ a.toInt → 0 ≤ a.toInt.tmod b.toInt := fun h => Int.tmod_nonneg _ h
    have h2 : a.toInt ≤ 0 → a.toInt.tmod b.toInt ≤ 0 := fun h => by
      have := Int.tmod_nonneg (a := -a.toInt) b.toInt (by omega)
      rw [Int.neg_tmod] at this
      omega
    have h4 : 0 ≤ a.toInt → 0 ≤ b.toInt * a.toInt.tdiv b.toInt := fun h => Int.mul_nonneg (by omega) (hq.1 h).1
    have h5 : a.toInt ≤ 0 → b.toInt * a.toInt.tdiv b.toInt ≤ 0 := fun h => Int.mul_nonpos_of_nonneg_of_nonpos (by omega) (hq.2 h).2
    have h6 := Int.mul_comm b.toInt (a.toInt.tdiv b.toInt)
    rw [fa_eq, i_mul (by rw [hd]; omega) (by rw [hd]; omega), hd]
  rw [fl_int hb]
  unfold p_fi
  by_cases h : 0 ≤ (a ^^^ b)
  · rw [if_pos h, hd]
    rw [i_xor] at h
    rw [if_pos (by omega)]
  · rw [if_neg h]
    rw [i_xor] at h
    have hneg : ¬ 0 ≤ a.toInt := by omega
    rw [if_neg hneg]
    by_cases h3 : a / b * b = a
    · rw [if_pos h3, if_pos (hm.mp h3), hd]
    · rw [if_neg h3, if_neg (mt hm.mpr h3), i_sub]
      · rw [hd]; rfl
      · rw [hd]
        have : (1 : Int32).toInt = 1 := by decide
        rw [this]
        have h7 := mt hm.mpr h3
        have h8 : a.toInt.tdiv b.toInt ≠ -2147483648 := by
          intro e
          have h9 := hq.2 (by omega)
          have : a.toInt = -2147483648 := by omega
          apply h7
          rw [e, this]
          have h10 : (-2147483648 : Int).tdiv b.toInt = -2147483648 := by rw [← this]; omega
          have h11 : b.toInt = 1 := by
            rw [show (-2147483648 : Int) = -(2147483648) from rfl, Int.neg_tdiv, Int.tdiv_eq_ediv_of_nonneg (by decide)] at h10
            have h12 : (2147483648 : Int) / b.toInt = 2147483648 := by omega
            have h13 := Int.ediv_mul_le 2147483648 (b := b.toInt) (by omega)
            rw [h12] at h13
            omega
          rw [h11]; rfl
        omega
      · rw [hd]
        have : (1 : Int32).toInt = 1 := by decide
        rw [this]
        omega
theorem fd_int {a b : Int64} (hb : 0 < b.toInt) : (p_fd a b).toInt = a.toInt / b.toInt := by
  have hA := l_lo a
  have hA2 := l_hi a
  have hq := td_bd (A := a.toInt) hb
  have hd : (a / b).toInt = a.toInt.tdiv b.toInt := by
    rw [Int64.toInt_div]
    simp only [Int.bmod_def]
    split <;> omega
  have hm : a / b * b = a ↔ a.toInt.tdiv b.toInt * b.toInt = a.toInt := by
    have h0 : a.toInt = b.toInt * a.toInt.tdiv b.toInt + a.toInt.tmod b.toInt := (Int.mul_tdiv_add_tmod a.toInt b.toInt).symm
    have h1 : 0 ≤ a.toInt → 0 ≤ a.toInt.tmod b.toInt := fun h => Int.tmod_nonneg _ h
    have h2 : a.toInt ≤ 0 → a.toInt.tmod b.toInt ≤ 0 := fun h => by
      have := Int.tmod_nonneg (a := -a.toInt) b.toInt (by omega)
      rw [Int.neg_tmod] at this
      omega
    have h4 : 0 ≤ a.toInt → 0 ≤ b.toInt * a.toInt.tdiv b.toInt := fun h => Int.mul_nonneg (by omega) (hq.1 h).1
    have h5 : a.toInt ≤ 0 → b.toInt * a.toInt.tdiv b.toInt ≤ 0 := fun h => Int.mul_nonpos_of_nonneg_of_nonpos (by omega) (hq.2 h).2
    have h6 := Int.mul_comm b.toInt (a.toInt.tdiv b.toInt)
    rw [fa_eq64, l_mul (by rw [hd]; omega) (by rw [hd]; omega), hd]
  rw [fl_int hb]
  unfold p_fd
  by_cases h : 0 ≤ (a ^^^ b)
  · rw [if_pos h, hd]
    rw [l_xor] at h
    rw [if_pos (by omega)]
  · rw [if_neg h]
    rw [l_xor] at h
    have hneg : ¬ 0 ≤ a.toInt := by omega
    rw [if_neg hneg]
    by_cases h3 : a / b * b = a
    · rw [if_pos h3, if_pos (hm.mp h3), hd]
    · rw [if_neg h3, if_neg (mt hm.mpr h3), l_sub]
      · rw [hd]; rfl
      · rw [hd]
        have : (1 : Int64).toInt = 1 := by decide
        rw [this]
        have h7 := mt hm.mpr h3
        have h8 : a.toInt.tdiv b.toInt ≠ -9223372036854775808 := by
          intro e
          have h9 := hq.2 (by omega)
          have : a.toInt = -9223372036854775808 := by omega
          apply h7
          rw [e, this]
          have h10 : (-9223372036854775808 : Int).tdiv b.toInt = -9223372036854775808 := by rw [← this]; omega
          have h11 : b.toInt = 1 := by
            rw [show (-9223372036854775808 : Int) = -(9223372036854775808) from rfl, Int.neg_tdiv, Int.tdiv_eq_ediv_of_nonneg (by decide)] at h10
            have h12 : (9223372036854775808 : Int) / b.toInt = 9223372036854775808 := by omega
            have h13 := Int.ediv_mul_le 9223372036854775808 (b := b.toInt) (by omega)
            rw [h12] at h13
            omega
          rw [h11]; rfl
        omega
      · rw [hd]
        have : (1 : Int64).toInt = 1 := by decide
        rw [this]
        omega
theorem rd_int {u w : Int64} {U W : Int} (hu : u.toInt = U) (hw : w.toInt = W) (hW : 0 < W) (hW2 : W < 4000000000000000000) (h1 : -4000000000000000000 ≤ 2 * U + W) (h2 : 2 * U + W < 4000000000000000000) (h3 : -2147483648 ≤ (2 * U + W) / (2 * W)) (h4 : (2 * U + W) / (2 * W) < 2147483648) : (p_rd u w).toInt = (2 * U + W) / (2 * W) := by
  subst hu hw
  have e2 : (2 : Int64).toInt = 2 := by decide
  have eu : (2 * u).toInt = 2 * u.toInt := by rw [l_mul (by rw [e2]; omega) (by rw [e2]; omega), e2]
  have ew : (2 * w).toInt = 2 * w.toInt := by rw [l_mul (by rw [e2]; omega) (by rw [e2]; omega), e2]
  have ea : (2 * u + w).toInt = 2 * u.toInt + w.toInt := by rw [l_add (by rw [eu]; omega) (by rw [eu]; omega), eu]
  have ef : (p_fd (2 * u + w) (2 * w)).toInt = (2 * u.toInt + w.toInt) / (2 * w.toInt) := by rw [fd_int (by rw [ew]; omega), ea, ew]
  unfold p_rd
  rw [l2i (by rw [ef]; exact h3) (by rw [ef]; exact h4), ef]
theorem lN_16 : (lN 16).toInt = 16 := by decide
/-- how far a speed goes, as the reference has it -/
def p_wy (v t : Int32) : Int32 := p_rd (v.toInt64 * t.toInt64) (lN 16)
theorem il_mul (a b : Int32) : (a.toInt64 * b.toInt64).toInt = a.toInt * b.toInt := by
  have h1 := i_lo a
  have h2 := i_hi a
  have h3 := i_lo b
  have h4 := i_hi b
  have h5 : (a.toInt * b.toInt).natAbs ≤ 2147483648 * 2147483648 := by
    rw [Int.natAbs_mul]
    exact Nat.mul_le_mul (by omega) (by omega)
  rw [l_mul (by rw [i2l, i2l]; omega) (by rw [i2l, i2l]; omega), i2l, i2l]
theorem wy_int {v t : Int32} (h1 : -2000000000 ≤ v.toInt * t.toInt) (h2 : v.toInt * t.toInt ≤ 2000000000) : (p_wy v t).toInt = (v.toInt * t.toInt + 8) / 16 := by
  unfold p_wy
  rw [rd_int (il_mul v t) lN_16 (by omega) (by omega) (by omega) (by omega) (by omega) (by omega)]
  omega
theorem way_int {v t : Int32} (h1 : -2000000000 ≤ v.toInt * t.toInt) (h2 : v.toInt * t.toInt ≤ 2000000000) : (p_way v t).toInt = (v.toInt * t.toInt + 8) / 16 := by
  have e8 : (8 : Int32).toInt = 8 := by decide
  have em : (v * t).toInt = v.toInt * t.toInt := i_mul (by omega) (by omega)
  unfold p_way
  rw [pk_shr _ _ 4 (by decide), i_add (by rw [em, e8]; omega) (by rw [em, e8]; omega), em, e8, Int.shiftRight_eq_div_pow]
  rfl
theorem way_wy {v t : Int32} (h1 : -2000000000 ≤ v.toInt * t.toInt) (h2 : v.toInt * t.toInt ≤ 2000000000) : p_way v t = p_wy v t := by
  rw [fa_eq, way_int h1 h2, wy_int h1 h2]
theorem nI_ti {n : Nat} (h : n < 2147483648) : (nI n).toInt = (n : Int) := nI_toInt h
/-- the field of a place -/
theorem plc_iff {x y : Int32} : plc x y = true ↔ (-9999 ≤ x.toInt ∧ x.toInt ≤ 9999) ∧ (-9999 ≤ y.toInt ∧ y.toInt ≤ 9999) := by
  have e1 : (-nI 9999).toInt = -9999 := by decide
  have e2 : (nI 9999).toInt = 9999 := by decide
  unfold plc
  rw [Bool.and_eq_true, wi_iff, wi_iff, e1, e2]
def p_fx (x : Int32) : Int32 := p_fi x (nI 1000)
def fxn (x : Int32) : Nat := ix (p_fx x + nI 10)
theorem fx_ok {x : Int32} (h1 : -9999 ≤ x.toInt) (h2 : x.toInt ≤ 9999) : fxn x < 20 ∧ p_fx x + nI 10 = nI (fxn x) := by
  have e : (nI 1000).toInt = 1000 := by decide
  have e2 : (nI 10).toInt = 10 := by decide
  have hf : (p_fx x).toInt = x.toInt / 1000 := by unfold p_fx; rw [fi_int (by rw [e]; omega), e]
  have hg : (p_fx x + nI 10).toInt = x.toInt / 1000 + 10 := by rw [i_add (by rw [hf, e2]; omega) (by rw [hf, e2]; omega), hf, e2]
  obtain ⟨k, hk, hk2⟩ := nI_of (x := p_fx x + nI 10) (by rw [fa_lt, hg]; show ¬ (_ < (0 : Int)); omega)
  have h3 : fxn x = k := by unfold fxn; rw [hk2, ix_nI (by omega)]
  rw [h3]
  refine ⟨?_, hk2⟩
  rw [hk2, nI_toInt hk] at hg
  omega
