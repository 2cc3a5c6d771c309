/-! ===== two ways cross: the class' test and the reference's say the same ===== -/
theorem mul_b2 {a b A B : Int} (h1 : -A ≤ a) (h2 : a ≤ A) (h3 : -B ≤ b) (h4 : b ≤ B) : -(A * B) ≤ a * b ∧ a * b ≤ A * B := by
  rcases Int.le_total 0 b with h | h
  · exact mul_bd h1 h2 h h4
  · have e := mul_bd (b := -b) h1 h2 (by omega) (show -b ≤ B by omega)
    rw [Int.mul_neg] at e
    omega
theorem btw {q d D b : Int} (hD : D ≠ 0) (h : q * D = d * b) (hb : (0 ≤ b ∧ b ≤ D) ∨ (D ≤ b ∧ b ≤ 0)) : (0 ≤ q ∧ q ≤ d) ∨ (d ≤ q ∧ q ≤ 0) := by
  have key : ∀ D b : Int, 0 < D → q * D = d * b → 0 ≤ b → b ≤ D → (0 ≤ q ∧ q ≤ d) ∨ (d ≤ q ∧ q ≤ 0) := by
    intro D b hD h h1 h2
    rcases Int.le_total 0 d with hd | hd
    · left
      have e1 : 0 ≤ d * b := Int.mul_nonneg hd h1
      have e2 : d * b ≤ d * D := Int.mul_le_mul_of_nonneg_left h2 hd
      constructor
      · exact Int.le_of_mul_le_mul_right (show 0 * D ≤ q * D by rw [Int.zero_mul, h]; exact e1) hD
      · exact Int.le_of_mul_le_mul_right (show q * D ≤ d * D by rw [h]; exact e2) hD
    · right
      have e1 : 0 ≤ (-d) * b := Int.mul_nonneg (by omega) h1
      have e2 : (-d) * b ≤ (-d) * D := Int.mul_le_mul_of_nonneg_left h2 (by omega)
      rw [Int.neg_mul] at e1 e2
      rw [Int.neg_mul] at e2
      constructor
      · exact Int.le_of_mul_le_mul_right (show d * D ≤ q * D by rw [h]; omega) hD
      · exact Int.le_of_mul_le_mul_right (show q * D ≤ 0 * D by rw [Int.zero_mul, h]; omega) hD
  rcases hb with ⟨h1, h2⟩ | ⟨h1, h2⟩
  · exact key D b (by omega) h h1 h2
  · exact key (-D) (-b) (by omega) (by rw [Int.mul_neg, Int.mul_neg, h]) (by omega) (by omega)
theorem nss {q d D b : Int} (h : q * D = d * b) (hq : (0 ≤ q ∧ q ≤ d) ∨ (d ≤ q ∧ q ≤ 0)) (hd : d ≠ 0) : ¬ ((0 < b ∧ 0 < b - D) ∨ (b < 0 ∧ b - D < 0)) := by
  have key : ∀ d q b D : Int, 0 < d → q * D = d * b → 0 ≤ q → q ≤ d → 0 < b → 0 < b - D → False := by
    intro d q b D hd h h1 h2 h3 h4
    have e1 : d * (D + 1) ≤ d * b := Int.mul_le_mul_of_nonneg_left (by omega) (by omega)
    rw [Int.mul_add, Int.mul_one] at e1
    rcases Int.le_total 0 D with hD | hD
    · have e2 : q * D ≤ d * D := Int.mul_le_mul_of_nonneg_right h2 hD
      omega
    · have e2 : 0 ≤ q * (-D) := Int.mul_nonneg h1 (by omega)
      have e3 : 0 < d * b := Int.mul_pos hd h3
      rw [Int.mul_neg] at e2
      omega
  have key2 : ∀ q d b D : Int, q * D = d * b → ((0 ≤ q ∧ q ≤ d) ∨ (d ≤ q ∧ q ≤ 0)) → d ≠ 0 → 0 < b → 0 < b - D → False := by
    intro q d b D h hq hd h3 h4
    rcases hq with ⟨h1, h2⟩ | ⟨h1, h2⟩
    · exact key d q b D (by omega) h h1 h2 h3 h4
    · exact key (-d) (-q) b D (by omega) (by rw [Int.neg_mul, Int.neg_mul, h]) (by omega) (by omega) h3 h4
  rintro (⟨h3, h4⟩ | ⟨h3, h4⟩)
  · exact key2 q d b D h hq hd h3 h4
  · exact key2 q d (-b) (-D) (by rw [Int.mul_neg, Int.mul_neg, h]) hq hd (by omega) (by omega)
theorem hull {d w z D a b : Int} (h : w * (D - a) + z * a = d * b) (ha : 0 < a) (ha2 : a < D) (hb : 0 < b) (hb2 : b < D) : ¬ (0 < w ∧ 0 < z ∧ d < w ∧ d < z) ∧ ¬ (w < 0 ∧ z < 0 ∧ w < d ∧ z < d) := by
  have key : ∀ d w z : Int, w * (D - a) + z * a = d * b → 0 < w → 0 < z → d < w → d < z → False := by
    intro d w z h h1 h2 h3 h4
    have m : ∃ m : Int, m ≤ w ∧ m ≤ z ∧ 0 < m ∧ d < m := by
      rcases Int.le_total w z with q | q
      · exact ⟨w, by omega, q, h1, h3⟩
      · exact ⟨z, q, by omega, h2, h4⟩
    obtain ⟨m, m1, m2, m3, m4⟩ := m
    have e1 : m * (D - a) ≤ w * (D - a) := Int.mul_le_mul_of_nonneg_right m1 (by omega)
    have e2 : m * a ≤ z * a := Int.mul_le_mul_of_nonneg_right m2 (by omega)
    rw [Int.mul_sub] at e1
    have e3 : d * b ≤ (m - 1) * b := Int.mul_le_mul_of_nonneg_right (by omega) (by omega)
    have e4 : (m - 1) * b ≤ (m - 1) * D := Int.mul_le_mul_of_nonneg_left (by omega) (by omega)
    rw [Int.sub_mul (m) 1 D, Int.one_mul] at e4
    omega
  constructor
  · rintro ⟨h1, h2, h3, h4⟩
    exact key d w z h h1 h2 h3 h4
  · rintro ⟨h1, h2, h3, h4⟩
    exact key (-d) (-w) (-z) (by rw [Int.neg_mul, Int.neg_mul, Int.neg_mul, ← h]; omega) (by omega) (by omega) (by omega) (by omega)
theorem seg {dx dy ex ey wx wy a0 a1 b0 b1 : Int} (ha1 : a1 = dx * wy - dy * wx) (ha0 : a0 = dx * (wy + ey) - dy * (wx + ex)) (hb1 : b1 = ey * wx - ex * wy) (hb0 : b0 = ex * (dy - wy) - ey * (dx - wx)) :
    ((¬ (0 < wx ∧ 0 < wx + ex ∧ dx < wx ∧ dx < wx + ex) ∧ ¬ (wx < 0 ∧ wx < dx ∧ wx + ex < 0 ∧ wx + ex < dx)) ∧ (¬ (0 < wy ∧ 0 < wy + ey ∧ dy < wy ∧ dy < wy + ey) ∧ ¬ (wy < 0 ∧ wy < dy ∧ wy + ey < 0 ∧ wy + ey < dy)) ∧ ¬ ((0 < a1 ∧ 0 < a0) ∨ (a1 < 0 ∧ a0 < 0)) ∧ ¬ ((0 < b1 ∧ 0 < b0) ∨ (b1 < 0 ∧ b0 < 0))) ↔
    ((a0 = 0 ∧ ((0 ≤ wx + ex ∧ wx + ex ≤ dx) ∨ (dx ≤ wx + ex ∧ wx + ex ≤ 0)) ∧ ((0 ≤ wy + ey ∧ wy + ey ≤ dy) ∨ (dy ≤ wy + ey ∧ wy + ey ≤ 0)))
    ∨ (a1 = 0 ∧ ((0 ≤ wx ∧ wx ≤ dx) ∨ (dx ≤ wx ∧ wx ≤ 0)) ∧ ((0 ≤ wy ∧ wy ≤ dy) ∨ (dy ≤ wy ∧ wy ≤ 0)))
    ∨ (b0 = 0 ∧ ((wx ≤ dx ∧ dx ≤ wx + ex) ∨ (wx + ex ≤ dx ∧ dx ≤ wx)) ∧ ((wy ≤ dy ∧ dy ≤ wy + ey) ∨ (wy + ey ≤ dy ∧ dy ≤ wy)))
    ∨ (b1 = 0 ∧ ((wx ≤ 0 ∧ 0 ≤ wx + ex) ∨ (wx + ex ≤ 0 ∧ 0 ≤ wx)) ∧ ((wy ≤ 0 ∧ 0 ≤ wy + ey) ∨ (wy + ey ≤ 0 ∧ 0 ≤ wy)))
    ∨ (((a0 < 0 ∧ 0 < a1) ∨ (0 < a0 ∧ a1 < 0)) ∧ ((b0 < 0 ∧ 0 < b1) ∨ (0 < b0 ∧ b1 < 0)))) := by
  obtain ⟨D, hD⟩ : ∃ D, D = dx * ey - dy * ex := ⟨_, rfl⟩
  rw [Int.mul_add, Int.mul_add] at ha0
  rw [Int.mul_sub, Int.mul_sub] at hb0
  have c1 := Int.mul_comm ex dy
  have c2 := Int.mul_comm ey dx
  have hA : a0 = a1 + D := by omega
  have hB : b0 = b1 - D := by omega
  have X : wx * D = dx * b1 + ex * a1 := by
    rw [hD, hb1, ha1]
    simp only [Int.mul_sub, Int.mul_assoc, Int.mul_comm, Int.mul_left_comm]
    omega
  have Y : wy * D = dy * b1 + ey * a1 := by
    rw [hD, hb1, ha1]
    simp only [Int.mul_sub, Int.mul_assoc, Int.mul_comm, Int.mul_left_comm]
    omega
  have X0 : (wx + ex) * D = dx * b1 + ex * a0 := by
    rw [hA, Int.add_mul, Int.mul_add]; omega
  have Y0 : (wy + ey) * D = dy * b1 + ey * a0 := by
    rw [hA, Int.add_mul, Int.mul_add]; omega
  have X1 : (dx - wx) * (-D) = ex * a1 + dx * b0 := by
    rw [hB, Int.mul_neg, Int.sub_mul, Int.mul_sub]; omega
  have Y1 : (dy - wy) * (-D) = ey * a1 + dy * b0 := by
    rw [hB, Int.mul_neg, Int.sub_mul, Int.mul_sub]; omega
  have X2 : (-wx) * (-D) = dx * b1 + ex * a1 := by
    rw [Int.neg_mul_neg]; exact X
  have Y2 : (-wy) * (-D) = dy * b1 + ey * a1 := by
    rw [Int.neg_mul_neg]; exact Y
  constructor
  · rintro ⟨⟨ox1, ox2⟩, ⟨oy1, oy2⟩, na, nb⟩
    by_cases hz : D = 0
    · have za : a0 = 0 := by omega
      have za1 : a1 = 0 := by omega
      have zb : b0 = 0 := by omega
      have zb1 : b1 = 0 := by omega
      by_cases hx : dx = 0
      · by_cases hy : dy = 0
        · right; right; right; left
          exact ⟨zb1, by omega, by omega⟩
        · have hex : ex = 0 := by
            have : dy * ex = 0 := by rw [hx, Int.zero_mul] at hD; omega
            rcases Int.mul_eq_zero.mp this with q | q
            · exact absurd q hy
            · exact q
          have hwx : wx = 0 := by
            have : dy * wx = 0 := by rw [hx, Int.zero_mul] at ha1; omega
            rcases Int.mul_eq_zero.mp this with q | q
            · exact absurd q hy
            · exact q
          by_cases q1 : (0 ≤ wy + ey ∧ wy + ey ≤ dy) ∨ (dy ≤ wy + ey ∧ wy + ey ≤ 0)
          · left; exact ⟨za, by omega, q1⟩
          · by_cases q2 : (0 ≤ wy ∧ wy ≤ dy) ∨ (dy ≤ wy ∧ wy ≤ 0)
            · right; left; exact ⟨za1, by omega, q2⟩
            · right; right; right; left; exact ⟨zb1, by omega, by omega⟩
      · by_cases q1 : (0 ≤ wx + ex ∧ wx + ex ≤ dx) ∨ (dx ≤ wx + ex ∧ wx + ex ≤ 0)
        · left
          refine ⟨za, q1, btw hx (b := wx + ex) ?_ q1⟩
          rw [Int.mul_comm (wy + ey) dx, Int.mul_add, Int.mul_add]
          omega
        · by_cases q2 : (0 ≤ wx ∧ wx ≤ dx) ∨ (dx ≤ wx ∧ wx ≤ 0)
          · right; left
            refine ⟨za1, q2, btw hx (b := wx) ?_ q2⟩
            rw [Int.mul_comm wy dx]
            omega
          · right; right; right; left
            have q3 : (0 ≤ -wx ∧ -wx ≤ ex) ∨ (ex ≤ -wx ∧ -wx ≤ 0) := by omega
            have q4 := btw (q := -wy) (d := ey) (D := ex) (b := -wx) (by omega) (by
              rw [Int.neg_mul, Int.mul_neg, Int.mul_comm wy ex]; omega) q3
            exact ⟨zb1, by omega, by omega⟩
    · have wa : (0 ≤ -a1 ∧ -a1 ≤ D) ∨ (D ≤ -a1 ∧ -a1 ≤ 0) := by omega
      have wb : (0 ≤ b1 ∧ b1 ≤ D) ∨ (D ≤ b1 ∧ b1 ≤ 0) := by omega
      by_cases p0 : a0 = 0
      · left
        rw [p0, Int.mul_zero, Int.add_zero] at X0 Y0
        exact ⟨p0, btw hz X0 wb, btw hz Y0 wb⟩
      · by_cases p1 : a1 = 0
        · right; left
          rw [p1, Int.mul_zero, Int.add_zero] at X Y
          exact ⟨p1, btw hz X wb, btw hz Y wb⟩
        · by_cases p2 : b0 = 0
          · right; right; left
            rw [p2, Int.mul_zero, Int.add_zero] at X1 Y1
            have g1 := btw (by omega) X1 (by omega)
            have g2 := btw (by omega) Y1 (by omega)
            exact ⟨p2, by omega, by omega⟩
          · by_cases p3 : b1 = 0
            · right; right; right; left
              rw [p3, Int.mul_zero, Int.zero_add] at X2 Y2
              have g1 := btw (by omega) X2 (by omega)
              have g2 := btw (by omega) Y2 (by omega)
              exact ⟨p3, by omega, by omega⟩
            · right; right; right; right
              exact ⟨by omega, by omega⟩
  · rintro (⟨z, hx, hy⟩ | ⟨z, hx, hy⟩ | ⟨z, hx, hy⟩ | ⟨z, hx, hy⟩ | ⟨sa, sb⟩)
    · refine ⟨by omega, by omega, by omega, ?_⟩
      rw [z, Int.mul_zero, Int.add_zero] at X0 Y0
      rw [hB]
      by_cases q : dx = 0
      · by_cases q2 : dy = 0
        · have : wx = -ex := by omega
          have h2 : wy = -ey := by omega
          rw [this, h2, Int.mul_neg, Int.mul_neg, Int.mul_comm ey ex] at hb1
          rw [q, q2, Int.zero_mul, Int.zero_mul] at hD
          omega
        · exact nss Y0 hy q2
      · exact nss X0 hx q
    · refine ⟨by omega, by omega, by omega, ?_⟩
      rw [z, Int.mul_zero, Int.add_zero] at X Y
      rw [hB]
      by_cases q : dx = 0
      · by_cases q2 : dy = 0
        · have : wx = 0 := by omega
          have h2 : wy = 0 := by omega
          rw [this, h2, Int.mul_zero, Int.mul_zero] at hb1
          omega
        · exact nss Y hy q2
      · exact nss X hx q
    · refine ⟨by omega, by omega, ?_, by omega⟩
      rw [z, Int.mul_zero, Int.add_zero] at X1 Y1
      rw [hA, show a1 + D = a1 - (-D) by omega]
      by_cases q : ex = 0
      · by_cases q2 : ey = 0
        · have : dx = wx := by omega
          have h2 : dy = wy := by omega
          rw [this, h2, Int.mul_comm wy wx] at ha1
          omega
        · exact nss Y1 (by omega) q2
      · exact nss X1 (by omega) q
    · refine ⟨by omega, by omega, ?_, by omega⟩
      rw [z, Int.mul_zero, Int.zero_add] at X2 Y2
      rw [hA, show a1 + D = a1 - (-D) by omega]
      by_cases q : ex = 0
      · by_cases q2 : ey = 0
        · have : wx = 0 := by omega
          have h2 : wy = 0 := by omega
          rw [this, h2, Int.mul_zero, Int.mul_zero] at ha1
          omega
        · exact nss Y2 (by omega) q2
      · exact nss X2 (by omega) q
    · have HX : wx * (D - (-a1)) + (wx + ex) * (-a1) = dx * b1 := by
        rw [Int.mul_sub, Int.mul_neg, Int.mul_neg, Int.add_mul]; omega
      have HY : wy * (D - (-a1)) + (wy + ey) * (-a1) = dy * b1 := by
        rw [Int.mul_sub, Int.mul_neg, Int.mul_neg, Int.add_mul]; omega
      have NX : wx * (-D - a1) + (wx + ex) * a1 = dx * (-b1) := by
        rw [Int.mul_sub, Int.mul_neg, Int.mul_neg, Int.add_mul]; omega
      have NY : wy * (-D - a1) + (wy + ey) * a1 = dy * (-b1) := by
        rw [Int.mul_sub, Int.mul_neg, Int.mul_neg, Int.add_mul]; omega
      rcases sa with ⟨s1, s2⟩ | ⟨s1, s2⟩
      · have h1 := hull NX (by omega) (by omega) (by omega) (by omega)
        have h2 := hull NY (by omega) (by omega) (by omega) (by omega)
        exact ⟨by omega, by omega, by omega, by omega⟩
      · have h1 := hull HX (by omega) (by omega) (by omega) (by omega)
        have h2 := hull HY (by omega) (by omega) (by omega) (by omega)
        exact ⟨by omega, by omega, by omega, by omega⟩
/-! signs -/
theorem sg_sshr (a s : Int64) (k : Nat) (hs : (s.toBitVec.smod 64).toNat = k) : (a >>> s).toInt = a.toInt >>> k := by
  show (a.toBitVec.sshiftRight (s.toBitVec.smod 64).toNat).toInt = _
  rw [hs, BitVec.toInt_sshiftRight]
  rfl
theorem sg_ushr (x : Int64) (s : UInt64) (k : Nat) (hs : (s.toBitVec % 64).toNat = k) : (x.toUInt64 >>> s).toInt64.toBitVec.toNat = x.toBitVec.toNat / 2 ^ k := by
  have e : (x.toUInt64 >>> s).toInt64.toBitVec = x.toBitVec >>> k := by
    rw [← hs]
    exact UInt64.toBitVec_shiftRight _ _
  rw [e, BitVec.toNat_ushiftRight, Nat.shiftRight_eq_div_pow]
theorem sgA (a : Int64) : (a >>> (Int32.toInt64 (63 : Int32) &&& 63)) = if a.toInt < 0 then -1 else 0 := by
  have e := sg_sshr a (Int32.toInt64 (63 : Int32) &&& 63) 63 (by decide)
  rw [Int.shiftRight_eq_div_pow] at e
  have e2 : a.toInt / ((2 ^ 63 : Nat) : Int) = a.toInt / 9223372036854775808 := rfl
  rw [e2] at e
  have h1 := l_lo a
  have h2 := l_hi a
  have z0 : (0 : Int64).toInt = 0 := by decide
  have z1 : (-1 : Int64).toInt = -1 := by decide
  rw [fa_eq64, e]
  split
  · rw [z1]; omega
  · rw [z0]; omega
theorem l_nat (x : Int64) : (x.toBitVec.toNat : Int) = if x.toInt < 0 then x.toInt + 18446744073709551616 else x.toInt := by
  have e : x.toInt = if 2 * x.toBitVec.toNat < 2 ^ 64 then (x.toBitVec.toNat : Int) else (x.toBitVec.toNat : Int) - ((2 ^ 64 : Nat) : Int) := BitVec.toInt_eq_toNat_cond x.toBitVec
  have h := x.toBitVec.isLt
  split at e <;> split <;> omega
theorem sgB (a : Int64) (h : -9223372036854775808 < a.toInt) : ((Int64.toUInt64 (-a) >>> ((Int32.toInt64 (63 : Int32)).toUInt64 &&& Int64.toUInt64 63)).toInt64) = if 0 < a.toInt then 1 else 0 := by
  have e := sg_ushr (-a) ((Int32.toInt64 (63 : Int32)).toUInt64 &&& Int64.toUInt64 63) 63 (by decide)
  have e1 := l_neg h
  have e2 := l_nat (-a)
  have h1 := l_lo a
  have h2 := l_hi a
  have e3 := l_nat ((Int64.toUInt64 (-a) >>> ((Int32.toInt64 (63 : Int32)).toUInt64 &&& Int64.toUInt64 63)).toInt64)
  rw [e] at e3
  have z0 : (0 : Int64).toInt = 0 := by decide
  have z1 : (1 : Int64).toInt = 1 := by decide
  rw [e1] at e2
  have h3 := l_lo ((Int64.toUInt64 (-a) >>> ((Int32.toInt64 (63 : Int32)).toUInt64 &&& Int64.toUInt64 63)).toInt64)
  have h4 := l_hi ((Int64.toUInt64 (-a) >>> ((Int32.toInt64 (63 : Int32)).toUInt64 &&& Int64.toUInt64 63)).toInt64)
  rw [fa_eq64]
  generalize ((Int64.toUInt64 (-a) >>> ((Int32.toInt64 (63 : Int32)).toUInt64 &&& Int64.toUInt64 63)).toInt64).toInt = y at *
  generalize (-a).toBitVec.toNat = v at *
  by_cases q : 0 < a.toInt
  · rw [if_pos q, z1]
    split at e2 <;> split at e3 <;> omega
  · rw [if_neg q, z0]
    split at e2 <;> split at e3 <;> omega
theorem sg_int {a : Int64} (h : -9223372036854775808 < a.toInt) : p_sg a = if a.toInt < 0 then -nI 1 else if a.toInt = 0 then nI 0 else nI 1 := by
  unfold p_sg
  rw [sgA, sgB a h]
  by_cases h1 : a.toInt < 0
  · rw [if_pos h1, if_pos h1, if_neg (by omega)]; first | rfl | decide
  · rw [if_neg h1, if_neg h1]
    by_cases h2 : a.toInt = 0
    · rw [if_pos h2, if_neg (by omega)]; first | rfl | decide
    · rw [if_neg h2, if_pos (by omega)]; first | rfl | decide
theorem sg_0 {a : Int64} (h : -9223372036854775808 < a.toInt) : p_sg a = nI 0 ↔ a.toInt = 0 := by
  rw [sg_int h]
  by_cases h1 : a.toInt < 0
  · rw [if_pos h1]
    exact ⟨fun e => absurd e (by decide), fun e => absurd e (by omega)⟩
  · rw [if_neg h1]
    by_cases h2 : a.toInt = 0
    · rw [if_pos h2]; exact ⟨fun _ => h2, fun _ => rfl⟩
    · rw [if_neg h2]
      exact ⟨fun e => absurd e (by decide), fun e => absurd e h2⟩
theorem sg_cases {a : Int64} (h : -9223372036854775808 < a.toInt) : (a.toInt < 0 ∧ p_sg a = -nI 1) ∨ (a.toInt = 0 ∧ p_sg a = nI 0) ∨ (0 < a.toInt ∧ p_sg a = nI 1) := by
  rw [sg_int h]
  by_cases h1 : a.toInt < 0
  · exact Or.inl ⟨h1, if_pos h1⟩
  · rw [if_neg h1]
    by_cases h2 : a.toInt = 0
    · exact Or.inr (Or.inl ⟨h2, if_pos h2⟩)
    · exact Or.inr (Or.inr ⟨by omega, if_neg h2⟩)
theorem sg_neg {a b : Int64} (h : -9223372036854775808 < a.toInt) (h' : -9223372036854775808 < b.toInt) : (¬ nI 0 ≤ p_sg a * p_sg b) ↔ ((a.toInt < 0 ∧ 0 < b.toInt) ∨ (0 < a.toInt ∧ b.toInt < 0)) := by
  rcases sg_cases h with ⟨q, e⟩ | ⟨q, e⟩ | ⟨q, e⟩ <;> rcases sg_cases h' with ⟨q', e'⟩ | ⟨q', e'⟩ | ⟨q', e'⟩ <;> rw [e, e'] <;> constructor <;> intro hh <;> first | omega | decide | exact absurd (by decide) hh
/-! the tests, in whole numbers -/
def IQ (x : Int32) : Prop := -40000000 ≤ x.toInt ∧ x.toInt ≤ 40000000
theorem side_int {x y p q u v : Int32} (hx : IQ x) (hy : IQ y) (hp : IQ p) (hq : IQ q) (hu : IQ u) (hv : IQ v) : (p_side x y p q u v).toInt = (p.toInt - x.toInt) * (v.toInt - y.toInt) - (q.toInt - y.toInt) * (u.toInt - x.toInt) ∧ -9223372036854775808 < (p_side x y p q u v).toInt := by
  obtain ⟨x1, x2⟩ := hx
  obtain ⟨y1, y2⟩ := hy
  obtain ⟨p1, p2⟩ := hp
  obtain ⟨q1, q2⟩ := hq
  obtain ⟨u1, u2⟩ := hu
  obtain ⟨v1, v2⟩ := hv
  have e1 : (p - x).toInt = p.toInt - x.toInt := i_sub (by omega) (by omega)
  have e2 : (v - y).toInt = v.toInt - y.toInt := i_sub (by omega) (by omega)
  have e3 : (q - y).toInt = q.toInt - y.toInt := i_sub (by omega) (by omega)
  have e4 : (u - x).toInt = u.toInt - x.toInt := i_sub (by omega) (by omega)
  have m1 := mul_b2 (a := p.toInt - x.toInt) (b := v.toInt - y.toInt) (A := 80000000) (B := 80000000) (by omega) (by omega) (by omega) (by omega)
  have m2 := mul_b2 (a := q.toInt - y.toInt) (b := u.toInt - x.toInt) (A := 80000000) (B := 80000000) (by omega) (by omega) (by omega) (by omega)
  have f1 : ((p - x).toInt64 * (v - y).toInt64).toInt = (p.toInt - x.toInt) * (v.toInt - y.toInt) := by
    rw [l_mul (by rw [i2l, i2l, e1, e2]; omega) (by rw [i2l, i2l, e1, e2]; omega), i2l, i2l, e1, e2]
  have f2 : ((q - y).toInt64 * (u - x).toInt64).toInt = (q.toInt - y.toInt) * (u.toInt - x.toInt) := by
    rw [l_mul (by rw [i2l, i2l, e3, e4]; omega) (by rw [i2l, i2l, e3, e4]; omega), i2l, i2l, e3, e4]
  have f3 : (p_side x y p q u v).toInt = (p.toInt - x.toInt) * (v.toInt - y.toInt) - (q.toInt - y.toInt) * (u.toInt - x.toInt) := by
    unfold p_side
    rw [l_sub (by rw [f1, f2]; omega) (by rw [f1, f2]; omega), f1, f2]
  exact ⟨f3, by rw [f3]; omega⟩
theorem sd_side {R : Nat → Int32} {u v : Int32} (h1 : IQ (R 1)) (h2 : IQ (R 2)) (h10 : IQ (R 10)) (h11 : IQ (R 11)) (hu : IQ u) (hv : IQ v) : p_sd R u.toInt64 v.toInt64 = p_sg (p_side (R 10) (R 11) (R 1) (R 2) u v) := by
  obtain ⟨a1, a2⟩ := h10
  obtain ⟨b1, b2⟩ := h11
  obtain ⟨u1, u2⟩ := hu
  obtain ⟨v1, v2⟩ := hv
  have e1 : v.toInt64 - (R 11).toInt64 = (v - R 11).toInt64 := by
    rw [fa_eq64, l_sub (by rw [i2l, i2l]; omega) (by rw [i2l, i2l]; omega), i2l, i2l, i2l, i_sub (by omega) (by omega)]
  have e2 : u.toInt64 - (R 10).toInt64 = (u - R 10).toInt64 := by
    rw [fa_eq64, l_sub (by rw [i2l, i2l]; omega) (by rw [i2l, i2l]; omega), i2l, i2l, i2l, i_sub (by omega) (by omega)]
  unfold p_sd p_side
  rw [e1, e2]
theorem mx_int (a b : Int32) : (p_mx a b).toInt = if a.toInt < b.toInt then b.toInt else a.toInt := by
  unfold p_mx
  by_cases h : a < b
  · rw [if_pos h, if_pos ((fa_lt a b).mp h)]
  · rw [if_neg h, if_neg (mt (fa_lt a b).mpr h)]
theorem mn_int (a b : Int32) : (p_mn a b).toInt = if b.toInt < a.toInt then b.toInt else a.toInt := by
  unfold p_mn
  by_cases h : b < a
  · rw [if_pos h, if_pos ((fa_lt b a).mp h)]
  · rw [if_neg h, if_neg (mt (fa_lt b a).mpr h)]
theorem ov_int (a b c d : Int32) : p_ov a b c d = true ↔ (¬ (a.toInt < c.toInt ∧ a.toInt < d.toInt ∧ b.toInt < c.toInt ∧ b.toInt < d.toInt) ∧ ¬ (c.toInt < a.toInt ∧ c.toInt < b.toInt ∧ d.toInt < a.toInt ∧ d.toInt < b.toInt)) := by
  unfold p_ov
  rw [Bool.and_eq_true, Bool.not_eq_true', Bool.not_eq_true', decide_eq_false_iff_not, decide_eq_false_iff_not, fa_lt, fa_lt, mx_int, mn_int, mx_int, mn_int]
  by_cases h1 : a.toInt < b.toInt <;> by_cases h2 : b.toInt < a.toInt <;> by_cases h3 : c.toInt < d.toInt <;> by_cases h4 : d.toInt < c.toInt <;> simp only [h1, h2, h3, h4, if_true, if_false] <;> omega
theorem bt_int (v a b : Int32) : p_bt v.toInt64 a.toInt64 b.toInt64 = true ↔ ((a.toInt ≤ v.toInt ∧ v.toInt ≤ b.toInt) ∨ (b.toInt ≤ v.toInt ∧ v.toInt ≤ a.toInt)) := by
  unfold p_bt
  rw [Bool.and_eq_true, Bool.not_eq_true', Bool.not_eq_true', decide_eq_false_iff_not, decide_eq_false_iff_not, fa_lt64, fa_lt64, mxl_int, mnl_int, i2l, i2l, i2l]
  omega
theorem ss_int (u v : Int64) : p_ss u v = true ↔ ((0 < u.toInt ∧ 0 < v.toInt) ∨ (u.toInt < 0 ∧ v.toInt < 0)) := by
  have z : (0 : Int64).toInt = 0 := by decide
  unfold p_ss
  by_cases h1 : u ≤ 0
  · rw [if_pos h1]
    rw [fa_le64, z] at h1
    by_cases h2 : 0 ≤ u
    · rw [if_pos h2]
      rw [fa_le64, z] at h2
      exact ⟨fun h => (Bool.false_ne_true h).elim, fun h => by omega⟩
    · rw [if_neg h2]
      rw [fa_le64, z] at h2
      by_cases h3 : 0 ≤ v
      · rw [if_pos h3]
        rw [fa_le64, z] at h3
        exact ⟨fun h => (Bool.false_ne_true h).elim, fun h => by omega⟩
      · rw [if_neg h3]
        rw [fa_le64, z] at h3
        exact ⟨fun _ => by omega, fun _ => rfl⟩
  · rw [if_neg h1]
    rw [fa_le64, z] at h1
    by_cases h2 : 0 < v
    · rw [if_pos h2]
      rw [fa_lt64, z] at h2
      exact ⟨fun _ => by omega, fun _ => rfl⟩
    · rw [if_neg h2]
      rw [fa_lt64, z] at h2
      have h3 : 0 ≤ u := by rw [fa_le64, z]; omega
      rw [if_pos h3]
      exact ⟨fun h => (Bool.false_ne_true h).elim, fun h => by omega⟩
theorem cr_eq {A B : Nat → Int32} (hA : IQ (A 1) ∧ IQ (A 2) ∧ IQ (A 10) ∧ IQ (A 11)) (hB : IQ (B 1) ∧ IQ (B 2) ∧ IQ (B 10) ∧ IQ (B 11)) : p_crC (A 1) (A 10) (A 2) (A 11) (B 1) (B 10) (B 2) (B 11) = p_cr A B := by
  obtain ⟨A1, A2, A10, A11⟩ := hA
  obtain ⟨B1, B2, B10, B11⟩ := hB
  obtain ⟨a1, a1'⟩ := side_int A10 A11 A1 A2 B10 B11
  obtain ⟨a0, a0'⟩ := side_int A10 A11 A1 A2 B1 B2
  obtain ⟨b1, b1'⟩ := side_int B10 B11 B1 B2 A10 A11
  obtain ⟨b0, b0'⟩ := side_int B10 B11 B1 B2 A1 A2
  have d1 := sd_side A1 A2 A10 A11 B10 B11
  have d0 := sd_side A1 A2 A10 A11 B1 B2
  have g1 := sd_side B1 B2 B10 B11 A10 A11
  have g0 := sd_side B1 B2 B10 B11 A1 A2
  rw [Bool.eq_iff_iff]
  unfold p_crC p_cr p_on
  simp only [Bool.and_eq_true, Bool.or_eq_true, Bool.not_eq_true', decide_eq_true_eq, decide_eq_false_iff_not, ← Bool.not_eq_true, ov_int, ss_int, bt_int, d1, d0, g1, g0, sg_0 a1', sg_0 a0', sg_0 b1', sg_0 b0']
  rw [sg_neg a0' a1', sg_neg b0' b1']
  generalize (p_side (A 10) (A 11) (A 1) (A 2) (B 10) (B 11)).toInt = s1 at *
  generalize (p_side (A 10) (A 11) (A 1) (A 2) (B 1) (B 2)).toInt = s0 at *
  generalize (p_side (B 10) (B 11) (B 1) (B 2) (A 10) (A 11)).toInt = t1 at *
  generalize (p_side (B 10) (B 11) (B 1) (B 2) (A 1) (A 2)).toInt = t0 at *
  have key := seg (dx := (A 1).toInt - (A 10).toInt) (dy := (A 2).toInt - (A 11).toInt) (ex := (B 1).toInt - (B 10).toInt) (ey := (B 2).toInt - (B 11).toInt) (wx := (B 10).toInt - (A 10).toInt) (wy := (B 11).toInt - (A 11).toInt) (a0 := s0) (a1 := s1) (b0 := t0) (b1 := t1) a1 (by rw [a0, show (B 2).toInt - (A 11).toInt = (B 11).toInt - (A 11).toInt + ((B 2).toInt - (B 11).toInt) by omega, show (B 1).toInt - (A 10).toInt = (B 10).toInt - (A 10).toInt + ((B 1).toInt - (B 10).toInt) by omega]) (by
    rw [b1]
    have e1 := Int.mul_neg ((B 1).toInt - (B 10).toInt) ((B 11).toInt - (A 11).toInt)
    have e2 := Int.mul_neg ((B 2).toInt - (B 11).toInt) ((B 10).toInt - (A 10).toInt)
    rw [show -((B 11).toInt - (A 11).toInt) = (A 11).toInt - (B 11).toInt by omega] at e1
    rw [show -((B 10).toInt - (A 10).toInt) = (A 10).toInt - (B 10).toInt by omega] at e2
    rw [e1, e2]
    omega) (by rw [b0, show (A 2).toInt - (B 11).toInt = (A 2).toInt - (A 11).toInt - ((B 11).toInt - (A 11).toInt) by omega, show (A 1).toInt - (B 10).toInt = (A 1).toInt - (A 10).toInt - ((B 10).toInt - (A 10).toInt) by omega])
  generalize (A 1).toInt = x0 at *
  generalize (A 10).toInt = x1 at *
  generalize (A 2).toInt = y0 at *
  generalize (A 11).toInt = y1 at *
  generalize (B 1).toInt = u0 at *
  generalize (B 10).toInt = u1 at *
  generalize (B 2).toInt = v0 at *
  generalize (B 11).toInt = v1 at *
  clear a1 a0 b1 b0 d1 d0 g1 g0 A1 A2 A10 A11 B1 B2 B10 B11
  constructor
  · rintro ⟨⟨h1, h2⟩, ⟨h3, h4⟩, h5, h6⟩
    rcases key.mp ⟨⟨by omega, by omega⟩, ⟨by omega, by omega⟩, h5, h6⟩ with ⟨z, p, q⟩ | ⟨z, p, q⟩ | ⟨z, p, q⟩ | ⟨z, p, q⟩ | ⟨p, q⟩
    · exact Or.inl ⟨z, by omega, by omega⟩
    · exact Or.inr (Or.inl ⟨z, by omega, by omega⟩)
    · exact Or.inr (Or.inr (Or.inl ⟨z, by omega, by omega⟩))
    · exact Or.inr (Or.inr (Or.inr (Or.inl ⟨z, by omega, by omega⟩)))
    · exact Or.inr (Or.inr (Or.inr (Or.inr ⟨p, q⟩)))
  · intro h
    obtain ⟨⟨h1, h2⟩, ⟨h3, h4⟩, h5, h6⟩ := key.mpr (by
      rcases h with ⟨z, p, q⟩ | ⟨z, p, q⟩ | ⟨z, p, q⟩ | ⟨z, p, q⟩ | ⟨p, q⟩
      · exact Or.inl ⟨z, by omega, by omega⟩
      · exact Or.inr (Or.inl ⟨z, by omega, by omega⟩)
      · exact Or.inr (Or.inr (Or.inl ⟨z, by omega, by omega⟩))
      · exact Or.inr (Or.inr (Or.inr (Or.inl ⟨z, by omega, by omega⟩)))
      · exact Or.inr (Or.inr (Or.inr (Or.inr ⟨p, q⟩))))
    exact ⟨⟨by omega, by omega⟩, ⟨by omega, by omega⟩, h5, h6⟩
