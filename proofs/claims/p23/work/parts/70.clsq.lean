/-! ===== numbers of the lost ===== -/
theorem sqr_bd {a A : Int} (h1 : -A ≤ a) (h2 : a ≤ A) : 0 ≤ a * a ∧ a * a ≤ A * A := by
  rcases Int.le_total 0 a with h | h
  · exact ⟨Int.mul_nonneg h h, Int.mul_le_mul h2 h2 h (by omega)⟩
  · have h3 : 0 ≤ -a := by omega
    have h4 : -a ≤ A := by omega
    have e : a * a = -a * -a := by rw [Int.neg_mul_neg]
    rw [e]
    exact ⟨Int.mul_nonneg h3 h3, Int.mul_le_mul h4 h4 h3 (by omega)⟩
theorem sq_i {a b : Int64} (h1 : -1000000000 ≤ a.toInt) (h2 : a.toInt ≤ 1000000000) (h3 : -1000000000 ≤ b.toInt) (h4 : b.toInt ≤ 1000000000) : (sq a b).toInt = a.toInt * a.toInt + b.toInt * b.toInt := by
  have p := sqr_bd h1 h2
  have q := sqr_bd h3 h4
  unfold sq
  have e1 : (a * a).toInt = a.toInt * a.toInt := l_mul (by omega) (by omega)
  have e2 : (b * b).toInt = b.toInt * b.toInt := l_mul (by omega) (by omega)
  rw [l_add (by rw [e1, e2]; omega) (by rw [e1, e2]; omega), e1, e2]
theorem sq_neg {a b p q : Int64} (h1 : -1000000000 ≤ a.toInt) (h2 : a.toInt ≤ 1000000000) (h3 : -1000000000 ≤ b.toInt) (h4 : b.toInt ≤ 1000000000) (hp : p.toInt = -a.toInt) (hq : q.toInt = -b.toInt) : sq p q = sq a b := by
  rw [fa_eq64, sq_i h1 h2 h3 h4, sq_i (by omega) (by omega) (by omega) (by omega), hp, hq, Int.neg_mul_neg, Int.neg_mul_neg]
theorem lsq_c {c : Nat → Nat} {R L : Nat → Int32} {t : Nat} (hR : IB R) (hL : IB L) (ht : t ≤ 30000) (h6 : nI (c 7) - L 6 = nI t) : sq (L 1 + p_way (L 3) (nI (c 7) - L 6) - R 1).toInt64 (L 2 + p_way (L 4) (nI (c 7) - L 6) - R 2).toInt64 = lsq (c 7) R L := by
  obtain ⟨⟨a1, a2⟩, ⟨a3, a4⟩, -, -⟩ := hR
  obtain ⟨⟨b1, b2⟩, ⟨b3, b4⟩, ⟨b5, b6⟩, ⟨b7, b8⟩⟩ := hL
  obtain ⟨w1, w2, w3, -⟩ := way_b b5 b6 ht
  obtain ⟨w4, w5, w6, -⟩ := way_b b7 b8 ht
  unfold lsq
  rw [h6, w1, w4]
  have e1 : (L 1 + p_wy (L 3) (nI t)).toInt = (L 1).toInt + (p_wy (L 3) (nI t)).toInt := i_add (by omega) (by omega)
  have e2 : (L 2 + p_wy (L 4) (nI t)).toInt = (L 2).toInt + (p_wy (L 4) (nI t)).toInt := i_add (by omega) (by omega)
  have e3 : (L 1 + p_wy (L 3) (nI t) - R 1).toInt = (L 1).toInt + (p_wy (L 3) (nI t)).toInt - (R 1).toInt := by rw [i_sub (by rw [e1]; omega) (by rw [e1]; omega), e1]
  have e4 : (L 2 + p_wy (L 4) (nI t) - R 2).toInt = (L 2).toInt + (p_wy (L 4) (nI t)).toInt - (R 2).toInt := by rw [i_sub (by rw [e2]; omega) (by rw [e2]; omega), e2]
  have e5 : ((R 1).toInt64 - (L 1 + p_wy (L 3) (nI t)).toInt64).toInt = (R 1).toInt - ((L 1).toInt + (p_wy (L 3) (nI t)).toInt) := by rw [l_sub (by rw [i2l, i2l, e1]; omega) (by rw [i2l, i2l, e1]; omega), i2l, i2l, e1]
  have e6 : ((R 2).toInt64 - (L 2 + p_wy (L 4) (nI t)).toInt64).toInt = (R 2).toInt - ((L 2).toInt + (p_wy (L 4) (nI t)).toInt) := by rw [l_sub (by rw [i2l, i2l, e2]; omega) (by rw [i2l, i2l, e2]; omega), i2l, i2l, e2]
  exact sq_neg (by rw [e5]; omega) (by rw [e5]; omega) (by rw [e6]; omega) (by rw [e6]; omega) (by rw [i2l, e3, e5]; omega) (by rw [i2l, e4, e6]; omega)
theorem reach_c {g : Nat} (h : g ≤ 2000) : sq (nI 64 * nI g).toInt64 (lN 0) = lN 64 * (nI g).toInt64 * (lN 64 * (nI g).toInt64) := by
  have e0 : (nI 64).toInt = 64 := by decide
  have e1 : (lN 64).toInt = 64 := by decide
  have ez : (lN 0).toInt = 0 := by decide
  have eg : (nI g).toInt = (g : Int) := nI_toInt (by omega)
  have e2 : (nI 64 * nI g).toInt = 64 * (g : Int) := by rw [i_mul (by rw [e0, eg]; omega) (by rw [e0, eg]; omega), e0, eg]
  have e3 : (lN 64 * (nI g).toInt64).toInt = 64 * (g : Int) := by rw [l_mul (by rw [e1, i2l, eg]; omega) (by rw [e1, i2l, eg]; omega), e1, i2l, eg]
  have b := sqr_bd (a := 64 * (g : Int)) (A := 128000) (by omega) (by omega)
  rw [fa_eq64, sq_i (by rw [i2l, e2]; omega) (by rw [i2l, e2]; omega) (by rw [ez]; omega) (by rw [ez]; omega), l_mul (by rw [e3]; omega) (by rw [e3]; omega), i2l, e2, e3, ez]
  omega
