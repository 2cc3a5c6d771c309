/-! ===== the pure layer's base: memory by its rows, numbers ===== -/
theorem fa_lt (a b : Int32) : a < b ↔ a.toInt < b.toInt := Int32.lt_iff_toInt_lt
theorem fa_le (a b : Int32) : a ≤ b ↔ a.toInt ≤ b.toInt := Int32.le_iff_toInt_le
theorem fa_eq (a b : Int32) : a = b ↔ a.toInt = b.toInt := Int32.toInt_inj.symm
theorem fa_lt64 (a b : Int64) : a < b ↔ a.toInt < b.toInt := Int64.lt_iff_toInt_lt
theorem fa_le64 (a b : Int64) : a ≤ b ↔ a.toInt ≤ b.toInt := Int64.le_iff_toInt_le
theorem fa_eq64 (a b : Int64) : a = b ↔ a.toInt = b.toInt := Int64.toInt_inj.symm
theorem fa_lit (n : Nat) : (OfNat.ofNat n : Int32) = nI n := rfl
theorem fa_litL (n : Nat) : (OfNat.ofNat n : Int64) = lN n := rfl
/-- the memory with other ints, longs and references -/
def st (μ : mMu) (f : Nat → Nat → Int32) (l : Nat → Nat → Int64) (r : Nat → Nat → Option Nat) : mMu := (f, l, mD μ, r, mS μ, mN μ, mC μ, mZ μ, mX μ)
section
variable {μ : mMu} {f : Nat → Nat → Int32} {l : Nat → Nat → Int64} {r : Nat → Nat → Option Nat} {a b j k n ci : Nat}
theorem st_eta : st μ (mI μ) (mL μ) (mR μ) = μ := rfl
theorem st_I : mI (st μ f l r) = f := rfl
theorem st_L : mL (st μ f l r) = l := rfl
theorem st_D : mD (st μ f l r) = mD μ := rfl
theorem st_R : mR (st μ f l r) = r := rfl
theorem st_S : mS (st μ f l r) = mS μ := rfl
theorem st_N : mN (st μ f l r) = mN μ := rfl
theorem st_C : mC (st μ f l r) = mC μ := rfl
theorem st_Z : mZ (st μ f l r) = mZ μ := rfl
theorem st_X : mX (st μ f l r) = mX μ := rfl
theorem st_st {f' : Nat → Nat → Int32} {l' : Nat → Nat → Int64} {r' : Nat → Nat → Option Nat} : st (st μ f l r) f' l' r' = st μ f' l' r' := rfl
theorem st_sI {v : Int32} : sI (st μ f l r) a j v = st μ (u2 f a j v) l r := rfl
theorem st_sIr {g : Nat → Int32} : sIr (st μ f l r) a g = st μ (u2r f a g) l r := rfl
theorem st_sL {v : Int64} : sL (st μ f l r) a j v = st μ f (u2 l a j v) r := rfl
theorem st_sR {v : Option Nat} : sR (st μ f l r) a j v = st μ f l (u2 r a j v) := rfl
theorem beq_rf : Nat.beq n n = true := by induction n with
  | zero => rfl
  | succ n ih => exact ih
theorem gfI_st (h : (mS μ a).1 = ci) : gfI (st μ f l r) ci a j = some (f a j) := by
  unfold gfI; rw [st_S, h, beq_rf]; rfl
theorem gfL_st (h : (mS μ a).1 = ci) : gfL (st μ f l r) ci a j = some (l a j) := by
  unfold gfL; rw [st_S, h, beq_rf]; rfl
theorem gfR_st (h : (mS μ a).1 = ci) : gfR (st μ f l r) ci a j = r a j := by
  unfold gfR; rw [st_S, h, beq_rf]; rfl
theorem gfN_st (h : (mS μ a).1 = ci) : gfN (st μ f l r) ci a j = some (r a j) := by
  unfold gfN; rw [st_S, h, beq_rf]; rfl
theorem pfI_st {v : Int32} (h : (mS μ a).1 = ci) : pfI (st μ f l r) ci a j v = some (st μ (u2 f a j v) l r) := by
  unfold pfI; rw [st_S, h, beq_rf]; rfl
theorem pfL_st {v : Int64} (h : (mS μ a).1 = ci) : pfL (st μ f l r) ci a j v = some (st μ f (u2 l a j v) r) := by
  unfold pfL; rw [st_S, h, beq_rf]; rfl
theorem pfR_st (h : (mS μ a).1 = ci) : pfR (st μ f l r) ci a j b = some (st μ f l (u2 r a j (some b))) := by
  unfold pfR; rw [st_S, h, beq_rf]; rfl
theorem pfZ_st0 (h : (mS μ a).1 = ci) : pfZ (st μ f l r) ci a j (nI 0) = some (st μ (u2 f a j (nI 0)) l r) := by
  unfold pfZ; rw [st_S, h, beq_rf]; rfl
theorem pfZ_st1 (h : (mS μ a).1 = ci) : pfZ (st μ f l r) ci a j (nI 1) = some (st μ (u2 f a j (nI 1)) l r) := by
  unfold pfZ; rw [st_S, h, beq_rf]; rfl
theorem nI_nn (h : k < 2147483648) : ¬ nI k < 0 := by
  rw [fa_lt, nI_toInt h]
  show ¬ ((k : Int) < 0)
  omega
theorem inb_ok (h : k < n) (hn : n < 2147483648) : inb (nI k) n = true := by
  unfold inb
  rw [nI_clamp (by omega), decide_eq_false (nI_nn (by omega)), decide_eq_true h]
  rfl
theorem ix_nI (h : k < 2147483648) : ix (nI k) = k := nI_clamp h
theorem ldI_st (h1 : (mS μ a).1 = 20) (h2 : k < (mS μ a).2) (h3 : (mS μ a).2 < 2147483648) : ldI (st μ f l r) a (nI k) = some (f a k) := by
  unfold ldI; rw [st_S, h1, inb_ok h2 h3, ix_nI (by omega)]; rfl
theorem ldL_st (h1 : (mS μ a).1 = 21) (h2 : k < (mS μ a).2) (h3 : (mS μ a).2 < 2147483648) : ldL (st μ f l r) a (nI k) = some (l a k) := by
  unfold ldL; rw [st_S, h1, inb_ok h2 h3, ix_nI (by omega)]; rfl
theorem ldR_st (h1 : (mS μ a).1 = 23 ∨ (mS μ a).1 = 24) (h2 : k < (mS μ a).2) (h3 : (mS μ a).2 < 2147483648) : ldR (st μ f l r) a (nI k) = r a k := by
  unfold ldR; rw [st_S, inb_ok h2 h3, ix_nI (by omega)]
  rcases h1 with h | h <;> rw [h] <;> rfl
theorem stoI_st {v : Int32} (h1 : (mS μ a).1 = 20) (h2 : k < (mS μ a).2) (h3 : (mS μ a).2 < 2147483648) : stoI (st μ f l r) a (nI k) v = some (st μ (u2 f a k v) l r) := by
  unfold stoI; rw [st_S, h1, inb_ok h2 h3, ix_nI (by omega)]; rfl
theorem stoL_st {v : Int64} (h1 : (mS μ a).1 = 21) (h2 : k < (mS μ a).2) (h3 : (mS μ a).2 < 2147483648) : stoL (st μ f l r) a (nI k) v = some (st μ f (u2 l a k v) r) := by
  unfold stoL; rw [st_S, h1, inb_ok h2 h3, ix_nI (by omega)]; rfl
theorem stoR_st (h1 : (mS μ a).1 = 23) (h4 : (mS μ b).1 = 7) (h2 : k < (mS μ a).2) (h3 : (mS μ a).2 < 2147483648) : stoR (st μ f l r) a (nI k) b = some (st μ f l (u2 r a k (some b))) := by
  unfold stoR; rw [st_S, h1, h4, inb_ok h2 h3, ix_nI (by omega)]; rfl
theorem stoR_st2 (h1 : (mS μ a).1 = 24) (h4 : (mS μ b).1 = 20) (h2 : k < (mS μ a).2) (h3 : (mS μ a).2 < 2147483648) : stoR (st μ f l r) a (nI k) b = some (st μ f l (u2 r a k (some b))) := by
  unfold stoR; rw [st_S, h1, h4, inb_ok h2 h3, ix_nI (by omega)]; rfl
theorem aln_st (h1 : 20 ≤ (mS μ a).1) (h2 : (mS μ a).1 ≤ 24) : aln (st μ f l r) a = some (nI (mS μ a).2) := by
  unfold aln; rw [st_S, Nat.ble_eq_true_of_le h1, Nat.ble_eq_true_of_le h2]; rfl
theorem cpA_st {sp dp : Nat} (h1 : (mS μ a).1 = 20) (h2 : (mS μ b).1 = 20) (h3 : sp + n ≤ (mS μ a).2) (h4 : dp + n ≤ (mS μ b).2) (h5 : (mS μ a).2 < 2147483648) (h6 : (mS μ b).2 < 2147483648) : cpA (st μ f l r) a (nI sp) b (nI dp) (nI n) = some (st μ (u2r f b (cpF (f a) (f b) sp dp n)) l r) := by
  unfold cpA
  rw [st_S, h1, h2, ix_nI (by omega), ix_nI (by omega), ix_nI (by omega), Nat.ble_eq_true_of_le h3, Nat.ble_eq_true_of_le h4, decide_eq_false (nI_nn (by omega)), decide_eq_false (nI_nn (by omega)), decide_eq_false (nI_nn (by omega))]
  rfl
theorem bq_st {α : Type} {A B : α} (h : (mS μ a).1 = n) : (bif Nat.beq (mS (st μ f l r) a).1 n then A else B) = A := by
  rw [st_S, h, beq_rf]; rfl
end
theorem oI_s {x : Int32} {μ : mMu} {f : Int32 → mMu → mOut} {h : Nat → mMu → mOut} : oI (some (.inl (some (.int x)), μ)) f h = f x μ := rfl
theorem oL_s {x : Int64} {μ : mMu} {f : Int64 → mMu → mOut} {h : Nat → mMu → mOut} : oL (some (.inl (some (.long x)), μ)) f h = f x μ := rfl
theorem oD_s {x : UInt64} {μ : mMu} {f : UInt64 → mMu → mOut} {h : Nat → mMu → mOut} : oD (some (.inl (some (.double x)), μ)) f h = f x μ := rfl
theorem oV_s {μ : mMu} {f : mMu → mOut} {h : Nat → mMu → mOut} : oV (some (.inl none, μ)) f h = f μ := rfl
theorem oR_s {x : Nat} {μ : mMu} {f : Nat → mMu → mOut} {g : mMu → mOut} {h : Nat → mMu → mOut} : oR (some (.inl (some (.ref x)), μ)) f g h = f x μ := rfl
theorem oR_n {μ : mMu} {f : Nat → mMu → mOut} {g : mMu → mOut} {h : Nat → mMu → mOut} : oR (some (.inl (some .null), μ)) f g h = g μ := rfl
theorem oI_e {E : Nat} {μ : mMu} {f : Int32 → mMu → mOut} {h : Nat → mMu → mOut} : oI (some (.inr E, μ)) f h = h E μ := rfl
theorem oL_e {E : Nat} {μ : mMu} {f : Int64 → mMu → mOut} {h : Nat → mMu → mOut} : oL (some (.inr E, μ)) f h = h E μ := rfl
theorem oD_e {E : Nat} {μ : mMu} {f : UInt64 → mMu → mOut} {h : Nat → mMu → mOut} : oD (some (.inr E, μ)) f h = h E μ := rfl
theorem isZ_0 : isZ (nI 0) = true := rfl
theorem isZ_1 : isZ (nI 1) = true := rfl
theorem nI_m1 (k : Nat) : nI (k + 1) + -nI 1 = nI k := pk_m1 k
theorem nI_lt' {a b : Nat} (ha : a < 2147483648) (hb : b < 2147483648) : (nI a < nI b) = (a < b) := propext (nI_ltI ha hb)
theorem nI_le' {a b : Nat} (ha : a < 2147483648) (hb : b < 2147483648) : (nI a ≤ nI b) = (a ≤ b) := propext (nI_leI ha hb)
theorem nI_eq' {a b : Nat} (ha : a < 2147483648) (hb : b < 2147483648) : (nI a = nI b) = (a = b) := propext (nI_eq ha hb)
theorem lc_ge (x y : Int64) : (nI 0 ≤ lg_cmp x y) = (y ≤ x) := propext (lg_cmp_ge x y)
theorem lc_le (x y : Int64) : (lg_cmp x y ≤ nI 0) = (x ≤ y) := propext (lg_cmp_le x y)
theorem lc_gt (x y : Int64) : (nI 0 < lg_cmp x y) = (y < x) := propext (lg_cmp_gt x y)
theorem lc_lt (x y : Int64) : (lg_cmp x y < nI 0) = (x < y) := propext (lg_cmp_lt x y)
theorem lc_eq (x y : Int64) : (lg_cmp x y = nI 0) = (x = y) := propext (lg_cmp_eq x y)
def bI (b : Bool) : Int32 := bif b then nI 1 else nI 0
theorem bI_t : bI true = nI 1 := rfl
theorem bI_f : bI false = nI 0 := rfl
theorem bI_0 {b : Bool} : (bI b = nI 0) = (b = false) := by cases b <;> simp [bI, nI] 
theorem bI_z {b : Bool} : isZ (bI b) = true := by cases b <;> rfl
/-! ===== leaves ===== -/
def wi (v lo hi : Int32) : Bool := decide (lo ≤ v) && decide (v ≤ hi)
theorem wi_iff {v lo hi : Int32} : wi v lo hi = true ↔ lo.toInt ≤ v.toInt ∧ v.toInt ≤ hi.toInt := by
  unfold wi; rw [Bool.and_eq_true, decide_eq_true_eq, decide_eq_true_eq, fa_le, fa_le]
theorem C_80 {a b c : Int32} {μ : mMu} : CALL 80 [.int a, .int b, .int c] μ = some (.inl (some (.int (bI (wi a b c)))), μ) := by
  rw [B_80_0]
  simp only [fa_lit, isZ_0, isZ_1, decide_eq_true_eq, if_true]
  by_cases h1 : a < b
  · have : wi a b c = false := by
      rw [Bool.eq_false_iff, Ne, wi_iff]; rw [fa_lt] at h1; omega
    rw [if_pos h1, this]; rfl
  · by_cases h2 : c < a
    · have : wi a b c = false := by
        rw [Bool.eq_false_iff, Ne, wi_iff]; rw [fa_lt] at h2; omega
      rw [if_neg h1, if_pos h2, this]; rfl
    · have : wi a b c = true := by
        rw [wi_iff]; rw [fa_lt] at h1 h2; omega
      rw [if_neg h1, if_neg h2, this]; rfl
def plc (x y : Int32) : Bool := wi x (-nI 9999) (nI 9999) && wi y (-nI 9999) (nI 9999)
theorem C_81 {x y : Int32} {μ : mMu} : CALL 81 [.int x, .int y] μ = some (.inl (some (.int (bI (plc x y)))), μ) := by
  rw [B_81_0]
  simp only [fa_lit, C_80, oI_s, isZ_0, isZ_1, decide_eq_true_eq, if_true, bI_0, plc]
  cases wi x (-nI 9999) (nI 9999) <;> cases wi y (-nI 9999) (nI 9999) <;> rfl
def sq (a b : Int64) : Int64 := a * a + b * b
theorem C_82 {a b : Int64} {μ : mMu} : CALL 82 [.long a, .long b] μ = some (.inl (some (.long (sq a b))), μ) := B_82_0 a b μ
def p_fd (a b : Int64) : Int64 := if 0 ≤ (a ^^^ b) then a / b else if a / b * b = a then a / b else a / b - 1
theorem C_92 {a b : Int64} {μ : mMu} (h : b ≠ 0) : CALL 92 [.long a, .long b] μ = some (.inl (some (.long (p_fd a b))), μ) := by
  rw [B_92_0, decide_eq_false h]
  show (if _ then _ else if _ then _ else _) = _
  simp only [decide_eq_true_eq, lg_cmp_ge, lg_cmp_eq]
  unfold p_fd
  by_cases h1 : 0 ≤ (a ^^^ b)
  · rw [if_pos h1, if_pos h1]
  · rw [if_neg h1, if_neg h1]
    by_cases h2 : a / b * b = a
    · rw [if_pos h2, if_pos h2]
    · rw [if_neg h2, if_neg h2]
def p_rd (u w : Int64) : Int32 := (p_fd (2 * u + w) (2 * w)).toInt32
theorem C_83 {u w : Int32} {μ : mMu} (h : 2 * w.toInt64 ≠ 0) : CALL 83 [.int u, .int w] μ = some (.inl (some (.int (p_rd u.toInt64 w.toInt64))), μ) := by
  rw [B_83_0, C_92 h]; rfl
def p_way (v t : Int32) : Int32 := (v * t + 8) >>> ((4 : Int32) &&& 31)
theorem C_84 {v t : Int32} {μ : mMu} : CALL 84 [.int v, .int t] μ = some (.inl (some (.int (p_way v t))), μ) := B_84_0 v t μ
/-- whether a number is in a set -/
def p_bit (s n : Int32) : Bool := !decide ((s >>> (n &&& nI 31)) &&& nI 1 = nI 0)
theorem C_85 {s n : Int32} {μ : mMu} : CALL 85 [.int s, .int n] μ = some (.inl (some (.int (bI (p_bit s n)))), μ) := by
  rw [B_85_0]
  simp only [fa_lit, isZ_0, isZ_1, if_true]
  unfold p_bit
  by_cases h : s >>> (n &&& nI 31) &&& nI 1 = nI 0 <;> simp [h, bI]
def p_side (x y p q u v : Int32) : Int64 := (p - x).toInt64 * (v - y).toInt64 - (q - y).toInt64 * (u - x).toInt64
theorem C_86 {x y p q u v : Int32} {μ : mMu} : CALL 86 [.int x, .int y, .int p, .int q, .int u, .int v] μ = some (.inl (some (.long (p_side x y p q u v))), μ) := B_86_0 x y p q u v μ
def p_mx (a b : Int32) : Int32 := if a < b then b else a
def p_mn (a b : Int32) : Int32 := if b < a then b else a
def p_mxl (a b : Int64) : Int64 := if a < b then b else a
def p_mnl (a b : Int64) : Int64 := if b < a then b else a
def p_ab (a : Int64) : Int64 := if 0 ≤ a then a else -a
theorem C_94 {a b : Int32} {μ : mMu} : CALL 94 [.int a, .int b] μ = some (.inl (some (.int (p_mx a b))), μ) := by
  rw [B_94_0]; unfold p_mx; by_cases h : a < b <;> simp [h]
theorem C_96 {a b : Int32} {μ : mMu} : CALL 96 [.int a, .int b] μ = some (.inl (some (.int (p_mn a b))), μ) := by
  rw [B_96_0]; unfold p_mn; by_cases h : b < a <;> simp [h]
theorem C_95 {a b : Int64} {μ : mMu} : CALL 95 [.long a, .long b] μ = some (.inl (some (.long (p_mxl a b))), μ) := by
  rw [B_95_0]; unfold p_mxl; by_cases h : a < b <;> simp [h, lg_cmp_lt]
theorem C_97 {a b : Int64} {μ : mMu} : CALL 97 [.long a, .long b] μ = some (.inl (some (.long (p_mnl a b))), μ) := by
  rw [B_97_0]; unfold p_mnl; by_cases h : b < a <;> simp [h, lg_cmp_gt]
def p_sg (a : Int64) : Int32 := Int64.toInt32 ((a >>> (Int32.toInt64 (63 : Int32) &&& 63)) ||| ((Int64.toUInt64 (-a) >>> ((Int32.toInt64 (63 : Int32)).toUInt64 &&& Int64.toUInt64 63)).toInt64))
def p_fi (a b : Int32) : Int32 := if 0 ≤ (a ^^^ b) then a / b else if a / b * b = a then a / b else a / b - 1
theorem C_91 {a b : Int32} {μ : mMu} (h : b ≠ 0) : CALL 91 [.int a, .int b] μ = some (.inl (some (.int (p_fi a b))), μ) := by
  rw [B_91_0, decide_eq_false h]
  show (if _ then _ else if _ then _ else _) = _
  simp only [decide_eq_true_eq]
  unfold p_fi
  by_cases h1 : 0 ≤ (a ^^^ b)
  · rw [if_pos h1, if_pos h1]
  · rw [if_neg h1, if_neg h1]
    by_cases h2 : a / b * b = a
    · rw [if_pos h2, if_pos h2]
    · rw [if_neg h2, if_neg h2]
