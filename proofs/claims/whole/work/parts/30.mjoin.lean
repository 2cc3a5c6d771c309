/-! ===== 2. the reference joins ===== -/
theorem fa_or (a b : Nat) : nI a ||| nI b = nI (a ||| b) := by
  apply Int32.toBitVec_inj.1
  show BitVec.ofNat 32 a ||| BitVec.ofNat 32 b = BitVec.ofNat 32 (a ||| b)
  apply BitVec.eq_of_getLsbD_eq
  intro i hi
  simp [hi]
theorem shl1 {n : Nat} (h : n < 31) : nI 1 <<< (nI n &&& nI 31) = nI (2 ^ n) := by
  have key : ∀ n, n < 31 → nI 1 <<< (nI n &&& nI 31) = nI (2 ^ n) := by decide
  exact key n h
theorem shl10 {t : Nat} (h : t < 100) : nI t <<< (nI 10 &&& nI 31) = nI (1024 * t) := by
  rw [pk_shlN (nI 10 &&& nI 31) 10 (by decide) (by omega), Nat.mul_comm]
theorem bit_nI {n k : Nat} (hn : n < 2147483648) (hk : k < 31) : p_bit (nI n) (nI k) = n.testBit k := by
  have hs : ∀ k, k < 31 → ((nI k &&& nI 31).toBitVec.smod 32).toNat = k := by decide
  unfold p_bit
  rw [pk_shrN hn _ k (hs k hk)]
  have h2 : nI 1 = (nI 1 : Int32) := rfl
  rw [pk_andN (n := n / 2 ^ k) (m := nI 1) (Nat.lt_of_le_of_lt (Nat.div_le_self _ _) (by omega)) 1 (by decide)]
  rw [Nat.testBit_eq_decide_div_mod_eq]
  have h3 : n / 2 ^ k % 2 ^ 1 = 0 ∨ n / 2 ^ k % 2 ^ 1 = 1 := by omega
  have h4 : n / 2 ^ k % 2 ^ 1 = n / 2 ^ k % 2 := rfl
  rcases h3 with h | h
  · rw [h]; decide
  · rw [h]; decide
def pop (n : Nat) : Nat := cn (fun i => n.testBit i) 10
def p_bc (x : Int32) : Int32 := (((((((x - (((Int32.toUInt32 x >>> (Int32.toUInt32 (1 : Int32) &&& Int32.toUInt32 31)).toInt32) &&& (1431655765 : Int32))) &&& (858993459 : Int32)) + (((Int32.toUInt32 (x - (((Int32.toUInt32 x >>> (Int32.toUInt32 (1 : Int32) &&& Int32.toUInt32 31)).toInt32) &&& (1431655765 : Int32))) >>> (Int32.toUInt32 (2 : Int32) &&& Int32.toUInt32 31)).toInt32) &&& (858993459 : Int32))) + ((Int32.toUInt32 (((x - (((Int32.toUInt32 x >>> (Int32.toUInt32 (1 : Int32) &&& Int32.toUInt32 31)).toInt32) &&& (1431655765 : Int32))) &&& (858993459 : Int32)) + (((Int32.toUInt32 (x - (((Int32.toUInt32 x >>> (Int32.toUInt32 (1 : Int32) &&& Int32.toUInt32 31)).toInt32) &&& (1431655765 : Int32))) >>> (Int32.toUInt32 (2 : Int32) &&& Int32.toUInt32 31)).toInt32) &&& (858993459 : Int32))) >>> (Int32.toUInt32 (4 : Int32) &&& Int32.toUInt32 31)).toInt32)) &&& (252645135 : Int32)) + ((Int32.toUInt32 (((((x - (((Int32.toUInt32 x >>> (Int32.toUInt32 (1 : Int32) &&& Int32.toUInt32 31)).toInt32) &&& (1431655765 : Int32))) &&& (858993459 : Int32)) + (((Int32.toUInt32 (x - (((Int32.toUInt32 x >>> (Int32.toUInt32 (1 : Int32) &&& Int32.toUInt32 31)).toInt32) &&& (1431655765 : Int32))) >>> (Int32.toUInt32 (2 : Int32) &&& Int32.toUInt32 31)).toInt32) &&& (858993459 : Int32))) + ((Int32.toUInt32 (((x - (((Int32.toUInt32 x >>> (Int32.toUInt32 (1 : Int32) &&& Int32.toUInt32 31)).toInt32) &&& (1431655765 : Int32))) &&& (858993459 : Int32)) + (((Int32.toUInt32 (x - (((Int32.toUInt32 x >>> (Int32.toUInt32 (1 : Int32) &&& Int32.toUInt32 31)).toInt32) &&& (1431655765 : Int32))) >>> (Int32.toUInt32 (2 : Int32) &&& Int32.toUInt32 31)).toInt32) &&& (858993459 : Int32))) >>> (Int32.toUInt32 (4 : Int32) &&& Int32.toUInt32 31)).toInt32)) &&& (252645135 : Int32)) >>> (Int32.toUInt32 (8 : Int32) &&& Int32.toUInt32 31)).toInt32)) + ((Int32.toUInt32 ((((((x - (((Int32.toUInt32 x >>> (Int32.toUInt32 (1 : Int32) &&& Int32.toUInt32 31)).toInt32) &&& (1431655765 : Int32))) &&& (858993459 : Int32)) + (((Int32.toUInt32 (x - (((Int32.toUInt32 x >>> (Int32.toUInt32 (1 : Int32) &&& Int32.toUInt32 31)).toInt32) &&& (1431655765 : Int32))) >>> (Int32.toUInt32 (2 : Int32) &&& Int32.toUInt32 31)).toInt32) &&& (858993459 : Int32))) + ((Int32.toUInt32 (((x - (((Int32.toUInt32 x >>> (Int32.toUInt32 (1 : Int32) &&& Int32.toUInt32 31)).toInt32) &&& (1431655765 : Int32))) &&& (858993459 : Int32)) + (((Int32.toUInt32 (x - (((Int32.toUInt32 x >>> (Int32.toUInt32 (1 : Int32) &&& Int32.toUInt32 31)).toInt32) &&& (1431655765 : Int32))) >>> (Int32.toUInt32 (2 : Int32) &&& Int32.toUInt32 31)).toInt32) &&& (858993459 : Int32))) >>> (Int32.toUInt32 (4 : Int32) &&& Int32.toUInt32 31)).toInt32)) &&& (252645135 : Int32)) + ((Int32.toUInt32 (((((x - (((Int32.toUInt32 x >>> (Int32.toUInt32 (1 : Int32) &&& Int32.toUInt32 31)).toInt32) &&& (1431655765 : Int32))) &&& (858993459 : Int32)) + (((Int32.toUInt32 (x - (((Int32.toUInt32 x >>> (Int32.toUInt32 (1 : Int32) &&& Int32.toUInt32 31)).toInt32) &&& (1431655765 : Int32))) >>> (Int32.toUInt32 (2 : Int32) &&& Int32.toUInt32 31)).toInt32) &&& (858993459 : Int32))) + ((Int32.toUInt32 (((x - (((Int32.toUInt32 x >>> (Int32.toUInt32 (1 : Int32) &&& Int32.toUInt32 31)).toInt32) &&& (1431655765 : Int32))) &&& (858993459 : Int32)) + (((Int32.toUInt32 (x - (((Int32.toUInt32 x >>> (Int32.toUInt32 (1 : Int32) &&& Int32.toUInt32 31)).toInt32) &&& (1431655765 : Int32))) >>> (Int32.toUInt32 (2 : Int32) &&& Int32.toUInt32 31)).toInt32) &&& (858993459 : Int32))) >>> (Int32.toUInt32 (4 : Int32) &&& Int32.toUInt32 31)).toInt32)) &&& (252645135 : Int32)) >>> (Int32.toUInt32 (8 : Int32) &&& Int32.toUInt32 31)).toInt32)) >>> (Int32.toUInt32 (16 : Int32) &&& Int32.toUInt32 31)).toInt32)) &&& (63 : Int32)
theorem C_167 {n : Nat} {μ : mMu} (h : n < 1024) : CALL 167 [.int (nI n)] μ = some (.inl (some (.int (nI (pop n)))), μ) := by
  have key : ∀ n, n < 1024 → p_bc (nI n) = nI (pop n) := by decide +kernel
  rw [← key n h]
  exact B_167_0 (nI n) μ
theorem or_lt {a k n : Nat} (ha : a < 2 ^ n) (hk : k < n) : a ||| 2 ^ k < 2 ^ n := Nat.or_lt_two_pow ha (Nat.pow_lt_pow_right (by decide) hk)
theorem pow_le10 {n : Nat} (h : n ≤ 10) : 2 ^ n ≤ 1024 := Nat.pow_le_pow_right (n := 2) (by decide) h
def dst (S : Nat → Nat → Nat → Int32) (t k : Nat) : Int64 := sq (lN 16 * (S 5 k 0).toInt64 - (S 7 t 1).toInt64) (lN 16 * (S 5 k 1).toInt64 - (S 7 t 2).toInt64)
def rch (c : Nat → Nat) (S : Nat → Nat → Nat → Int32) (t : Nat) : Int64 := lN 16 * ((nI (c 12)).toInt64 + lN 40 * (S 7 t 7).toInt64)
def jq (c : Nat → Nat) (S : Nat → Nat → Nat → Int32) (t k : Nat) : Int64 := if rch c S t * rch c S t < dst S t k then -lN 1 else dst S t k
def can (q : Nat → Nat → Int64) (t k tk : Nat) : Bool := !tk.testBit k && !decide (q t k < lN 0)
def mny : Int64 := lN 1000000000000
theorem mny_eq : lN 1000000000000 = mny := rfl
def bw (M : Int64) (q : Nat → Nat → Int64) (B : Nat → Int64) (t k tk : Nat) : Int64 := M - q t k + B (tk ||| 2 ^ k)
def mf (M : Int64) (q : Nat → Nat → Int64) (B : Nat → Int64) (t tk : Nat) : Nat → Int64 → Int64 := fun k its => bif can q t k tk then p_mxl its (bw M q B t k tk) else its
theorem mf_t {M : Int64} {q : Nat → Nat → Int64} {B : Nat → Int64} {t tk k : Nat} {v : Int64} (h : can q t k tk = true) : mf M q B t tk k v = p_mxl v (bw M q B t k tk) := by unfold mf; rw [h, cond_true]
theorem mf_f {M : Int64} {q : Nat → Nat → Int64} {B : Nat → Int64} {t tk k : Nat} {v : Int64} (h : can q t k tk = false) : mf M q B t tk k v = v := by unfold mf; rw [h, cond_false]
def bM (M : Int64) (q : Nat → Nat → Int64) (nb many : Nat) : Nat → Nat → Int64
  | 0, _ => lN 0
  | m + 1, tk => itr (mf M q (bM M q nb many m) (many - 1 - m) tk) nb (bM M q nb many m tk)
theorem itr_s {α : Type} {g : Nat → α → α} {n : Nat} {s : α} : itr g (n + 1) s = g n (itr g n s) := rfl
theorem bM_s {M : Int64} {q : Nat → Nat → Int64} {nb many m tk : Nat} : bM M q nb many (m + 1) tk = itr (mf M q (bM M q nb many m) (many - 1 - m) tk) nb (bM M q nb many m tk) := rfl
def sel (M : Int64) (q : Nat → Nat → Int64) (nb many t tk : Nat) : Option Nat := ff (fun k => can q t k tk && decide (bw M q (bM M q nb many (many - 1 - t)) t k tk = bM M q nb many (many - t) tk)) nb
abbrev JS : Type := (Nat → Nat → Nat → Int32) × Nat
def jst (sl : Nat → Nat → Option Nat) (t : Nat) (s : JS) : JS := match sl t s.2 with
  | some k => (u1 (u1 s.1 7 (u1 (s.1 7) t (up (up (s.1 7 t) 38 (nI k)) 13 (nI k)))) 5 (u1 (s.1 5) k (up (s.1 5 k) 4 (s.1 7 t 0))), s.2 ||| 2 ^ k)
  | none => (u1 s.1 7 (u1 (s.1 7) t (up (up (s.1 7 t) 38 (-nI 1)) 13 (-nI 1))), s.2)
def jsl (c : Nat → Nat) (S : Nat → Nat → Nat → Int32) : Nat → Nat → Option Nat := sel mny (jq c S) (c 3) (c 4)
def join (c : Nat → Nat) (S : Nat → Nat → Nat → Int32) : JS := itr (jst (jsl c S)) (c 4) (S, 0)
theorem jst_lt {sl : Nat → Nat → Option Nat} {nb : Nat} (h : ∀ t tk k, sl t tk = some k → k < nb) : ∀ {n : Nat} {S : Nat → Nat → Nat → Int32}, (itr (jst sl) n (S, 0)).2 < 2 ^ nb
  | 0, _ => Nat.two_pow_pos nb
  | n + 1, S => by
    have h1 := jst_lt h (n := n) (S := S)
    show (jst sl n (itr (jst sl) n (S, 0))).2 < 2 ^ nb
    generalize itr (jst sl) n (S, 0) = s at h1 ⊢
    unfold jst
    cases hq : sl n s.2 with
    | none => exact h1
    | some k => exact or_lt h1 (h _ _ _ hq)
theorem jsl_lt {c : Nat → Nat} {S : Nat → Nat → Nat → Int32} (t tk k : Nat) (h : jsl c S t tk = some k) : k < c 3 := (ff_is h).1
theorem MR_gh {f : Nat → Nat → Int32} {c : Nat → Nat} {S : Nat → Nat → Nat → Int32} {t : Nat} {R : Nat → Int32} {v : Int32} (hm : MR f c (u1 S 7 (u1 (S 7) t (up R 13 v)))) : MR f c (u1 S 7 (u1 (S 7) t (up (up R 38 v) 13 v))) := by
  refine (MR_7 hm (f' := f) (fun _ _ _ _ => rfl) (T := u1 (S 7) t (up (up R 38 v) 13 v)) ?_ : MR f c (u1 (u1 S 7 _) 7 _)) |> fun h => by rw [y1_y1] at h; exact h
  have h7 := hm.2.2.2.2.2.2.2.1
  rw [y1_eq] at h7
  refine MRr_ext h7 fun i j hi hj => ?_
  unfold u1 up
  by_cases q : i = t
  · have : j ≠ 38 := by omega
    simp [q, this]
  · simp [q]
theorem C_128r {μ : mMu} {f : Nat → Nat → Int32} {l : Nat → Nat → Int64} {r : Nat → Nat → Option Nat} (hs : Sh μ) (hr : Rf r) {t k : Nat} {S : Nat → Nat → Nat → Int32} {c : Nat → Nat} (hm : MR f c S) (ht : t < 10) (hk : k < 10) : CALL 128 [.ref 137, .int (nI t), .int (nI k)] (st μ f l r) = some (.inl (some (.long (dst S t k))), st μ f l r) := by
  have h137a : (mS μ 137).1 = 9 := by rw [hs 137 (by decide)]; rfl
  have h143a : (mS μ 143).1 = 20 := by rw [hs 143 (by decide)]; rfl
  have h143b : (mS μ 143).2 = 50 := by rw [hs 143 (by decide)]; rfl
  have r137_6 : r 137 6 = some 143 := hr 137 6 143 rfl
  have L5 : ∀ i k, i < 10 → k < 5 → f 143 (5 * i + k) = S 5 i k := hm.2.2.2.2.2.1
  have L5z : ∀ i, i < 10 → f 143 (5 * i) = S 5 i 0 := fun i hi => L5 i 0 hi (by decide)
  have L7 : ∀ i k, i < 10 → k < 38 → f 145 (38 * i + k) = S 7 i k := hm.2.2.2.2.2.2.2.1
  have L7z : ∀ i, i < 10 → f 145 (38 * i) = S 7 i 0 := fun i hi => L7 i 0 hi (by decide)
  rw [B_128_0]
  simp (disch := omega) only [st_I, st_L, st_R, st_S, st_N, st_C, st_Z, st_X, st_D, st_st, st_sI, st_sIr, st_sL, st_sR, gfI_st, gfL_st, gfR_st, gfN_st, pfI_st, pfL_st, pfR_st, pfZ_st0, pfZ_st1, ldI_st, ldL_st, stoI_st, stoL_st, aln_st, cpA_st, bq_st, bq_S, oI_s, oL_s, oD_s, oV_s, oR_s, oR_n, oI_e, oL_e, oD_e, Option.bind_some, fa_lit, fa_litL, nI_add, pk_mul, nI_m1, nI_lt', nI_le', nI_eq', lc_ge, lc_le, lc_gt, lc_lt, lc_eq, isZ_0, isZ_1, bI_0, bI_z, decide_eq_true_eq, Bool.not_eq_true', Bool.not_true, Bool.not_false, decide_eq_false_iff_not, if_true, if_false, ite_true, ite_false, eq_self, not_true, not_false_eq_true, C_95, C_96, C_97, C_99, C_100, C_102, C_106, C_107, C_109, C_168, C_171, C_172, C_173, C_174, C_175, yu_ne, yu_eq, up_eq, up_ne, yur_ne, yur_eq, yu_uu, Nat.mul_zero, Nat.zero_mul, Nat.add_zero, Nat.zero_add, Nat.mul_one, Nat.one_mul, Nat.reduceEqDiff, Nat.reduceLT, Nat.reduceLeDiff, Nat.reduceAdd, Nat.reduceMul, decide_true, decide_false, cond_true, cond_false, reduceCtorEq, Bool.false_eq_true, Bool.true_eq_false, Bool.true_and, Bool.and_true, Bool.false_and, Bool.and_false, r137_6, L5, L5z, L7, L7z, C_124r hs hr ht]
  rfl
theorem C_129r {μ : mMu} {f : Nat → Nat → Int32} {l : Nat → Nat → Int64} {r : Nat → Nat → Option Nat} (hs : Sh μ) (hr : Rf r) {t k tk : Nat} (ht : t < 10) (hk : k < 10) (htk : tk < 1024) : CALL 129 [.ref 137, .int (nI t), .int (nI k), .int (nI tk)] (st μ f l r) = some (.inl (some (.int (bI (!tk.testBit k && !decide (l 149 (10 * t + k) < lN 0))))), st μ f l r) := by
  have h137a : (mS μ 137).1 = 9 := by rw [hs 137 (by decide)]; rfl
  have h149a : (mS μ 149).1 = 21 := by rw [hs 149 (by decide)]; rfl
  have h149b : (mS μ 149).2 = 100 := by rw [hs 149 (by decide)]; rfl
  have r137_17 : r 137 17 = some 149 := hr 137 17 149 rfl
  have hb : (nI tk >>> (nI k &&& nI 31) &&& nI 1 = nI 0) = (tk.testBit k = false) := by
    have := bit_nI (n := tk) (k := k) (by omega) (by omega)
    unfold p_bit at this
    apply propext
    constructor
    · intro h; rw [← this, h]; simp
    · intro h
      rw [h] at this
      simpa using this
  rw [B_129_0]
  simp (disch := omega) only [st_I, st_L, st_R, st_S, st_N, st_C, st_Z, st_X, st_D, st_st, st_sI, st_sIr, st_sL, st_sR, gfI_st, gfL_st, gfR_st, gfN_st, pfI_st, pfL_st, pfR_st, pfZ_st0, pfZ_st1, ldI_st, ldL_st, stoI_st, stoL_st, aln_st, cpA_st, bq_st, bq_S, oI_s, oL_s, oD_s, oV_s, oR_s, oR_n, oI_e, oL_e, oD_e, Option.bind_some, fa_lit, fa_litL, nI_add, pk_mul, nI_m1, nI_lt', nI_le', nI_eq', lc_ge, lc_le, lc_gt, lc_lt, lc_eq, isZ_0, isZ_1, bI_0, bI_z, decide_eq_true_eq, Bool.not_eq_true', Bool.not_true, Bool.not_false, decide_eq_false_iff_not, if_true, if_false, ite_true, ite_false, eq_self, not_true, not_false_eq_true, C_95, C_96, C_97, C_99, C_100, C_102, C_106, C_107, C_109, C_168, C_171, C_172, C_173, C_174, C_175, yu_ne, yu_eq, up_eq, up_ne, yur_ne, yur_eq, yu_uu, Nat.mul_zero, Nat.zero_mul, Nat.add_zero, Nat.zero_add, Nat.mul_one, Nat.one_mul, Nat.reduceEqDiff, Nat.reduceLT, Nat.reduceLeDiff, Nat.reduceAdd, Nat.reduceMul, decide_true, decide_false, cond_true, cond_false, reduceCtorEq, Bool.false_eq_true, Bool.true_eq_false, Bool.true_and, Bool.and_true, Bool.false_and, Bool.and_false, r137_17, hb]
  cases tk.testBit k
  · by_cases h : l 149 (10 * t + k) < lN 0 <;> simp [h, bI]
  · simp [bI]
theorem C_130r {μ : mMu} {f : Nat → Nat → Int32} {l : Nat → Nat → Int64} {r : Nat → Nat → Option Nat} (hs : Sh μ) (hr : Rf r) {t k tk : Nat} (ht : t < 10) (hk : k < 10) (htk : tk < 1024) : CALL 130 [.ref 137, .int (nI t), .int (nI k), .int (nI tk)] (st μ f l r) = some (.inl (some (.long (mny - l 149 (10 * t + k) + l 150 (1024 * (t + 1) + (tk ||| 2 ^ k))))), st μ f l r) := by
  have h137a : (mS μ 137).1 = 9 := by rw [hs 137 (by decide)]; rfl
  have h149a : (mS μ 149).1 = 21 := by rw [hs 149 (by decide)]; rfl
  have h149b : (mS μ 149).2 = 100 := by rw [hs 149 (by decide)]; rfl
  have h150a : (mS μ 150).1 = 21 := by rw [hs 150 (by decide)]; rfl
  have h150b : (mS μ 150).2 = 11264 := by rw [hs 150 (by decide)]; rfl
  have r137_17 : r 137 17 = some 149 := hr 137 17 149 rfl
  have r137_18 : r 137 18 = some 150 := hr 137 18 150 rfl
  have ho : tk ||| 2 ^ k < 1024 := or_lt (n := 10) htk hk
  rw [B_130_0]
  simp (disch := omega) only [st_I, st_L, st_R, st_S, st_N, st_C, st_Z, st_X, st_D, st_st, st_sI, st_sIr, st_sL, st_sR, gfI_st, gfL_st, gfR_st, gfN_st, pfI_st, pfL_st, pfR_st, pfZ_st0, pfZ_st1, ldI_st, ldL_st, stoI_st, stoL_st, aln_st, cpA_st, bq_st, bq_S, oI_s, oL_s, oD_s, oV_s, oR_s, oR_n, oI_e, oL_e, oD_e, Option.bind_some, fa_lit, fa_litL, nI_add, pk_mul, nI_m1, nI_lt', nI_le', nI_eq', lc_ge, lc_le, lc_gt, lc_lt, lc_eq, isZ_0, isZ_1, bI_0, bI_z, decide_eq_true_eq, Bool.not_eq_true', Bool.not_true, Bool.not_false, decide_eq_false_iff_not, if_true, if_false, ite_true, ite_false, eq_self, not_true, not_false_eq_true, C_95, C_96, C_97, C_99, C_100, C_102, C_106, C_107, C_109, C_168, C_171, C_172, C_173, C_174, C_175, yu_ne, yu_eq, up_eq, up_ne, yur_ne, yur_eq, yu_uu, Nat.mul_zero, Nat.zero_mul, Nat.add_zero, Nat.zero_add, Nat.mul_one, Nat.one_mul, Nat.reduceEqDiff, Nat.reduceLT, Nat.reduceLeDiff, Nat.reduceAdd, Nat.reduceMul, decide_true, decide_false, cond_true, cond_false, reduceCtorEq, Bool.false_eq_true, Bool.true_eq_false, Bool.true_and, Bool.and_true, Bool.false_and, Bool.and_false, r137_17, r137_18, shl10, shl1, fa_or, mny_eq]
/-! the four stages -/
theorem J_sq {m0 μ : mMu} {f : Nat → Nat → Int32} {l : Nat → Nat → Int64} {r : Nat → Nat → Option Nat} {k z : Nat} {c : Nat → Nat} {S : Nat → Nat → Nat → Int32} (h : Md m0 μ f l r k z c S) (hc : CB c) {Q : mOut → Prop} {o4 o5 o6 o7 : Option Value}
    (hQ : ∀ l' o4 o5 o6 o7, (∀ a, a ≠ 149 → l' a = l a) → (∀ t k, t < c 4 → k < c 3 → l' 149 (10 * t + k) = jq c S t k) → Q (RUN 131 112 [some (.ref 137), some (.int (nI (c 4))), some (.int (nI (c 3))), some (.int (nI 0)), o4, o5, o6, o7] [] (st μ f l' r))) :
    Q (RUN 131 16 [some (.ref 137), some (.int (nI (c 4))), some (.int (nI (c 3))), some (.int (nI 0)), o4, o5, o6, o7] [] (st μ f l r)) := by
  have hs := h.1
  have hr := h.2.1
  have hm := h.2.2.2.2
  have h137a : (mS μ 137).1 = 9 := by rw [hs 137 (by decide)]; rfl
  have h138a : (mS μ 138).1 = 20 := by rw [hs 138 (by decide)]; rfl
  have h138b : (mS μ 138).2 = 15 := by rw [hs 138 (by decide)]; rfl
  have h149a : (mS μ 149).1 = 21 := by rw [hs 149 (by decide)]; rfl
  have h149b : (mS μ 149).2 = 100 := by rw [hs 149 (by decide)]; rfl
  have r137_1 : r 137 1 = some 138 := hr 137 1 138 rfl
  have r137_17 : r 137 17 = some 149 := hr 137 17 149 rfl
  have L0_12 : f 138 12 = nI (c 12) := hm.1 12 (by decide)
  have L7 : ∀ i k, i < 10 → k < 38 → f 145 (38 * i + k) = S 7 i k := hm.2.2.2.2.2.2.2.1
  have L7z : ∀ i, i < 10 → f 145 (38 * i) = S 7 i 0 := fun i hi => L7 i 0 hi (by decide)
  have hc' := hc
  obtain ⟨c0, c1, c2, c3, c4, c5, c6, c7, c8, c9, c10, c11, c12, c13, c14⟩ := hc
  refine loopP (fun i o => ∃ l' o4 o5 o6 o7, o = RUN 131 16 [some (.ref 137), some (.int (nI (c 4))), some (.int (nI (c 3))), some (.int (nI i)), o4, o5, o6, o7] [] (st μ f l' r) ∧ (∀ a, a ≠ 149 → l' a = l a) ∧ (∀ t k, t < i → k < c 3 → l' 149 (10 * t + k) = jq c S t k)) Q (c 4) ?_ ?_ 0 _ (Nat.zero_le _) ⟨l, _, _, _, _, rfl, fun _ _ => rfl, fun t k ht => absurd ht (Nat.not_lt_zero t)⟩
  · rintro o ⟨l', o4, o5, o6, o7, rfl, h1, h2⟩
    rw [B_131_16]
    simp (disch := omega) only [st_I, st_L, st_R, st_S, st_N, st_C, st_Z, st_X, st_D, st_st, st_sI, st_sIr, st_sL, st_sR, gfI_st, gfL_st, gfR_st, gfN_st, pfI_st, pfL_st, pfR_st, pfZ_st0, pfZ_st1, ldI_st, ldL_st, stoI_st, stoL_st, aln_st, cpA_st, bq_st, bq_S, oI_s, oL_s, oD_s, oV_s, oR_s, oR_n, oI_e, oL_e, oD_e, Option.bind_some, fa_lit, fa_litL, nI_add, pk_mul, nI_m1, nI_lt', nI_le', nI_eq', lc_ge, lc_le, lc_gt, lc_lt, lc_eq, isZ_0, isZ_1, bI_0, bI_z, decide_eq_true_eq, Bool.not_eq_true', Bool.not_true, Bool.not_false, decide_eq_false_iff_not, if_true, if_false, ite_true, ite_false, eq_self, not_true, not_false_eq_true, C_95, C_96, C_97, C_99, C_100, C_102, C_106, C_107, C_109, C_168, C_171, C_172, C_173, C_174, C_175, yu_ne, yu_eq, up_eq, up_ne, yur_ne, yur_eq, yu_uu, Nat.mul_zero, Nat.zero_mul, Nat.add_zero, Nat.zero_add, Nat.mul_one, Nat.one_mul, Nat.reduceEqDiff, Nat.reduceLT, Nat.reduceLeDiff, Nat.reduceAdd, Nat.reduceMul, decide_true, decide_false, cond_true, cond_false, reduceCtorEq, Bool.false_eq_true, Bool.true_eq_false, Bool.true_and, Bool.and_true, Bool.false_and, Bool.and_false, r137_1, r137_17, L0_12, L7, L7z, Nat.le_refl]
    exact hQ _ _ _ _ _ h1 h2
  · rintro i o hi ⟨l', o4, o5, o6, o7, rfl, h1, h2⟩
    have hi' : ¬ c 4 ≤ i := by omega
    have hi10 : i < 10 := by omega
    right
    rw [B_131_16]
    simp (disch := omega) only [st_I, st_L, st_R, st_S, st_N, st_C, st_Z, st_X, st_D, st_st, st_sI, st_sIr, st_sL, st_sR, gfI_st, gfL_st, gfR_st, gfN_st, pfI_st, pfL_st, pfR_st, pfZ_st0, pfZ_st1, ldI_st, ldL_st, stoI_st, stoL_st, aln_st, cpA_st, bq_st, bq_S, oI_s, oL_s, oD_s, oV_s, oR_s, oR_n, oI_e, oL_e, oD_e, Option.bind_some, fa_lit, fa_litL, nI_add, pk_mul, nI_m1, nI_lt', nI_le', nI_eq', lc_ge, lc_le, lc_gt, lc_lt, lc_eq, isZ_0, isZ_1, bI_0, bI_z, decide_eq_true_eq, Bool.not_eq_true', Bool.not_true, Bool.not_false, decide_eq_false_iff_not, if_true, if_false, ite_true, ite_false, eq_self, not_true, not_false_eq_true, C_95, C_96, C_97, C_99, C_100, C_102, C_106, C_107, C_109, C_168, C_171, C_172, C_173, C_174, C_175, yu_ne, yu_eq, up_eq, up_ne, yur_ne, yur_eq, yu_uu, Nat.mul_zero, Nat.zero_mul, Nat.add_zero, Nat.zero_add, Nat.mul_one, Nat.one_mul, Nat.reduceEqDiff, Nat.reduceLT, Nat.reduceLeDiff, Nat.reduceAdd, Nat.reduceMul, decide_true, decide_false, cond_true, cond_false, reduceCtorEq, Bool.false_eq_true, Bool.true_eq_false, Bool.true_and, Bool.and_true, Bool.false_and, Bool.and_false, r137_1, r137_17, L0_12, L7, L7z, hi', C_124r hs hr hi10]
    refine loopP (fun j o => ∃ l' o7, o = RUN 131 51 [some (.ref 137), some (.int (nI (c 4))), some (.int (nI (c 3))), some (.int (nI i)), some (.long (rch c S i)), none, some (.int (nI j)), o7] [] (st μ f l' r) ∧ (∀ a, a ≠ 149 → l' a = l a) ∧ (∀ t k, t < i → k < c 3 → l' 149 (10 * t + k) = jq c S t k) ∧ (∀ k, k < j → l' 149 (10 * i + k) = jq c S i k)) (fun o => ∃ l' o4 o5 o6 o7, o = RUN 131 16 [some (.ref 137), some (.int (nI (c 4))), some (.int (nI (c 3))), some (.int (nI (i + 1))), o4, o5, o6, o7] [] (st μ f l' r) ∧ (∀ a, a ≠ 149 → l' a = l a) ∧ (∀ t k, t < i + 1 → k < c 3 → l' 149 (10 * t + k) = jq c S t k)) (c 3) ?_ ?_ 0 _ (Nat.zero_le _) ⟨l', _, rfl, h1, h2, fun k hk => absurd hk (Nat.not_lt_zero k)⟩
    · rintro o ⟨l', o7, rfl, h1, h2, h3⟩
      rw [B_131_51]
      simp (disch := omega) only [st_I, st_L, st_R, st_S, st_N, st_C, st_Z, st_X, st_D, st_st, st_sI, st_sIr, st_sL, st_sR, gfI_st, gfL_st, gfR_st, gfN_st, pfI_st, pfL_st, pfR_st, pfZ_st0, pfZ_st1, ldI_st, ldL_st, stoI_st, stoL_st, aln_st, cpA_st, bq_st, bq_S, oI_s, oL_s, oD_s, oV_s, oR_s, oR_n, oI_e, oL_e, oD_e, Option.bind_some, fa_lit, fa_litL, nI_add, pk_mul, nI_m1, nI_lt', nI_le', nI_eq', lc_ge, lc_le, lc_gt, lc_lt, lc_eq, isZ_0, isZ_1, bI_0, bI_z, decide_eq_true_eq, Bool.not_eq_true', Bool.not_true, Bool.not_false, decide_eq_false_iff_not, if_true, if_false, ite_true, ite_false, eq_self, not_true, not_false_eq_true, C_95, C_96, C_97, C_99, C_100, C_102, C_106, C_107, C_109, C_168, C_171, C_172, C_173, C_174, C_175, yu_ne, yu_eq, up_eq, up_ne, yur_ne, yur_eq, yu_uu, Nat.mul_zero, Nat.zero_mul, Nat.add_zero, Nat.zero_add, Nat.mul_one, Nat.one_mul, Nat.reduceEqDiff, Nat.reduceLT, Nat.reduceLeDiff, Nat.reduceAdd, Nat.reduceMul, decide_true, decide_false, cond_true, cond_false, reduceCtorEq, Bool.false_eq_true, Bool.true_eq_false, Bool.true_and, Bool.and_true, Bool.false_and, Bool.and_false, r137_1, r137_17, L0_12, L7, L7z, Nat.le_refl]
      refine ⟨_, _, _, _, _, rfl, h1, fun t k ht hk => ?_⟩
      rcases Nat.lt_or_ge t i with q | q
      · exact h2 t k q hk
      · have : t = i := by omega
        subst this
        exact h3 k hk
    · rintro j o hj ⟨l', o7, rfl, h1, h2, h3⟩
      have hj' : ¬ c 3 ≤ j := by omega
      have hj10 : j < 10 := by omega
      right
      rw [B_131_51]
      simp (disch := omega) only [st_I, st_L, st_R, st_S, st_N, st_C, st_Z, st_X, st_D, st_st, st_sI, st_sIr, st_sL, st_sR, gfI_st, gfL_st, gfR_st, gfN_st, pfI_st, pfL_st, pfR_st, pfZ_st0, pfZ_st1, ldI_st, ldL_st, stoI_st, stoL_st, aln_st, cpA_st, bq_st, bq_S, oI_s, oL_s, oD_s, oV_s, oR_s, oR_n, oI_e, oL_e, oD_e, Option.bind_some, fa_lit, fa_litL, nI_add, pk_mul, nI_m1, nI_lt', nI_le', nI_eq', lc_ge, lc_le, lc_gt, lc_lt, lc_eq, isZ_0, isZ_1, bI_0, bI_z, decide_eq_true_eq, Bool.not_eq_true', Bool.not_true, Bool.not_false, decide_eq_false_iff_not, if_true, if_false, ite_true, ite_false, eq_self, not_true, not_false_eq_true, C_95, C_96, C_97, C_99, C_100, C_102, C_106, C_107, C_109, C_168, C_171, C_172, C_173, C_174, C_175, yu_ne, yu_eq, up_eq, up_ne, yur_ne, yur_eq, yu_uu, Nat.mul_zero, Nat.zero_mul, Nat.add_zero, Nat.zero_add, Nat.mul_one, Nat.one_mul, Nat.reduceEqDiff, Nat.reduceLT, Nat.reduceLeDiff, Nat.reduceAdd, Nat.reduceMul, decide_true, decide_false, cond_true, cond_false, reduceCtorEq, Bool.false_eq_true, Bool.true_eq_false, Bool.true_and, Bool.and_true, Bool.false_and, Bool.and_false, r137_1, r137_17, L0_12, L7, L7z, hj', C_128r hs hr hm hi10 hj10]
      have key : ∀ v, v = jq c S i j → (∀ a, a ≠ 149 → u2 l' 149 (10 * i + j) v a = l a) ∧ (∀ t k, t < i → k < c 3 → u2 l' 149 (10 * i + j) v 149 (10 * t + k) = jq c S t k) ∧ (∀ k, k < j + 1 → u2 l' 149 (10 * i + j) v 149 (10 * i + k) = jq c S i k) := by
        intro v hv
        refine ⟨fun a ha => ?_, fun t k ht hk => ?_, fun k hk => ?_⟩
        · rw [yu_ne ha, h1 a ha]
        · rw [yu_eq, up_ne (by omega), h2 t k ht hk]
        · rw [yu_eq]
          rcases Nat.lt_or_ge k j with q | q
          · rw [up_ne (by omega), h3 k q]
          · have : k = j := by omega
            subst this
            rw [up_eq, hv]
      by_cases h4 : rch c S i * rch c S i < dst S i j
      · simp (disch := omega) only [st_I, st_L, st_R, st_S, st_N, st_C, st_Z, st_X, st_D, st_st, st_sI, st_sIr, st_sL, st_sR, gfI_st, gfL_st, gfR_st, gfN_st, pfI_st, pfL_st, pfR_st, pfZ_st0, pfZ_st1, ldI_st, ldL_st, stoI_st, stoL_st, aln_st, cpA_st, bq_st, bq_S, oI_s, oL_s, oD_s, oV_s, oR_s, oR_n, oI_e, oL_e, oD_e, Option.bind_some, fa_lit, fa_litL, nI_add, pk_mul, nI_m1, nI_lt', nI_le', nI_eq', lc_ge, lc_le, lc_gt, lc_lt, lc_eq, isZ_0, isZ_1, bI_0, bI_z, decide_eq_true_eq, Bool.not_eq_true', Bool.not_true, Bool.not_false, decide_eq_false_iff_not, if_true, if_false, ite_true, ite_false, eq_self, not_true, not_false_eq_true, C_95, C_96, C_97, C_99, C_100, C_102, C_106, C_107, C_109, C_168, C_171, C_172, C_173, C_174, C_175, yu_ne, yu_eq, up_eq, up_ne, yur_ne, yur_eq, yu_uu, Nat.mul_zero, Nat.zero_mul, Nat.add_zero, Nat.zero_add, Nat.mul_one, Nat.one_mul, Nat.reduceEqDiff, Nat.reduceLT, Nat.reduceLeDiff, Nat.reduceAdd, Nat.reduceMul, decide_true, decide_false, cond_true, cond_false, reduceCtorEq, Bool.false_eq_true, Bool.true_eq_false, Bool.true_and, Bool.and_true, Bool.false_and, Bool.and_false, r137_1, r137_17, L0_12, L7, L7z, h4]
        exact ⟨_, _, rfl, key _ (by unfold jq; rw [if_pos h4])⟩
      · simp (disch := omega) only [st_I, st_L, st_R, st_S, st_N, st_C, st_Z, st_X, st_D, st_st, st_sI, st_sIr, st_sL, st_sR, gfI_st, gfL_st, gfR_st, gfN_st, pfI_st, pfL_st, pfR_st, pfZ_st0, pfZ_st1, ldI_st, ldL_st, stoI_st, stoL_st, aln_st, cpA_st, bq_st, bq_S, oI_s, oL_s, oD_s, oV_s, oR_s, oR_n, oI_e, oL_e, oD_e, Option.bind_some, fa_lit, fa_litL, nI_add, pk_mul, nI_m1, nI_lt', nI_le', nI_eq', lc_ge, lc_le, lc_gt, lc_lt, lc_eq, isZ_0, isZ_1, bI_0, bI_z, decide_eq_true_eq, Bool.not_eq_true', Bool.not_true, Bool.not_false, decide_eq_false_iff_not, if_true, if_false, ite_true, ite_false, eq_self, not_true, not_false_eq_true, C_95, C_96, C_97, C_99, C_100, C_102, C_106, C_107, C_109, C_168, C_171, C_172, C_173, C_174, C_175, yu_ne, yu_eq, up_eq, up_ne, yur_ne, yur_eq, yu_uu, Nat.mul_zero, Nat.zero_mul, Nat.add_zero, Nat.zero_add, Nat.mul_one, Nat.one_mul, Nat.reduceEqDiff, Nat.reduceLT, Nat.reduceLeDiff, Nat.reduceAdd, Nat.reduceMul, decide_true, decide_false, cond_true, cond_false, reduceCtorEq, Bool.false_eq_true, Bool.true_eq_false, Bool.true_and, Bool.and_true, Bool.false_and, Bool.and_false, r137_1, r137_17, L0_12, L7, L7z, h4, C_128r hs hr hm hi10 hj10]
        exact ⟨_, _, rfl, key _ (by unfold jq; rw [if_neg h4])⟩
theorem J_zero {m0 μ : mMu} {f : Nat → Nat → Int32} {l : Nat → Nat → Int64} {r : Nat → Nat → Option Nat} {k z : Nat} {c : Nat → Nat} {S : Nat → Nat → Nat → Int32} (h : Md m0 μ f l r k z c S) (hc : CB c) {Q : mOut → Prop} {o4 o5 o6 o7 : Option Value}
    (hQ : ∀ l' o4 o5 o6 o7, (∀ a, a ≠ 150 → l' a = l a) → (∀ tk, tk < 2 ^ c 3 → l' 150 (1024 * c 4 + tk) = lN 0) → Q (RUN 131 141 [some (.ref 137), some (.int (nI (c 4))), some (.int (nI (c 3))), some (.int (nI (c 4) - nI 1)), o4, o5, o6, o7] [] (st μ f l' r))) :
    Q (RUN 131 112 [some (.ref 137), some (.int (nI (c 4))), some (.int (nI (c 3))), some (.int (nI 0)), o4, o5, o6, o7] [] (st μ f l r)) := by
  have hs := h.1
  have hr := h.2.1
  have h137a : (mS μ 137).1 = 9 := by rw [hs 137 (by decide)]; rfl
  have h150a : (mS μ 150).1 = 21 := by rw [hs 150 (by decide)]; rfl
  have h150b : (mS μ 150).2 = 11264 := by rw [hs 150 (by decide)]; rfl
  have r137_18 : r 137 18 = some 150 := hr 137 18 150 rfl
  have hc' := hc
  obtain ⟨c0, c1, c2, c3, c4, c5, c6, c7, c8, c9, c10, c11, c12, c13, c14⟩ := hc
  have hp := pow_le10 c3
  refine loopP (fun i o => ∃ l' o4 o5 o6 o7, o = RUN 131 112 [some (.ref 137), some (.int (nI (c 4))), some (.int (nI (c 3))), some (.int (nI i)), o4, o5, o6, o7] [] (st μ f l' r) ∧ (∀ a, a ≠ 150 → l' a = l a) ∧ (∀ tk, tk < i → l' 150 (1024 * c 4 + tk) = lN 0)) Q (2 ^ c 3) ?_ ?_ 0 _ (Nat.zero_le _) ⟨l, _, _, _, _, rfl, fun _ _ => rfl, fun t ht => absurd ht (Nat.not_lt_zero t)⟩
  · rintro o ⟨l', o4, o5, o6, o7, rfl, h1, h2⟩
    rw [B_131_112]
    simp (disch := omega) only [st_I, st_L, st_R, st_S, st_N, st_C, st_Z, st_X, st_D, st_st, st_sI, st_sIr, st_sL, st_sR, gfI_st, gfL_st, gfR_st, gfN_st, pfI_st, pfL_st, pfR_st, pfZ_st0, pfZ_st1, ldI_st, ldL_st, stoI_st, stoL_st, aln_st, cpA_st, bq_st, bq_S, oI_s, oL_s, oD_s, oV_s, oR_s, oR_n, oI_e, oL_e, oD_e, Option.bind_some, fa_lit, fa_litL, nI_add, pk_mul, nI_m1, nI_lt', nI_le', nI_eq', lc_ge, lc_le, lc_gt, lc_lt, lc_eq, isZ_0, isZ_1, bI_0, bI_z, decide_eq_true_eq, Bool.not_eq_true', Bool.not_true, Bool.not_false, decide_eq_false_iff_not, if_true, if_false, ite_true, ite_false, eq_self, not_true, not_false_eq_true, C_95, C_96, C_97, C_99, C_100, C_102, C_106, C_107, C_109, C_168, C_171, C_172, C_173, C_174, C_175, yu_ne, yu_eq, up_eq, up_ne, yur_ne, yur_eq, yu_uu, Nat.mul_zero, Nat.zero_mul, Nat.add_zero, Nat.zero_add, Nat.mul_one, Nat.one_mul, Nat.reduceEqDiff, Nat.reduceLT, Nat.reduceLeDiff, Nat.reduceAdd, Nat.reduceMul, decide_true, decide_false, cond_true, cond_false, reduceCtorEq, Bool.false_eq_true, Bool.true_eq_false, Bool.true_and, Bool.and_true, Bool.false_and, Bool.and_false, r137_18, Nat.le_refl, shl1]
    exact hQ _ _ _ _ _ h1 h2
  · rintro i o hi ⟨l', o4, o5, o6, o7, rfl, h1, h2⟩
    have hi' : ¬ 2 ^ c 3 ≤ i := by omega
    right
    rw [B_131_112]
    simp (disch := omega) only [st_I, st_L, st_R, st_S, st_N, st_C, st_Z, st_X, st_D, st_st, st_sI, st_sIr, st_sL, st_sR, gfI_st, gfL_st, gfR_st, gfN_st, pfI_st, pfL_st, pfR_st, pfZ_st0, pfZ_st1, ldI_st, ldL_st, stoI_st, stoL_st, aln_st, cpA_st, bq_st, bq_S, oI_s, oL_s, oD_s, oV_s, oR_s, oR_n, oI_e, oL_e, oD_e, Option.bind_some, fa_lit, fa_litL, nI_add, pk_mul, nI_m1, nI_lt', nI_le', nI_eq', lc_ge, lc_le, lc_gt, lc_lt, lc_eq, isZ_0, isZ_1, bI_0, bI_z, decide_eq_true_eq, Bool.not_eq_true', Bool.not_true, Bool.not_false, decide_eq_false_iff_not, if_true, if_false, ite_true, ite_false, eq_self, not_true, not_false_eq_true, C_95, C_96, C_97, C_99, C_100, C_102, C_106, C_107, C_109, C_168, C_171, C_172, C_173, C_174, C_175, yu_ne, yu_eq, up_eq, up_ne, yur_ne, yur_eq, yu_uu, Nat.mul_zero, Nat.zero_mul, Nat.add_zero, Nat.zero_add, Nat.mul_one, Nat.one_mul, Nat.reduceEqDiff, Nat.reduceLT, Nat.reduceLeDiff, Nat.reduceAdd, Nat.reduceMul, decide_true, decide_false, cond_true, cond_false, reduceCtorEq, Bool.false_eq_true, Bool.true_eq_false, Bool.true_and, Bool.and_true, Bool.false_and, Bool.and_false, r137_18, hi', shl1, shl10]
    refine ⟨_, _, _, _, _, rfl, fun a ha => by rw [yu_ne ha, h1 a ha], fun tk htk => ?_⟩
    rw [yu_eq]
    rcases Nat.lt_or_ge tk i with q | q
    · rw [up_ne (by omega), h2 tk q]
    · have : tk = i := by omega
      subst this
      rw [up_eq]
theorem nI_nsub {a b : Nat} : nI a - nI b + -nI 1 = nI a - nI (b + 1) := by
  rw [← nI_add b 1, Int32.sub_eq_add_neg, Int32.sub_eq_add_neg, Int32.neg_add, Int32.add_assoc, Int32.sub_eq_add_neg]
theorem J_best {m0 μ : mMu} {f : Nat → Nat → Int32} {l : Nat → Nat → Int64} {r : Nat → Nat → Option Nat} {k z : Nat} {c : Nat → Nat} {S : Nat → Nat → Nat → Int32} (h : Md m0 μ f l r k z c S) (hc : CB c) {Q : mOut → Prop} {o4 o5 o6 o7 : Option Value} {M : Int64} (hM : mny = M) (q : Nat → Nat → Int64)
    (hq : ∀ t k, t < c 4 → k < c 3 → l 149 (10 * t + k) = q t k) (h0 : ∀ tk, tk < 2 ^ c 3 → l 150 (1024 * c 4 + tk) = lN 0)
    (hQ : ∀ l' o5 o6 o7, (∀ a, a ≠ 150 → l' a = l a) → (∀ t tk, t ≤ c 4 → tk < 2 ^ c 3 → l' 150 (1024 * t + tk) = bM M q (c 3) (c 4) (c 4 - t) tk) → Q (RUN 131 246 [some (.ref 137), some (.int (nI (c 4))), some (.int (nI (c 3))), some (.int (nI 0)), some (.int (nI 0)), o5, o6, o7] [] (st μ f l' r))) :
    Q (RUN 131 141 [some (.ref 137), some (.int (nI (c 4))), some (.int (nI (c 3))), some (.int (nI (c 4) - nI 1)), o4, o5, o6, o7] [] (st μ f l r)) := by
  have hs := h.1
  have hr := h.2.1
  have h137a : (mS μ 137).1 = 9 := by rw [hs 137 (by decide)]; rfl
  have h149a : (mS μ 149).1 = 21 := by rw [hs 149 (by decide)]; rfl
  have h149b : (mS μ 149).2 = 100 := by rw [hs 149 (by decide)]; rfl
  have h150a : (mS μ 150).1 = 21 := by rw [hs 150 (by decide)]; rfl
  have h150b : (mS μ 150).2 = 11264 := by rw [hs 150 (by decide)]; rfl
  have r137_17 : r 137 17 = some 149 := hr 137 17 149 rfl
  have r137_18 : r 137 18 = some 150 := hr 137 18 150 rfl
  have hc' := hc
  obtain ⟨c0, c1, c2, c3, c4, c5, c6, c7, c8, c9, c10, c11, c12, c13, c14⟩ := hc
  have hp := pow_le10 c3
  refine loopP (fun i o => ∃ l' o4 o5 o6 o7, o = RUN 131 141 [some (.ref 137), some (.int (nI (c 4))), some (.int (nI (c 3))), some (.int (nI (c 4) - nI (i + 1))), o4, o5, o6, o7] [] (st μ f l' r) ∧ (∀ a, a ≠ 150 → l' a = l a) ∧ (∀ t tk, c 4 - i ≤ t → t ≤ c 4 → tk < 2 ^ c 3 → l' 150 (1024 * t + tk) = bM M q (c 3) (c 4) (c 4 - t) tk)) Q (c 4) ?_ ?_ 0 _ (Nat.zero_le _) ⟨l, _, _, _, _, rfl, fun _ _ => rfl, fun t tk h1 h2 h3 => ?_⟩
  · rintro o ⟨l', o4, o5, o6, o7, rfl, h1, h2⟩
    have hneg : nI (c 4) - nI (c 4 + 1) < nI 0 := by
      have := pk_sneg (a := c 4) (b := c 4 + 1) (by omega) (by omega)
      exact this
    rw [B_131_141]
    simp (disch := omega) only [st_I, st_L, st_R, st_S, st_N, st_C, st_Z, st_X, st_D, st_st, st_sI, st_sIr, st_sL, st_sR, gfI_st, gfL_st, gfR_st, gfN_st, pfI_st, pfL_st, pfR_st, pfZ_st0, pfZ_st1, ldI_st, ldL_st, stoI_st, stoL_st, aln_st, cpA_st, bq_st, bq_S, oI_s, oL_s, oD_s, oV_s, oR_s, oR_n, oI_e, oL_e, oD_e, Option.bind_some, fa_lit, fa_litL, nI_add, pk_mul, nI_m1, nI_lt', nI_le', nI_eq', lc_ge, lc_le, lc_gt, lc_lt, lc_eq, isZ_0, isZ_1, bI_0, bI_z, decide_eq_true_eq, Bool.not_eq_true', Bool.not_true, Bool.not_false, decide_eq_false_iff_not, if_true, if_false, ite_true, ite_false, eq_self, not_true, not_false_eq_true, C_95, C_96, C_97, C_99, C_100, C_102, C_106, C_107, C_109, C_168, C_171, C_172, C_173, C_174, C_175, yu_ne, yu_eq, up_eq, up_ne, yur_ne, yur_eq, yu_uu, Nat.mul_zero, Nat.zero_mul, Nat.add_zero, Nat.zero_add, Nat.mul_one, Nat.one_mul, Nat.reduceEqDiff, Nat.reduceLT, Nat.reduceLeDiff, Nat.reduceAdd, Nat.reduceMul, decide_true, decide_false, cond_true, cond_false, reduceCtorEq, Bool.false_eq_true, Bool.true_eq_false, Bool.true_and, Bool.and_true, Bool.false_and, Bool.and_false, r137_17, r137_18, hneg]
    exact hQ _ _ _ _ h1 (fun t tk h3 h4 => h2 t tk (by omega) h3 h4)
  · rintro i o hi ⟨l', o4, o5, o6, o7, rfl, h1, h2⟩
    right
    have e1 : nI (c 4) - nI (i + 1) = nI (c 4 - (i + 1)) := pk_sub (by omega)
    have hnn : ¬ (nI (c 4 - (i + 1)) < nI 0) := nI_nn (by omega)
    rw [B_131_141, e1]
    simp (disch := omega) only [st_I, st_L, st_R, st_S, st_N, st_C, st_Z, st_X, st_D, st_st, st_sI, st_sIr, st_sL, st_sR, gfI_st, gfL_st, gfR_st, gfN_st, pfI_st, pfL_st, pfR_st, pfZ_st0, pfZ_st1, ldI_st, ldL_st, stoI_st, stoL_st, aln_st, cpA_st, bq_st, bq_S, oI_s, oL_s, oD_s, oV_s, oR_s, oR_n, oI_e, oL_e, oD_e, Option.bind_some, fa_lit, fa_litL, nI_add, pk_mul, nI_m1, nI_lt', nI_le', nI_eq', lc_ge, lc_le, lc_gt, lc_lt, lc_eq, isZ_0, isZ_1, bI_0, bI_z, decide_eq_true_eq, Bool.not_eq_true', Bool.not_true, Bool.not_false, decide_eq_false_iff_not, if_true, if_false, ite_true, ite_false, eq_self, not_true, not_false_eq_true, C_95, C_96, C_97, C_99, C_100, C_102, C_106, C_107, C_109, C_168, C_171, C_172, C_173, C_174, C_175, yu_ne, yu_eq, up_eq, up_ne, yur_ne, yur_eq, yu_uu, Nat.mul_zero, Nat.zero_mul, Nat.add_zero, Nat.zero_add, Nat.mul_one, Nat.one_mul, Nat.reduceEqDiff, Nat.reduceLT, Nat.reduceLeDiff, Nat.reduceAdd, Nat.reduceMul, decide_true, decide_false, cond_true, cond_false, reduceCtorEq, Bool.false_eq_true, Bool.true_eq_false, Bool.true_and, Bool.and_true, Bool.false_and, Bool.and_false, r137_17, r137_18, hnn]
    generalize ht : c 4 - (i + 1) = t
    have ht10 : t < 10 := by omega
    refine loopP (fun j o => ∃ l' o5 o6 o7, o = RUN 131 148 [some (.ref 137), some (.int (nI (c 4))), some (.int (nI (c 3))), some (.int (nI t)), some (.int (nI j)), o5, o6, o7] [] (st μ f l' r) ∧ (∀ a, a ≠ 150 → l' a = l a) ∧ (∀ t' tk, t + 1 ≤ t' → t' ≤ c 4 → tk < 2 ^ c 3 → l' 150 (1024 * t' + tk) = bM M q (c 3) (c 4) (c 4 - t') tk) ∧ (∀ tk, tk < j → l' 150 (1024 * t + tk) = bM M q (c 3) (c 4) (c 4 - t) tk)) (fun o => ∃ l' o4 o5 o6 o7, o = RUN 131 141 [some (.ref 137), some (.int (nI (c 4))), some (.int (nI (c 3))), some (.int (nI (c 4) - nI (i + 1 + 1))), o4, o5, o6, o7] [] (st μ f l' r) ∧ (∀ a, a ≠ 150 → l' a = l a) ∧ (∀ t' tk, t ≤ t' → t' ≤ c 4 → tk < 2 ^ c 3 → l' 150 (1024 * t' + tk) = bM M q (c 3) (c 4) (c 4 - t') tk)) (2 ^ c 3) ?_ ?_ 0 _ (Nat.zero_le _) ⟨l', _, _, _, rfl, h1, fun t' tk h3 h4 h5 => h2 t' tk (by omega) h4 h5, fun tk htk => absurd htk (Nat.not_lt_zero tk)⟩
    · rintro o ⟨l', o5, o6, o7, rfl, h1, h2, h3⟩
      have e2 : nI t + -nI 1 = nI (c 4) - nI (i + 1 + 1) := by rw [← ht, ← e1, nI_nsub]
      rw [B_131_148]
      simp (disch := omega) only [st_I, st_L, st_R, st_S, st_N, st_C, st_Z, st_X, st_D, st_st, st_sI, st_sIr, st_sL, st_sR, gfI_st, gfL_st, gfR_st, gfN_st, pfI_st, pfL_st, pfR_st, pfZ_st0, pfZ_st1, ldI_st, ldL_st, stoI_st, stoL_st, aln_st, cpA_st, bq_st, bq_S, oI_s, oL_s, oD_s, oV_s, oR_s, oR_n, oI_e, oL_e, oD_e, Option.bind_some, fa_lit, fa_litL, nI_add, pk_mul, nI_m1, nI_lt', nI_le', nI_eq', lc_ge, lc_le, lc_gt, lc_lt, lc_eq, isZ_0, isZ_1, bI_0, bI_z, decide_eq_true_eq, Bool.not_eq_true', Bool.not_true, Bool.not_false, decide_eq_false_iff_not, if_true, if_false, ite_true, ite_false, eq_self, not_true, not_false_eq_true, C_95, C_96, C_97, C_99, C_100, C_102, C_106, C_107, C_109, C_168, C_171, C_172, C_173, C_174, C_175, yu_ne, yu_eq, up_eq, up_ne, yur_ne, yur_eq, yu_uu, Nat.mul_zero, Nat.zero_mul, Nat.add_zero, Nat.zero_add, Nat.mul_one, Nat.one_mul, Nat.reduceEqDiff, Nat.reduceLT, Nat.reduceLeDiff, Nat.reduceAdd, Nat.reduceMul, decide_true, decide_false, cond_true, cond_false, reduceCtorEq, Bool.false_eq_true, Bool.true_eq_false, Bool.true_and, Bool.and_true, Bool.false_and, Bool.and_false, r137_17, r137_18, Nat.le_refl, shl1, e2]
      refine ⟨_, _, _, _, _, rfl, h1, fun t' tk h4 h5 h6 => ?_⟩
      rcases Nat.lt_or_ge t t' with g | g
      · exact h2 t' tk (by omega) h5 h6
      · have : t' = t := by omega
        rw [this]
        exact h3 tk h6
    · rintro j o hj ⟨l', o5, o6, o7, rfl, h1, h2, h3⟩
      have hj' : ¬ 2 ^ c 3 ≤ j := by omega
      right
      have em : c 4 - t = (c 4 - (t + 1)) + 1 := by omega
      have et : c 4 - 1 - (c 4 - (t + 1)) = t := by omega
      have hl149 : ∀ k, k < c 3 → l' 149 (10 * t + k) = q t k := fun k hk => by rw [h1 149 (by decide), hq t k (by omega) hk]
      rw [B_131_148]
      simp (disch := omega) only [st_I, st_L, st_R, st_S, st_N, st_C, st_Z, st_X, st_D, st_st, st_sI, st_sIr, st_sL, st_sR, gfI_st, gfL_st, gfR_st, gfN_st, pfI_st, pfL_st, pfR_st, pfZ_st0, pfZ_st1, ldI_st, ldL_st, stoI_st, stoL_st, aln_st, cpA_st, bq_st, bq_S, oI_s, oL_s, oD_s, oV_s, oR_s, oR_n, oI_e, oL_e, oD_e, Option.bind_some, fa_lit, fa_litL, nI_add, pk_mul, nI_m1, nI_lt', nI_le', nI_eq', lc_ge, lc_le, lc_gt, lc_lt, lc_eq, isZ_0, isZ_1, bI_0, bI_z, decide_eq_true_eq, Bool.not_eq_true', Bool.not_true, Bool.not_false, decide_eq_false_iff_not, if_true, if_false, ite_true, ite_false, eq_self, not_true, not_false_eq_true, C_95, C_96, C_97, C_99, C_100, C_102, C_106, C_107, C_109, C_168, C_171, C_172, C_173, C_174, C_175, yu_ne, yu_eq, up_eq, up_ne, yur_ne, yur_eq, yu_uu, Nat.mul_zero, Nat.zero_mul, Nat.add_zero, Nat.zero_add, Nat.mul_one, Nat.one_mul, Nat.reduceEqDiff, Nat.reduceLT, Nat.reduceLeDiff, Nat.reduceAdd, Nat.reduceMul, decide_true, decide_false, cond_true, cond_false, reduceCtorEq, Bool.false_eq_true, Bool.true_eq_false, Bool.true_and, Bool.and_true, Bool.false_and, Bool.and_false, r137_17, r137_18, hj', shl1, shl10]
      rw [h2 (t + 1) j (by omega) (by omega) hj]
      refine loopP (fun k o => o = RUN 131 175 [some (.ref 137), some (.int (nI (c 4))), some (.int (nI (c 3))), some (.int (nI t)), some (.int (nI j)), some (.long (itr (mf M q (bM M q (c 3) (c 4) (c 4 - (t + 1))) t j) k (bM M q (c 3) (c 4) (c 4 - (t + 1)) j))), none, some (.int (nI k))] [] (st μ f l' r)) (fun o => ∃ l' o5 o6 o7, o = RUN 131 148 [some (.ref 137), some (.int (nI (c 4))), some (.int (nI (c 3))), some (.int (nI t)), some (.int (nI (j + 1))), o5, o6, o7] [] (st μ f l' r) ∧ (∀ a, a ≠ 150 → l' a = l a) ∧ (∀ t' tk, t + 1 ≤ t' → t' ≤ c 4 → tk < 2 ^ c 3 → l' 150 (1024 * t' + tk) = bM M q (c 3) (c 4) (c 4 - t') tk) ∧ (∀ tk, tk < j + 1 → l' 150 (1024 * t + tk) = bM M q (c 3) (c 4) (c 4 - t) tk)) (c 3) ?_ ?_ 0 _ (Nat.zero_le _) rfl
      · rintro o rfl
        rw [B_131_175]
        simp (disch := omega) only [st_I, st_L, st_R, st_S, st_N, st_C, st_Z, st_X, st_D, st_st, st_sI, st_sIr, st_sL, st_sR, gfI_st, gfL_st, gfR_st, gfN_st, pfI_st, pfL_st, pfR_st, pfZ_st0, pfZ_st1, ldI_st, ldL_st, stoI_st, stoL_st, aln_st, cpA_st, bq_st, bq_S, oI_s, oL_s, oD_s, oV_s, oR_s, oR_n, oI_e, oL_e, oD_e, Option.bind_some, fa_lit, fa_litL, nI_add, pk_mul, nI_m1, nI_lt', nI_le', nI_eq', lc_ge, lc_le, lc_gt, lc_lt, lc_eq, isZ_0, isZ_1, bI_0, bI_z, decide_eq_true_eq, Bool.not_eq_true', Bool.not_true, Bool.not_false, decide_eq_false_iff_not, if_true, if_false, ite_true, ite_false, eq_self, not_true, not_false_eq_true, C_95, C_96, C_97, C_99, C_100, C_102, C_106, C_107, C_109, C_168, C_171, C_172, C_173, C_174, C_175, yu_ne, yu_eq, up_eq, up_ne, yur_ne, yur_eq, yu_uu, Nat.mul_zero, Nat.zero_mul, Nat.add_zero, Nat.zero_add, Nat.mul_one, Nat.one_mul, Nat.reduceEqDiff, Nat.reduceLT, Nat.reduceLeDiff, Nat.reduceAdd, Nat.reduceMul, decide_true, decide_false, cond_true, cond_false, reduceCtorEq, Bool.false_eq_true, Bool.true_eq_false, Bool.true_and, Bool.and_true, Bool.false_and, Bool.and_false, r137_17, r137_18, Nat.le_refl, shl10]
        refine ⟨_, _, _, _, rfl, fun a ha => by rw [yu_ne ha, h1 a ha], fun t' tk h4 h5 h6 => ?_, fun tk htk => ?_⟩
        · rw [yu_eq, up_ne (by omega), h2 t' tk h4 h5 h6]
        · rw [yu_eq]
          rcases Nat.lt_or_ge tk j with g | g
          · rw [up_ne (by omega), h3 tk g]
          · have : tk = j := by omega
            subst this
            rw [up_eq, em, bM_s, et]
      · rintro k o hk rfl
        have hk' : ¬ c 3 ≤ k := by omega
        have hk10 : k < 10 := by omega
        have ho : j ||| 2 ^ k < 2 ^ c 3 := or_lt hj hk
        right
        have hcan : (!j.testBit k && !decide (q t k < lN 0)) = can q t k j := rfl
        rw [B_131_175]
        simp (disch := omega) only [st_I, st_L, st_R, st_S, st_N, st_C, st_Z, st_X, st_D, st_st, st_sI, st_sIr, st_sL, st_sR, gfI_st, gfL_st, gfR_st, gfN_st, pfI_st, pfL_st, pfR_st, pfZ_st0, pfZ_st1, ldI_st, ldL_st, stoI_st, stoL_st, aln_st, cpA_st, bq_st, bq_S, oI_s, oL_s, oD_s, oV_s, oR_s, oR_n, oI_e, oL_e, oD_e, Option.bind_some, fa_lit, fa_litL, nI_add, pk_mul, nI_m1, nI_lt', nI_le', nI_eq', lc_ge, lc_le, lc_gt, lc_lt, lc_eq, isZ_0, isZ_1, bI_0, bI_z, decide_eq_true_eq, Bool.not_eq_true', Bool.not_true, Bool.not_false, decide_eq_false_iff_not, if_true, if_false, ite_true, ite_false, eq_self, not_true, not_false_eq_true, C_95, C_96, C_97, C_99, C_100, C_102, C_106, C_107, C_109, C_168, C_171, C_172, C_173, C_174, C_175, yu_ne, yu_eq, up_eq, up_ne, yur_ne, yur_eq, yu_uu, Nat.mul_zero, Nat.zero_mul, Nat.add_zero, Nat.zero_add, Nat.mul_one, Nat.one_mul, Nat.reduceEqDiff, Nat.reduceLT, Nat.reduceLeDiff, Nat.reduceAdd, Nat.reduceMul, decide_true, decide_false, cond_true, cond_false, reduceCtorEq, Bool.false_eq_true, Bool.true_eq_false, Bool.true_and, Bool.and_true, Bool.false_and, Bool.and_false, r137_17, r137_18, hk', C_129r hs hr ht10 hk10 (tk := j) (by omega), C_130r hs hr ht10 hk10 (tk := j) (by omega), hl149 k hk, hcan, hM]
        rw [h2 (t + 1) (j ||| 2 ^ k) (by omega) (by omega) ho]
        have hbw : M - q t k + bM M q (c 3) (c 4) (c 4 - (t + 1)) (j ||| 2 ^ k) = bw M q (bM M q (c 3) (c 4) (c 4 - (t + 1))) t k j := rfl
        rw [itr_s]
        cases hcn : can q t k j
        · rw [mf_f hcn]
          simp (disch := omega) only [st_I, st_L, st_R, st_S, st_N, st_C, st_Z, st_X, st_D, st_st, st_sI, st_sIr, st_sL, st_sR, gfI_st, gfL_st, gfR_st, gfN_st, pfI_st, pfL_st, pfR_st, pfZ_st0, pfZ_st1, ldI_st, ldL_st, stoI_st, stoL_st, aln_st, cpA_st, bq_st, bq_S, oI_s, oL_s, oD_s, oV_s, oR_s, oR_n, oI_e, oL_e, oD_e, Option.bind_some, fa_lit, fa_litL, nI_add, pk_mul, nI_m1, nI_lt', nI_le', nI_eq', lc_ge, lc_le, lc_gt, lc_lt, lc_eq, isZ_0, isZ_1, bI_0, bI_z, decide_eq_true_eq, Bool.not_eq_true', Bool.not_true, Bool.not_false, decide_eq_false_iff_not, if_true, if_false, ite_true, ite_false, eq_self, not_true, not_false_eq_true, C_95, C_96, C_97, C_99, C_100, C_102, C_106, C_107, C_109, C_168, C_171, C_172, C_173, C_174, C_175, yu_ne, yu_eq, up_eq, up_ne, yur_ne, yur_eq, yu_uu, Nat.mul_zero, Nat.zero_mul, Nat.add_zero, Nat.zero_add, Nat.mul_one, Nat.one_mul, Nat.reduceEqDiff, Nat.reduceLT, Nat.reduceLeDiff, Nat.reduceAdd, Nat.reduceMul, decide_true, decide_false, cond_true, cond_false, reduceCtorEq, Bool.false_eq_true, Bool.true_eq_false, Bool.true_and, Bool.and_true, Bool.false_and, Bool.and_false, r137_17, r137_18]
        · rw [mf_t hcn]
          simp (disch := omega) only [st_I, st_L, st_R, st_S, st_N, st_C, st_Z, st_X, st_D, st_st, st_sI, st_sIr, st_sL, st_sR, gfI_st, gfL_st, gfR_st, gfN_st, pfI_st, pfL_st, pfR_st, pfZ_st0, pfZ_st1, ldI_st, ldL_st, stoI_st, stoL_st, aln_st, cpA_st, bq_st, bq_S, oI_s, oL_s, oD_s, oV_s, oR_s, oR_n, oI_e, oL_e, oD_e, Option.bind_some, fa_lit, fa_litL, nI_add, pk_mul, nI_m1, nI_lt', nI_le', nI_eq', lc_ge, lc_le, lc_gt, lc_lt, lc_eq, isZ_0, isZ_1, bI_0, bI_z, decide_eq_true_eq, Bool.not_eq_true', Bool.not_true, Bool.not_false, decide_eq_false_iff_not, if_true, if_false, ite_true, ite_false, eq_self, not_true, not_false_eq_true, C_95, C_96, C_97, C_99, C_100, C_102, C_106, C_107, C_109, C_168, C_171, C_172, C_173, C_174, C_175, yu_ne, yu_eq, up_eq, up_ne, yur_ne, yur_eq, yu_uu, Nat.mul_zero, Nat.zero_mul, Nat.add_zero, Nat.zero_add, Nat.mul_one, Nat.one_mul, Nat.reduceEqDiff, Nat.reduceLT, Nat.reduceLeDiff, Nat.reduceAdd, Nat.reduceMul, decide_true, decide_false, cond_true, cond_false, reduceCtorEq, Bool.false_eq_true, Bool.true_eq_false, Bool.true_and, Bool.and_true, Bool.false_and, Bool.and_false, r137_17, r137_18, hbw]
  · have e : t = c 4 := by omega
    rw [e, Nat.sub_self]
    exact h0 tk h3
