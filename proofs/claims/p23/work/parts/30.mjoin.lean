/-! ===== 2. the reference joins ===== -/
theorem fa_or (a b : Nat) : nI a ||| nI b = nI (a ||| b) := by
  apply Int32.toBitVec_inj.1
  show BitVec.ofNat 32 a ||| BitVec.ofNat 32 b = BitVec.ofNat 32 (a ||| b)
  apply BitVec.eq_of_getLsbD_eq
  intro i hi
  simp [hi]
theorem shl1 {n : Nat} (h : n < 31) : nI 1 <<< (nI n &&& nI 31) = nI (2 ^ n) := by
  have key : ∀ n, n < 31 → nI 1 <<< (nI n &&& nI 31) = nI (2 ^ n) := by decide
  exact key n h
theorem bit_nI {n k : Nat} (hn : n < 2147483648) (hk : k < 31) : p_bit (nI n) (nI k) = n.testBit k := by
  have hs : ∀ k, k < 31 → ((nI k &&& nI 31).toBitVec.smod 32).toNat = k := by decide
  unfold p_bit
  rw [pk_shrN hn _ k (hs k hk)]
  have h2 : nI 1 = (nI 1 : Int32) := rfl
  rw [pk_andN (n := n / 2 ^ k) (m := nI 1) (Nat.lt_of_le_of_lt (Nat.div_le_self _ _) (by omega)) 1 (by decide)]
  rw [Nat.testBit_eq_decide_div_mod_eq]
  have h3 : n / 2 ^ k % 2 ^ 1 = 0 ∨ n / 2 ^ k % 2 ^ 1 = 1 := by omega
  have h4 : n / 2 ^ k % 2 ^ 1 = n / 2 ^ k % 2 := rfl
  rcases h3 with h | h
  · rw [h]; decide
  · rw [h]; decide
def pop (n : Nat) : Nat := cn (fun i => n.testBit i) 10
def p_bc (x : Int32) : Int32 := (((((((x - (((Int32.toUInt32 x >>> (Int32.toUInt32 (1 : Int32) &&& Int32.toUInt32 31)).toInt32) &&& (1431655765 : Int32))) &&& (858993459 : Int32)) + (((Int32.toUInt32 (x - (((Int32.toUInt32 x >>> (Int32.toUInt32 (1 : Int32) &&& Int32.toUInt32 31)).toInt32) &&& (1431655765 : Int32))) >>> (Int32.toUInt32 (2 : Int32) &&& Int32.toUInt32 31)).toInt32) &&& (858993459 : Int32))) + ((Int32.toUInt32 (((x - (((Int32.toUInt32 x >>> (Int32.toUInt32 (1 : Int32) &&& Int32.toUInt32 31)).toInt32) &&& (1431655765 : Int32))) &&& (858993459 : Int32)) + (((Int32.toUInt32 (x - (((Int32.toUInt32 x >>> (Int32.toUInt32 (1 : Int32) &&& Int32.toUInt32 31)).toInt32) &&& (1431655765 : Int32))) >>> (Int32.toUInt32 (2 : Int32) &&& Int32.toUInt32 31)).toInt32) &&& (858993459 : Int32))) >>> (Int32.toUInt32 (4 : Int32) &&& Int32.toUInt32 31)).toInt32)) &&& (252645135 : Int32)) + ((Int32.toUInt32 (((((x - (((Int32.toUInt32 x >>> (Int32.toUInt32 (1 : Int32) &&& Int32.toUInt32 31)).toInt32) &&& (1431655765 : Int32))) &&& (858993459 : Int32)) + (((Int32.toUInt32 (x - (((Int32.toUInt32 x >>> (Int32.toUInt32 (1 : Int32) &&& Int32.toUInt32 31)).toInt32) &&& (1431655765 : Int32))) >>> (Int32.toUInt32 (2 : Int32) &&& Int32.toUInt32 31)).toInt32) &&& (858993459 : Int32))) + ((Int32.toUInt32 (((x - (((Int32.toUInt32 x >>> (Int32.toUInt32 (1 : Int32) &&& Int32.toUInt32 31)).toInt32) &&& (1431655765 : Int32))) &&& (858993459 : Int32)) + (((Int32.toUInt32 (x - (((Int32.toUInt32 x >>> (Int32.toUInt32 (1 : Int32) &&& Int32.toUInt32 31)).toInt32) &&& (1431655765 : Int32))) >>> (Int32.toUInt32 (2 : Int32) &&& Int32.toUInt32 31)).toInt32) &&& (858993459 : Int32))) >>> (Int32.toUInt32 (4 : Int32) &&& Int32.toUInt32 31)).toInt32)) &&& (252645135 : Int32)) >>> (Int32.toUInt32 (8 : Int32) &&& Int32.toUInt32 31)).toInt32)) + ((Int32.toUInt32 ((((((x - (((Int32.toUInt32 x >>> (Int32.toUInt32 (1 : Int32) &&& Int32.toUInt32 31)).toInt32) &&& (1431655765 : Int32))) &&& (858993459 : Int32)) + (((Int32.toUInt32 (x - (((Int32.toUInt32 x >>> (Int32.toUInt32 (1 : Int32) &&& Int32.toUInt32 31)).toInt32) &&& (1431655765 : Int32))) >>> (Int32.toUInt32 (2 : Int32) &&& Int32.toUInt32 31)).toInt32) &&& (858993459 : Int32))) + ((Int32.toUInt32 (((x - (((Int32.toUInt32 x >>> (Int32.toUInt32 (1 : Int32) &&& Int32.toUInt32 31)).toInt32) &&& (1431655765 : Int32))) &&& (858993459 : Int32)) + (((Int32.toUInt32 (x - (((Int32.toUInt32 x >>> (Int32.toUInt32 (1 : Int32) &&& Int32.toUInt32 31)).toInt32) &&& (1431655765 : Int32))) >>> (Int32.toUInt32 (2 : Int32) &&& Int32.toUInt32 31)).toInt32) &&& (858993459 : Int32))) >>> (Int32.toUInt32 (4 : Int32) &&& Int32.toUInt32 31)).toInt32)) &&& (252645135 : Int32)) + ((Int32.toUInt32 (((((x - (((Int32.toUInt32 x >>> (Int32.toUInt32 (1 : Int32) &&& Int32.toUInt32 31)).toInt32) &&& (1431655765 : Int32))) &&& (858993459 : Int32)) + (((Int32.toUInt32 (x - (((Int32.toUInt32 x >>> (Int32.toUInt32 (1 : Int32) &&& Int32.toUInt32 31)).toInt32) &&& (1431655765 : Int32))) >>> (Int32.toUInt32 (2 : Int32) &&& Int32.toUInt32 31)).toInt32) &&& (858993459 : Int32))) + ((Int32.toUInt32 (((x - (((Int32.toUInt32 x >>> (Int32.toUInt32 (1 : Int32) &&& Int32.toUInt32 31)).toInt32) &&& (1431655765 : Int32))) &&& (858993459 : Int32)) + (((Int32.toUInt32 (x - (((Int32.toUInt32 x >>> (Int32.toUInt32 (1 : Int32) &&& Int32.toUInt32 31)).toInt32) &&& (1431655765 : Int32))) >>> (Int32.toUInt32 (2 : Int32) &&& Int32.toUInt32 31)).toInt32) &&& (858993459 : Int32))) >>> (Int32.toUInt32 (4 : Int32) &&& Int32.toUInt32 31)).toInt32)) &&& (252645135 : Int32)) >>> (Int32.toUInt32 (8 : Int32) &&& Int32.toUInt32 31)).toInt32)) >>> (Int32.toUInt32 (16 : Int32) &&& Int32.toUInt32 31)).toInt32)) &&& (63 : Int32)
theorem C_90 {n : Nat} {μ : mMu} (h : n < 1024) : CALL 90 [.int (nI n)] μ = some (.inl (some (.int (nI (pop n)))), μ) := by
  have key : ∀ n, n < 1024 → p_bc (nI n) = nI (pop n) := by decide +kernel
  rw [← key n h]
  exact B_90_0 (nI n) μ
theorem or_lt {a k n : Nat} (ha : a < 2 ^ n) (hk : k < n) : a ||| 2 ^ k < 2 ^ n := Nat.or_lt_two_pow ha (Nat.pow_lt_pow_right (by decide) hk)
theorem pow_le10 {n : Nat} (h : n ≤ 10) : 2 ^ n ≤ 1024 := Nat.pow_le_pow_right (n := 2) (by decide) h
def dst (S : Nat → Nat → Nat → Int32) (t k : Nat) : Int64 := sq (lN 16 * (S 5 k 0).toInt64 - (S 7 t 1).toInt64) (lN 16 * (S 5 k 1).toInt64 - (S 7 t 2).toInt64)
def rch (c : Nat → Nat) (S : Nat → Nat → Nat → Int32) (t : Nat) : Int64 := lN 16 * ((nI (c 12)).toInt64 + lN 40 * (S 7 t 7).toInt64)
def jq (c : Nat → Nat) (S : Nat → Nat → Nat → Int32) (t k : Nat) : Int64 := if rch c S t * rch c S t < dst S t k then -lN 1 else dst S t k
def can (q : Nat → Nat → Int64) (t k tk : Nat) : Bool := !tk.testBit k && !decide (q t k < lN 0)
def mny : Int64 := lN 1000000000000
def bw (M : Int64) (q : Nat → Nat → Int64) (B : Nat → Int64) (t k tk : Nat) : Int64 := M - q t k + B (tk ||| 2 ^ k)
def mf (M : Int64) (q : Nat → Nat → Int64) (B : Nat → Int64) (t tk : Nat) : Nat → Int64 → Int64 := fun k its => bif can q t k tk then p_mxl its (bw M q B t k tk) else its
theorem mf_t {M : Int64} {q : Nat → Nat → Int64} {B : Nat → Int64} {t tk k : Nat} {v : Int64} (h : can q t k tk = true) : mf M q B t tk k v = p_mxl v (bw M q B t k tk) := by unfold mf; rw [h, cond_true]
theorem mf_f {M : Int64} {q : Nat → Nat → Int64} {B : Nat → Int64} {t tk k : Nat} {v : Int64} (h : can q t k tk = false) : mf M q B t tk k v = v := by unfold mf; rw [h, cond_false]
def bM (M : Int64) (q : Nat → Nat → Int64) (nb many : Nat) : Nat → Nat → Int64
  | 0, _ => lN 0
  | m + 1, tk => itr (mf M q (bM M q nb many m) (many - 1 - m) tk) nb (bM M q nb many m tk)
theorem itr_s {α : Type} {g : Nat → α → α} {n : Nat} {s : α} : itr g (n + 1) s = g n (itr g n s) := rfl
theorem bM_s {M : Int64} {q : Nat → Nat → Int64} {nb many m tk : Nat} : bM M q nb many (m + 1) tk = itr (mf M q (bM M q nb many m) (many - 1 - m) tk) nb (bM M q nb many m tk) := rfl
def sel (M : Int64) (q : Nat → Nat → Int64) (nb many t tk : Nat) : Option Nat := ff (fun k => can q t k tk && decide (bw M q (bM M q nb many (many - 1 - t)) t k tk = bM M q nb many (many - t) tk)) nb
abbrev JS : Type := (Nat → Nat → Nat → Int32) × Nat
def jst (sl : Nat → Nat → Option Nat) (t : Nat) (s : JS) : JS := match sl t s.2 with
  | some k => (u1 (u1 s.1 7 (u1 (s.1 7) t (up (up (s.1 7 t) 38 (nI k)) 13 (nI k)))) 5 (u1 (s.1 5) k (up (s.1 5 k) 4 (s.1 7 t 0))), s.2 ||| 2 ^ k)
  | none => (u1 s.1 7 (u1 (s.1 7) t (up (up (s.1 7 t) 38 (-nI 1)) 13 (-nI 1))), s.2)
def jsl (c : Nat → Nat) (S : Nat → Nat → Nat → Int32) : Nat → Nat → Option Nat := sel mny (jq c S) (c 3) (c 4)
def join (c : Nat → Nat) (S : Nat → Nat → Nat → Int32) : JS := itr (jst (jsl c S)) (c 4) (S, 0)
theorem jst_lt {sl : Nat → Nat → Option Nat} {nb : Nat} (h : ∀ t tk k, sl t tk = some k → k < nb) : ∀ {n : Nat} {S : Nat → Nat → Nat → Int32}, (itr (jst sl) n (S, 0)).2 < 2 ^ nb
  | 0, _ => Nat.two_pow_pos nb
  | n + 1, S => by
    have h1 := jst_lt h (n := n) (S := S)
    show (jst sl n (itr (jst sl) n (S, 0))).2 < 2 ^ nb
    generalize itr (jst sl) n (S, 0) = s at h1 ⊢
    unfold jst
    cases hq : sl n s.2 with
    | none => exact h1
    | some k => exact or_lt h1 (h _ _ _ hq)
theorem jsl_lt {c : Nat → Nat} {S : Nat → Nat → Nat → Int32} (t tk k : Nat) (h : jsl c S t tk = some k) : k < c 3 := (ff_is h).1
/-! the four stages -/
theorem nI_nsub {a b : Nat} : nI a - nI b + -nI 1 = nI a - nI (b + 1) := by
  rw [← nI_add b 1, Int32.sub_eq_add_neg, Int32.sub_eq_add_neg, Int32.neg_add, Int32.add_assoc, Int32.sub_eq_add_neg]
