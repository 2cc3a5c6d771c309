/-! ===== the law's own: cells of the script, numbers, what it makes ===== -/
def nwm (μ : mMu) (t n z : Nat) : mMu := mNew μ (t, n) z
theorem nwm_S {μ : mMu} {t n z a : Nat} (h : a ≠ mN μ) : mS (nwm μ t n z) a = mS μ a := by
  show u1 (mS μ) (mN μ) (t, n) a = _
  exact y1_ne h
theorem nwm_S1 {μ : mMu} {t n z : Nat} : mS (nwm μ t n z) (mN μ) = (t, n) := by
  show u1 (mS μ) (mN μ) (t, n) (mN μ) = _
  exact y1_eq
theorem nwm_N {μ : mMu} {t n z : Nat} : mN (nwm μ t n z) = mN μ + 1 := rfl
theorem nwm_C {μ : mMu} {t n z : Nat} : mC (nwm μ t n z) = mC μ + 1 := rfl
theorem nwm_Z {μ : mMu} {t n z : Nat} : mZ (nwm μ t n z) = mZ μ + z := rfl
theorem nwm_X {μ : mMu} {t n z : Nat} : mX (nwm μ t n z) = mX μ := rfl
theorem nwm_st {μ : mMu} {f : Nat → Nat → Int32} {l : Nat → Nat → Int64} {r : Nat → Nat → Option Nat} {t n z : Nat} : mNew (st μ f l r) (t, n) z = st (nwm μ t n z) (u2r f (mN μ) (fun _ => nI 0)) (u2r l (mN μ) (fun _ => lN 0)) (u2r r (mN μ) (fun _ => none)) := rfl
theorem nwA_stm {μ : mMu} {f : Nat → Nat → Int32} {l : Nat → Nat → Int64} {r : Nat → Nat → Option Nat} {t n : Nat} (hn : n < 65536) : nwA (st μ f l r) t (nI n) = some (st (nwm μ t n n) (u2r f (mN μ) (fun _ => nI 0)) (u2r l (mN μ) (fun _ => lN 0)) (u2r r (mN μ) (fun _ => none))) := by
  unfold nwA
  rw [inb_ok hn (by decide), ix_nI (by omega)]
  rfl
theorem nwm_Sh {μ : mMu} {t n z : Nat} (hN : 137 ≤ mN μ) (hs : Sh μ) : Sh (nwm μ t n z) := fun a ha => (nwm_S (by omega)).trans (hs a ha)
theorem nwm_Rf {μ : mMu} {r : Nat → Nat → Option Nat} {g : Nat → Option Nat} (hN : 137 ≤ mN μ) (hr : Rf r) : Rf (u2r r (mN μ) g) := fun a j v hv => by
  have ha : a < 137 := RT_lt hv
  rw [yur_ne (by omega)]
  exact hr a j v hv
/-- a cell of the script, or what stands for it -/
def cel (X : Nat × (Nat → Int32)) (k : Nat) : Int32 := if X.1 ≤ k then nI 790386105 * (nI k + nI 3) else X.2 k
theorem C_99 {μ : mMu} {f : Nat → Nat → Int32} {l : Nat → Nat → Int64} {r : Nat → Nat → Option Nat} {k : Nat} (hk : k < 1000) (hX : (mX μ).1 ≤ 260) : CALL 99 [.retAddr 0, .int (nI k)] (st μ f l r) = some (.inl (some (.int (cel (mX μ) k))), st μ f l r) := by
  rw [B_99_0, st_X]
  have e : decide (Int32.ofNat (mX μ).1 ≤ nI k) = decide ((mX μ).1 ≤ k) := decide_eq_decide.mpr (nI_leI (by omega) (by omega))
  rw [e]
  unfold cel
  by_cases h : (mX μ).1 ≤ k
  · rw [decide_eq_true h, if_pos rfl, if_pos h]
    rfl
  · rw [decide_eq_false h, if_neg (by decide), if_neg h]
    unfold ldX
    rw [st_X, inb_ok (by omega) (by omega), ix_nI (by omega)]
    rfl
def bel (v : Int32) (n : Nat) : Nat := v.toBitVec.toNat % 2 ^ 31 % n
theorem bel_lt {v : Int32} {n : Nat} (h : 0 < n) : bel v n < n := Nat.mod_lt _ h
theorem C_98 {v : Int32} {n : Nat} {μ : mMu} (h0 : 0 < n) (hn : n < 2147483648) : CALL 98 [.int v, .int (nI n)] μ = some (.inl (some (.int (nI (bel v n)))), μ) := by
  rw [B_98_0, decide_eq_false (show ¬ nI n = 0 from nI_n0 hn (by omega)), cond_false, Option.bind_some]
  have e : v &&& (2147483647 : Int32) = nI (v.toBitVec.toNat % 2 ^ 31) := pk_and v 31 (by decide)
  rw [e, pk_rem (Nat.mod_lt _ (by decide)) h0 (by omega)]
  rfl
def p_abi (a : Int32) : Int32 := if 0 ≤ a then a else -a
theorem C_93 {a : Int32} {μ : mMu} : CALL 93 [.int a] μ = some (.inl (some (.int (p_abi a))), μ) := by
  rw [B_93_0]; unfold p_abi; by_cases h : 0 ≤ a <;> simp [h]
theorem abi_le {a : Int32} {n : Nat} (hn : n < 2147483648) (h1 : -(n : Int) ≤ a.toInt) (h2 : a.toInt ≤ n) : p_abi a ≤ nI n := by
  unfold p_abi
  split
  · rw [fa_le, nI_toInt hn]; exact h2
  · rw [fa_le, nI_toInt hn, Int32.toInt_neg]
    simp only [Int.bmod_def]
    split <;> omega
/-! ===== the class' answers, as the law asks ===== -/
theorem K_cnt {μ : mMu} {f : Nat → Nat → Int32} {l : Nat → Nat → Int64} {r : Nat → Nat → Option Nat} (hs : Sh μ) (hr : Rf r) {σ : Nat → Nat} {c : Nat → Nat} {S : Nat → Nat → Nat → Int32} (hC : CAll f r 1 σ c S) (hI : INV c S) {w : Nat} (hw : w ≤ 10) : CALL 74 [.ref 0, .int (nI w)] (st μ f l r) = some (.inl (some (.int (qcnt c (S 7) w))), st μ f l r) := by
  rw [C_74 hs hr hC hI.1]
  have e : wi (nI w) (nI 0) (nI 10) = true := by
    rw [wi_iff, nI_toInt (n := w) (by omega), nI_toInt (n := 0) (by decide), nI_toInt (n := 10) (by decide)]
    omega
  rw [e, cond_true, ix_nI (by omega)]
theorem K_name {μ : mMu} {f : Nat → Nat → Int32} {l : Nat → Nat → Int64} {r : Nat → Nat → Option Nat} (hs : Sh μ) (hr : Rf r) {σ : Nat → Nat} {c : Nat → Nat} {S : Nat → Nat → Nat → Int32} (hC : CAll f r 1 σ c S) (hI : INV c S) {k : Nat} (hk : k < c 4) : CALL 75 [.ref 0, .int (nI k)] (st μ f l r) = some (.inl (some (.int (S 7 k 0))), st μ f l r) := by
  have h4 := hI.1.2.2.2.2.1
  rw [C_75 hs hr hC hI.1, wi_nI1 (by omega) (by omega), decide_eq_true hk, cond_true, ix_nI (by omega)]
theorem K_find {c : Nat → Nat} {S : Nat → Nat → Nat → Int32} (hI : INV c S) {k : Nat} (hk : k < c 4) : pfnd c S (S 7 k 0) = some k := by
  have hd := hI.2.2.2.2.2.2.2.2.1.1
  exact ff_some (p := fun t => decide (S 7 t 0 = S 7 k 0)) (fun j hj => decide_eq_false (fun e => by
    have := hd j k (by omega) hk e
    omega)) (decide_eq_true rfl) hk
theorem K_trk {μ : mMu} {f : Nat → Nat → Int32} {l : Nat → Nat → Int64} {r : Nat → Nat → Option Nat} (hs : Sh μ) (hr : Rf r) {σ : Nat → Nat} {c : Nat → Nat} {S : Nat → Nat → Nat → Int32} (hC : CAll f r 1 σ c S) (hI : INV c S) {k w : Nat} (hk : k < c 4) (hw : w ≤ 7) : CALL 76 [.ref 0, .int (S 7 k 0), .int (nI w)] (st μ f l r) = some (.inl (some (.int (S 7 k (1 + w)))), st μ f l r) := by
  rw [C_76 hs hr hC hI.1, K_find hI hk]
  have e : wi (nI w) (nI 0) (nI 7) = true := by
    rw [wi_iff, nI_toInt (n := w) (by omega), nI_toInt (n := 0) (by decide), nI_toInt (n := 7) (by decide)]
    omega
  show (bif wi (nI w) (nI 0) (nI 7) then _ else _) = _
  rw [e, cond_true, ix_nI (by omega)]
theorem K_pathx {μ : mMu} {f : Nat → Nat → Int32} {l : Nat → Nat → Int64} {r : Nat → Nat → Option Nat} (hs : Sh μ) (hr : Rf r) {σ : Nat → Nat} {c : Nat → Nat} {S : Nat → Nat → Nat → Int32} (hC : CAll f r 1 σ c S) (hI : INV c S) {k : Nat} (hk : k < c 4) : CALL 77 [.ref 0, .int (S 7 k 0), .int (nI 0), .int (nI 1)] (st μ f l r) = some (.inl (some (.int (S 7 k 1))), st μ f l r) := by
  rw [C_77 hs hr hC hI.1, K_find hI hk]
  obtain ⟨-, -, ⟨g, m, h8, -, hmg, hgk, -⟩, -, h14, -⟩ := hI.2.2.2.2.2.2.1 k hk
  have hc6 := hI.1.2.2.2.2.2.2.1
  show (bif wi (nI 0) (nI 0) (nI 11) && decide (nI 0 < S 7 k 8) then _ else _) = _
  have e : wi (nI 0) (nI 0) (nI 11) = true := by decide
  have e2 : nI 0 < S 7 k 8 := by rw [h8, nI_ltI (by omega) (by omega)]; omega
  have e3 : ix (nI 0) = 0 := ix_nI (by omega)
  have e4 : ¬ nI 1 = nI 0 := by decide
  rw [e, decide_eq_true e2, Bool.and_true, cond_true, e3, if_neg e4, ← h14]
theorem K_pathy {μ : mMu} {f : Nat → Nat → Int32} {l : Nat → Nat → Int64} {r : Nat → Nat → Option Nat} (hs : Sh μ) (hr : Rf r) {σ : Nat → Nat} {c : Nat → Nat} {S : Nat → Nat → Nat → Int32} (hC : CAll f r 1 σ c S) (hI : INV c S) {k : Nat} (hk : k < c 4) : CALL 77 [.ref 0, .int (S 7 k 0), .int (nI 0), .int (nI 0)] (st μ f l r) = some (.inl (some (.int (S 7 k 2))), st μ f l r) := by
  rw [C_77 hs hr hC hI.1, K_find hI hk]
  obtain ⟨-, -, ⟨g, m, h8, -, hmg, hgk, -⟩, -, -, h15⟩ := hI.2.2.2.2.2.2.1 k hk
  have hc6 := hI.1.2.2.2.2.2.2.1
  show (bif wi (nI 0) (nI 0) (nI 11) && decide (nI 0 < S 7 k 8) then _ else _) = _
  have e : wi (nI 0) (nI 0) (nI 11) = true := by decide
  have e2 : nI 0 < S 7 k 8 := by rw [h8, nI_ltI (by omega) (by omega)]; omega
  have e3 : ix (nI 0) = 0 := ix_nI (by omega)
  rw [e, decide_eq_true e2, Bool.and_true, cond_true, e3, if_pos rfl, ← h15]
theorem K_blip {μ : mMu} {f : Nat → Nat → Int32} {l : Nat → Nat → Int64} {r : Nat → Nat → Option Nat} (hs : Sh μ) (hr : Rf r) {σ : Nat → Nat} {c : Nat → Nat} {S : Nat → Nat → Nat → Int32} (hC : CAll f r 1 σ c S) (hI : INV c S) {i : Nat} (h3 : c 3 = 0) (hi : i < c 10) : CALL 72 [.ref 0, .int (nI i), .int (nI 4)] (st μ f l r) = some (.inl (some (.int (S 6 i 4))), st μ f l r) := by
  have h10 := hI.1.2.2.2.2.2.2.2.2.2.2.1
  have n3 : ¬ 0 < c 3 := by omega
  rw [C_72 hs hr hC hI.1, if_neg n3, wi_nI1 (by omega) (by omega), decide_eq_true hi]
  have e : wi (nI 4) (nI 0) (nI 4) = true := by decide
  rw [e, Bool.and_true, cond_true, ix_nI (by omega), ix_nI (by omega)]
  unfold p_tld
  rw [if_neg n3]
theorem K_ins {μ : mMu} {f : Nat → Nat → Int32} {l : Nat → Nat → Int64} {r : Nat → Nat → Option Nat} (hs : Sh μ) (hr : Rf r) {σ : Nat → Nat} {c : Nat → Nat} {S : Nat → Nat → Nat → Int32} (hC : CAll f r 1 σ c S) (hI : INV c S) (h2 : 0 < c 2) : CALL 78 [.ref 0, .int (nI 0)] (st μ f l r) = some (.inl (some (.int (insf (S 7) (S 3 0) (c 4)))), st μ f l r) := by
  have hc2 := hI.1.2.2.1
  rw [C_78 hs hr hC hI.1 hI.2.2.2.2.1, wi_nI1 (by omega) (by omega), decide_eq_true h2, cond_true, ix_nI (by omega)]
theorem K_ev {μ : mMu} {f : Nat → Nat → Int32} {l : Nat → Nat → Int64} {r : Nat → Nat → Option Nat} (hs : Sh μ) (hr : Rf r) {σ : Nat → Nat} {c : Nat → Nat} {S : Nat → Nat → Nat → Int32} (hC : CAll f r 1 σ c S) (hI : INV c S) {e w : Nat} (he : e < min (c 8) 120) (hw : w ≤ 3) : CALL 79 [.ref 0, .int (nI e), .int (nI w)] (st μ f l r) = some (.inl (some (.int (S 9 e w))), st μ f l r) := by
  have e1 : wi (nI w) (nI 0) (nI 3) = true := by
    rw [wi_iff, nI_toInt (n := w) (by omega), nI_toInt (n := 0) (by decide), nI_toInt (n := 3) (by decide)]
    omega
  rw [C_79 hs hr hC hI.1, wi_nI1 (by omega) (by omega), decide_eq_true he, e1, Bool.and_true, cond_true, ix_nI (by omega), ix_nI (by omega)]
theorem K_cut {c : Nat → Nat} {S : Nat → Nat → Nat → Int32} (hI : INV c S) : ∀ s i x y, s < c 0 → i < c 1 → plc x y = true → p_cut (S 1 s 0) (S 1 s 1) x y (S 2 i) = p_hid (S 1 s 0) (S 1 s 1) x y (S 2 i) := fun s i x y h1 h2 h3 => cut_hid (hI.2.2.1 s h1) h3 (hI.2.2.2.1 i h2)
theorem K_sees {μ : mMu} {f : Nat → Nat → Int32} {l : Nat → Nat → Int64} {r : Nat → Nat → Option Nat} (hs : Sh μ) (hr : Rf r) {σ : Nat → Nat} {c : Nat → Nat} {S : Nat → Nat → Nat → Int32} (hC : CAll f r 1 σ c S) (hI : INV c S) {b : Nat} {x y : Int32} (hb : b < c 0) (hp : plc x y = true) : CALL 68 [.ref 0, .int (nI b), .int x, .int y] (st μ f l r) = some (.inl (some (.int (bI (p_see c S b x y)))), st μ f l r) := by
  have hc0 := hI.1.1
  rw [C_68 hs hr hC hI.1 (K_cut hI), wi_nI1 (by omega) (by omega), decide_eq_true hb, cond_true, hp, cond_true, ix_nI (by omega)]
theorem K_level {μ : mMu} {f : Nat → Nat → Int32} {l : Nat → Nat → Int64} {r : Nat → Nat → Option Nat} (hs : Sh μ) (hr : Rf r) {σ : Nat → Nat} {c : Nat → Nat} {S : Nat → Nat → Nat → Int32} (hC : CAll f r 1 σ c S) (hI : INV c S) {x y : Int32} (hp : plc x y = true) : CALL 69 [.ref 0, .int x, .int y] (st μ f l r) = some (.inl (some (.int (S 4 (fxn x) (fxn y)))), st μ f l r) := by
  rw [C_69 hs hr hC hI.1, hp, cond_true]
/-- a report of the law -/
theorem rep_k {c : Nat → Nat} {S : Nat → Nat → Nat → Int32} {b : Nat} {x y z : Int32} (hb : b < c 0) (hb2 : c 0 ≤ 4) (hp : plc x y = true) (hz : wi z (nI 1) (nI 99) = true) : (s_rep c S (nI b) x y z).2.1 = nI 0 ∧ (∀ q, q ≠ 3 → (s_rep c S (nI b) x y z).2.2.1 q = c q) ∧ (∀ q, q ≠ 5 → (s_rep c S (nI b) x y z).2.2.2 q = S q) ∧ (((s_rep c S (nI b) x y z).1 = nI 0 ∧ p_see c S b x y = true ∧ S 4 (fxn x) (fxn y) < z) ∨ ((s_rep c S (nI b) x y z).1 = nI 1 ∧ p_see c S b x y = false) ∨ ((s_rep c S (nI b) x y z).1 = nI 2 ∧ p_see c S b x y = true ∧ ¬ S 4 (fxn x) (fxn y) < z) ∨ ((s_rep c S (nI b) x y z).1 = nI 3 ∧ p_see c S b x y = true ∧ S 4 (fxn x) (fxn y) < z ∧ (s_rep c S (nI b) x y z).2.2.1 3 = 10)) := by
  have e : s_rep c S (nI b) x y z = (bif p_see c S b x y then (if S 4 (fxn x) (fxn y) < z then s_rep2 c S (nI b) x y z else (nI 2, nI 0, c, S)) else (nI 1, nI 0, c, S)) := by
    unfold s_rep
    rw [wi_nI1 (by omega) (by omega), decide_eq_true hb, cond_true, hp, hz, Bool.and_true, cond_true, ix_nI (by omega)]
  rw [e]
  cases h1 : p_see c S b x y with
  | false =>
    simp only [cond_false]
    exact ⟨trivial, fun _ _ => trivial, fun _ _ => trivial, Or.inr (Or.inl ⟨trivial, trivial⟩)⟩
  | true =>
    simp only [cond_true]
    by_cases h2 : S 4 (fxn x) (fxn y) < z
    · rw [if_pos h2]
      unfold s_rep2
      cases ff (fun k => mrg (S 5 k) (nI (c 11)) (nI b) x y) (c 3) with
      | some k =>
        simp only
        exact ⟨trivial, fun _ _ => trivial, fun q hq => y1_ne hq, Or.inl ⟨trivial, trivial, h2⟩⟩
      | none =>
        simp only
        by_cases h3 : c 3 = 10
        · rw [if_pos h3]
          exact ⟨rfl, fun _ _ => rfl, fun _ _ => rfl, Or.inr (Or.inr (Or.inr ⟨rfl, trivial, h2, h3⟩))⟩
        · rw [if_neg h3]
          exact ⟨rfl, fun q hq => y1_ne hq, fun q hq => y1_ne hq, Or.inl ⟨rfl, trivial, h2⟩⟩
    · rw [if_neg h2]
      exact ⟨rfl, fun _ _ => rfl, fun _ _ => rfl, Or.inr (Or.inr (Or.inl ⟨rfl, trivial, h2⟩))⟩
theorem XI_of {c c' : Nat → Nat} {S S' : Nat → Nat → Nat → Int32} (h : XI c S) (e : ∀ q, 4 ≤ q → q ≤ 9 → c' q = c q) (e7 : S' 7 = S 7) (e9 : S' 9 = S 9) : XI c' S' := by
  unfold XI at h ⊢
  rw [e 6 (by omega) (by omega), e 4 (by omega) (by omega), e7, e9]
  exact ⟨EV_same h.1 (e 8 (by omega) (by omega)) (e 9 (by omega) (by omega)) rfl, h.2⟩
