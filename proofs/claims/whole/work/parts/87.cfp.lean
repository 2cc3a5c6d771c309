/-! ===== a track's speed is a number ===== -/
def fok (d : FP.Core.Datum) : Prop := match d with
  | .nan => False
  | .inf _ => True
  | .fin _ c q => c < 9007199254740992 ∧ q ≤ 971
theorem fok_bound {s : Bool} {c : Nat} {q : Int} (h : c < 9007199254740992) : fok (FP.Core.bound FP.Core.b64 s c q) := by
  have e : FP.Core.Fmt.qmax FP.Core.b64 = 971 := by decide
  unfold FP.Core.bound
  rw [e]
  by_cases hq : q ≤ 971
  · rw [if_pos hq]; exact ⟨h, hq⟩
  · rw [if_neg hq]; exact trivial
theorem fok_rr {s : Bool} {n d : Nat} {e : Int} : fok (FP.Core.roundRatio FP.Core.b64 s n d e) := by
  have e2 : (2 : Nat) ^ FP.Core.b64.p = 9007199254740992 := by decide
  have e3 : FP.Core.Fmt.tails FP.Core.b64 = 4503599627370496 := by decide
  have e4 : FP.Core.Fmt.qmin FP.Core.b64 = -1074 := by decide
  unfold FP.Core.roundRatio
  by_cases h : n = 0
  · rw [if_pos h, e4]; exact ⟨by decide, by decide⟩
  · rw [if_neg h]
    unfold FP.Core.roundAt FP.Core.settle
    rw [e2, e3]
    split
    · rename_i h2; exact fok_bound h2
    · exact fok_bound (by decide)
theorem asm_b {s : Bool} {e t : Nat} (he : e ≤ 2047) (ht : t < 4503599627370496) (h : e ≤ 2046 ∨ t = 0) : FP.Core.assemble FP.Core.b64 s e t < 18446744073709551616 ∧ FP.Core.assemble FP.Core.b64 s e t % 9223372036854775808 ≤ 9218868437227405312 := by
  have e1 : FP.Core.Fmt.exps FP.Core.b64 = 2048 := by decide
  have e3 : FP.Core.Fmt.tails FP.Core.b64 = 4503599627370496 := by decide
  unfold FP.Core.assemble
  rw [e1, e3]
  cases s
  · show (0 * 2048 + e) * 4503599627370496 + t < _ ∧ ((0 * 2048 + e) * 4503599627370496 + t) % _ ≤ _
    constructor <;> omega
  · show (1 * 2048 + e) * 4503599627370496 + t < _ ∧ ((1 * 2048 + e) * 4503599627370496 + t) % _ ≤ _
    constructor <;> omega
theorem enc_b {d : FP.Core.Datum} (h : fok d) : FP.Core.encode FP.Core.b64 d < 18446744073709551616 ∧ FP.Core.encode FP.Core.b64 d % 9223372036854775808 ≤ 9218868437227405312 := by
  have e1 : FP.Core.Fmt.exps FP.Core.b64 = 2048 := by decide
  have e3 : FP.Core.Fmt.tails FP.Core.b64 = 4503599627370496 := by decide
  have e4 : FP.Core.Fmt.qmin FP.Core.b64 = -1074 := by decide
  cases d with
  | nan => exact h.elim
  | inf s =>
    show FP.Core.assemble FP.Core.b64 s (FP.Core.Fmt.exps FP.Core.b64 - 1) 0 < _ ∧ FP.Core.assemble FP.Core.b64 s (FP.Core.Fmt.exps FP.Core.b64 - 1) 0 % _ ≤ _
    rw [e1]
    exact asm_b (by decide) (by decide) (Or.inr rfl)
  | fin s c q =>
    obtain ⟨h1, h2⟩ := h
    have e : FP.Core.encode FP.Core.b64 (.fin s c q) = if c < 4503599627370496 then FP.Core.assemble FP.Core.b64 s 0 c else FP.Core.assemble FP.Core.b64 s ((q - -1074).toNat + 1) (c - 4503599627370496) := by
      unfold FP.Core.encode
      rw [e3, e4]
    rw [e]
    split
    · rename_i hc; exact asm_b (by omega) hc (Or.inl (by omega))
    · exact asm_b (by omega) (by omega) (Or.inl (by omega))
theorem dec_ok {n : Nat} (h : n % 9223372036854775808 ≤ 9218868437227405312) : FP.Core.decode FP.Core.b64 n ≠ .nan := by
  have e1 : FP.Core.Fmt.exps FP.Core.b64 = 2048 := by decide
  have e3 : FP.Core.Fmt.tails FP.Core.b64 = 4503599627370496 := by decide
  unfold FP.Core.decode FP.Core.fieldE FP.Core.fieldT
  rw [e1, e3]
  split
  · rename_i g1
    split
    · exact fun h => FP.Core.Datum.noConfusion h
    · rename_i g2
      exact (g2 (by omega)).elim
  · split
    · exact fun h => FP.Core.Datum.noConfusion h
    · exact fun h => FP.Core.Datum.noConfusion h
theorem quo_ok {x : FP.Core.Datum} (h : x ≠ .nan) : fok (FP.Core.quotient FP.Core.b64 x (.fin false 4503599627370496 (-36))) := by
  cases x with
  | nan => exact absurd rfl h
  | inf s => exact trivial
  | fin s c q =>
    show fok (if 4503599627370496 = 0 then (if c = 0 then FP.Core.Datum.nan else .inf (s != false)) else FP.Core.roundRatio FP.Core.b64 (s != false) c 4503599627370496 (q - -36))
    rw [if_neg (by decide)]
    exact fok_rr
theorem u64_n (n : Nat) : (UInt64.ofNat n).toNat = n % 18446744073709551616 := rfl
theorem spd_dat (R : Nat → Int32) : (pspd R).toNat % 9223372036854775808 ≤ 9218868437227405312 := by
  have hl : (FP.Core.l2d (sq (R 3).toInt64 (R 4).toInt64)).toNat % 9223372036854775808 ≤ 9218868437227405312 := by
    obtain ⟨b1, b2⟩ := enc_b (d := FP.Core.round FP.Core.b64 (FP.Core.ofInt (sq (R 3).toInt64 (R 4).toInt64).toInt)) fok_rr
    have e : (FP.Core.l2d (sq (R 3).toInt64 (R 4).toInt64)).toNat = FP.Core.encode FP.Core.b64 (FP.Core.round FP.Core.b64 (FP.Core.ofInt (sq (R 3).toInt64 (R 4).toInt64).toInt)) % 18446744073709551616 := u64_n _
    rw [e, Nat.mod_eq_of_lt b1]
    exact b2
  have hc : FP.Core.decode FP.Core.b64 (UInt64.ofNat 4679240012837945344).toNat = .fin false 4503599627370496 (-36) := by decide +kernel
  have hq := quo_ok (dec_ok hl)
  rw [← hc] at hq
  obtain ⟨b1, b2⟩ := enc_b hq
  have e : (pspd R).toNat = FP.Core.encode FP.Core.b64 (FP.Core.quotient FP.Core.b64 (FP.Core.decode FP.Core.b64 (FP.Core.l2d (sq (R 3).toInt64 (R 4).toInt64)).toNat) (FP.Core.decode FP.Core.b64 (UInt64.ofNat 4679240012837945344).toNat)) % 18446744073709551616 := u64_n _
  rw [e, Nat.mod_eq_of_lt b1]
  exact b2
theorem spd_ok (R : Nat → Int32) : pspd R &&& 0x7fffffffffffffff ≤ 0x7ff0000000000000 := by
  have h := spd_dat R
  have e1 : (0x7fffffffffffffff : UInt64).toNat = 2 ^ 63 - 1 := by decide
  have e2 : (0x7ff0000000000000 : UInt64).toNat = 9218868437227405312 := by decide
  rw [UInt64.le_iff_toNat_le, UInt64.toNat_and, e1, e2, Nat.and_two_pow_sub_one_eq_mod]
  exact h
theorem cmp_self (a : Int) : compare a a = Ordering.eq := by simp [compare, compareOfLessAndEq]
theorem spd_cmp (R : Nat → Int32) : FP.dcmp (pspd R) (pspd R) = some .eq := by
  have h := dec_ok (spd_dat R)
  show FP.Core.order (FP.Core.decode FP.Core.b64 (pspd R).toNat) (FP.Core.decode FP.Core.b64 (pspd R).toNat) = some .eq
  generalize FP.Core.decode FP.Core.b64 (pspd R).toNat = x at h ⊢
  cases x with
  | nan => exact absurd rfl h
  | inf => exact congrArg some (cmp_self _)
  | fin s c q => exact congrArg some (cmp_self _)
/-! ===== the other calls keep what holds ===== -/
theorem INV_of {c c' : Nat → Nat} {S S' : Nat → Nat → Nat → Int32} (h : INV c S) (hc : CB c') (e : ∀ q, 4 ≤ q → q ≤ 9 → c' q = c q) (e7 : S' 7 = S 7) (e8 : S' 8 = S 8) (g1 : ∀ i, i < c' 0 → plc (S' 1 i 0) (S' 1 i 1) = true) (g2 : ∀ i, i < c' 1 → IA (S' 2 i)) (g3 : ∀ a, a < c' 2 → IA (S' 3 a)) (g5 : ∀ k, k < c' 3 → IP (S' 5 k) ∧ S' 5 k 4 = -nI 1) : INV c' S' := by
  obtain ⟨-, a1, -, -, -, -, a6, a7, a8, a9⟩ := h
  unfold INV DN at *
  rw [e 4 (by decide) (by decide), e 5 (by decide) (by decide), e 6 (by decide) (by decide), e 7 (by decide) (by decide), e 8 (by decide) (by decide), e 9 (by decide) (by decide), e7, e8]
  exact ⟨hc, a1, g1, g2, g3, g5, a6, a7, a8, a9⟩
theorem INV_addSt {c : Nat → Nat} {S : Nat → Nat → Nat → Int32} (h : INV c S) {x y z : Int32} : INV (s_addSt c S x y z).2.2.1 (s_addSt c S x y z).2.2.2 := by
  have h' := h
  obtain ⟨hc, -, b1, b2, b3, b5, -⟩ := h
  unfold s_addSt
  cases hp : plc x y && wi z (nI 1) (nI 20000) with
  | false => exact h'
  | true =>
    rw [cond_true]
    by_cases q : c 0 = 4
    · rw [if_pos q]; exact h'
    · rw [if_neg q]
      simp only
      rw [Bool.and_eq_true] at hp
      obtain ⟨c0, c1, c2, c3, c4, c5, c6, c7, c8, c9, c10, c11, c12, c13, c14⟩ := hc
      refine INV_of h' ⟨by rw [y1_eq]; omega, by rw [y1_ne (by decide)]; exact c1, by rw [y1_ne (by decide)]; exact c2, by rw [y1_ne (by decide)]; exact c3, by rw [y1_ne (by decide)]; exact c4, by rw [y1_ne (by decide)]; exact c5, by rw [y1_ne (by decide)]; exact c6, by rw [y1_ne (by decide)]; exact c7, by rw [y1_ne (by decide)]; exact c8, by rw [y1_ne (by decide)]; exact c9, by rw [y1_ne (by decide)]; exact c10, by rw [y1_ne (by decide)]; exact c11, by rw [y1_ne (by decide)]; exact c12, by rw [y1_ne (by decide)]; exact c13, by rw [y1_ne (by decide)]; exact c14⟩ (fun q _ _ => y1_ne (by omega)) (y1_ne (by decide)) (y1_ne (by decide)) (fun i hi => ?_) (by rw [y1_ne (by decide), y1_ne (by decide)]; exact b2) (by rw [y1_ne (by decide), y1_ne (by decide)]; exact b3) (by rw [y1_ne (by decide), y1_ne (by decide)]; exact b5)
      rw [y1_eq] at hi
      rw [y1_eq]
      by_cases e : i = c 0
      · rw [e, y1_eq]; exact hp.1
      · rw [y1_ne e]; exact b1 i (by omega)
theorem IA_of {x y u v : Int32} (h : (plc x y && (plc u v && (!decide (u ≤ x) && decide (y < v)))) = true) : IA (rc4 x y u v) := by
  rw [Bool.and_eq_true, Bool.and_eq_true, Bool.and_eq_true, Bool.not_eq_true', decide_eq_false_iff_not, decide_eq_true_eq, fa_le, fa_lt] at h
  obtain ⟨h1, h2, h3, h4⟩ := h
  exact ⟨h1, h2, show x.toInt < u.toInt by omega, h4⟩
theorem INV_addPl {c : Nat → Nat} {S : Nat → Nat → Nat → Int32} (h : INV c S) {w x y u v : Int32} : INV (s_addPl c S w x y u v).2.2.1 (s_addPl c S w x y u v).2.2.2 := by
  have h' := h
  obtain ⟨hc, -, b1, b2, b3, b5, -⟩ := h
  unfold s_addPl
  cases hp : plc x y && (plc u v && (!decide (u ≤ x) && decide (y < v))) with
  | false => exact h'
  | true =>
    rw [cond_true]
    obtain ⟨c0, c1, c2, c3, c4, c5, c6, c7, c8, c9, c10, c11, c12, c13, c14⟩ := hc
    by_cases qw : w = nI 0
    · rw [if_pos qw]
      by_cases q : c 1 = 10
      · rw [if_pos q]; exact h'
      · rw [if_neg q]
        simp only
        refine INV_of h' ⟨by rw [y1_ne (by decide)]; exact c0, by rw [y1_eq]; omega, by rw [y1_ne (by decide)]; exact c2, by rw [y1_ne (by decide)]; exact c3, by rw [y1_ne (by decide)]; exact c4, by rw [y1_ne (by decide)]; exact c5, by rw [y1_ne (by decide)]; exact c6, by rw [y1_ne (by decide)]; exact c7, by rw [y1_ne (by decide)]; exact c8, by rw [y1_ne (by decide)]; exact c9, by rw [y1_ne (by decide)]; exact c10, by rw [y1_ne (by decide)]; exact c11, by rw [y1_ne (by decide)]; exact c12, by rw [y1_ne (by decide)]; exact c13, by rw [y1_ne (by decide)]; exact c14⟩ (fun q _ _ => y1_ne (by omega)) (y1_ne (by decide)) (y1_ne (by decide)) (by rw [y1_ne (by decide), y1_ne (by decide)]; exact b1) (fun i hi => ?_) (by rw [y1_ne (by decide), y1_ne (by decide)]; exact b3) (by rw [y1_ne (by decide), y1_ne (by decide)]; exact b5)
        rw [y1_eq] at hi
        rw [y1_eq]
        by_cases e : i = c 1
        · rw [e, y1_eq]; exact IA_of hp
        · rw [y1_ne e]; exact b2 i (by omega)
    · rw [if_neg qw]
      by_cases q : c 2 = 6
      · rw [if_pos q]; exact h'
      · rw [if_neg q]
        simp only
        refine INV_of h' ⟨by rw [y1_ne (by decide)]; exact c0, by rw [y1_ne (by decide)]; exact c1, by rw [y1_eq]; omega, by rw [y1_ne (by decide)]; exact c3, by rw [y1_ne (by decide)]; exact c4, by rw [y1_ne (by decide)]; exact c5, by rw [y1_ne (by decide)]; exact c6, by rw [y1_ne (by decide)]; exact c7, by rw [y1_ne (by decide)]; exact c8, by rw [y1_ne (by decide)]; exact c9, by rw [y1_ne (by decide)]; exact c10, by rw [y1_ne (by decide)]; exact c11, by rw [y1_ne (by decide)]; exact c12, by rw [y1_ne (by decide)]; exact c13, by rw [y1_ne (by decide)]; exact c14⟩ (fun q _ _ => y1_ne (by omega)) (y1_ne (by decide)) (y1_ne (by decide)) (by rw [y1_ne (by decide), y1_ne (by decide)]; exact b1) (by rw [y1_ne (by decide), y1_ne (by decide)]; exact b2) (fun i hi => ?_) (by rw [y1_ne (by decide), y1_ne (by decide)]; exact b5)
        rw [y1_eq] at hi
        rw [y1_eq]
        by_cases e : i = c 2
        · rw [e, y1_eq]; exact IA_of hp
        · rw [y1_ne e]; exact b3 i (by omega)
theorem INV_tune {c : Nat → Nat} {S : Nat → Nat → Nat → Int32} (h : INV c S) {x y z w : Int32} : INV (s_tune c S x y z w).2.2.1 (s_tune c S x y z w).2.2.2 := by
  have h' := h
  obtain ⟨hc, -, b1, b2, b3, b5, -⟩ := h
  unfold s_tune
  cases hp : wi x (nI 0) (nI 500) && wi y (nI 1) (nI 2000) && wi z (nI 0) (nI 16) && wi w (nI 0) (nI 16) with
  | false => exact h'
  | true =>
    rw [cond_true]
    simp only
    obtain ⟨c0, c1, c2, c3, c4, c5, c6, c7, c8, c9, c10, c11, c12, c13, c14⟩ := hc
    rw [Bool.and_eq_true, Bool.and_eq_true, Bool.and_eq_true] at hp
    obtain ⟨⟨⟨h1, h2⟩, h3⟩, h4⟩ := hp
    obtain ⟨a, ha, rfl⟩ := wi_get (by decide) h1
    obtain ⟨b, -, hb, rfl⟩ := wi_pos (by decide) h2
    obtain ⟨d, hd, rfl⟩ := wi_get (by decide) h3
    obtain ⟨e, he, rfl⟩ := wi_get (by decide) h4
    have k : ∀ q, q ≠ 11 → q ≠ 12 → q ≠ 13 → q ≠ 14 → u1 (u1 (u1 (u1 c 11 (ix (nI a))) 12 (ix (nI b))) 13 (ix (nI d))) 14 (ix (nI e)) q = c q := fun q q1 q2 q3 q4 => by rw [y1_ne q4, y1_ne q3, y1_ne q2, y1_ne q1]
    refine INV_of h' ⟨by rw [k 0 (by decide) (by decide) (by decide) (by decide)]; exact c0, by rw [k 1 (by decide) (by decide) (by decide) (by decide)]; exact c1, by rw [k 2 (by decide) (by decide) (by decide) (by decide)]; exact c2, by rw [k 3 (by decide) (by decide) (by decide) (by decide)]; exact c3, by rw [k 4 (by decide) (by decide) (by decide) (by decide)]; exact c4, by rw [k 5 (by decide) (by decide) (by decide) (by decide)]; exact c5, by rw [k 6 (by decide) (by decide) (by decide) (by decide)]; exact c6, by rw [k 7 (by decide) (by decide) (by decide) (by decide)]; exact c7, by rw [k 8 (by decide) (by decide) (by decide) (by decide)]; exact c8, by rw [k 9 (by decide) (by decide) (by decide) (by decide)]; exact c9, by rw [k 10 (by decide) (by decide) (by decide) (by decide)]; exact c10, ?_, ?_, ?_, ?_⟩ (fun q q1 q2 => k q (by omega) (by omega) (by omega) (by omega)) rfl rfl (by rw [k 0 (by decide) (by decide) (by decide) (by decide)]; exact b1) (by rw [k 1 (by decide) (by decide) (by decide) (by decide)]; exact b2) (by rw [k 2 (by decide) (by decide) (by decide) (by decide)]; exact b3) (by rw [k 3 (by decide) (by decide) (by decide) (by decide)]; exact b5)
    · rw [y1_ne (by decide), y1_ne (by decide), y1_ne (by decide), y1_eq, ix_nI (by omega)]; exact ha
    · rw [y1_ne (by decide), y1_ne (by decide), y1_eq, ix_nI (by omega)]; exact hb
    · rw [y1_ne (by decide), y1_eq, ix_nI (by omega)]; exact hd
    · rw [y1_eq, ix_nI (by omega)]; exact he
theorem mid_b {a b : Int32} (h1 : -9999 ≤ a.toInt ∧ a.toInt ≤ 9999) (h2 : -9999 ≤ b.toInt ∧ b.toInt ≤ 9999) : -9999 ≤ (p_fi (a + b) (nI 2)).toInt ∧ (p_fi (a + b) (nI 2)).toInt ≤ 9999 := by
  have e2 : (nI 2).toInt = 2 := by decide
  have e : (a + b).toInt = a.toInt + b.toInt := i_add (by omega) (by omega)
  rw [fi_int (by rw [e2]; omega), e, e2]
  constructor <;> omega
theorem INV_rep {c : Nat → Nat} {S : Nat → Nat → Nat → Int32} (h : INV c S) {s x y z : Int32} : INV (s_rep c S s x y z).2.2.1 (s_rep c S s x y z).2.2.2 := by
  have h' := h
  obtain ⟨hc, -, b1, b2, b3, b5, -⟩ := h
  unfold s_rep
  cases wi s (nI 0) (nI (c 0) - nI 1) with
  | false => exact h'
  | true =>
    cases hp : plc x y && wi z (nI 1) (nI 99) with
    | false => exact h'
    | true =>
      cases p_see c S (ix s) x y with
      | false => exact h'
      | true =>
        simp only [cond_true]
        by_cases q : S 4 (fxn x) (fxn y) < z
        · rw [if_pos q]
          rw [Bool.and_eq_true] at hp
          obtain ⟨px, py⟩ := plc_iff.mp hp.1
          unfold s_rep2
          cases hf : ff (fun k => mrg (S 5 k) (nI (c 11)) s x y) (c 3) with
          | some k =>
            have hk := ff_lt' hf
            simp only
            refine INV_of h' hc (fun _ _ _ => rfl) (y1_ne (by decide)) (y1_ne (by decide)) (by rw [y1_ne (by decide)]; exact b1) (by rw [y1_ne (by decide)]; exact b2) (by rw [y1_ne (by decide)]; exact b3) (fun k' hk' => ?_)
            rw [y1_eq]
            by_cases e : k' = k
            · obtain ⟨i1, i2⟩ := b5 k hk
              obtain ⟨ix1, iy1⟩ := plc_iff.mp i1
              rw [e, y1_eq]
              unfold mrgd IP
              refine ⟨plc_iff.mpr ⟨?_, ?_⟩, ?_⟩
              · rw [up_ne (by decide), up_ne (by decide), up_ne (by decide), up_eq]; exact mid_b px ix1
              · rw [up_ne (by decide), up_ne (by decide), up_eq]; exact mid_b py iy1
              · rw [up_ne (by decide), up_ne (by decide), up_ne (by decide), up_ne (by decide)]; exact i2
            · rw [y1_ne e]; exact b5 k' hk'
          | none =>
            simp only
            by_cases q3 : c 3 = 10
            · rw [if_pos q3]; exact h'
            · rw [if_neg q3]
              simp only
              obtain ⟨c0, c1, c2, c3, c4, c5, c6, c7, c8, c9, c10, c11, c12, c13, c14⟩ := hc
              refine INV_of h' ⟨by rw [y1_ne (by decide)]; exact c0, by rw [y1_ne (by decide)]; exact c1, by rw [y1_ne (by decide)]; exact c2, by rw [y1_eq]; omega, by rw [y1_ne (by decide)]; exact c4, by rw [y1_ne (by decide)]; exact c5, by rw [y1_ne (by decide)]; exact c6, by rw [y1_ne (by decide)]; exact c7, by rw [y1_ne (by decide)]; exact c8, by rw [y1_ne (by decide)]; exact c9, by rw [y1_ne (by decide)]; exact c10, by rw [y1_ne (by decide)]; exact c11, by rw [y1_ne (by decide)]; exact c12, by rw [y1_ne (by decide)]; exact c13, by rw [y1_ne (by decide)]; exact c14⟩ (fun q _ _ => y1_ne (by omega)) (y1_ne (by decide)) (y1_ne (by decide)) (by rw [y1_ne (by decide), y1_ne (by decide)]; exact b1) (by rw [y1_ne (by decide), y1_ne (by decide)]; exact b2) (by rw [y1_ne (by decide), y1_ne (by decide)]; exact b3) (fun i hi => ?_)
              rw [y1_eq] at hi
              rw [y1_eq]
              by_cases e : i = c 3
              · rw [e, y1_eq]; exact ⟨hp.1, rfl⟩
              · rw [y1_ne e]; exact b5 i (by omega)
        · rw [if_neg q]; exact h'
