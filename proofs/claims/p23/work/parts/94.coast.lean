/-! ===== the law's coast: its rows of rows ===== -/
theorem C_88 {μ : mMu} {r : Nat → Nat → Option Nat} {a b n : Nat} (ha : mS μ a = (24, n)) (hn : n < 100) (haN : a < mN μ) (hb : (mS μ b).1 = 20) (hbN : b < mN μ) (hel : ∀ j, j < n → ∃ x, r a j = some x ∧ x < mN μ ∧ (mS μ x).1 = 20) : ∃ r', (∀ f l, CALL 88 [.ref a, .ref b] (st μ f l r) = some (.inl (some (.ref (mN μ))), st (nwm μ 24 (n + 1) (n + 1)) (u2r f (mN μ) (fun _ => nI 0)) (u2r l (mN μ) (fun _ => lN 0)) r')) ∧ (∀ x, x ≠ mN μ → r' x = r x) ∧ (∀ j, j < n → r' (mN μ) j = r a j) ∧ r' (mN μ) n = some b := by
  have hne : a ≠ mN μ := by omega
  have hbe : b ≠ mN μ := by omega
  have s1 : mS (nwm μ 24 (n + 1) (n + 1)) a = (24, n) := (nwm_S hne).trans ha
  have s1a : (mS (nwm μ 24 (n + 1) (n + 1)) a).1 = 24 := by rw [s1]
  have s1b : (mS (nwm μ 24 (n + 1) (n + 1)) a).2 = n := by rw [s1]
  have s2 : (mS (nwm μ 24 (n + 1) (n + 1)) b).1 = 20 := by rw [nwm_S hbe]; exact hb
  have s3a : (mS (nwm μ 24 (n + 1) (n + 1)) (mN μ)).1 = 24 := by rw [nwm_S1]
  have s3b : (mS (nwm μ 24 (n + 1) (n + 1)) (mN μ)).2 = n + 1 := by rw [nwm_S1]
  have a1 : (mS μ a).1 = 24 := by rw [ha]
  have a2 : (mS μ a).2 = n := by rw [ha]
  refine ⟨u2 (u2r r (mN μ) (fun j => if j < n then r a j else none)) (mN μ) n (some b), fun f l => ?_, fun x hx => ?_, fun j hj => ?_, ?_⟩
  · rw [B_88_0, aln_st (by omega) (by omega), Option.bind_some, a2]
    rw [show nI n + (1 : Int32) = nI (n + 1) from nI_add n 1, nwA_stm (by omega), Option.bind_some, st_N]
    refine loopP (fun i o => o = RUN 88 10 [some (.ref a), some (.ref b), some (.ref (mN μ)), some (.int (nI i))] [] (st (nwm μ 24 (n + 1) (n + 1)) (u2r f (mN μ) (fun _ => nI 0)) (u2r l (mN μ) (fun _ => lN 0)) (u2r r (mN μ) (fun j => if j < i then r a j else none)))) (fun o => o = some (.inl (some (.ref (mN μ))), st (nwm μ 24 (n + 1) (n + 1)) (u2r f (mN μ) (fun _ => nI 0)) (u2r l (mN μ) (fun _ => lN 0)) (u2 (u2r r (mN μ) (fun j => if j < n then r a j else none)) (mN μ) n (some b)))) n ?_ ?_ 0 _ (Nat.zero_le _) ?_
    · rintro o rfl
      rw [B_88_10]
      simp (disch := omega) only [st_I, st_L, st_R, st_S, st_N, st_C, st_Z, st_X, st_D, st_st, st_sI, st_sIr, st_sL, st_sR, gfI_st, gfL_st, gfR_st, gfN_st, pfI_st, pfL_st, pfR_st, pfZ_st0, pfZ_st1, ldI_st, ldL_st, stoI_st, stoL_st, aln_st, cpA_st, bq_st, bq_S, oI_s, oL_s, oD_s, oV_s, oR_s, oR_n, oI_e, oL_e, oD_e, Option.bind_some, fa_lit, fa_litL, nI_add, pk_mul, nI_m1, nI_lt', nI_le', nI_eq', lc_ge, lc_le, lc_gt, lc_lt, lc_eq, isZ_0, isZ_1, bI_0, bI_z, decide_eq_true_eq, Bool.not_eq_true', Bool.not_true, Bool.not_false, decide_eq_false_iff_not, if_true, if_false, ite_true, ite_false, eq_self, not_true, not_false_eq_true, C_80, C_81, C_82, C_84, C_85, C_86, C_94, C_95, C_96, C_97, yu_ne, yu_eq, up_eq, up_ne, yur_ne, yur_eq, yu_uu, y1_eq, y1_ne, y1_y1, Nat.mul_zero, Nat.zero_mul, Nat.add_zero, Nat.zero_add, Nat.mul_one, Nat.one_mul, Nat.reduceEqDiff, Nat.reduceLT, Nat.reduceLeDiff, Nat.reduceAdd, Nat.reduceMul, decide_true, decide_false, cond_true, cond_false, reduceCtorEq, Bool.false_eq_true, Bool.true_eq_false, Bool.true_and, Bool.and_true, Bool.false_and, Bool.and_false, s1b, Nat.le_refl, stoR_st2]
    · rintro i o hi rfl
      obtain ⟨x, x1, x2, x3⟩ := hel i hi
      have hxe : x ≠ mN μ := by omega
      have s4 : (mS (nwm μ 24 (n + 1) (n + 1)) x).1 = 20 := by rw [nwm_S hxe]; exact x3
      have hi' : ¬ n ≤ i := by omega
      right
      rw [B_88_10]
      simp (disch := omega) only [st_I, st_L, st_R, st_S, st_N, st_C, st_Z, st_X, st_D, st_st, st_sI, st_sIr, st_sL, st_sR, gfI_st, gfL_st, gfR_st, gfN_st, pfI_st, pfL_st, pfR_st, pfZ_st0, pfZ_st1, ldI_st, ldL_st, stoI_st, stoL_st, aln_st, cpA_st, bq_st, bq_S, oI_s, oL_s, oD_s, oV_s, oR_s, oR_n, oI_e, oL_e, oD_e, Option.bind_some, fa_lit, fa_litL, nI_add, pk_mul, nI_m1, nI_lt', nI_le', nI_eq', lc_ge, lc_le, lc_gt, lc_lt, lc_eq, isZ_0, isZ_1, bI_0, bI_z, decide_eq_true_eq, Bool.not_eq_true', Bool.not_true, Bool.not_false, decide_eq_false_iff_not, if_true, if_false, ite_true, ite_false, eq_self, not_true, not_false_eq_true, C_80, C_81, C_82, C_84, C_85, C_86, C_94, C_95, C_96, C_97, yu_ne, yu_eq, up_eq, up_ne, yur_ne, yur_eq, yu_uu, y1_eq, y1_ne, y1_y1, Nat.mul_zero, Nat.zero_mul, Nat.add_zero, Nat.zero_add, Nat.mul_one, Nat.one_mul, Nat.reduceEqDiff, Nat.reduceLT, Nat.reduceLeDiff, Nat.reduceAdd, Nat.reduceMul, decide_true, decide_false, cond_true, cond_false, reduceCtorEq, Bool.false_eq_true, Bool.true_eq_false, Bool.true_and, Bool.and_true, Bool.false_and, Bool.and_false, s1b, hi', ldR_st, hne, x1, stoR_st2]
      congr 2
      funext p q
      unfold u2 u2r
      by_cases hp : p = mN μ
      · rw [if_pos hp, if_pos hp, if_pos hp]
        by_cases hq : q = i
        · rw [if_pos hq]
          show some x = if q < i + 1 then r a q else none
          rw [if_pos (by omega), hq, x1]
        · rw [if_neg hq]
          show (if q < i then r a q else none) = if q < i + 1 then r a q else none
          by_cases h1 : q < i
          · rw [if_pos h1, if_pos (by omega)]
          · rw [if_neg h1, if_neg (by omega)]
      · rw [if_neg hp, if_neg hp, if_neg hp]
    · have e : (fun _ : Nat => (none : Option Nat)) = fun j => if j < 0 then r a j else none := by
        funext j
        rw [if_neg (Nat.not_lt_zero j)]
      rw [e]
      rfl
  · rw [yu_ne hx, yur_ne hx]
  · rw [yu_eq, up_ne (by omega), yur_eq, if_pos hj]
  · rw [yu_eq, up_eq]
/-- a field of Sim: a row of rows of ints -/
def RW (μ : mMu) (r : Nat → Nat → Option Nat) (j n : Nat) : Prop := ∃ a, r 137 j = some a ∧ (138 ≤ a ∧ a < mN μ ∧ mS μ a = (24, n)) ∧ ∀ i, i < n → ∃ x, r a i = some x ∧ 138 ≤ x ∧ x < mN μ ∧ (mS μ x).1 = 20
/-- the first area -/
def AR (μ : mMu) (f : Nat → Nat → Int32) (r : Nat → Nat → Option Nat) (n : Nat) (A : Nat → Int32) : Prop := 0 < n → ∃ a x, r 137 2 = some a ∧ 138 ≤ a ∧ a < mN μ ∧ r a 0 = some x ∧ 138 ≤ x ∧ x < mN μ ∧ mS μ x = (20, 4) ∧ ∀ k, k < 4 → f x k = A k
def HS (μ : mMu) (f : Nat → Nat → Int32) (r : Nat → Nat → Option Nat) (ns nl na : Nat) (A : Nat → Int32) : Prop := mS μ 137 = (9, 0) ∧ RW μ r 0 ns ∧ RW μ r 1 nl ∧ RW μ r 2 na ∧ AR μ f r na A
theorem RW_e {μ μ' : mMu} {r r' : Nat → Nat → Option Nat} {j n : Nat} (h : RW μ r j n) (hN : mN μ ≤ mN μ') (hS : ∀ a, 137 ≤ a → a < mN μ → mS μ' a = mS μ a) (hr : ∀ a, 138 ≤ a → a < mN μ → r' a = r a) (h1 : r' 137 j = r 137 j) : RW μ' r' j n := by
  obtain ⟨a, g1, ⟨g2, g3, g4⟩, g5⟩ := h
  refine ⟨a, by rw [h1]; exact g1, ⟨g2, by omega, by rw [hS a (by omega) g3]; exact g4⟩, fun i hi => ?_⟩
  obtain ⟨x, x1, x2, x3, x4⟩ := g5 i hi
  exact ⟨x, by rw [hr a g2 g3]; exact x1, x2, by omega, by rw [hS x (by omega) x3]; exact x4⟩
theorem AR_e {μ μ' : mMu} {f f' : Nat → Nat → Int32} {r r' : Nat → Nat → Option Nat} {n : Nat} {A : Nat → Int32} (h : AR μ f r n A) (hN : mN μ ≤ mN μ') (hS : ∀ a, 137 ≤ a → a < mN μ → mS μ' a = mS μ a) (hr : ∀ a, 138 ≤ a → a < mN μ → r' a = r a) (h1 : r' 137 2 = r 137 2) (hf : ∀ a, 138 ≤ a → a < mN μ → f' a = f a) : AR μ' f' r' n A := by
  intro hn
  obtain ⟨a, x, g1, g2, g3, g4, g5, g6, g7, g8⟩ := h hn
  exact ⟨a, x, by rw [h1]; exact g1, g2, by omega, by rw [hr a g2 g3]; exact g4, g5, by omega, by rw [hS x (by omega) g6]; exact g7, fun k hk => by rw [hf x g5 g6]; exact g8 k hk⟩
theorem HS_e {μ μ' : mMu} {f f' : Nat → Nat → Int32} {r r' : Nat → Nat → Option Nat} {ns nl na : Nat} {A : Nat → Int32} (h : HS μ f r ns nl na A) (h137 : 137 < mN μ) (hN : mN μ ≤ mN μ') (hS : ∀ a, 137 ≤ a → a < mN μ → mS μ' a = mS μ a) (hr : ∀ a, 137 ≤ a → a < mN μ → r' a = r a) (hf : ∀ a, 138 ≤ a → a < mN μ → f' a = f a) : HS μ' f' r' ns nl na A := by
  obtain ⟨g1, g2, g3, g4, g5⟩ := h
  have h1 := hr 137 (Nat.le_refl _) h137
  exact ⟨by rw [hS 137 (Nat.le_refl _) h137]; exact g1, RW_e g2 hN hS (fun a ha => hr a (by omega)) (by rw [h1]), RW_e g3 hN hS (fun a ha => hr a (by omega)) (by rw [h1]), RW_e g4 hN hS (fun a ha => hr a (by omega)) (by rw [h1]), AR_e g5 hN hS (fun a ha => hr a (by omega)) (by rw [h1]) hf⟩
/-- a row of ints is made, laid behind a row of rows, and the longer one put into its field -/
theorem RW_put {μ : mMu} {r r3 : Nat → Nat → Option Nat} {j n w : Nat} (h146 : 146 ≤ mN μ) (h : RW μ r j n) (e1 : r3 137 j = some (mN μ + 1)) (e2 : ∀ a, r 137 j = some a → ∀ i, i < n → r3 (mN μ + 1) i = r a i) (e3 : r3 (mN μ + 1) n = some (mN μ)) : RW (nwm (nwm μ 20 w w) 24 (n + 1) (n + 1)) r3 j (n + 1) := by
  obtain ⟨a, g1, ⟨g2, g3, g4⟩, g5⟩ := h
  have N2 : mN (nwm (nwm μ 20 w w) 24 (n + 1) (n + 1)) = mN μ + 2 := rfl
  have S1 : ∀ x, x < mN μ → mS (nwm (nwm μ 20 w w) 24 (n + 1) (n + 1)) x = mS μ x := fun x hx => (nwm_S (show x ≠ mN (nwm μ 20 w w) by rw [nwm_N]; omega)).trans (nwm_S (by omega))
  have S2 : mS (nwm (nwm μ 20 w w) 24 (n + 1) (n + 1)) (mN μ) = (20, w) := (nwm_S (show mN μ ≠ mN (nwm μ 20 w w) by rw [nwm_N]; omega)).trans nwm_S1
  have S3 : mS (nwm (nwm μ 20 w w) 24 (n + 1) (n + 1)) (mN μ + 1) = (24, n + 1) := nwm_S1 (μ := nwm μ 20 w w)
  refine ⟨mN μ + 1, e1, ⟨by omega, by omega, S3⟩, fun i hi => ?_⟩
  by_cases q : i = n
  · exact ⟨mN μ, by rw [q]; exact e3, by omega, by omega, by rw [S2]⟩
  · obtain ⟨x, x1, x2, x3, x4⟩ := g5 i (by omega)
    exact ⟨x, by rw [e2 a g1 i (by omega)]; exact x1, x2, by omega, by rw [S1 x x3]; exact x4⟩
theorem nw2_S {μ : mMu} {w n a : Nat} (h : a < mN μ) : mS (nwm (nwm μ 20 w w) 24 n n) a = mS μ a := (nwm_S (show a ≠ mN (nwm μ 20 w w) by rw [nwm_N]; omega)).trans (nwm_S (by omega))
/-- between the calls of the law -/
def LW (Cb Zb : Nat) (X : Nat × (Nat → Int32)) (μ : mMu) (f : Nat → Nat → Int32) (r : Nat → Nat → Option Nat) (σ : Nat → Nat) (c : Nat → Nat) (S : Nat → Nat → Nat → Int32) : Prop := (Sh μ ∧ Rf r ∧ 146 ≤ mN μ ∧ mX μ = X ∧ mC μ ≤ Cb ∧ mZ μ ≤ Zb) ∧ CAll f r 1 σ c S ∧ INV c S ∧ XI c S ∧ HS μ f r (c 0) (c 1) (c 2) (S 3 0)
theorem c900 {v : Int32} {n : Nat} (h0 : 0 < n) (h : n ≤ 1800) : (nI (bel v n) - nI 900).toInt = (bel v n : Int) - 900 ∧ -900 ≤ (nI (bel v n) - nI 900).toInt ∧ (nI (bel v n) - nI 900).toInt ≤ 899 := by
  have hb := bel_lt (v := v) h0
  have e : (nI (bel v n) - nI 900).toInt = (bel v n : Int) - 900 := pk_sub_toInt (by omega) (by omega)
  rw [e]
  omega
theorem st_step {Cb Zb : Nat} {X : Nat × (Nat → Int32)} {μ : mMu} {f : Nat → Nat → Int32} {l : Nat → Nat → Int64} {r : Nat → Nat → Option Nat} {σ : Nat → Nat} {c : Nat → Nat} {S : Nat → Nat → Nat → Int32} (h : LW Cb Zb X μ f r σ c S) (hX : X.1 ≤ 260) {n i : Nat} (hi : i < n) (hn : n ≤ 3) (h0 : c 0 = i) {o6 o7 o8 o9 o10 o11 : Option Value} : ∃ μ' f' l' r' c' S' o6' o7' o8', RUN 100 24 [some (.ref 0), some (.retAddr 0), some (.int (nI 900)), some (.ref 137), some (.int (nI n)), some (.int (nI i)), o6, o7, o8, o9, o10, o11] [] (st μ f l r) = RUN 100 24 [some (.ref 0), some (.retAddr 0), some (.int (nI 900)), some (.ref 137), some (.int (nI n)), some (.int (nI (i + 1))), o6', o7', o8', o9, o10, o11] [] (st μ' f' l' r') ∧ LW (Cb + 2) (Zb + 7) X μ' f' r' σ c' S' ∧ c' 0 = i + 1 ∧ ∀ q, q ≠ 0 → c' q = c q := by
  obtain ⟨⟨hs, hr, hN, hXe, hCb, hZb⟩, hC, hI, hXI, g1, g2, g3, g4, g5⟩ := h
  obtain ⟨sa, q1, ⟨q2, q3, q4⟩, q5⟩ := id g2
  have hc := hI.1
  have hX' : (mX μ).1 ≤ 260 := by rw [hXe]; exact hX
  have hi' : ¬ n ≤ i := by omega
  have hdv : nI 900 / nI 2 = nI 450 := by decide
  obtain ⟨b3, eb3⟩ : ∃ b, bel (cel (mX μ) (1 + i) >>> (nI 5 &&& nI 31)) 1800 = b := ⟨_, rfl⟩
  have x1 := c900 (v := cel (mX μ) (1 + i)) (n := 1800) (by omega) (by omega)
  have x2 := c900 (v := cel (mX μ) (1 + i) >>> (nI 9 &&& nI 31)) (n := 1800) (by omega) (by omega)
  have x3 := bel_lt (v := cel (mX μ) (1 + i) >>> (nI 5 &&& nI 31)) (n := 1800) (by omega)
  rw [eb3] at x3
  -- the row
  have m1a : (mS (nwm μ 20 3 3) (mN μ)).1 = 20 := by rw [nwm_S1]
  have m1b : (mS (nwm μ 20 3 3) (mN μ)).2 = 3 := by rw [nwm_S1]
  obtain ⟨r', e88, r1, r2, r3⟩ := C_88 (μ := nwm μ 20 3 3) (r := u2r r (mN μ) (fun _ => none)) (a := sa) (b := mN μ) (n := i) (by rw [nwm_S (by omega), q4, h0]) (by omega) (by rw [nwm_N]; omega) m1a (by rw [nwm_N]; omega) (fun j hj => by
    obtain ⟨x, y1, y2, y3, y4⟩ := q5 j (by omega)
    exact ⟨x, by rw [yur_ne (by omega)]; exact y1, by rw [nwm_N]; omega, by rw [nwm_S (by omega)]; exact y4⟩)
  rw [nwm_N] at r1 r2 r3
  simp only [nwm_N] at e88
  have ro : ∀ a, a < mN μ → r' a = r a := fun a ha => by rw [r1 a (by omega), yur_ne (by omega)]
  have hs2 : Sh (nwm (nwm μ 20 3 3) 24 (i + 1) (i + 1)) := nwm_Sh (by rw [nwm_N]; omega) (nwm_Sh (by omega) hs)
  have h2o : (mS (nwm (nwm μ 20 3 3) 24 (i + 1) (i + 1)) 0).1 = 8 := by rw [hs2 0 (by decide)]; rfl
  have h2H : (mS (nwm (nwm μ 20 3 3) 24 (i + 1) (i + 1)) 137).1 = 9 := by rw [nw2_S (by omega), g1]
  have h1H : (mS (nwm μ 20 3 3) 137).1 = 9 := by rw [nwm_S (by omega), g1]
  have h0H : (mS μ 137).1 = 9 := by rw [g1]
  obtain ⟨x, ex⟩ : ∃ x, nI (bel (cel (mX μ) (1 + i)) 1800) - nI 900 = x := ⟨_, rfl⟩
  obtain ⟨y, ey⟩ : ∃ y, nI (bel (cel (mX μ) (1 + i) >>> (nI 9 &&& nI 31)) 1800) - nI 900 = y := ⟨_, rfl⟩
  rw [ex] at x1
  rw [ey] at x2
  have hpl : plc x y = true := plc_iff.mpr ⟨⟨by omega, by omega⟩, by omega, by omega⟩
  have hwz : wi (nI (450 + b3)) (nI 1) (nI 20000) = true := by
    rw [wi_iff, nI_toInt (n := 450 + b3) (by omega), nI_toInt (n := 1) (by decide), nI_toInt (n := 20000) (by decide)]
    omega
  have hsp : s_addSt c S x y (nI (450 + b3)) = (nI i, nI 0, u1 c 0 (i + 1), u1 S 1 (u1 (S 1) i (rc3 x y (nI (450 + b3))))) := by
    unfold s_addSt
    rw [hpl, hwz, Bool.and_true, cond_true, if_neg (by omega), h0]
  -- the class
  have hr3 : Rf (u2 r' 137 0 (some (mN μ + 1))) := fun a j v hv => by
    have ha : a < 137 := RT_lt hv
    rw [yu_ne (by omega), ro a (by omega)]
    exact hr a j v hv
  have hC3 : CAll (u2r (u2 (u2 (u2 (u2r f (mN μ) (fun _ => nI 0)) (mN μ) 0 x) (mN μ) 1 y) (mN μ) 2 (nI (450 + b3))) (mN μ + 1) (fun _ => nI 0)) (u2 r' 137 0 (some (mN μ + 1))) 1 σ c S := CAll_k hC hc (fun a h1 h2 => by rw [yur_ne (by omega), yu_ne (by omega), yu_ne (by omega), yu_ne (by omega), yur_ne (by omega)]) (by rw [yu_ne (by omega), ro 36 (by omega)])
  have c66 := C_66 hs2 hr3 (l := u2r (u2r l (mN μ) (fun _ => lN 0)) (mN μ + 1) (fun _ => lN 0)) hC3 hc (x := x) (y := y) (z := nI (450 + b3))
  have hIa := INV_addSt hI (x := x) (y := y) (z := nI (450 + b3))
  rw [hsp] at c66 hIa
  simp only at c66 hIa
  rcases c66 with ⟨-, f', e66, hC', hf'⟩ | ⟨q, -⟩ | ⟨q, -⟩
  · simp only at e66
    refine ⟨nwm (nwm μ 20 3 3) 24 (i + 1) (i + 1), f', u2r (u2r l (mN μ) (fun _ => lN 0)) (mN μ + 1) (fun _ => lN 0), u2 r' 137 0 (some (mN μ + 1)), u1 c 0 (i + 1), u1 S 1 (u1 (S 1) i (rc3 x y (nI (450 + b3)))), some (.int x), some (.int y), some (.int (nI (450 + b3))), ?_, ⟨⟨hs2, hr3, ?_, hXe, ?_, ?_⟩, hC', hIa, ?_, ?_, ?_, ?_, ?_, ?_⟩, y1_eq, fun q hq => y1_ne hq⟩
    · rw [B_100_24]
      simp (disch := omega) only [st_I, st_L, st_R, st_S, st_N, st_C, st_Z, st_X, st_D, st_st, st_sI, st_sIr, st_sL, st_sR, gfI_st, gfL_st, gfR_st, gfN_st, pfI_st, pfL_st, pfR_st, pfZ_st0, pfZ_st1, ldI_st, ldL_st, stoI_st, stoL_st, aln_st, cpA_st, bq_st, bq_S, oI_s, oL_s, oD_s, oV_s, oR_s, oR_n, oI_e, oL_e, oD_e, Option.bind_some, fa_lit, fa_litL, nI_add, pk_mul, nI_m1, nI_lt', nI_le', nI_eq', lc_ge, lc_le, lc_gt, lc_lt, lc_eq, isZ_0, isZ_1, bI_0, bI_z, decide_eq_true_eq, Bool.not_eq_true', Bool.not_true, Bool.not_false, decide_eq_false_iff_not, if_true, if_false, ite_true, ite_false, eq_self, not_true, not_false_eq_true, C_80, C_81, C_82, C_84, C_85, C_86, C_94, C_95, C_96, C_97, yu_ne, yu_eq, up_eq, up_ne, yur_ne, yur_eq, yu_uu, y1_eq, y1_ne, y1_y1, Nat.mul_zero, Nat.zero_mul, Nat.add_zero, Nat.zero_add, Nat.mul_one, Nat.one_mul, Nat.reduceEqDiff, Nat.reduceLT, Nat.reduceLeDiff, Nat.reduceAdd, Nat.reduceMul, decide_true, decide_false, cond_true, cond_false, reduceCtorEq, Bool.false_eq_true, Bool.true_eq_false, Bool.true_and, Bool.and_true, Bool.false_and, Bool.and_false, hi', C_99, C_98, hdv, q1, nwA_stm, e88, ex, ey, eb3, e66, nwm_N]
    · rw [nwm_N, nwm_N]; omega
    · rw [nwm_C, nwm_C]; omega
    · rw [nwm_Z, nwm_Z]; omega
    · exact XI_of hXI (fun q h1 h2 => y1_ne (by omega)) (y1_ne (by decide)) (y1_ne (by decide))
    · rw [nw2_S (by omega)]; exact g1
    · rw [y1_eq]
      rw [h0] at g2
      refine RW_put hN g2 (by rw [yu_eq, up_eq]) (fun a ha j hj => ?_) ?_
      · rw [q1] at ha
        cases ha
        rw [yu_ne (by omega), r2 j hj, yur_ne (by omega)]
      · rw [yu_ne (by omega)]; exact r3
    · rw [y1_ne (by decide)]
      exact RW_e g3 (by rw [nwm_N, nwm_N]; omega) (fun a h1 h2 => nw2_S h2) (fun a h1 h2 => by rw [yu_ne (by omega), ro a h2]) (by rw [yu_eq, up_ne (by decide), ro 137 (by omega)])
    · rw [y1_ne (by decide)]
      exact RW_e g4 (by rw [nwm_N, nwm_N]; omega) (fun a h1 h2 => nw2_S h2) (fun a h1 h2 => by rw [yu_ne (by omega), ro a h2]) (by rw [yu_eq, up_ne (by decide), ro 137 (by omega)])
    · rw [y1_ne (by decide), y1_ne (by decide)]
      refine AR_e g5 (by rw [nwm_N, nwm_N]; omega) (fun a h1 h2 => nw2_S h2) (fun a h1 h2 => by rw [yu_ne (by omega), ro a h2]) (by rw [yu_eq, up_ne (by decide), ro 137 (by omega)]) (fun a h1 h2 => ?_)
      rw [hf' a (Or.inr (by omega)), yur_ne (by omega), yu_ne (by omega), yu_ne (by omega), yu_ne (by omega), yur_ne (by omega)]
  · exact absurd (show nI 0 = nI 1 from q) (by decide)
  · exact absurd (show nI 0 = nI 2 from q) (by decide)
theorem pl_step {Cb Zb : Nat} {X : Nat × (Nat → Int32)} {μ : mMu} {f : Nat → Nat → Int32} {l : Nat → Nat → Int64} {r : Nat → Nat → Option Nat} {σ : Nat → Nat} {c : Nat → Nat} {S : Nat → Nat → Nat → Int32} (h : LW Cb Zb X μ f r σ c S) (hX : X.1 ≤ 260) {m k : Nat} (hm : m ≤ 2) (hk : k < m) (h0 : c 1 = k) {o4 o7 o8 o9 o10 o11 : Option Value} : ∃ μ' f' l' r' c' S' o7' o8' o9' o10' o11', RUN 100 160 [some (.ref 0), some (.retAddr 0), some (.int (nI 900)), some (.ref 137), o4, some (.int (nI m)), some (.int (nI k)), o7, o8, o9, o10, o11] [] (st μ f l r) = RUN 100 160 [some (.ref 0), some (.retAddr 0), some (.int (nI 900)), some (.ref 137), o4, some (.int (nI m)), some (.int (nI (k + 1))), o7', o8', o9', o10', o11'] [] (st μ' f' l' r') ∧ LW (Cb + 2) (Zb + 7) X μ' f' r' σ c' S' ∧ c' 1 = k + 1 ∧ ∀ q, q ≠ 1 → c' q = c q := by
  obtain ⟨⟨hs, hr, hN, hXe, hCb, hZb⟩, hC, hI, hXI, g1, g2, g3, g4, g5⟩ := h
  obtain ⟨sa, q1, ⟨q2, q3, q4⟩, q5⟩ := id g3
  have hc := hI.1
  have hX' : (mX μ).1 ≤ 260 := by rw [hXe]; exact hX
  have hk' : ¬ m + 2 ≤ k := by omega
  have hkm : k < m := by omega
  have hdv : nI 900 / nI 2 = nI 450 := by decide
  obtain ⟨b3, eb3⟩ : ∃ b, bel (cel (mX μ) (4 + k) >>> (nI 4 &&& nI 31)) 450 = b := ⟨_, rfl⟩
  obtain ⟨b4, eb4⟩ : ∃ b, bel (cel (mX μ) (4 + k) >>> (nI 12 &&& nI 31)) 450 = b := ⟨_, rfl⟩
  have x1 := c900 (v := cel (mX μ) (4 + k)) (n := 1800) (by omega) (by omega)
  have x2 := c900 (v := cel (mX μ) (4 + k) >>> (nI 8 &&& nI 31)) (n := 1800) (by omega) (by omega)
  have x3 := bel_lt (v := cel (mX μ) (4 + k) >>> (nI 4 &&& nI 31)) (n := 450) (by omega)
  have x4 := bel_lt (v := cel (mX μ) (4 + k) >>> (nI 12 &&& nI 31)) (n := 450) (by omega)
  rw [eb3] at x3
  rw [eb4] at x4
  obtain ⟨x, ex⟩ : ∃ x, nI (bel (cel (mX μ) (4 + k)) 1800) - nI 900 = x := ⟨_, rfl⟩
  obtain ⟨y, ey⟩ : ∃ y, nI (bel (cel (mX μ) (4 + k) >>> (nI 8 &&& nI 31)) 1800) - nI 900 = y := ⟨_, rfl⟩
  rw [ex] at x1
  rw [ey] at x2
  have t1 : (nI 1).toInt = 1 := by decide
  have t3 : (nI b3).toInt = (b3 : Int) := nI_toInt (by omega)
  have t4 : (nI b4).toInt = (b4 : Int) := nI_toInt (by omega)
  have u1' : (x + nI 1).toInt = x.toInt + 1 := by rw [i_add (by rw [t1]; omega) (by rw [t1]; omega), t1]
  have v1' : (y + nI 1).toInt = y.toInt + 1 := by rw [i_add (by rw [t1]; omega) (by rw [t1]; omega), t1]
  obtain ⟨u, eu⟩ : ∃ u, x + nI 1 + nI b3 = u := ⟨_, rfl⟩
  obtain ⟨v, ev⟩ : ∃ v, y + nI 1 + nI b4 = v := ⟨_, rfl⟩
  have u2' : u.toInt = x.toInt + 1 + b3 := by rw [← eu, i_add (by rw [u1', t3]; omega) (by rw [u1', t3]; omega), u1', t3]
  have v2' : v.toInt = y.toInt + 1 + b4 := by rw [← ev, i_add (by rw [v1', t4]; omega) (by rw [v1', t4]; omega), v1', t4]
  -- the row
  have m1a : (mS (nwm μ 20 4 4) (mN μ)).1 = 20 := by rw [nwm_S1]
  have m1b : (mS (nwm μ 20 4 4) (mN μ)).2 = 4 := by rw [nwm_S1]
  obtain ⟨r', e88, r1, r2, r3⟩ := C_88 (μ := nwm μ 20 4 4) (r := u2r r (mN μ) (fun _ => none)) (a := sa) (b := mN μ) (n := k) (by rw [nwm_S (by omega), q4, h0]) (by omega) (by rw [nwm_N]; omega) m1a (by rw [nwm_N]; omega) (fun j hj => by
    obtain ⟨x, y1, y2, y3, y4⟩ := q5 j (by omega)
    exact ⟨x, by rw [yur_ne (by omega)]; exact y1, by rw [nwm_N]; omega, by rw [nwm_S (by omega)]; exact y4⟩)
  rw [nwm_N] at r1 r2 r3
  simp only [nwm_N] at e88
  have ro : ∀ a, a < mN μ → r' a = r a := fun a ha => by rw [r1 a (by omega), yur_ne (by omega)]
  have hs2 : Sh (nwm (nwm μ 20 4 4) 24 (k + 1) (k + 1)) := nwm_Sh (by rw [nwm_N]; omega) (nwm_Sh (by omega) hs)
  have h2o : (mS (nwm (nwm μ 20 4 4) 24 (k + 1) (k + 1)) 0).1 = 8 := by rw [hs2 0 (by decide)]; rfl
  have h2H : (mS (nwm (nwm μ 20 4 4) 24 (k + 1) (k + 1)) 137).1 = 9 := by rw [nw2_S (by omega), g1]
  have h1H : (mS (nwm μ 20 4 4) 137).1 = 9 := by rw [nwm_S (by omega), g1]
  have h0H : (mS μ 137).1 = 9 := by rw [g1]
  have hpl : plc x y = true := plc_iff.mpr ⟨⟨by omega, by omega⟩, by omega, by omega⟩
  have hpu : plc u v = true := plc_iff.mpr ⟨⟨by omega, by omega⟩, by omega, by omega⟩
  have hux : ¬ u ≤ x := by rw [fa_le]; omega
  have hyv : y < v := by rw [fa_lt]; omega
  have hsp : s_addPl c S (nI 0) x y u v = (nI k, nI 0, u1 c 1 (k + 1), u1 S 2 (u1 (S 2) k (rc4 x y u v))) := by
    unfold s_addPl
    rw [hpl, hpu, decide_eq_false hux, decide_eq_true hyv]
    show (if nI 0 = nI 0 then (if c 1 = 10 then (nI 0, nI 2, c, S) else (nI (c 1), nI 0, u1 c 1 (c 1 + 1), u1 S 2 (u1 (S 2) (c 1) (rc4 x y u v)))) else (if c 2 = 6 then (nI 0, nI 2, c, S) else (nI (c 2), nI 0, u1 c 2 (c 2 + 1), u1 S 3 (u1 (S 3) (c 2) (rc4 x y u v))))) = _
    rw [if_pos rfl, if_neg (by omega), h0]
  -- the class
  have hr3 : Rf (u2 r' 137 1 (some (mN μ + 1))) := fun a j v hv => by
    have ha : a < 137 := RT_lt hv
    rw [yu_ne (by omega), ro a (by omega)]
    exact hr a j v hv
  have hC3 : CAll (u2r (u2 (u2 (u2 (u2 (u2r f (mN μ) (fun _ => nI 0)) (mN μ) 0 x) (mN μ) 1 y) (mN μ) 2 u) (mN μ) 3 v) (mN μ + 1) (fun _ => nI 0)) (u2 r' 137 1 (some (mN μ + 1))) 1 σ c S := CAll_k hC hc (fun a h1 h2 => by rw [yur_ne (by omega), yu_ne (by omega), yu_ne (by omega), yu_ne (by omega), yu_ne (by omega), yur_ne (by omega)]) (by rw [yu_ne (by omega), ro 36 (by omega)])
  have c67 := C_67 hs2 hr3 (l := u2r (u2r l (mN μ) (fun _ => lN 0)) (mN μ + 1) (fun _ => lN 0)) hC3 hc (w := nI 0) (x := x) (y := y) (u := u) (v := v)
  have hIa := INV_addPl hI (w := nI 0) (x := x) (y := y) (u := u) (v := v)
  rw [hsp] at c67 hIa
  simp only at c67 hIa
  rcases c67 with ⟨-, f', e67, hC', hf'⟩ | ⟨q, -⟩ | ⟨q, -⟩
  · simp only at e67
    refine ⟨nwm (nwm μ 20 4 4) 24 (k + 1) (k + 1), f', u2r (u2r l (mN μ) (fun _ => lN 0)) (mN μ + 1) (fun _ => lN 0), u2 r' 137 1 (some (mN μ + 1)), u1 c 1 (k + 1), u1 S 2 (u1 (S 2) (k) (rc4 x y u v)), some (.int x), some (.int y), some (.int u), some (.int v), some (.int (nI 0)), ?_, ⟨⟨hs2, hr3, ?_, hXe, ?_, ?_⟩, hC', hIa, ?_, ?_, ?_, ?_, ?_, ?_⟩, y1_eq, fun q hq => y1_ne hq⟩
    · rw [B_100_160]
      simp (disch := omega) only [st_I, st_L, st_R, st_S, st_N, st_C, st_Z, st_X, st_D, st_st, st_sI, st_sIr, st_sL, st_sR, gfI_st, gfL_st, gfR_st, gfN_st, pfI_st, pfL_st, pfR_st, pfZ_st0, pfZ_st1, ldI_st, ldL_st, stoI_st, stoL_st, aln_st, cpA_st, bq_st, bq_S, oI_s, oL_s, oD_s, oV_s, oR_s, oR_n, oI_e, oL_e, oD_e, Option.bind_some, fa_lit, fa_litL, nI_add, pk_mul, nI_m1, nI_lt', nI_le', nI_eq', lc_ge, lc_le, lc_gt, lc_lt, lc_eq, isZ_0, isZ_1, bI_0, bI_z, decide_eq_true_eq, Bool.not_eq_true', Bool.not_true, Bool.not_false, decide_eq_false_iff_not, if_true, if_false, ite_true, ite_false, eq_self, not_true, not_false_eq_true, C_80, C_81, C_82, C_84, C_85, C_86, C_94, C_95, C_96, C_97, yu_ne, yu_eq, up_eq, up_ne, yur_ne, yur_eq, yu_uu, y1_eq, y1_ne, y1_y1, Nat.mul_zero, Nat.zero_mul, Nat.add_zero, Nat.zero_add, Nat.mul_one, Nat.one_mul, Nat.reduceEqDiff, Nat.reduceLT, Nat.reduceLeDiff, Nat.reduceAdd, Nat.reduceMul, decide_true, decide_false, cond_true, cond_false, reduceCtorEq, Bool.false_eq_true, Bool.true_eq_false, Bool.true_and, Bool.and_true, Bool.false_and, Bool.and_false, hk', hkm, C_99, C_98, hdv, ex, ey, eb3, eb4, eu, ev]
      rw [B_100_267]
      simp (disch := omega) only [st_I, st_L, st_R, st_S, st_N, st_C, st_Z, st_X, st_D, st_st, st_sI, st_sIr, st_sL, st_sR, gfI_st, gfL_st, gfR_st, gfN_st, pfI_st, pfL_st, pfR_st, pfZ_st0, pfZ_st1, ldI_st, ldL_st, stoI_st, stoL_st, aln_st, cpA_st, bq_st, bq_S, oI_s, oL_s, oD_s, oV_s, oR_s, oR_n, oI_e, oL_e, oD_e, Option.bind_some, fa_lit, fa_litL, nI_add, pk_mul, nI_m1, nI_lt', nI_le', nI_eq', lc_ge, lc_le, lc_gt, lc_lt, lc_eq, isZ_0, isZ_1, bI_0, bI_z, decide_eq_true_eq, Bool.not_eq_true', Bool.not_true, Bool.not_false, decide_eq_false_iff_not, if_true, if_false, ite_true, ite_false, eq_self, not_true, not_false_eq_true, C_80, C_81, C_82, C_84, C_85, C_86, C_94, C_95, C_96, C_97, yu_ne, yu_eq, up_eq, up_ne, yur_ne, yur_eq, yu_uu, y1_eq, y1_ne, y1_y1, Nat.mul_zero, Nat.zero_mul, Nat.add_zero, Nat.zero_add, Nat.mul_one, Nat.one_mul, Nat.reduceEqDiff, Nat.reduceLT, Nat.reduceLeDiff, Nat.reduceAdd, Nat.reduceMul, decide_true, decide_false, cond_true, cond_false, reduceCtorEq, Bool.false_eq_true, Bool.true_eq_false, Bool.true_and, Bool.and_true, Bool.false_and, Bool.and_false, q1, nwA_stm, e88, nwm_N]
      rw [B_100_345]
      simp (disch := omega) only [st_I, st_L, st_R, st_S, st_N, st_C, st_Z, st_X, st_D, st_st, st_sI, st_sIr, st_sL, st_sR, gfI_st, gfL_st, gfR_st, gfN_st, pfI_st, pfL_st, pfR_st, pfZ_st0, pfZ_st1, ldI_st, ldL_st, stoI_st, stoL_st, aln_st, cpA_st, bq_st, bq_S, oI_s, oL_s, oD_s, oV_s, oR_s, oR_n, oI_e, oL_e, oD_e, Option.bind_some, fa_lit, fa_litL, nI_add, pk_mul, nI_m1, nI_lt', nI_le', nI_eq', lc_ge, lc_le, lc_gt, lc_lt, lc_eq, isZ_0, isZ_1, bI_0, bI_z, decide_eq_true_eq, Bool.not_eq_true', Bool.not_true, Bool.not_false, decide_eq_false_iff_not, if_true, if_false, ite_true, ite_false, eq_self, not_true, not_false_eq_true, C_80, C_81, C_82, C_84, C_85, C_86, C_94, C_95, C_96, C_97, yu_ne, yu_eq, up_eq, up_ne, yur_ne, yur_eq, yu_uu, y1_eq, y1_ne, y1_y1, Nat.mul_zero, Nat.zero_mul, Nat.add_zero, Nat.zero_add, Nat.mul_one, Nat.one_mul, Nat.reduceEqDiff, Nat.reduceLT, Nat.reduceLeDiff, Nat.reduceAdd, Nat.reduceMul, decide_true, decide_false, cond_true, cond_false, reduceCtorEq, Bool.false_eq_true, Bool.true_eq_false, Bool.true_and, Bool.and_true, Bool.false_and, Bool.and_false, e67]
      rw [B_100_374]
      simp (disch := omega) only [st_I, st_L, st_R, st_S, st_N, st_C, st_Z, st_X, st_D, st_st, st_sI, st_sIr, st_sL, st_sR, gfI_st, gfL_st, gfR_st, gfN_st, pfI_st, pfL_st, pfR_st, pfZ_st0, pfZ_st1, ldI_st, ldL_st, stoI_st, stoL_st, aln_st, cpA_st, bq_st, bq_S, oI_s, oL_s, oD_s, oV_s, oR_s, oR_n, oI_e, oL_e, oD_e, Option.bind_some, fa_lit, fa_litL, nI_add, pk_mul, nI_m1, nI_lt', nI_le', nI_eq', lc_ge, lc_le, lc_gt, lc_lt, lc_eq, isZ_0, isZ_1, bI_0, bI_z, decide_eq_true_eq, Bool.not_eq_true', Bool.not_true, Bool.not_false, decide_eq_false_iff_not, if_true, if_false, ite_true, ite_false, eq_self, not_true, not_false_eq_true, C_80, C_81, C_82, C_84, C_85, C_86, C_94, C_95, C_96, C_97, yu_ne, yu_eq, up_eq, up_ne, yur_ne, yur_eq, yu_uu, y1_eq, y1_ne, y1_y1, Nat.mul_zero, Nat.zero_mul, Nat.add_zero, Nat.zero_add, Nat.mul_one, Nat.one_mul, Nat.reduceEqDiff, Nat.reduceLT, Nat.reduceLeDiff, Nat.reduceAdd, Nat.reduceMul, decide_true, decide_false, cond_true, cond_false, reduceCtorEq, Bool.false_eq_true, Bool.true_eq_false, Bool.true_and, Bool.and_true, Bool.false_and, Bool.and_false]
    · rw [nwm_N, nwm_N]; omega
    · rw [nwm_C, nwm_C]; omega
    · rw [nwm_Z, nwm_Z]; omega
    · exact XI_of hXI (fun q h1 h2 => y1_ne (by omega)) (y1_ne (by decide)) (y1_ne (by decide))
    · rw [nw2_S (by omega)]; exact g1
    · rw [y1_ne (by decide)]
      exact RW_e g2 (by rw [nwm_N, nwm_N]; omega) (fun a h1 h2 => nw2_S h2) (fun a h1 h2 => by rw [yu_ne (by omega), ro a h2]) (by rw [yu_eq, up_ne (by decide), ro 137 (by omega)])
    · rw [y1_eq]
      rw [h0] at g3
      refine RW_put hN g3 (by rw [yu_eq, up_eq]) (fun a ha j hj => ?_) ?_
      · rw [q1] at ha
        cases ha
        rw [yu_ne (by omega), r2 j hj, yur_ne (by omega)]
      · rw [yu_ne (by omega)]; exact r3
    · rw [y1_ne (by decide)]
      exact RW_e g4 (by rw [nwm_N, nwm_N]; omega) (fun a h1 h2 => nw2_S h2) (fun a h1 h2 => by rw [yu_ne (by omega), ro a h2]) (by rw [yu_eq, up_ne (by decide), ro 137 (by omega)])
    · rw [y1_ne (by decide), y1_ne (by decide)]
      refine AR_e g5 (by rw [nwm_N, nwm_N]; omega) (fun a h1 h2 => nw2_S h2) (fun a h1 h2 => by rw [yu_ne (by omega), ro a h2]) (by rw [yu_eq, up_ne (by decide), ro 137 (by omega)]) (fun a h1 h2 => ?_)
      rw [hf' a (Or.inr (by omega)), yur_ne (by omega), yu_ne (by omega), yu_ne (by omega), yu_ne (by omega), yu_ne (by omega), yur_ne (by omega)]
  · exact absurd (show nI 0 = nI 1 from q) (by decide)
  · exact absurd (show nI 0 = nI 2 from q) (by decide)
theorem ar_step {Cb Zb : Nat} {X : Nat × (Nat → Int32)} {μ : mMu} {f : Nat → Nat → Int32} {l : Nat → Nat → Int64} {r : Nat → Nat → Option Nat} {σ : Nat → Nat} {c : Nat → Nat} {S : Nat → Nat → Nat → Int32} (h : LW Cb Zb X μ f r σ c S) (hX : X.1 ≤ 260) {m k : Nat} (hm : m ≤ 2) (hk : m ≤ k) (hk2 : k < m + 2) (h0 : c 2 = k - m) {o4 o7 o8 o9 o10 o11 : Option Value} : ∃ μ' f' l' r' c' S' o7' o8' o9' o10' o11', RUN 100 160 [some (.ref 0), some (.retAddr 0), some (.int (nI 900)), some (.ref 137), o4, some (.int (nI m)), some (.int (nI k)), o7, o8, o9, o10, o11] [] (st μ f l r) = RUN 100 160 [some (.ref 0), some (.retAddr 0), some (.int (nI 900)), some (.ref 137), o4, some (.int (nI m)), some (.int (nI (k + 1))), o7', o8', o9', o10', o11'] [] (st μ' f' l' r') ∧ LW (Cb + 2) (Zb + 7) X μ' f' r' σ c' S' ∧ c' 2 = k - m + 1 ∧ ∀ q, q ≠ 2 → c' q = c q := by
  obtain ⟨⟨hs, hr, hN, hXe, hCb, hZb⟩, hC, hI, hXI, g1, g2, g3, g4, g5⟩ := h
  obtain ⟨sa, q1, ⟨q2, q3, q4⟩, q5⟩ := id g4
  have hc := hI.1
  have hX' : (mX μ).1 ≤ 260 := by rw [hXe]; exact hX
  have hk' : ¬ m + 2 ≤ k := by omega
  have hkm : ¬ k < m := by omega
  have hsb : nI k - nI m = nI (k - m) := pk_sub hk
  have hdv : nI 900 / nI 2 = nI 450 := by decide
  obtain ⟨b3, eb3⟩ : ∃ b, bel (cel (mX μ) (4 + k) >>> (nI 4 &&& nI 31)) 450 = b := ⟨_, rfl⟩
  obtain ⟨b4, eb4⟩ : ∃ b, bel (cel (mX μ) (4 + k) >>> (nI 12 &&& nI 31)) 450 = b := ⟨_, rfl⟩
  have x1 := c900 (v := cel (mX μ) (4 + k)) (n := 1800) (by omega) (by omega)
  have x2 := c900 (v := cel (mX μ) (4 + k) >>> (nI 8 &&& nI 31)) (n := 1800) (by omega) (by omega)
  have x3 := bel_lt (v := cel (mX μ) (4 + k) >>> (nI 4 &&& nI 31)) (n := 450) (by omega)
  have x4 := bel_lt (v := cel (mX μ) (4 + k) >>> (nI 12 &&& nI 31)) (n := 450) (by omega)
  rw [eb3] at x3
  rw [eb4] at x4
  obtain ⟨x, ex⟩ : ∃ x, nI (bel (cel (mX μ) (4 + k)) 1800) - nI 900 = x := ⟨_, rfl⟩
  obtain ⟨y, ey⟩ : ∃ y, nI (bel (cel (mX μ) (4 + k) >>> (nI 8 &&& nI 31)) 1800) - nI 900 = y := ⟨_, rfl⟩
  rw [ex] at x1
  rw [ey] at x2
  have t1 : (nI 1).toInt = 1 := by decide
  have t3 : (nI b3).toInt = (b3 : Int) := nI_toInt (by omega)
  have t4 : (nI b4).toInt = (b4 : Int) := nI_toInt (by omega)
  have u1' : (x + nI 1).toInt = x.toInt + 1 := by rw [i_add (by rw [t1]; omega) (by rw [t1]; omega), t1]
  have v1' : (y + nI 1).toInt = y.toInt + 1 := by rw [i_add (by rw [t1]; omega) (by rw [t1]; omega), t1]
  obtain ⟨u, eu⟩ : ∃ u, x + nI 1 + nI b3 = u := ⟨_, rfl⟩
  obtain ⟨v, ev⟩ : ∃ v, y + nI 1 + nI b4 = v := ⟨_, rfl⟩
  have u2' : u.toInt = x.toInt + 1 + b3 := by rw [← eu, i_add (by rw [u1', t3]; omega) (by rw [u1', t3]; omega), u1', t3]
  have v2' : v.toInt = y.toInt + 1 + b4 := by rw [← ev, i_add (by rw [v1', t4]; omega) (by rw [v1', t4]; omega), v1', t4]
  -- the row
  have m1a : (mS (nwm μ 20 4 4) (mN μ)).1 = 20 := by rw [nwm_S1]
  have m1b : (mS (nwm μ 20 4 4) (mN μ)).2 = 4 := by rw [nwm_S1]
  obtain ⟨r', e88, r1, r2, r3⟩ := C_88 (μ := nwm μ 20 4 4) (r := u2r r (mN μ) (fun _ => none)) (a := sa) (b := mN μ) (n := k - m) (by rw [nwm_S (by omega), q4, h0]) (by omega) (by rw [nwm_N]; omega) m1a (by rw [nwm_N]; omega) (fun j hj => by
    obtain ⟨x, y1, y2, y3, y4⟩ := q5 j (by omega)
    exact ⟨x, by rw [yur_ne (by omega)]; exact y1, by rw [nwm_N]; omega, by rw [nwm_S (by omega)]; exact y4⟩)
  rw [nwm_N] at r1 r2 r3
  simp only [nwm_N] at e88
  have ro : ∀ a, a < mN μ → r' a = r a := fun a ha => by rw [r1 a (by omega), yur_ne (by omega)]
  have hs2 : Sh (nwm (nwm μ 20 4 4) 24 (k - m + 1) (k - m + 1)) := nwm_Sh (by rw [nwm_N]; omega) (nwm_Sh (by omega) hs)
  have h2o : (mS (nwm (nwm μ 20 4 4) 24 (k - m + 1) (k - m + 1)) 0).1 = 8 := by rw [hs2 0 (by decide)]; rfl
  have h2H : (mS (nwm (nwm μ 20 4 4) 24 (k - m + 1) (k - m + 1)) 137).1 = 9 := by rw [nw2_S (by omega), g1]
  have h1H : (mS (nwm μ 20 4 4) 137).1 = 9 := by rw [nwm_S (by omega), g1]
  have h0H : (mS μ 137).1 = 9 := by rw [g1]
  have hpl : plc x y = true := plc_iff.mpr ⟨⟨by omega, by omega⟩, by omega, by omega⟩
  have hpu : plc u v = true := plc_iff.mpr ⟨⟨by omega, by omega⟩, by omega, by omega⟩
  have hux : ¬ u ≤ x := by rw [fa_le]; omega
  have hyv : y < v := by rw [fa_lt]; omega
  have hsp : s_addPl c S (nI 1) x y u v = (nI (k - m), nI 0, u1 c 2 (k - m + 1), u1 S 3 (u1 (S 3) (k - m) (rc4 x y u v))) := by
    unfold s_addPl
    rw [hpl, hpu, decide_eq_false hux, decide_eq_true hyv]
    show (if nI 1 = nI 0 then (if c 1 = 10 then (nI 0, nI 2, c, S) else (nI (c 1), nI 0, u1 c 1 (c 1 + 1), u1 S 2 (u1 (S 2) (c 1) (rc4 x y u v)))) else (if c 2 = 6 then (nI 0, nI 2, c, S) else (nI (c 2), nI 0, u1 c 2 (c 2 + 1), u1 S 3 (u1 (S 3) (c 2) (rc4 x y u v))))) = _
    rw [if_neg (by decide), if_neg (by omega), h0]
  -- the class
  have hr3 : Rf (u2 r' 137 2 (some (mN μ + 1))) := fun a j v hv => by
    have ha : a < 137 := RT_lt hv
    rw [yu_ne (by omega), ro a (by omega)]
    exact hr a j v hv
  have hC3 : CAll (u2r (u2 (u2 (u2 (u2 (u2r f (mN μ) (fun _ => nI 0)) (mN μ) 0 x) (mN μ) 1 y) (mN μ) 2 u) (mN μ) 3 v) (mN μ + 1) (fun _ => nI 0)) (u2 r' 137 2 (some (mN μ + 1))) 1 σ c S := CAll_k hC hc (fun a h1 h2 => by rw [yur_ne (by omega), yu_ne (by omega), yu_ne (by omega), yu_ne (by omega), yu_ne (by omega), yur_ne (by omega)]) (by rw [yu_ne (by omega), ro 36 (by omega)])
  have c67 := C_67 hs2 hr3 (l := u2r (u2r l (mN μ) (fun _ => lN 0)) (mN μ + 1) (fun _ => lN 0)) hC3 hc (w := nI 1) (x := x) (y := y) (u := u) (v := v)
  have hIa := INV_addPl hI (w := nI 1) (x := x) (y := y) (u := u) (v := v)
  rw [hsp] at c67 hIa
  simp only at c67 hIa
  rcases c67 with ⟨-, f', e67, hC', hf'⟩ | ⟨q, -⟩ | ⟨q, -⟩
  · simp only at e67
    refine ⟨nwm (nwm μ 20 4 4) 24 (k - m + 1) (k - m + 1), f', u2r (u2r l (mN μ) (fun _ => lN 0)) (mN μ + 1) (fun _ => lN 0), u2 r' 137 2 (some (mN μ + 1)), u1 c 2 (k - m + 1), u1 S 3 (u1 (S 3) (k - m) (rc4 x y u v)), some (.int x), some (.int y), some (.int u), some (.int v), some (.int (nI 1)), ?_, ⟨⟨hs2, hr3, ?_, hXe, ?_, ?_⟩, hC', hIa, ?_, ?_, ?_, ?_, ?_, ?_⟩, y1_eq, fun q hq => y1_ne hq⟩
    · rw [B_100_160]
      simp (disch := omega) only [st_I, st_L, st_R, st_S, st_N, st_C, st_Z, st_X, st_D, st_st, st_sI, st_sIr, st_sL, st_sR, gfI_st, gfL_st, gfR_st, gfN_st, pfI_st, pfL_st, pfR_st, pfZ_st0, pfZ_st1, ldI_st, ldL_st, stoI_st, stoL_st, aln_st, cpA_st, bq_st, bq_S, oI_s, oL_s, oD_s, oV_s, oR_s, oR_n, oI_e, oL_e, oD_e, Option.bind_some, fa_lit, fa_litL, nI_add, pk_mul, nI_m1, nI_lt', nI_le', nI_eq', lc_ge, lc_le, lc_gt, lc_lt, lc_eq, isZ_0, isZ_1, bI_0, bI_z, decide_eq_true_eq, Bool.not_eq_true', Bool.not_true, Bool.not_false, decide_eq_false_iff_not, if_true, if_false, ite_true, ite_false, eq_self, not_true, not_false_eq_true, C_80, C_81, C_82, C_84, C_85, C_86, C_94, C_95, C_96, C_97, yu_ne, yu_eq, up_eq, up_ne, yur_ne, yur_eq, yu_uu, y1_eq, y1_ne, y1_y1, Nat.mul_zero, Nat.zero_mul, Nat.add_zero, Nat.zero_add, Nat.mul_one, Nat.one_mul, Nat.reduceEqDiff, Nat.reduceLT, Nat.reduceLeDiff, Nat.reduceAdd, Nat.reduceMul, decide_true, decide_false, cond_true, cond_false, reduceCtorEq, Bool.false_eq_true, Bool.true_eq_false, Bool.true_and, Bool.and_true, Bool.false_and, Bool.and_false, hk', hkm, C_99, C_98, hdv, ex, ey, eb3, eb4, eu, ev]
      rw [B_100_267]
      simp (disch := omega) only [st_I, st_L, st_R, st_S, st_N, st_C, st_Z, st_X, st_D, st_st, st_sI, st_sIr, st_sL, st_sR, gfI_st, gfL_st, gfR_st, gfN_st, pfI_st, pfL_st, pfR_st, pfZ_st0, pfZ_st1, ldI_st, ldL_st, stoI_st, stoL_st, aln_st, cpA_st, bq_st, bq_S, oI_s, oL_s, oD_s, oV_s, oR_s, oR_n, oI_e, oL_e, oD_e, Option.bind_some, fa_lit, fa_litL, nI_add, pk_mul, nI_m1, nI_lt', nI_le', nI_eq', lc_ge, lc_le, lc_gt, lc_lt, lc_eq, isZ_0, isZ_1, bI_0, bI_z, decide_eq_true_eq, Bool.not_eq_true', Bool.not_true, Bool.not_false, decide_eq_false_iff_not, if_true, if_false, ite_true, ite_false, eq_self, not_true, not_false_eq_true, C_80, C_81, C_82, C_84, C_85, C_86, C_94, C_95, C_96, C_97, yu_ne, yu_eq, up_eq, up_ne, yur_ne, yur_eq, yu_uu, y1_eq, y1_ne, y1_y1, Nat.mul_zero, Nat.zero_mul, Nat.add_zero, Nat.zero_add, Nat.mul_one, Nat.one_mul, Nat.reduceEqDiff, Nat.reduceLT, Nat.reduceLeDiff, Nat.reduceAdd, Nat.reduceMul, decide_true, decide_false, cond_true, cond_false, reduceCtorEq, Bool.false_eq_true, Bool.true_eq_false, Bool.true_and, Bool.and_true, Bool.false_and, Bool.and_false, q1, nwA_stm, e88, nwm_N]
      rw [B_100_345]
      simp (disch := omega) only [st_I, st_L, st_R, st_S, st_N, st_C, st_Z, st_X, st_D, st_st, st_sI, st_sIr, st_sL, st_sR, gfI_st, gfL_st, gfR_st, gfN_st, pfI_st, pfL_st, pfR_st, pfZ_st0, pfZ_st1, ldI_st, ldL_st, stoI_st, stoL_st, aln_st, cpA_st, bq_st, bq_S, oI_s, oL_s, oD_s, oV_s, oR_s, oR_n, oI_e, oL_e, oD_e, Option.bind_some, fa_lit, fa_litL, nI_add, pk_mul, nI_m1, nI_lt', nI_le', nI_eq', lc_ge, lc_le, lc_gt, lc_lt, lc_eq, isZ_0, isZ_1, bI_0, bI_z, decide_eq_true_eq, Bool.not_eq_true', Bool.not_true, Bool.not_false, decide_eq_false_iff_not, if_true, if_false, ite_true, ite_false, eq_self, not_true, not_false_eq_true, C_80, C_81, C_82, C_84, C_85, C_86, C_94, C_95, C_96, C_97, yu_ne, yu_eq, up_eq, up_ne, yur_ne, yur_eq, yu_uu, y1_eq, y1_ne, y1_y1, Nat.mul_zero, Nat.zero_mul, Nat.add_zero, Nat.zero_add, Nat.mul_one, Nat.one_mul, Nat.reduceEqDiff, Nat.reduceLT, Nat.reduceLeDiff, Nat.reduceAdd, Nat.reduceMul, decide_true, decide_false, cond_true, cond_false, reduceCtorEq, Bool.false_eq_true, Bool.true_eq_false, Bool.true_and, Bool.and_true, Bool.false_and, Bool.and_false, e67, pk_sub]
      rw [B_100_374]
      simp (disch := omega) only [st_I, st_L, st_R, st_S, st_N, st_C, st_Z, st_X, st_D, st_st, st_sI, st_sIr, st_sL, st_sR, gfI_st, gfL_st, gfR_st, gfN_st, pfI_st, pfL_st, pfR_st, pfZ_st0, pfZ_st1, ldI_st, ldL_st, stoI_st, stoL_st, aln_st, cpA_st, bq_st, bq_S, oI_s, oL_s, oD_s, oV_s, oR_s, oR_n, oI_e, oL_e, oD_e, Option.bind_some, fa_lit, fa_litL, nI_add, pk_mul, nI_m1, nI_lt', nI_le', nI_eq', lc_ge, lc_le, lc_gt, lc_lt, lc_eq, isZ_0, isZ_1, bI_0, bI_z, decide_eq_true_eq, Bool.not_eq_true', Bool.not_true, Bool.not_false, decide_eq_false_iff_not, if_true, if_false, ite_true, ite_false, eq_self, not_true, not_false_eq_true, C_80, C_81, C_82, C_84, C_85, C_86, C_94, C_95, C_96, C_97, yu_ne, yu_eq, up_eq, up_ne, yur_ne, yur_eq, yu_uu, y1_eq, y1_ne, y1_y1, Nat.mul_zero, Nat.zero_mul, Nat.add_zero, Nat.zero_add, Nat.mul_one, Nat.one_mul, Nat.reduceEqDiff, Nat.reduceLT, Nat.reduceLeDiff, Nat.reduceAdd, Nat.reduceMul, decide_true, decide_false, cond_true, cond_false, reduceCtorEq, Bool.false_eq_true, Bool.true_eq_false, Bool.true_and, Bool.and_true, Bool.false_and, Bool.and_false]
    · rw [nwm_N, nwm_N]; omega
    · rw [nwm_C, nwm_C]; omega
    · rw [nwm_Z, nwm_Z]; omega
    · exact XI_of hXI (fun q h1 h2 => y1_ne (by omega)) (y1_ne (by decide)) (y1_ne (by decide))
    · rw [nw2_S (by omega)]; exact g1
    · rw [y1_ne (by decide)]
      exact RW_e g2 (by rw [nwm_N, nwm_N]; omega) (fun a h1 h2 => nw2_S h2) (fun a h1 h2 => by rw [yu_ne (by omega), ro a h2]) (by rw [yu_eq, up_ne (by decide), ro 137 (by omega)])
    · rw [y1_ne (by decide)]
      exact RW_e g3 (by rw [nwm_N, nwm_N]; omega) (fun a h1 h2 => nw2_S h2) (fun a h1 h2 => by rw [yu_ne (by omega), ro a h2]) (by rw [yu_eq, up_ne (by decide), ro 137 (by omega)])
    · rw [y1_eq]
      rw [h0] at g4
      refine RW_put hN g4 (by rw [yu_eq, up_eq]) (fun a ha j hj => ?_) ?_
      · rw [q1] at ha
        cases ha
        rw [yu_ne (by omega), r2 j hj, yur_ne (by omega)]
      · rw [yu_ne (by omega)]; exact r3
    · rw [y1_eq, y1_eq]
      intro _
      by_cases hz : k - m = 0
      · refine ⟨mN μ + 1, mN μ, by rw [yu_eq, up_eq], by omega, by rw [nwm_N, nwm_N]; omega, ?_, by omega, by rw [nwm_N, nwm_N]; omega, ?_, fun q hq => ?_⟩
        · rw [yu_ne (by omega), ← hz]
          exact r3
        · rw [nwm_S (by rw [nwm_N]; omega)]
          exact nwm_S1
        · rw [hz, y1_eq, hf' _ (Or.inr (by omega)), yur_ne (by omega)]
          have hq4 : q = 0 ∨ q = 1 ∨ q = 2 ∨ q = 3 := by omega
          rcases hq4 with rfl | rfl | rfl | rfl
          · rw [yu_eq, up_ne (by decide), yu_eq, up_ne (by decide), yu_eq, up_ne (by decide), yu_eq, up_eq]
            rfl
          · rw [yu_eq, up_ne (by decide), yu_eq, up_ne (by decide), yu_eq, up_eq]
            rfl
          · rw [yu_eq, up_ne (by decide), yu_eq, up_eq]
            rfl
          · rw [yu_eq, up_eq]
            rfl
      · obtain ⟨a, x', w1, w2, w3, w4, w5, w6, w7, w8⟩ := g5 (by omega)
        rw [q1] at w1
        cases w1
        refine ⟨mN μ + 1, x', by rw [yu_eq, up_eq], by omega, by rw [nwm_N, nwm_N]; omega, ?_, by omega, by rw [nwm_N, nwm_N]; omega, ?_, fun q hq => ?_⟩
        · rw [yu_ne (by omega), r2 0 (by omega), yur_ne (by omega)]
          exact w4
        · rw [nw2_S w6]
          exact w7
        · rw [y1_ne (Ne.symm hz), ← w8 q hq]
          rw [hf' x' (Or.inr (by omega)), yur_ne (by omega), yu_ne (by omega), yu_ne (by omega), yu_ne (by omega), yu_ne (by omega), yur_ne (by omega)]
  · exact absurd (show nI 0 = nI 1 from q) (by decide)
  · exact absurd (show nI 0 = nI 2 from q) (by decide)
