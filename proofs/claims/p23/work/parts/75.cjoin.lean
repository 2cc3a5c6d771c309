/-! ===== the class joins: numbers ===== -/
/-- the reference's best and the class' cost of the same choice -/
def RJ (m : Nat) (b c : Int64) : Prop := ∃ J s : Nat, J ≤ m ∧ s ≤ m * 1200000000 ∧ b.toInt = 1000000000000 * (J : Int) - s ∧ c.toInt = (s : Int) - 1099511627776 * J
theorem RJ_le {m m' : Nat} {b c : Int64} (h : RJ m b c) (hm : m ≤ m') : RJ m' b c := by
  obtain ⟨J, s, h1, h2, h3, h4⟩ := h
  exact ⟨J, s, Nat.le_trans h1 hm, Nat.le_trans h2 (Nat.mul_le_mul_right _ hm), h3, h4⟩
theorem RJ_lt {m : Nat} {b c b' c' : Int64} (hm : m ≤ 10) (h : RJ m b c) (h' : RJ m b' c') : (b.toInt < b'.toInt ↔ c'.toInt < c.toInt) ∧ (b.toInt = b'.toInt ↔ c.toInt = c'.toInt) := by
  obtain ⟨J, s, h1, h2, h3, h4⟩ := h
  obtain ⟨J', s', h1', h2', h3', h4'⟩ := h'
  have q1 : s ≤ 12000000000 := by omega
  have q2 : s' ≤ 12000000000 := by omega
  rcases Nat.lt_trichotomy J J' with q | q | q
  · exact ⟨⟨fun _ => by omega, fun _ => by omega⟩, ⟨fun _ => by omega, fun _ => by omega⟩⟩
  · subst q
    exact ⟨⟨fun _ => by omega, fun _ => by omega⟩, ⟨fun _ => by omega, fun _ => by omega⟩⟩
  · exact ⟨⟨fun _ => by omega, fun _ => by omega⟩, ⟨fun _ => by omega, fun _ => by omega⟩⟩
theorem RJ_eq {m : Nat} {b c b' c' : Int64} (hm : m ≤ 10) (h : RJ m b c) (h' : RJ m b' c') : (b = b') = (c = c') := by
  rw [fa_eq64, fa_eq64]
  exact propext (RJ_lt hm h h').2
theorem RJ_mx {m : Nat} {b c b' c' : Int64} (hm : m ≤ 10) (h : RJ m b c) (h' : RJ m b' c') : RJ m (p_mxl b b') (p_mnl c c') := by
  have k := (RJ_lt hm h h').1
  unfold p_mxl p_mnl
  by_cases q : b < b'
  · rw [if_pos q, if_pos (show c' < c by rw [fa_lt64]; rw [fa_lt64] at q; exact k.mp q)]; exact h'
  · rw [if_neg q, if_neg (show ¬ c' < c by rw [fa_lt64]; rw [fa_lt64] at q; exact mt k.mpr q)]; exact h
theorem RJ_st {m : Nat} {b c q M W : Int64} (hm : m ≤ 9) (h : RJ m b c) (hM : M.toInt = 1000000000000) (hW : W.toInt = 1099511627776) (q0 : 0 ≤ q.toInt) (q1 : q.toInt ≤ 1200000000) : RJ (m + 1) (M - q + b) (q - W + c) := by
  obtain ⟨J, s, h1, h2, h3, h4⟩ := h
  have e1 : (M - q).toInt = 1000000000000 - q.toInt := by rw [l_sub (by rw [hM]; omega) (by rw [hM]; omega), hM]
  have e2 : (q - W).toInt = q.toInt - 1099511627776 := by rw [l_sub (by rw [hW]; omega) (by rw [hW]; omega), hW]
  have e3 : (M - q + b).toInt = 1000000000000 - q.toInt + b.toInt := by rw [l_add (by rw [e1]; omega) (by rw [e1]; omega), e1]
  have e4 : (q - W + c).toInt = q.toInt - 1099511627776 + c.toInt := by rw [l_add (by rw [e2]; omega) (by rw [e2]; omega), e2]
  exact ⟨J + 1, s + q.toInt.toNat, by omega, by omega, by rw [e3]; omega, by rw [e4]; omega⟩
theorem lN_big {n : Nat} (h : n < 9223372036854775808) : (lN n).toInt = (n : Int) := lg_ofNat_toInt (by omega)
theorem mny_int : mny.toInt = 1000000000000 := by
  unfold mny
  rw [lN_big (by decide)]
  rfl
def cjw : Int64 := lN 1099511627776
theorem cjw_eq : lN 1099511627776 = cjw := rfl
theorem cjw_int : cjw.toInt = 1099511627776 := by
  unfold cjw
  rw [lN_big (by decide)]
  rfl
/-! sets of blips -/
def msk (p : Nat → Bool) : Nat → Nat
  | 0 => 0
  | n + 1 => bif p n then msk p n ||| 2 ^ n else msk p n
theorem msk_lt (p : Nat → Bool) : ∀ n, msk p n < 2 ^ n
  | 0 => Nat.zero_lt_one
  | n + 1 => by
    have h := msk_lt p n
    have h2 : 2 ^ n < 2 ^ (n + 1) := Nat.pow_lt_pow_right (by decide) (Nat.lt_succ_self n)
    unfold msk
    cases p n
    · exact Nat.lt_trans h h2
    · exact Nat.or_lt_two_pow (Nat.lt_trans h h2) h2
theorem bit_or {a k j : Nat} : (a ||| 2 ^ k).testBit j = (a.testBit j || decide (k = j)) := by
  rw [Nat.testBit_or, Nat.testBit_two_pow]
theorem msk_bit (p : Nat → Bool) : ∀ n k, (msk p n).testBit k = (decide (k < n) && p k)
  | 0, k => by
    show (0 : Nat).testBit k = _
    rw [Nat.zero_testBit]
    simp
  | n + 1, k => by
    have h := msk_bit p n k
    unfold msk
    cases hp : p n
    · rw [cond_false, h]
      by_cases q : k = n
      · subst q; rw [hp]; simp
      · have : decide (k < n + 1) = decide (k < n) := decide_eq_decide.mpr (by omega)
        rw [this]
    · rw [cond_true, bit_or, h]
      by_cases q : k = n
      · subst q; rw [hp]; simp
      · have : decide (k < n + 1) = decide (k < n) := decide_eq_decide.mpr (by omega)
        rw [this, decide_eq_false (show ¬ n = k by omega), Bool.or_false]
theorem free_nI {a b : Nat} (ha : a < 1024) (hb : b < 1024) : ∃ fr, fr < 1024 ∧ nI a &&& (nI b ^^^ -nI 1) = nI fr ∧ ∀ k, k < 10 → fr.testBit k = (a.testBit k && !b.testBit k) := by
  have h1 : ∀ i, (1023 : Nat).testBit i = decide (i < 10) := fun i => Nat.testBit_two_pow_sub_one 10 i
  refine ⟨a &&& (b ^^^ 1023), Nat.lt_of_le_of_lt Nat.and_le_left ha, ?_, fun k hk => ?_⟩
  · apply Int32.toBitVec_inj.1
    show BitVec.ofNat 32 a &&& (BitVec.ofNat 32 b ^^^ (-nI 1 : Int32).toBitVec) = BitVec.ofNat 32 (a &&& (b ^^^ 1023))
    have e : (-nI 1 : Int32).toBitVec = BitVec.allOnes 32 := by decide
    rw [e]
    apply BitVec.eq_of_getLsbD_eq
    intro i hi
    rw [BitVec.getLsbD_and, BitVec.getLsbD_xor, BitVec.getLsbD_allOnes, BitVec.getLsbD_ofNat, BitVec.getLsbD_ofNat, BitVec.getLsbD_ofNat, Nat.testBit_and, Nat.testBit_xor, h1]
    by_cases q : i < 10
    · simp [hi, q]
    · have : a.testBit i = false := Nat.testBit_lt_two_pow (Nat.lt_of_lt_of_le ha (Nat.pow_le_pow_right (n := 2) (by decide) (show 10 ≤ i by omega)))
      simp [this]
  · rw [Nat.testBit_and, Nat.testBit_xor, h1, decide_eq_true hk]
    cases b.testBit k <;> rfl
theorem shr_0 {fr k : Nat} (hf : fr < 1024) (hk : k < 31) : (nI fr >>> (nI k &&& nI 31) = nI 0) = (fr < 2 ^ k) := by
  have hs : ∀ k, k < 31 → ((nI k &&& nI 31).toBitVec.smod 32).toNat = k := by decide
  have h2 : fr / 2 ^ k ≤ fr := Nat.div_le_self _ _
  rw [pk_shrN (by omega) _ k (hs k hk), nI_eq' (by omega) (by omega)]
  exact propext (Nat.div_eq_zero_iff_lt (Nat.two_pow_pos k))
theorem hi_0 {fr k j : Nat} (h : fr < 2 ^ k) (hj : k ≤ j) : fr.testBit j = false := Nat.testBit_lt_two_pow (Nat.lt_of_lt_of_le h (Nat.pow_le_pow_right (n := 2) (by decide) hj))
theorem cn_or {p q : Nat → Bool} {k : Nat} (h : ∀ j, q j = (p j || decide (k = j))) : ∀ n, cn q n ≤ cn p n + (if k < n then 1 else 0)
  | 0 => by simp [cn]
  | n + 1 => by
    have ih := cn_or h n
    unfold cn
    rw [h n]
    by_cases q1 : k = n
    · subst q1
      rw [if_neg (Nat.lt_irrefl _)] at ih
      rw [if_pos (Nat.lt_succ_self _), decide_eq_true rfl]
      cases p k <;> simp <;> omega
    · rw [decide_eq_false q1, Bool.or_false]
      by_cases q2 : k < n
      · rw [if_pos q2] at ih
        rw [if_pos (by omega)]
        omega
      · rw [if_neg q2] at ih
        rw [if_neg (by omega)]
        omega
theorem pop_or {a k : Nat} : pop (a ||| 2 ^ k) ≤ pop a + 1 := by
  have := cn_or (p := fun i => a.testBit i) (q := fun i => (a ||| 2 ^ k).testBit i) (k := k) (fun j => bit_or) 10
  unfold pop
  split at this <;> omega
theorem pop_0 : pop 0 = 0 := by decide
theorem itr_stop {α : Type} {g : Nat → α → α} {a : Nat} {s : α} : ∀ d, (∀ j x, a ≤ j → j < a + d → g j x = x) → itr g (a + d) s = itr g a s
  | 0, _ => rfl
  | d + 1, h => by
    show g (a + d) (itr g (a + d) s) = _
    rw [h (a + d) _ (by omega) (by omega)]
    exact itr_stop d (fun j x h1 h2 => h j x h1 (by omega))
/-! ===== the class measures ===== -/
def cdq (S : Nat → Nat → Nat → Int32) (R : Nat → Int32) (k : Nat) : Int64 := sq (nI 16 * S 5 k 0 - R 1).toInt64 (nI 16 * S 5 k 1 - R 2).toInt64
def clim (g : Nat) (R : Nat → Int32) : Int64 := sq (nI 16 * (nI g + nI 40 * R 7)).toInt64 (lN 0)
def cwin (g : Nat) (S : Nat → Nat → Nat → Int32) (R : Nat → Int32) (k : Nat) : Bool := !decide (clim g R < cdq S R k)
theorem C_24 {μ : mMu} {f : Nat → Nat → Int32} {l : Nat → Nat → Int64} {r : Nat → Nat → Option Nat} (hs : Sh μ) (hr : Rf r) {t a g : Nat} {R : Nat → Int32} {c : Nat → Nat} {S : Nat → Nat → Nat → Int32} (ht : t < 10) (ha : a < 10) (hT : TM f (37 + 3 * a) R) (hM : MB f c S) (h3 : c 3 ≤ 10) : ∃ f' l', CALL 24 [.ref 133, .int (nI t), .ref (37 + 3 * a), .ref 17, .int (nI g)] (st μ f l r) = some (.inl none, st μ f' l' r) ∧ (∀ x, x ≠ 134 → f' x = f x) ∧ (∀ x, x ≠ 135 → l' x = l x) ∧ (∀ j, j ≠ t → f' 134 j = f 134 j) ∧ f' 134 t = nI (msk (cwin g S R) (c 3)) ∧ (∀ k, k < c 3 → l' 135 (t * 10 + k) = cdq S R k) ∧ ∀ x, (x < t * 10 ∨ t * 10 + 10 ≤ x) → l' 135 x = l 135 x := by
  have h17a : (mS μ 17).1 = 0 := by rw [hs 17 (by decide)]; rfl
  have h18a : (mS μ 18).1 = 20 := by rw [hs 18 (by decide)]; rfl
  have h18b : (mS μ 18).2 = 10 := by rw [hs 18 (by decide)]; rfl
  have h19a : (mS μ 19).1 = 20 := by rw [hs 19 (by decide)]; rfl
  have h19b : (mS μ 19).2 = 10 := by rw [hs 19 (by decide)]; rfl
  have h133a : (mS μ 133).1 = 4 := by rw [hs 133 (by decide)]; rfl
  have h134a : (mS μ 134).1 = 20 := by rw [hs 134 (by decide)]; rfl
  have h134b : (mS μ 134).2 = 10 := by rw [hs 134 (by decide)]; rfl
  have h135a : (mS μ 135).1 = 21 := by rw [hs 135 (by decide)]; rfl
  have h135b : (mS μ 135).2 = 100 := by rw [hs 135 (by decide)]; rfl
  have r17_0 : r 17 0 = some 18 := hr 17 0 18 rfl
  have r17_1 : r 17 1 = some 19 := hr 17 1 19 rfl
  have r133_0 : r 133 0 = some 134 := hr 133 0 134 rfl
  have r133_1 : r 133 1 = some 135 := hr 133 1 135 rfl
  obtain ⟨s1, s2, s3⟩ := trk_sh hs ha
  obtain ⟨rx, ry⟩ := trk_rf hr ha
  have s1a : (mS μ (37 + 3 * a)).1 = 7 := by rw [s1]
  have s2a : (mS μ (37 + 3 * a + 1)).1 = 20 := by rw [s2]
  have s2b : (mS μ (37 + 3 * a + 1)).2 = 12 := by rw [s2]
  have s3a : (mS μ (37 + 3 * a + 2)).1 = 20 := by rw [s3]
  have s3b : (mS μ (37 + 3 * a + 2)).2 = 12 := by rw [s3]
  have t7 : f (37 + 3 * a) 7 = R 7 := hT.2.1 7 (by decide) (by decide)
  have t1 : f (37 + 3 * a + 1) 0 = R 1 := hT.2.2.2.2.2.1
  have t2 : f (37 + 3 * a + 2) 0 = R 2 := hT.2.2.2.2.2.2.1
  have k5 : f 17 5 = nI (c 3) := hM.1
  have ecl : sq (nI 16 * (nI g + nI 40 * R 7)).toInt64 (lN 0) = clim g R := rfl
  rw [B_24_0]
  simp (disch := omega) only [st_I, st_L, st_R, st_S, st_N, st_C, st_Z, st_X, st_D, st_st, st_sI, st_sIr, st_sL, st_sR, gfI_st, gfL_st, gfR_st, gfN_st, pfI_st, pfL_st, pfR_st, pfZ_st0, pfZ_st1, ldI_st, ldL_st, stoI_st, stoL_st, aln_st, cpA_st, bq_st, bq_S, oI_s, oL_s, oD_s, oV_s, oR_s, oR_n, oI_e, oL_e, oD_e, Option.bind_some, fa_lit, fa_litL, nI_add, pk_mul, nI_m1, nI_lt', nI_le', nI_eq', lc_ge, lc_le, lc_gt, lc_lt, lc_eq, isZ_0, isZ_1, bI_0, bI_z, decide_eq_true_eq, Bool.not_eq_true', Bool.not_true, Bool.not_false, decide_eq_false_iff_not, if_true, if_false, ite_true, ite_false, eq_self, not_true, not_false_eq_true, C_80, C_81, C_82, C_84, C_85, C_86, C_94, C_95, C_96, C_97, yu_ne, yu_eq, up_eq, up_ne, yur_ne, yur_eq, yu_uu, y1_eq, y1_ne, y1_y1, Nat.mul_zero, Nat.zero_mul, Nat.add_zero, Nat.zero_add, Nat.mul_one, Nat.one_mul, Nat.reduceEqDiff, Nat.reduceLT, Nat.reduceLeDiff, Nat.reduceAdd, Nat.reduceMul, decide_true, decide_false, cond_true, cond_false, reduceCtorEq, Bool.false_eq_true, Bool.true_eq_false, Bool.true_and, Bool.and_true, Bool.false_and, Bool.and_false, r17_0, r17_1, r133_0, r133_1, t7, ecl]
  refine loopP (fun k o => ∃ f' l' o8 o9, o = RUN 24 30 [some (.ref 133), some (.int (nI t)), some (.ref (37 + 3 * a)), some (.ref 17), some (.int (nI g)), some (.long (clim g R)), none, some (.int (nI k)), o8, o9] [] (st μ f' l' r) ∧ (∀ x, x ≠ 134 → f' x = f x) ∧ (∀ x, x ≠ 135 → l' x = l x) ∧ (∀ j, j ≠ t → f' 134 j = f 134 j) ∧ f' 134 t = nI (msk (cwin g S R) k) ∧ (∀ j, j < k → l' 135 (t * 10 + j) = cdq S R j) ∧ ∀ x, (x < t * 10 ∨ t * 10 + 10 ≤ x) → l' 135 x = l 135 x) (fun o => ∃ f' l', o = some (.inl none, st μ f' l' r) ∧ (∀ x, x ≠ 134 → f' x = f x) ∧ (∀ x, x ≠ 135 → l' x = l x) ∧ (∀ j, j ≠ t → f' 134 j = f 134 j) ∧ f' 134 t = nI (msk (cwin g S R) (c 3)) ∧ (∀ k, k < c 3 → l' 135 (t * 10 + k) = cdq S R k) ∧ ∀ x, (x < t * 10 ∨ t * 10 + 10 ≤ x) → l' 135 x = l 135 x) (c 3) ?_ ?_ 0 _ (Nat.zero_le _) ⟨_, l, _, _, rfl, fun x hx => yu_ne hx, fun _ _ => rfl, fun j hj => by rw [yu_eq, up_ne hj], by rw [yu_eq, up_eq]; rfl, fun j hj => absurd hj (Nat.not_lt_zero j), fun _ _ => rfl⟩
  · rintro o ⟨f', l', o8, o9, rfl, g1, g2, g3, g4, g5, g6⟩
    have k5' : f' 17 5 = nI (c 3) := by rw [g1 17 (by decide)]; exact k5
    rw [B_24_30]
    simp (disch := omega) only [st_I, st_L, st_R, st_S, st_N, st_C, st_Z, st_X, st_D, st_st, st_sI, st_sIr, st_sL, st_sR, gfI_st, gfL_st, gfR_st, gfN_st, pfI_st, pfL_st, pfR_st, pfZ_st0, pfZ_st1, ldI_st, ldL_st, stoI_st, stoL_st, aln_st, cpA_st, bq_st, bq_S, oI_s, oL_s, oD_s, oV_s, oR_s, oR_n, oI_e, oL_e, oD_e, Option.bind_some, fa_lit, fa_litL, nI_add, pk_mul, nI_m1, nI_lt', nI_le', nI_eq', lc_ge, lc_le, lc_gt, lc_lt, lc_eq, isZ_0, isZ_1, bI_0, bI_z, decide_eq_true_eq, Bool.not_eq_true', Bool.not_true, Bool.not_false, decide_eq_false_iff_not, if_true, if_false, ite_true, ite_false, eq_self, not_true, not_false_eq_true, C_80, C_81, C_82, C_84, C_85, C_86, C_94, C_95, C_96, C_97, yu_ne, yu_eq, up_eq, up_ne, yur_ne, yur_eq, yu_uu, y1_eq, y1_ne, y1_y1, Nat.mul_zero, Nat.zero_mul, Nat.add_zero, Nat.zero_add, Nat.mul_one, Nat.one_mul, Nat.reduceEqDiff, Nat.reduceLT, Nat.reduceLeDiff, Nat.reduceAdd, Nat.reduceMul, decide_true, decide_false, cond_true, cond_false, reduceCtorEq, Bool.false_eq_true, Bool.true_eq_false, Bool.true_and, Bool.and_true, Bool.false_and, Bool.and_false, r17_0, r17_1, r133_0, r133_1, k5', Nat.le_refl]
    exact ⟨f', l', rfl, g1, g2, g3, g4, g5, g6⟩
  · rintro k o hk ⟨f', l', o8, o9, rfl, g1, g2, g3, g4, g5, g6⟩
    right
    have hk' : ¬ c 3 ≤ k := by omega
    have hk10 : k < 10 := by omega
    have k5' : f' 17 5 = nI (c 3) := by rw [g1 17 (by decide)]; exact k5
    have b0 : f' 18 k = S 5 k 0 := by rw [g1 18 (by decide)]; exact (hM.2.2 k hk).1 0 (by decide)
    have b1 : f' 19 k = S 5 k 1 := by rw [g1 19 (by decide)]; exact (hM.2.2 k hk).1 1 (by decide)
    have t1' : f' (37 + 3 * a + 1) 0 = R 1 := by rw [g1 _ (by omega)]; exact t1
    have t2' : f' (37 + 3 * a + 2) 0 = R 2 := by rw [g1 _ (by omega)]; exact t2
    have edq : sq (nI 16 * S 5 k 0 - R 1).toInt64 (nI 16 * S 5 k 1 - R 2).toInt64 = cdq S R k := rfl
    have key : ∀ j, j < k + 1 → u2 l' 135 (t * 10 + k) (cdq S R k) 135 (t * 10 + j) = cdq S R j := fun j hj => by
      rw [yu_eq]
      by_cases q : j = k
      · rw [q, up_eq]
      · rw [up_ne (by omega)]; exact g5 j (by omega)
    have key2 : ∀ x, (x < t * 10 ∨ t * 10 + 10 ≤ x) → u2 l' 135 (t * 10 + k) (cdq S R k) 135 x = l 135 x := fun x hx => by
      rw [yu_eq, up_ne (by omega)]; exact g6 x hx
    have ms : msk (cwin g S R) (k + 1) = bif cwin g S R k then msk (cwin g S R) k ||| 2 ^ k else msk (cwin g S R) k := rfl
    rw [B_24_30]
    by_cases q : clim g R < cdq S R k
    · have ew : cwin g S R k = false := by unfold cwin; rw [decide_eq_true q]; rfl
      simp (disch := omega) only [st_I, st_L, st_R, st_S, st_N, st_C, st_Z, st_X, st_D, st_st, st_sI, st_sIr, st_sL, st_sR, gfI_st, gfL_st, gfR_st, gfN_st, pfI_st, pfL_st, pfR_st, pfZ_st0, pfZ_st1, ldI_st, ldL_st, stoI_st, stoL_st, aln_st, cpA_st, bq_st, bq_S, oI_s, oL_s, oD_s, oV_s, oR_s, oR_n, oI_e, oL_e, oD_e, Option.bind_some, fa_lit, fa_litL, nI_add, pk_mul, nI_m1, nI_lt', nI_le', nI_eq', lc_ge, lc_le, lc_gt, lc_lt, lc_eq, isZ_0, isZ_1, bI_0, bI_z, decide_eq_true_eq, Bool.not_eq_true', Bool.not_true, Bool.not_false, decide_eq_false_iff_not, if_true, if_false, ite_true, ite_false, eq_self, not_true, not_false_eq_true, C_80, C_81, C_82, C_84, C_85, C_86, C_94, C_95, C_96, C_97, yu_ne, yu_eq, up_eq, up_ne, yur_ne, yur_eq, yu_uu, y1_eq, y1_ne, y1_y1, Nat.mul_zero, Nat.zero_mul, Nat.add_zero, Nat.zero_add, Nat.mul_one, Nat.one_mul, Nat.reduceEqDiff, Nat.reduceLT, Nat.reduceLeDiff, Nat.reduceAdd, Nat.reduceMul, decide_true, decide_false, cond_true, cond_false, reduceCtorEq, Bool.false_eq_true, Bool.true_eq_false, Bool.true_and, Bool.and_true, Bool.false_and, Bool.and_false, r17_0, r17_1, r133_0, r133_1, k5', hk', b0, b1, s1a, s2a, s2b, s3a, s3b, rx, ry, t1', t2', edq, q]
      exact ⟨f', _, _, _, rfl, g1, fun x hx => (yu_ne hx).trans (g2 x hx), g3, by rw [ms, ew, cond_false]; exact g4, key, key2⟩
    · have ew : cwin g S R k = true := by unfold cwin; rw [decide_eq_false q]; rfl
      simp (disch := omega) only [st_I, st_L, st_R, st_S, st_N, st_C, st_Z, st_X, st_D, st_st, st_sI, st_sIr, st_sL, st_sR, gfI_st, gfL_st, gfR_st, gfN_st, pfI_st, pfL_st, pfR_st, pfZ_st0, pfZ_st1, ldI_st, ldL_st, stoI_st, stoL_st, aln_st, cpA_st, bq_st, bq_S, oI_s, oL_s, oD_s, oV_s, oR_s, oR_n, oI_e, oL_e, oD_e, Option.bind_some, fa_lit, fa_litL, nI_add, pk_mul, nI_m1, nI_lt', nI_le', nI_eq', lc_ge, lc_le, lc_gt, lc_lt, lc_eq, isZ_0, isZ_1, bI_0, bI_z, decide_eq_true_eq, Bool.not_eq_true', Bool.not_true, Bool.not_false, decide_eq_false_iff_not, if_true, if_false, ite_true, ite_false, eq_self, not_true, not_false_eq_true, C_80, C_81, C_82, C_84, C_85, C_86, C_94, C_95, C_96, C_97, yu_ne, yu_eq, up_eq, up_ne, yur_ne, yur_eq, yu_uu, y1_eq, y1_ne, y1_y1, Nat.mul_zero, Nat.zero_mul, Nat.add_zero, Nat.zero_add, Nat.mul_one, Nat.one_mul, Nat.reduceEqDiff, Nat.reduceLT, Nat.reduceLeDiff, Nat.reduceAdd, Nat.reduceMul, decide_true, decide_false, cond_true, cond_false, reduceCtorEq, Bool.false_eq_true, Bool.true_eq_false, Bool.true_and, Bool.and_true, Bool.false_and, Bool.and_false, r17_0, r17_1, r133_0, r133_1, k5', hk', b0, b1, s1a, s2a, s2b, s3a, s3b, rx, ry, t1', t2', edq, q, g4, shl1, fa_or]
      exact ⟨_, _, _, _, rfl, fun x hx => (yu_ne hx).trans (g1 x hx), fun x hx => (yu_ne hx).trans (g2 x hx), fun j hj => by rw [yu_eq, up_ne hj]; exact g3 j hj, by rw [yu_eq, up_eq, ms, ew, cond_true], key, key2⟩
