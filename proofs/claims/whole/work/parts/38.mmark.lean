/-! ===== the reference keeps, brings back ===== -/
def MRk (f : Nat → Nat → Int32) (b : Nat) (c : Nat → Nat) (S : Nat → Nat → Nat → Int32) : Prop := (∀ w, w < 15 → f b w = nI (c w)) ∧ MRr (f (b + 1)) 4 3 (S 1) ∧ MRr (f (b + 2)) 10 4 (S 2) ∧ MRr (f (b + 3)) 6 4 (S 3) ∧ MRr (f (b + 4)) 20 20 (S 4) ∧ MRr (f (b + 5)) 10 5 (S 5) ∧ MRr (f (b + 6)) 10 5 (S 6) ∧ MRr (f (b + 7)) 10 38 (S 7) ∧ MRr (f (b + 8)) 60 7 (S 8) ∧ MRr (f (b + 9)) 120 4 (S 9)
theorem MRk_now {f : Nat → Nat → Int32} {c : Nat → Nat} {S : Nat → Nat → Nat → Int32} : MRk f 138 c S = MR f c S := rfl
def LEN (j : Nat) : Nat := [15, 12, 40, 24, 400, 50, 50, 380, 420, 480].getD j 0
/-- rows that agree as far as they are long -/
theorem MRk_cp {f g : Nat → Nat → Int32} {a b : Nat} {c : Nat → Nat} {S : Nat → Nat → Nat → Int32} (h : MRk f a c S) (e : ∀ j, j < 10 → ∀ i, i < LEN j → g (b + j) i = f (a + j) i) : MRk g b c S := by
  obtain ⟨h0, h1, h2, h3, h4, h5, h6, h7, h8, h9⟩ := h
  have ee : ∀ (j n w : Nat) (T : Nat → Nat → Int32), j < 10 → n * w ≤ LEN j → MRr (f (a + j)) n w T → MRr (g (b + j)) n w T := by
    intro j n w T hj hn ht i k hi hk
    rw [e j hj _ ?_]
    · exact ht i k hi hk
    · have h1 : w * i + w ≤ w * n := by rw [← Nat.mul_succ]; exact Nat.mul_le_mul_left w hi
      rw [Nat.mul_comm n w] at hn
      omega
  refine ⟨fun w hw => ?_, ee 1 _ _ _ (by decide) (by decide) h1, ee 2 _ _ _ (by decide) (by decide) h2, ee 3 _ _ _ (by decide) (by decide) h3, ee 4 _ _ _ (by decide) (by decide) h4, ee 5 _ _ _ (by decide) (by decide) h5, ee 6 _ _ _ (by decide) (by decide) h6, ee 7 _ _ _ (by decide) (by decide) h7, ee 8 _ _ _ (by decide) (by decide) h8, ee 9 _ _ _ (by decide) (by decide) h9⟩
  have := e 0 (by decide) w (show w < 15 from hw)
  rw [Nat.add_zero, Nat.add_zero] at this
  rw [this, h0 w hw]
def KS (μ : mMu) (r : Nat → Nat → Option Nat) (kb : Nat) : Prop := r 137 12 = some kb ∧ 154 ≤ kb ∧ kb + 10 < mN μ ∧ mS μ kb = (24, 10) ∧ ∀ j, j < 10 → r kb j = some (kb + 1 + j) ∧ mS μ (kb + 1 + j) = (20, LEN j)
theorem sh138 {j : Nat} (hj : j < 10) : SH (138 + j) = (20, LEN j) := by
  have key : ∀ j, j < 10 → SH (138 + j) = (20, LEN j) := by decide
  exact key j hj
theorem r148 {r : Nat → Nat → Option Nat} (hr : Rf r) {j : Nat} (hj : j < 10) : r 148 j = some (138 + j) := by
  have key : ∀ j, j < 10 → RT 148 j = some (138 + j) := by decide
  exact hr 148 j _ (key j hj)
theorem LEN_le {j : Nat} (hj : j < 10) : LEN j ≤ 480 := by
  have key : ∀ j, j < 10 → LEN j ≤ 480 := by decide
  exact key j hj
theorem cpF_0 {f g : Nat → Int32} {n i : Nat} (h : i < n) : cpF f g 0 0 n i = f i := by
  unfold cpF
  rw [if_pos (by omega)]
  simp
/-- the kept rows are written -/
theorem K_copy {μ : mMu} {f : Nat → Nat → Int32} {l : Nat → Nat → Int64} {r : Nat → Nat → Option Nat} (hs : Sh μ) (hr : Rf r) {kb : Nat} (hk : KS μ r kb) {Q : mOut → Prop}
    (hQ : ∀ f', (∀ a, ¬ (kb + 1 ≤ a ∧ a < kb + 11) → f' a = f a) → (∀ j, j < 10 → ∀ i, i < LEN j → f' (kb + 1 + j) i = f (138 + j) i) → Q (RUN 164 58 [some (.ref 137), some (.int (nI 10))] [] (st μ f' l r))) : Q (RUN 164 58 [some (.ref 137), some (.int (nI 0))] [] (st μ f l r)) := by
  have h137a : (mS μ 137).1 = 9 := by rw [hs 137 (by decide)]; rfl
  have h148a : (mS μ 148).1 = 24 := by rw [hs 148 (by decide)]; rfl
  have h148b : (mS μ 148).2 = 10 := by rw [hs 148 (by decide)]; rfl
  have r137_11 : r 137 11 = some 148 := hr 137 11 148 rfl
  obtain ⟨k1, k2, k3, k4, k5⟩ := hk
  have k4a : (mS μ kb).1 = 24 := by rw [k4]
  have k4b : (mS μ kb).2 = 10 := by rw [k4]
  refine loopP (fun i o => ∃ f', o = RUN 164 58 [some (.ref 137), some (.int (nI i))] [] (st μ f' l r) ∧ (∀ a, ¬ (kb + 1 ≤ a ∧ a < kb + 11) → f' a = f a) ∧ (∀ j, j < i → ∀ w, w < LEN j → f' (kb + 1 + j) w = f (138 + j) w)) Q 10 ?_ ?_ 0 _ (by decide) ⟨f, rfl, fun _ _ => rfl, fun j hj => absurd hj (Nat.not_lt_zero j)⟩
  · rintro o ⟨f', rfl, h1, h2⟩
    exact hQ f' h1 h2
  · rintro i o hi ⟨f', rfl, h1, h2⟩
    have hi' : ¬ 10 ≤ i := by omega
    have s1 := hs (138 + i) (by omega)
    rw [sh138 hi] at s1
    have s1a : (mS μ (138 + i)).1 = 20 := by rw [s1]
    have s1b : (mS μ (138 + i)).2 = LEN i := by rw [s1]
    obtain ⟨k6, k7⟩ := k5 i hi
    have s2a : (mS μ (kb + 1 + i)).1 = 20 := by rw [k7]
    have s2b : (mS μ (kb + 1 + i)).2 = LEN i := by rw [k7]
    have hl := LEN_le hi
    have x1 : ldR (st μ f' l r) 148 (nI i) = some (138 + i) := by rw [ldR_st (by omega) (by omega) (by omega), r148 hr hi]
    have x2 : ldR (st μ f' l r) kb (nI i) = some (kb + 1 + i) := by rw [ldR_st (by omega) (by omega) (by omega), k6]
    have x3 : cpA (st μ f' l r) (138 + i) (nI 0) (kb + 1 + i) (nI 0) (nI (LEN i)) = some (st μ (u2r f' (kb + 1 + i) (cpF (f' (138 + i)) (f' (kb + 1 + i)) 0 0 (LEN i))) l r) := cpA_st (by omega) (by omega) (by omega) (by omega) (by omega) (by omega)
    right
    rw [B_164_58]
    simp (disch := omega) only [st_I, st_L, st_R, st_S, st_N, st_C, st_Z, st_X, st_D, st_st, st_sI, st_sIr, st_sL, st_sR, gfI_st, gfL_st, gfR_st, gfN_st, pfI_st, pfL_st, pfR_st, pfZ_st0, pfZ_st1, ldI_st, ldL_st, stoI_st, stoL_st, aln_st, cpA_st, bq_st, bq_S, oI_s, oL_s, oD_s, oV_s, oR_s, oR_n, oI_e, oL_e, oD_e, Option.bind_some, fa_lit, fa_litL, nI_add, pk_mul, nI_m1, nI_lt', nI_le', nI_eq', lc_ge, lc_le, lc_gt, lc_lt, lc_eq, isZ_0, isZ_1, bI_0, bI_z, decide_eq_true_eq, Bool.not_eq_true', Bool.not_true, Bool.not_false, decide_eq_false_iff_not, if_true, if_false, ite_true, ite_false, eq_self, not_true, not_false_eq_true, C_95, C_96, C_97, C_99, C_100, C_102, C_106, C_107, C_109, C_168, C_171, C_172, C_173, C_174, C_175, yu_ne, yu_eq, up_eq, up_ne, yur_ne, yur_eq, yu_uu, y1_eq, y1_ne, y1_y1, Nat.mul_zero, Nat.zero_mul, Nat.add_zero, Nat.zero_add, Nat.mul_one, Nat.one_mul, Nat.reduceEqDiff, Nat.reduceLT, Nat.reduceLeDiff, Nat.reduceAdd, Nat.reduceMul, decide_true, decide_false, cond_true, cond_false, reduceCtorEq, Bool.false_eq_true, Bool.true_eq_false, Bool.true_and, Bool.and_true, Bool.false_and, Bool.and_false, r137_11, hi', h148b, x1, k1, Option.elim_some, x2, s1b, x3]
    refine ⟨_, rfl, fun a ha => ?_, fun j hj w hw => ?_⟩
    · rw [yur_ne (by omega), h1 a ha]
    · rcases Nat.lt_or_ge j i with q | q
      · rw [yur_ne (by omega), h2 j q w hw]
      · have : j = i := by omega
        subst this
        rw [yur_eq, cpF_0 hw, h1 (138 + j) (by omega)]
theorem C_165 {μ : mMu} {f : Nat → Nat → Int32} {l : Nat → Nat → Int64} {r : Nat → Nat → Option Nat} (hs : Sh μ) (hr : Rf r) {c : Nat → Nat} {S : Nat → Nat → Nat → Int32} (hm : MR f c S) (hc : CB c) {kb : Nat} {c' : Nat → Nat} {S' : Nat → Nat → Nat → Int32} (hk : KS μ r kb) (hm2 : MRk f (kb + 1) c' S') : ∃ f', CALL 165 [.ref 137] (st μ f l r) = some (.inl (some (.int (nI (c' 6)))), st μ f' l r) ∧ f' 137 0 = nI 0 ∧ (∀ a, ¬ (137 ≤ a ∧ a ≤ 147) → f' a = f a) ∧ MR f' c' S' := by
  have h137a : (mS μ 137).1 = 9 := by rw [hs 137 (by decide)]; rfl
  have h138a : (mS μ 138).1 = 20 := by rw [hs 138 (by decide)]; rfl
  have h138b : (mS μ 138).2 = 15 := by rw [hs 138 (by decide)]; rfl
  have h148a : (mS μ 148).1 = 24 := by rw [hs 148 (by decide)]; rfl
  have h148b : (mS μ 148).2 = 10 := by rw [hs 148 (by decide)]; rfl
  have r137_1 : r 137 1 = some 138 := hr 137 1 138 rfl
  have r137_11 : r 137 11 = some 148 := hr 137 11 148 rfl
  obtain ⟨k1, k2, k3, k4, k5⟩ := hk
  have k4a : (mS μ kb).1 = 24 := by rw [k4]
  have k4b : (mS μ kb).2 = 10 := by rw [k4]
  rw [B_165_0]
  simp (disch := omega) only [st_I, st_L, st_R, st_S, st_N, st_C, st_Z, st_X, st_D, st_st, st_sI, st_sIr, st_sL, st_sR, gfI_st, gfL_st, gfR_st, gfN_st, pfI_st, pfL_st, pfR_st, pfZ_st0, pfZ_st1, ldI_st, ldL_st, stoI_st, stoL_st, aln_st, cpA_st, bq_st, bq_S, oI_s, oL_s, oD_s, oV_s, oR_s, oR_n, oI_e, oL_e, oD_e, Option.bind_some, fa_lit, fa_litL, nI_add, pk_mul, nI_m1, nI_lt', nI_le', nI_eq', lc_ge, lc_le, lc_gt, lc_lt, lc_eq, isZ_0, isZ_1, bI_0, bI_z, decide_eq_true_eq, Bool.not_eq_true', Bool.not_true, Bool.not_false, decide_eq_false_iff_not, if_true, if_false, ite_true, ite_false, eq_self, not_true, not_false_eq_true, C_95, C_96, C_97, C_99, C_100, C_102, C_106, C_107, C_109, C_168, C_171, C_172, C_173, C_174, C_175, yu_ne, yu_eq, up_eq, up_ne, yur_ne, yur_eq, yu_uu, y1_eq, y1_ne, y1_y1, Nat.mul_zero, Nat.zero_mul, Nat.add_zero, Nat.zero_add, Nat.mul_one, Nat.one_mul, Nat.reduceEqDiff, Nat.reduceLT, Nat.reduceLeDiff, Nat.reduceAdd, Nat.reduceMul, decide_true, decide_false, cond_true, cond_false, reduceCtorEq, Bool.false_eq_true, Bool.true_eq_false, Bool.true_and, Bool.and_true, Bool.false_and, Bool.and_false, r137_1, r137_11, k1, Option.elim_some]
  refine loopP (fun i o => ∃ f', o = RUN 165 20 [some (.ref 137), some (.int (nI i))] [] (st μ f' l r) ∧ (∀ a, ¬ (137 ≤ a ∧ a ≤ 147) → f' a = f a) ∧ f' 137 0 = nI 0 ∧ (∀ j, j < i → ∀ w, w < LEN j → f' (138 + j) w = f (kb + 1 + j) w)) (fun o => ∃ f', o = some (.inl (some (.int (nI (c' 6)))), st μ f' l r) ∧ f' 137 0 = nI 0 ∧ (∀ a, ¬ (137 ≤ a ∧ a ≤ 147) → f' a = f a) ∧ MR f' c' S') 10 ?_ ?_ 0 _ (by decide) ⟨_, rfl, fun a ha => yu_ne (by omega), by rw [yu_eq, up_eq], fun j hj => absurd hj (Nat.not_lt_zero j)⟩
  · rintro o ⟨f', rfl, h1, h2, h3⟩
    have hm3 : MR f' c' S' := by
      rw [← MRk_now]
      exact MRk_cp hm2 h3
    have L6 : f' 138 6 = nI (c' 6) := hm3.1 6 (by decide)
    rw [B_165_20]
    simp (disch := omega) only [st_I, st_L, st_R, st_S, st_N, st_C, st_Z, st_X, st_D, st_st, st_sI, st_sIr, st_sL, st_sR, gfI_st, gfL_st, gfR_st, gfN_st, pfI_st, pfL_st, pfR_st, pfZ_st0, pfZ_st1, ldI_st, ldL_st, stoI_st, stoL_st, aln_st, cpA_st, bq_st, bq_S, oI_s, oL_s, oD_s, oV_s, oR_s, oR_n, oI_e, oL_e, oD_e, Option.bind_some, fa_lit, fa_litL, nI_add, pk_mul, nI_m1, nI_lt', nI_le', nI_eq', lc_ge, lc_le, lc_gt, lc_lt, lc_eq, isZ_0, isZ_1, bI_0, bI_z, decide_eq_true_eq, Bool.not_eq_true', Bool.not_true, Bool.not_false, decide_eq_false_iff_not, if_true, if_false, ite_true, ite_false, eq_self, not_true, not_false_eq_true, C_95, C_96, C_97, C_99, C_100, C_102, C_106, C_107, C_109, C_168, C_171, C_172, C_173, C_174, C_175, yu_ne, yu_eq, up_eq, up_ne, yur_ne, yur_eq, yu_uu, y1_eq, y1_ne, y1_y1, Nat.mul_zero, Nat.zero_mul, Nat.add_zero, Nat.zero_add, Nat.mul_one, Nat.one_mul, Nat.reduceEqDiff, Nat.reduceLT, Nat.reduceLeDiff, Nat.reduceAdd, Nat.reduceMul, decide_true, decide_false, cond_true, cond_false, reduceCtorEq, Bool.false_eq_true, Bool.true_eq_false, Bool.true_and, Bool.and_true, Bool.false_and, Bool.and_false, r137_1, r137_11, h148b, Nat.le_refl, L6]
    exact ⟨_, rfl, h2, h1, hm3⟩
  · rintro i o hi ⟨f', rfl, h1, h2, h3⟩
    have hi' : ¬ 10 ≤ i := by omega
    have s1 := hs (138 + i) (by omega)
    rw [sh138 hi] at s1
    have s1a : (mS μ (138 + i)).1 = 20 := by rw [s1]
    have s1b : (mS μ (138 + i)).2 = LEN i := by rw [s1]
    obtain ⟨k6, k7⟩ := k5 i hi
    have s2a : (mS μ (kb + 1 + i)).1 = 20 := by rw [k7]
    have s2b : (mS μ (kb + 1 + i)).2 = LEN i := by rw [k7]
    have hl := LEN_le hi
    have x1 : ldR (st μ f' l r) 148 (nI i) = some (138 + i) := by rw [ldR_st (by omega) (by omega) (by omega), r148 hr hi]
    have x2 : ldR (st μ f' l r) kb (nI i) = some (kb + 1 + i) := by rw [ldR_st (by omega) (by omega) (by omega), k6]
    have x3 : cpA (st μ f' l r) (kb + 1 + i) (nI 0) (138 + i) (nI 0) (nI (LEN i)) = some (st μ (u2r f' (138 + i) (cpF (f' (kb + 1 + i)) (f' (138 + i)) 0 0 (LEN i))) l r) := cpA_st (by omega) (by omega) (by omega) (by omega) (by omega) (by omega)
    right
    rw [B_165_20]
    simp (disch := omega) only [st_I, st_L, st_R, st_S, st_N, st_C, st_Z, st_X, st_D, st_st, st_sI, st_sIr, st_sL, st_sR, gfI_st, gfL_st, gfR_st, gfN_st, pfI_st, pfL_st, pfR_st, pfZ_st0, pfZ_st1, ldI_st, ldL_st, stoI_st, stoL_st, aln_st, cpA_st, bq_st, bq_S, oI_s, oL_s, oD_s, oV_s, oR_s, oR_n, oI_e, oL_e, oD_e, Option.bind_some, fa_lit, fa_litL, nI_add, pk_mul, nI_m1, nI_lt', nI_le', nI_eq', lc_ge, lc_le, lc_gt, lc_lt, lc_eq, isZ_0, isZ_1, bI_0, bI_z, decide_eq_true_eq, Bool.not_eq_true', Bool.not_true, Bool.not_false, decide_eq_false_iff_not, if_true, if_false, ite_true, ite_false, eq_self, not_true, not_false_eq_true, C_95, C_96, C_97, C_99, C_100, C_102, C_106, C_107, C_109, C_168, C_171, C_172, C_173, C_174, C_175, yu_ne, yu_eq, up_eq, up_ne, yur_ne, yur_eq, yu_uu, y1_eq, y1_ne, y1_y1, Nat.mul_zero, Nat.zero_mul, Nat.add_zero, Nat.zero_add, Nat.mul_one, Nat.one_mul, Nat.reduceEqDiff, Nat.reduceLT, Nat.reduceLeDiff, Nat.reduceAdd, Nat.reduceMul, decide_true, decide_false, cond_true, cond_false, reduceCtorEq, Bool.false_eq_true, Bool.true_eq_false, Bool.true_and, Bool.and_true, Bool.false_and, Bool.and_false, r137_1, r137_11, hi', h148b, x1, k1, Option.elim_some, x2, s1b, x3]
    refine ⟨_, rfl, fun a ha => ?_, ?_, fun j hj w hw => ?_⟩
    · rw [yur_ne (by omega), h1 a ha]
    · rw [yur_ne (by omega), h2]
    · rcases Nat.lt_or_ge j i with q | q
      · rw [yur_ne (by omega), h3 j q w hw]
      · have : j = i := by omega
        subst this
        rw [yur_eq, cpF_0 hw, h1 (kb + 1 + j) (by omega)]
theorem C_165n {μ : mMu} {f : Nat → Nat → Int32} {l : Nat → Nat → Int64} {r : Nat → Nat → Option Nat} (hs : Sh μ) (hr : Rf r) {c : Nat → Nat} {S : Nat → Nat → Nat → Int32} (hm : MR f c S) (hc : CB c) (hk : r 137 12 = none) : CALL 165 [.ref 137] (st μ f l r) = some (.inl (some (.int (nI 0))), st μ (u2 f 137 0 (nI 1)) l r) := by
  have h137a : (mS μ 137).1 = 9 := by rw [hs 137 (by decide)]; rfl
  rw [B_165_0]
  simp (disch := omega) only [st_I, st_L, st_R, st_S, st_N, st_C, st_Z, st_X, st_D, st_st, st_sI, st_sIr, st_sL, st_sR, gfI_st, gfL_st, gfR_st, gfN_st, pfI_st, pfL_st, pfR_st, pfZ_st0, pfZ_st1, ldI_st, ldL_st, stoI_st, stoL_st, aln_st, cpA_st, bq_st, bq_S, oI_s, oL_s, oD_s, oV_s, oR_s, oR_n, oI_e, oL_e, oD_e, Option.bind_some, fa_lit, fa_litL, nI_add, pk_mul, nI_m1, nI_lt', nI_le', nI_eq', lc_ge, lc_le, lc_gt, lc_lt, lc_eq, isZ_0, isZ_1, bI_0, bI_z, decide_eq_true_eq, Bool.not_eq_true', Bool.not_true, Bool.not_false, decide_eq_false_iff_not, if_true, if_false, ite_true, ite_false, eq_self, not_true, not_false_eq_true, C_95, C_96, C_97, C_99, C_100, C_102, C_106, C_107, C_109, C_168, C_171, C_172, C_173, C_174, C_175, yu_ne, yu_eq, up_eq, up_ne, yur_ne, yur_eq, yu_uu, y1_eq, y1_ne, y1_y1, Nat.mul_zero, Nat.zero_mul, Nat.add_zero, Nat.zero_add, Nat.mul_one, Nat.one_mul, Nat.reduceEqDiff, Nat.reduceLT, Nat.reduceLeDiff, Nat.reduceAdd, Nat.reduceMul, decide_true, decide_false, cond_true, cond_false, reduceCtorEq, Bool.false_eq_true, Bool.true_eq_false, Bool.true_and, Bool.and_true, Bool.false_and, Bool.and_false, hk, Option.elim_none, C_105 hs hr]
def Fr (m m' : mMu) (k z : Nat) : Prop := mN m ≤ mN m' ∧ (∀ a, a < mN m → mS m' a = mS m a ∧ mD m' a = mD m a) ∧ (∀ a, (a < 137 ∨ a = 152 ∨ a = 153) → mI m' a = mI m a ∧ mL m' a = mL m a ∧ mR m' a = mR m a) ∧ mC m' ≤ mC m + k ∧ mZ m' ≤ mZ m + z ∧ mX m' = mX m
theorem Fr_Al {m m' : mMu} {k z : Nat} (hN : 154 ≤ mN m) (h : Al m m' k z) : Fr m m' k z := by
  obtain ⟨h1, h2, h3, h4, h5, h6⟩ := h
  refine ⟨h1, fun a ha => ⟨(h2 a ha).1, (h2 a ha).2.1⟩, fun a ha => ?_, h4, h5, h6⟩
  obtain ⟨g1, g2, g3, g4, g5⟩ := h2 a (by omega)
  exact ⟨g4 (by omega), g5 (by omega), g3 (by omega)⟩
theorem Fr_tr {m m' m'' : mMu} {k z k' z' : Nat} (h : Fr m m' k z) (h' : Fr m' m'' k' z') : Fr m m'' (k + k') (z + z') := by
  obtain ⟨h1, h2, h3, h4, h5, h6⟩ := h
  obtain ⟨g1, g2, g3, g4, g5, g6⟩ := h'
  exact ⟨by omega, fun a ha => ⟨((g2 a (by omega)).1).trans (h2 a ha).1, ((g2 a (by omega)).2).trans (h2 a ha).2⟩, fun a ha => ⟨((g3 a ha).1).trans (h3 a ha).1, ((g3 a ha).2.1).trans (h3 a ha).2.1, ((g3 a ha).2.2).trans (h3 a ha).2.2⟩, by omega, by omega, g6.trans h6⟩
theorem Fr_le {m m' : mMu} {k z k' z' : Nat} (h : Fr m m' k z) (hk : k ≤ k') (hz : z ≤ z') : Fr m m' k' z' := ⟨h.1, h.2.1, h.2.2.1, by have := h.2.2.2.1; omega, by have := h.2.2.2.2.1; omega, h.2.2.2.2.2⟩
def nwt (μ : mMu) (tag n : Nat) : mMu := mNew μ (tag, n) n
theorem nwt_S {μ : mMu} {t n a : Nat} (h : a ≠ mN μ) : mS (nwt μ t n) a = mS μ a := by
  show u1 (mS μ) (mN μ) (t, n) a = _
  exact y1_ne h
theorem nwt_S1 {μ : mMu} {t n : Nat} : mS (nwt μ t n) (mN μ) = (t, n) := by
  show u1 (mS μ) (mN μ) (t, n) (mN μ) = _
  rw [y1_eq]
theorem nwt_N {μ : mMu} {t n : Nat} : mN (nwt μ t n) = mN μ + 1 := rfl
theorem nwt_D {μ : mMu} {t n a : Nat} (h : a ≠ mN μ) : mD (nwt μ t n) a = mD μ a := by
  show u2r (mD μ) (mN μ) (fun _ => 0) a = _
  exact yur_ne h
theorem nwtA {μ : mMu} {f : Nat → Nat → Int32} {l : Nat → Nat → Int64} {r : Nat → Nat → Option Nat} {t n : Nat} (hn : n < 65536) : nwA (st μ f l r) t (nI n) = some (st (nwt μ t n) (u2r f (mN μ) (fun _ => nI 0)) (u2r l (mN μ) (fun _ => lN 0)) (u2r r (mN μ) (fun _ => none))) := by
  unfold nwA
  rw [inb_ok hn (by decide), ix_nI (by omega)]
  rfl
theorem C_164 {μ : mMu} {f : Nat → Nat → Int32} {l : Nat → Nat → Int64} {r : Nat → Nat → Option Nat} (hs : Sh μ) (hr : Rf r) {c : Nat → Nat} {S : Nat → Nat → Nat → Int32} (hm : MR f c S) (hc : CB c) (hN : 154 ≤ mN μ) (hk : r 137 12 = none ∨ ∃ kb, KS μ r kb) : ∃ μ' f' l' r' kb, CALL 164 [.ref 137] (st μ f l r) = some (.inl (some (.int (nI (c 6)))), st μ' f' l' r') ∧ Sh μ' ∧ Rf r' ∧ 154 ≤ mN μ' ∧ KS μ' r' kb ∧ MR f' c S ∧ MRk f' (kb + 1) c S ∧ Fr (st μ f l r) (st μ' f' l' r') 11 4810 := by
  have h137a : (mS μ 137).1 = 9 := by rw [hs 137 (by decide)]; rfl
  have h138a : (mS μ 138).1 = 20 := by rw [hs 138 (by decide)]; rfl
  have h138b : (mS μ 138).2 = 15 := by rw [hs 138 (by decide)]; rfl
  have h148a : (mS μ 148).1 = 24 := by rw [hs 148 (by decide)]; rfl
  have h148b : (mS μ 148).2 = 10 := by rw [hs 148 (by decide)]; rfl
  have r137_1 : r 137 1 = some 138 := hr 137 1 138 rfl
  have r137_11 : r 137 11 = some 148 := hr 137 11 148 rfl
  have hend : ∀ (μ : mMu) (f' : Nat → Nat → Int32) (l : Nat → Nat → Int64) (r : Nat → Nat → Option Nat), Sh μ → Rf r → MR f' c S → RUN 164 58 [some (.ref 137), some (.int (nI 10))] [] (st μ f' l r) = some (.inl (some (.int (nI (c 6)))), st μ f' l r) := by
    intro μ f' l r hs hr hm'
    have h137a : (mS μ 137).1 = 9 := by rw [hs 137 (by decide)]; rfl
    have h138a : (mS μ 138).1 = 20 := by rw [hs 138 (by decide)]; rfl
    have h138b : (mS μ 138).2 = 15 := by rw [hs 138 (by decide)]; rfl
    have h148a : (mS μ 148).1 = 24 := by rw [hs 148 (by decide)]; rfl
    have h148b : (mS μ 148).2 = 10 := by rw [hs 148 (by decide)]; rfl
    have r137_1 : r 137 1 = some 138 := hr 137 1 138 rfl
    have r137_11 : r 137 11 = some 148 := hr 137 11 148 rfl
    have L6 : f' 138 6 = nI (c 6) := hm'.1 6 (by decide)
    rw [B_164_58]
    simp (disch := omega) only [st_I, st_L, st_R, st_S, st_N, st_C, st_Z, st_X, st_D, st_st, st_sI, st_sIr, st_sL, st_sR, gfI_st, gfL_st, gfR_st, gfN_st, pfI_st, pfL_st, pfR_st, pfZ_st0, pfZ_st1, ldI_st, ldL_st, stoI_st, stoL_st, aln_st, cpA_st, bq_st, bq_S, oI_s, oL_s, oD_s, oV_s, oR_s, oR_n, oI_e, oL_e, oD_e, Option.bind_some, fa_lit, fa_litL, nI_add, pk_mul, nI_m1, nI_lt', nI_le', nI_eq', lc_ge, lc_le, lc_gt, lc_lt, lc_eq, isZ_0, isZ_1, bI_0, bI_z, decide_eq_true_eq, Bool.not_eq_true', Bool.not_true, Bool.not_false, decide_eq_false_iff_not, if_true, if_false, ite_true, ite_false, eq_self, not_true, not_false_eq_true, C_95, C_96, C_97, C_99, C_100, C_102, C_106, C_107, C_109, C_168, C_171, C_172, C_173, C_174, C_175, yu_ne, yu_eq, up_eq, up_ne, yur_ne, yur_eq, yu_uu, y1_eq, y1_ne, y1_y1, Nat.mul_zero, Nat.zero_mul, Nat.add_zero, Nat.zero_add, Nat.mul_one, Nat.one_mul, Nat.reduceEqDiff, Nat.reduceLT, Nat.reduceLeDiff, Nat.reduceAdd, Nat.reduceMul, decide_true, decide_false, cond_true, cond_false, reduceCtorEq, Bool.false_eq_true, Bool.true_eq_false, Bool.true_and, Bool.and_true, Bool.false_and, Bool.and_false, r137_1, r137_11, r137_1, r137_11, h148b, Nat.le_refl, L6]
  rw [B_164_0]
  rcases hk with hk | ⟨kb, hk⟩
  · simp (disch := omega) only [st_I, st_L, st_R, st_S, st_N, st_C, st_Z, st_X, st_D, st_st, st_sI, st_sIr, st_sL, st_sR, gfI_st, gfL_st, gfR_st, gfN_st, pfI_st, pfL_st, pfR_st, pfZ_st0, pfZ_st1, ldI_st, ldL_st, stoI_st, stoL_st, aln_st, cpA_st, bq_st, bq_S, oI_s, oL_s, oD_s, oV_s, oR_s, oR_n, oI_e, oL_e, oD_e, Option.bind_some, fa_lit, fa_litL, nI_add, pk_mul, nI_m1, nI_lt', nI_le', nI_eq', lc_ge, lc_le, lc_gt, lc_lt, lc_eq, isZ_0, isZ_1, bI_0, bI_z, decide_eq_true_eq, Bool.not_eq_true', Bool.not_true, Bool.not_false, decide_eq_false_iff_not, if_true, if_false, ite_true, ite_false, eq_self, not_true, not_false_eq_true, C_95, C_96, C_97, C_99, C_100, C_102, C_106, C_107, C_109, C_168, C_171, C_172, C_173, C_174, C_175, yu_ne, yu_eq, up_eq, up_ne, yur_ne, yur_eq, yu_uu, y1_eq, y1_ne, y1_y1, Nat.mul_zero, Nat.zero_mul, Nat.add_zero, Nat.zero_add, Nat.mul_one, Nat.one_mul, Nat.reduceEqDiff, Nat.reduceLT, Nat.reduceLeDiff, Nat.reduceAdd, Nat.reduceMul, decide_true, decide_false, cond_true, cond_false, reduceCtorEq, Bool.false_eq_true, Bool.true_eq_false, Bool.true_and, Bool.and_true, Bool.false_and, Bool.and_false, r137_1, r137_11, r137_1, r137_11, hk, Option.elim_none, h148b, nwtA]
    generalize hkb : mN μ = kb at hN
    have hs1 : Sh (nwt μ 24 10) := fun a ha => (nwt_S (by omega)).trans (hs a ha)
    have q137 : (mS (nwt μ 24 10) 137).1 = 9 := by rw [nwt_S (by omega)]; exact h137a
    simp (disch := omega) only [st_I, st_L, st_R, st_S, st_N, st_C, st_Z, st_X, st_D, st_st, st_sI, st_sIr, st_sL, st_sR, gfI_st, gfL_st, gfR_st, gfN_st, pfI_st, pfL_st, pfR_st, pfZ_st0, pfZ_st1, ldI_st, ldL_st, stoI_st, stoL_st, aln_st, cpA_st, bq_st, bq_S, oI_s, oL_s, oD_s, oV_s, oR_s, oR_n, oI_e, oL_e, oD_e, Option.bind_some, fa_lit, fa_litL, nI_add, pk_mul, nI_m1, nI_lt', nI_le', nI_eq', lc_ge, lc_le, lc_gt, lc_lt, lc_eq, isZ_0, isZ_1, bI_0, bI_z, decide_eq_true_eq, Bool.not_eq_true', Bool.not_true, Bool.not_false, decide_eq_false_iff_not, if_true, if_false, ite_true, ite_false, eq_self, not_true, not_false_eq_true, C_95, C_96, C_97, C_99, C_100, C_102, C_106, C_107, C_109, C_168, C_171, C_172, C_173, C_174, C_175, yu_ne, yu_eq, up_eq, up_ne, yur_ne, yur_eq, yu_uu, y1_eq, y1_ne, y1_y1, Nat.mul_zero, Nat.zero_mul, Nat.add_zero, Nat.zero_add, Nat.mul_one, Nat.one_mul, Nat.reduceEqDiff, Nat.reduceLT, Nat.reduceLeDiff, Nat.reduceAdd, Nat.reduceMul, decide_true, decide_false, cond_true, cond_false, reduceCtorEq, Bool.false_eq_true, Bool.true_eq_false, Bool.true_and, Bool.and_true, Bool.false_and, Bool.and_false, r137_1, r137_11, r137_1, r137_11]
    refine loopP (fun i o => ∃ μ' f' l' r', o = RUN 164 26 [some (.ref 137), some (.int (nI i))] [] (st μ' f' l' r') ∧ Sh μ' ∧ mN μ' = kb + 1 + i ∧ mS μ' kb = (24, 10) ∧ r' 137 12 = some kb ∧ (∀ j, j < i → r' kb j = some (kb + 1 + j) ∧ mS μ' (kb + 1 + j) = (20, LEN j)) ∧ (∀ a, a < kb → mS μ' a = mS μ a ∧ mD μ' a = mD μ a ∧ l' a = l a ∧ (a ≠ 137 → f' a = f a ∧ r' a = r a)) ∧ (∀ j, j ≠ 12 → r' 137 j = r 137 j) ∧ mC μ' = mC μ + 1 + i ∧ mZ μ' ≤ mZ μ + 10 + 480 * i ∧ mX μ' = mX μ) (fun o => ∃ μ' f' l' r' kb, o = some (.inl (some (.int (nI (c 6)))), st μ' f' l' r') ∧ Sh μ' ∧ Rf r' ∧ 154 ≤ mN μ' ∧ KS μ' r' kb ∧ MR f' c S ∧ MRk f' (kb + 1) c S ∧ Fr (st μ f l r) (st μ' f' l' r') 11 4810) 10 ?_ ?_ 0 _ (by decide) ?_
    · rintro o ⟨μ', f', l', r', rfl, a1, a2, a3, a4, a5, a6, a7, a8, a9, a10⟩
      have hr' : Rf r' := fun a j v hv => by
        have ha := RT_lt hv
        by_cases q : a = 137
        · subst q
          by_cases q2 : j = 12
          · subst q2
            have h12 : RT 137 12 = none := rfl
            rw [h12] at hv; cases hv
          · rw [a7 j q2]; exact hr _ _ _ hv
        · rw [((a6 a (by omega)).2.2.2 q).2]; exact hr _ _ _ hv
      have hks : KS μ' r' kb := ⟨a4, hN, by omega, a3, a5⟩
      have hm' : MR f' c S := MR_congr hm fun a q1 q2 => ((a6 a (by omega)).2.2.2 (by omega)).1
      have r11' : r' 137 11 = some 148 := hr' 137 11 148 rfl
      have h137na : (mS μ' 137).1 = 9 := by rw [a1 137 (by decide)]; rfl
      have h148na : (mS μ' 148).1 = 24 := by rw [a1 148 (by decide)]; rfl
      have h148nb : (mS μ' 148).2 = 10 := by rw [a1 148 (by decide)]; rfl
      rw [B_164_26]
      simp (disch := omega) only [st_I, st_L, st_R, st_S, st_N, st_C, st_Z, st_X, st_D, st_st, st_sI, st_sIr, st_sL, st_sR, gfI_st, gfL_st, gfR_st, gfN_st, pfI_st, pfL_st, pfR_st, pfZ_st0, pfZ_st1, ldI_st, ldL_st, stoI_st, stoL_st, aln_st, cpA_st, bq_st, bq_S, oI_s, oL_s, oD_s, oV_s, oR_s, oR_n, oI_e, oL_e, oD_e, Option.bind_some, fa_lit, fa_litL, nI_add, pk_mul, nI_m1, nI_lt', nI_le', nI_eq', lc_ge, lc_le, lc_gt, lc_lt, lc_eq, isZ_0, isZ_1, bI_0, bI_z, decide_eq_true_eq, Bool.not_eq_true', Bool.not_true, Bool.not_false, decide_eq_false_iff_not, if_true, if_false, ite_true, ite_false, eq_self, not_true, not_false_eq_true, C_95, C_96, C_97, C_99, C_100, C_102, C_106, C_107, C_109, C_168, C_171, C_172, C_173, C_174, C_175, yu_ne, yu_eq, up_eq, up_ne, yur_ne, yur_eq, yu_uu, y1_eq, y1_ne, y1_y1, Nat.mul_zero, Nat.zero_mul, Nat.add_zero, Nat.zero_add, Nat.mul_one, Nat.one_mul, Nat.reduceEqDiff, Nat.reduceLT, Nat.reduceLeDiff, Nat.reduceAdd, Nat.reduceMul, decide_true, decide_false, cond_true, cond_false, reduceCtorEq, Bool.false_eq_true, Bool.true_eq_false, Bool.true_and, Bool.and_true, Bool.false_and, Bool.and_false, r137_1, r137_11, r137_1, r137_11, r11', h148nb, Nat.le_refl]
      refine K_copy a1 hr' hks (Q := fun o => ∃ μ' f' l' r' kb, o = some (.inl (some (.int (nI (c 6)))), st μ' f' l' r') ∧ Sh μ' ∧ Rf r' ∧ 154 ≤ mN μ' ∧ KS μ' r' kb ∧ MR f' c S ∧ MRk f' (kb + 1) c S ∧ Fr (st μ f l r) (st μ' f' l' r') 11 4810) fun f2 b1 b2 => ?_
      have hm2 : MR f2 c S := MR_congr hm' fun a q1 q2 => b1 a (by omega)
      have hm3 : MRk f2 (kb + 1) c S := MRk_cp (a := 138) (by rw [MRk_now]; exact hm') b2
      refine ⟨μ', f2, l', r', kb, hend _ _ _ _ a1 hr' hm2, a1, hr', by omega, hks, hm2, hm3, by show mN μ ≤ mN μ'; omega, fun a ha => ?_, fun a ha => ?_, by show mC μ' ≤ mC μ + 11; omega, by show mZ μ' ≤ mZ μ + 4810; omega, a10⟩
      · have ha' : a < mN μ := ha
        obtain ⟨g1, g2, g3, g4⟩ := a6 a (by omega)
        exact ⟨g1, g2⟩
      · obtain ⟨g1, g2, g3, g4⟩ := a6 a (by omega)
        obtain ⟨g5, g6⟩ := g4 (by omega)
        refine ⟨?_, g3, g6⟩
        show f2 a = f a
        rw [b1 a (by omega), g5]
    · rintro i o hi ⟨μ', f', l', r', rfl, a1, a2, a3, a4, a5, a6, a7, a8, a9, a10⟩
      have hi' : ¬ 10 ≤ i := by omega
      have hl := LEN_le hi
      have r11' : r' 137 11 = some 148 := by rw [a7 11 (by decide)]; exact r137_11
      have rj' : r' 148 i = some (138 + i) := by rw [((a6 148 (by omega)).2.2.2 (by decide)).2]; exact r148 hr hi
      have s1 := a1 (138 + i) (by omega)
      rw [sh138 hi] at s1
      have s1a : (mS μ' (138 + i)).1 = 20 := by rw [s1]
      have s1b : (mS μ' (138 + i)).2 = LEN i := by rw [s1]
      have h137na : (mS μ' 137).1 = 9 := by rw [a1 137 (by decide)]; rfl
      have h148na : (mS μ' 148).1 = 24 := by rw [a1 148 (by decide)]; rfl
      have h148nb : (mS μ' 148).2 = 10 := by rw [a1 148 (by decide)]; rfl
      have x1 : ldR (st μ' f' l' r') 148 (nI i) = some (138 + i) := by rw [ldR_st (by omega) (by omega) (by omega), rj']
      have hs2 : Sh (nwt μ' 20 (LEN i)) := fun a ha => (nwt_S (by omega)).trans (a1 a ha)
      have k3a : (mS (nwt μ' 20 (LEN i)) kb).1 = 24 := by rw [nwt_S (by omega), a3]
      have k3b : (mS (nwt μ' 20 (LEN i)) kb).2 = 10 := by rw [nwt_S (by omega), a3]
      have k3c : (mS (nwt μ' 20 (LEN i)) (kb + 1 + i)).1 = 20 := by rw [← a2, nwt_S1]
      have x2 : ∀ f l r, stoR (st (nwt μ' 20 (LEN i)) f l r) kb (nI i) (kb + 1 + i) = some (st (nwt μ' 20 (LEN i)) f l (u2 r kb i (some (kb + 1 + i)))) := fun f l r => stoR_st2 k3a k3c (by omega) (by omega)
      right
      rw [B_164_26]
      simp (disch := omega) only [st_I, st_L, st_R, st_S, st_N, st_C, st_Z, st_X, st_D, st_st, st_sI, st_sIr, st_sL, st_sR, gfI_st, gfL_st, gfR_st, gfN_st, pfI_st, pfL_st, pfR_st, pfZ_st0, pfZ_st1, ldI_st, ldL_st, stoI_st, stoL_st, aln_st, cpA_st, bq_st, bq_S, oI_s, oL_s, oD_s, oV_s, oR_s, oR_n, oI_e, oL_e, oD_e, Option.bind_some, fa_lit, fa_litL, nI_add, pk_mul, nI_m1, nI_lt', nI_le', nI_eq', lc_ge, lc_le, lc_gt, lc_lt, lc_eq, isZ_0, isZ_1, bI_0, bI_z, decide_eq_true_eq, Bool.not_eq_true', Bool.not_true, Bool.not_false, decide_eq_false_iff_not, if_true, if_false, ite_true, ite_false, eq_self, not_true, not_false_eq_true, C_95, C_96, C_97, C_99, C_100, C_102, C_106, C_107, C_109, C_168, C_171, C_172, C_173, C_174, C_175, yu_ne, yu_eq, up_eq, up_ne, yur_ne, yur_eq, yu_uu, y1_eq, y1_ne, y1_y1, Nat.mul_zero, Nat.zero_mul, Nat.add_zero, Nat.zero_add, Nat.mul_one, Nat.one_mul, Nat.reduceEqDiff, Nat.reduceLT, Nat.reduceLeDiff, Nat.reduceAdd, Nat.reduceMul, decide_true, decide_false, cond_true, cond_false, reduceCtorEq, Bool.false_eq_true, Bool.true_eq_false, Bool.true_and, Bool.and_true, Bool.false_and, Bool.and_false, r137_1, r137_11, r137_1, r137_11, r11', h148nb, hi', a4, Option.elim_some, x1, s1b, nwtA, a2, x2]
      refine ⟨_, _, _, _, rfl, hs2, by rw [nwt_N, a2]; omega, by rw [nwt_S (by omega), a3], ?_, fun j hj => ?_, fun a ha => ?_, fun j hj => ?_, ?_, ?_, ?_⟩
      · rw [yu_ne (by omega), yur_ne (by omega), a4]
      · rcases Nat.lt_or_ge j i with q | q
        · rw [yu_eq, up_ne (by omega), yur_ne (by omega), nwt_S (by omega)]
          exact a5 j q
        · have : j = i := by omega
          subst this
          rw [yu_eq, up_eq]
          exact ⟨rfl, by rw [← a2, nwt_S1]⟩
      · obtain ⟨g1, g2, g3, g4⟩ := a6 a ha
        refine ⟨by rw [nwt_S (by omega), g1], by rw [nwt_D (by omega), g2], by rw [yur_ne (by omega), g3], fun q => ?_⟩
        obtain ⟨g5, g6⟩ := g4 q
        exact ⟨by rw [yur_ne (by omega), g5], by rw [yu_ne (by omega), yur_ne (by omega), g6]⟩
      · rw [yu_ne (by omega), yur_ne (by omega), a7 j hj]
      · show mC μ' + 1 = _
        omega
      · show mZ μ' + LEN i ≤ _
        omega
      · exact a10
    · refine ⟨_, _, _, _, rfl, hs1, by rw [nwt_N]; omega, by rw [← hkb, nwt_S1], ?_, fun j hj => absurd hj (Nat.not_lt_zero j), fun a ha => ?_, fun j hj => ?_, rfl, Nat.le_refl _, rfl⟩
      · rw [yu_eq, up_eq]
      · refine ⟨nwt_S (by omega), nwt_D (by omega), by rw [yur_ne (by omega)], fun q => ⟨by rw [yur_ne (by omega), yu_ne q], by rw [yu_ne q, yur_ne (by omega)]⟩⟩
      · rw [yu_eq, up_ne hj, yur_ne (by omega)]
  · simp (disch := omega) only [st_I, st_L, st_R, st_S, st_N, st_C, st_Z, st_X, st_D, st_st, st_sI, st_sIr, st_sL, st_sR, gfI_st, gfL_st, gfR_st, gfN_st, pfI_st, pfL_st, pfR_st, pfZ_st0, pfZ_st1, ldI_st, ldL_st, stoI_st, stoL_st, aln_st, cpA_st, bq_st, bq_S, oI_s, oL_s, oD_s, oV_s, oR_s, oR_n, oI_e, oL_e, oD_e, Option.bind_some, fa_lit, fa_litL, nI_add, pk_mul, nI_m1, nI_lt', nI_le', nI_eq', lc_ge, lc_le, lc_gt, lc_lt, lc_eq, isZ_0, isZ_1, bI_0, bI_z, decide_eq_true_eq, Bool.not_eq_true', Bool.not_true, Bool.not_false, decide_eq_false_iff_not, if_true, if_false, ite_true, ite_false, eq_self, not_true, not_false_eq_true, C_95, C_96, C_97, C_99, C_100, C_102, C_106, C_107, C_109, C_168, C_171, C_172, C_173, C_174, C_175, yu_ne, yu_eq, up_eq, up_ne, yur_ne, yur_eq, yu_uu, y1_eq, y1_ne, y1_y1, Nat.mul_zero, Nat.zero_mul, Nat.add_zero, Nat.zero_add, Nat.mul_one, Nat.one_mul, Nat.reduceEqDiff, Nat.reduceLT, Nat.reduceLeDiff, Nat.reduceAdd, Nat.reduceMul, decide_true, decide_false, cond_true, cond_false, reduceCtorEq, Bool.false_eq_true, Bool.true_eq_false, Bool.true_and, Bool.and_true, Bool.false_and, Bool.and_false, r137_1, r137_11, r137_1, r137_11, hk.1, Option.elim_some]
    have hm0 : MR (u2 f 137 0 (nI 0)) c S := MR_137 hm
    refine K_copy hs hr hk (Q := fun o => ∃ μ' f' l' r' kb, o = some (.inl (some (.int (nI (c 6)))), st μ' f' l' r') ∧ Sh μ' ∧ Rf r' ∧ 154 ≤ mN μ' ∧ KS μ' r' kb ∧ MR f' c S ∧ MRk f' (kb + 1) c S ∧ Fr (st μ f l r) (st μ' f' l' r') 11 4810) fun f2 b1 b2 => ?_
    have hkk := hk.2.1
    have hm2 : MR f2 c S := MR_congr hm0 fun a q1 q2 => b1 a (by omega)
    have hm3 : MRk f2 (kb + 1) c S := MRk_cp (a := 138) (by rw [MRk_now]; exact hm0) b2
    refine ⟨μ, f2, l, r, kb, hend _ _ _ _ hs hr hm2, hs, hr, hN, hk, hm2, hm3, Nat.le_refl _, fun a ha => ⟨rfl, rfl⟩, fun a ha => ⟨?_, rfl, rfl⟩, Nat.le_add_right _ _, Nat.le_add_right _ _, rfl⟩
    show f2 a = f a
    rw [b1 a (by omega), yu_ne (by omega)]
