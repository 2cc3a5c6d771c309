/-! ===== the class: what its cells say ===== -/
def CSc (f : Nat → Nat → Int32) (s : Nat) (c : Nat → Nat) : Prop := f s 5 = nI (c 4) ∧ f s 6 = nI (c 11) ∧ f s 7 = nI (c 12) ∧ f s 8 = nI (c 13) ∧ f s 9 = nI (c 14) ∧ f s 10 = nI (c 6) ∧ f s 11 = nI (c 7) ∧ f s 12 = nI (c 9)
def CCo (f : Nat → Nat → Int32) (s : Nat) (c : Nat → Nat) (S : Nat → Nat → Nat → Int32) : Prop := f (s + 1) 3 = nI (c 0) ∧ (∀ i w, i < c 0 → w < 3 → f (s + 2 + w) i = S 1 i w) ∧ f (s + 5) 4 = nI (c 1) ∧ (∀ i w, i < c 1 → w < 4 → f (s + 6 + w) i = S 2 i w) ∧ f (s + 10) 4 = nI (c 2) ∧ (∀ i w, i < c 2 → w < 4 → f (s + 11 + w) i = S 3 i w) ∧ ∀ x y, x < 20 → y < 20 → f (s + 15) (20 * y + x) = S 4 x y
def CBl (f : Nat → Nat → Int32) (s : Nat) (c : Nat → Nat) (S : Nat → Nat → Nat → Int32) : Prop := (f (s + 16) 6 = nI 1 ∧ 0 < c 3 ∧ f (s + 16) 5 = nI (c 3) ∧ ∀ k w, k < c 3 → w < 5 → f (s + 17 + w) k = S 5 k w) ∨ (f (s + 16) 6 = nI 0 ∧ c 3 = 0 ∧ f (s + 16) 5 = nI (c 10) ∧ ∀ k w, k < c 10 → w < 5 → f (s + 17 + w) k = S 6 k w)
abbrev V7 : Type := Int32 × Int32 × Int32 × Int32 × Int32 × Int32 × Int32
def v7 (R : Nat → Int32) : V7 := (R 0, R 1, R 2, R 3, R 4, R 5, R 6)
def lv (T : Nat → Nat → Int32) (n : Nat) : List V7 := (List.range n).map fun i => v7 (T i)
def CLo (f : Nat → Nat → Int32) (s : Nat) (c : Nat → Nat) (S : Nat → Nat → Nat → Int32) : Prop := f (s + 22) 7 = nI (c 5) ∧ (lv (fun i w => f (s + 23 + w) i) (c 5)).Perm (lv (S 8) (c 5))
def evx (n e : Nat) : Nat := (n - min n 120 + e) % 120
def CEv (f : Nat → Nat → Int32) (s : Nat) (c : Nat → Nat) (S : Nat → Nat → Nat → Int32) : Prop := f (s + 30) 4 = nI (c 8) ∧ ∀ e w, e < min (c 8) 120 → w < 4 → f (s + 31 + w) (evx (c 8) e) = S 9 e w
/-- a track at the end of a sweep -/
def TE (f : Nat → Nat → Int32) (a : Nat) (R : Nat → Int32) : Prop := f a 0 = R 0 ∧ (∀ w, 3 ≤ w → w ≤ 8 → f a w = R w) ∧ f a 10 = R 9 ∧ f (a + 1) 0 = R 1 ∧ f (a + 2) 0 = R 2 ∧ ∀ b, b < 12 → nI b < R 8 → f (a + 1) b = R (14 + 2 * b) ∧ f (a + 2) b = R (14 + 2 * b + 1)
/-- the order of the track objects -/
def CPm (r : Nat → Nat → Option Nat) (s : Nat) (σ : Nat → Nat) : Prop := (∀ t, t < 10 → σ t < 10 ∧ r (s + 35) t = some (s + 36 + 3 * σ t)) ∧ ∀ t u, t < 10 → u < 10 → σ t = σ u → t = u
def CTr (f : Nat → Nat → Int32) (s : Nat) (σ : Nat → Nat) (n : Nat) (T : Nat → Nat → Int32) : Prop := (∀ t, t < n → TE f (s + 36 + 3 * σ t) (T t)) ∧ ∀ u, u < 10 → isZ (f (s + 36 + 3 * u) 11) = true
def CAll (f : Nat → Nat → Int32) (r : Nat → Nat → Option Nat) (s : Nat) (σ : Nat → Nat) (c : Nat → Nat) (S : Nat → Nat → Nat → Int32) : Prop := CSc f s c ∧ CCo f s c S ∧ CBl f s c S ∧ CLo f s c S ∧ CEv f s c S ∧ CPm r s σ ∧ CTr f s σ (c 4) (S 7)
theorem trk_sh {μ : mMu} (hs : Sh μ) {u : Nat} (hu : u < 10) : mS μ (37 + 3 * u) = (7, 0) ∧ mS μ (37 + 3 * u + 1) = (20, 12) ∧ mS μ (37 + 3 * u + 2) = (20, 12) := by
  have key : ∀ u, u < 10 → SH (37 + 3 * u) = (7, 0) ∧ SH (37 + 3 * u + 1) = (20, 12) ∧ SH (37 + 3 * u + 2) = (20, 12) := by decide
  obtain ⟨h1, h2, h3⟩ := key u hu
  exact ⟨by rw [hs _ (by omega), h1], by rw [hs _ (by omega), h2], by rw [hs _ (by omega), h3]⟩
theorem trk_rf {r : Nat → Nat → Option Nat} (hr : Rf r) {u : Nat} (hu : u < 10) : r (37 + 3 * u) 1 = some (37 + 3 * u + 1) ∧ r (37 + 3 * u) 2 = some (37 + 3 * u + 2) := by
  have key : ∀ u, u < 10 → RT (37 + 3 * u) 1 = some (37 + 3 * u + 1) ∧ RT (37 + 3 * u) 2 = some (37 + 3 * u + 2) := by decide
  exact ⟨hr _ _ _ (key u hu).1, hr _ _ _ (key u hu).2⟩
theorem ldT {μ : mMu} {f : Nat → Nat → Int32} {l : Nat → Nat → Int64} {r : Nat → Nat → Option Nat} (hs : Sh μ) (hr : Rf r) {σ : Nat → Nat} (h : CPm r 1 σ) {t : Nat} (ht : t < 10) : ldR (st μ f l r) 36 (nI t) = some (37 + 3 * σ t) := by
  have h36a : (mS μ 36).1 = 23 := by rw [hs 36 (by decide)]; rfl
  have h36b : (mS μ 36).2 = 10 := by rw [hs 36 (by decide)]; rfl
  rw [ldR_st (by omega) (by omega) (by omega)]
  exact (h.1 t ht).2
/-! ===== the class' questions ===== -/
theorem C_2 {μ : mMu} {f : Nat → Nat → Int32} {l : Nat → Nat → Int64} {r : Nat → Nat → Option Nat} (hs : Sh μ) (hr : Rf r) {σ : Nat → Nat} {c : Nat → Nat} {S : Nat → Nat → Nat → Int32} (hC : CAll f r 1 σ c S) (hc : CB c) : CALL 2 [.ref 17] (st μ f l r) = some (.inl (some (.int (nI (c 3)))), st μ f l r) := by
  have h17a : (mS μ 17).1 = 0 := by rw [hs 17 (by decide)]; rfl
  rw [B_2_0]
  rcases hC.2.2.1 with ⟨h1, h2, h3, -⟩ | ⟨h1, h2, h3, -⟩
  · have h1' : f 17 6 = nI 1 := h1
    have h3' : f 17 5 = nI (c 3) := h3
    simp (disch := omega) only [st_I, st_L, st_R, st_S, st_N, st_C, st_Z, st_X, st_D, st_st, st_sI, st_sIr, st_sL, st_sR, gfI_st, gfL_st, gfR_st, gfN_st, pfI_st, pfL_st, pfR_st, pfZ_st0, pfZ_st1, ldI_st, ldL_st, stoI_st, stoL_st, aln_st, cpA_st, bq_st, bq_S, oI_s, oL_s, oD_s, oV_s, oR_s, oR_n, oI_e, oL_e, oD_e, Option.bind_some, fa_lit, fa_litL, nI_add, pk_mul, nI_m1, nI_lt', nI_le', nI_eq', lc_ge, lc_le, lc_gt, lc_lt, lc_eq, isZ_0, isZ_1, bI_0, bI_z, decide_eq_true_eq, Bool.not_eq_true', Bool.not_true, Bool.not_false, decide_eq_false_iff_not, if_true, if_false, ite_true, ite_false, eq_self, not_true, not_false_eq_true, C_80, C_81, C_82, C_84, C_85, C_86, C_94, C_95, C_96, C_97, yu_ne, yu_eq, up_eq, up_ne, yur_ne, yur_eq, yu_uu, y1_eq, y1_ne, y1_y1, Nat.mul_zero, Nat.zero_mul, Nat.add_zero, Nat.zero_add, Nat.mul_one, Nat.one_mul, Nat.reduceEqDiff, Nat.reduceLT, Nat.reduceLeDiff, Nat.reduceAdd, Nat.reduceMul, decide_true, decide_false, cond_true, cond_false, reduceCtorEq, Bool.false_eq_true, Bool.true_eq_false, Bool.true_and, Bool.and_true, Bool.false_and, Bool.and_false, h1', h3']
  · have h1' : f 17 6 = nI 0 := h1
    rw [h2]
    simp (disch := omega) only [st_I, st_L, st_R, st_S, st_N, st_C, st_Z, st_X, st_D, st_st, st_sI, st_sIr, st_sL, st_sR, gfI_st, gfL_st, gfR_st, gfN_st, pfI_st, pfL_st, pfR_st, pfZ_st0, pfZ_st1, ldI_st, ldL_st, stoI_st, stoL_st, aln_st, cpA_st, bq_st, bq_S, oI_s, oL_s, oD_s, oV_s, oR_s, oR_n, oI_e, oL_e, oD_e, Option.bind_some, fa_lit, fa_litL, nI_add, pk_mul, nI_m1, nI_lt', nI_le', nI_eq', lc_ge, lc_le, lc_gt, lc_lt, lc_eq, isZ_0, isZ_1, bI_0, bI_z, decide_eq_true_eq, Bool.not_eq_true', Bool.not_true, Bool.not_false, decide_eq_false_iff_not, if_true, if_false, ite_true, ite_false, eq_self, not_true, not_false_eq_true, C_80, C_81, C_82, C_84, C_85, C_86, C_94, C_95, C_96, C_97, yu_ne, yu_eq, up_eq, up_ne, yur_ne, yur_eq, yu_uu, y1_eq, y1_ne, y1_y1, Nat.mul_zero, Nat.zero_mul, Nat.add_zero, Nat.zero_add, Nat.mul_one, Nat.one_mul, Nat.reduceEqDiff, Nat.reduceLT, Nat.reduceLeDiff, Nat.reduceAdd, Nat.reduceMul, decide_true, decide_false, cond_true, cond_false, reduceCtorEq, Bool.false_eq_true, Bool.true_eq_false, Bool.true_and, Bool.and_true, Bool.false_and, Bool.and_false, h1']
theorem bl_sz {μ : mMu} {f : Nat → Nat → Int32} {l : Nat → Nat → Int64} {r : Nat → Nat → Option Nat} (hs : Sh μ) (hr : Rf r) {σ : Nat → Nat} {c : Nat → Nat} {S : Nat → Nat → Nat → Int32} (hC : CAll f r 1 σ c S) (hc : CB c) : f 17 5 = nI (if 0 < c 3 then c 3 else c 10) ∧ ∀ k w, k < (if 0 < c 3 then c 3 else c 10) → w < 5 → f (18 + w) k = p_tld c S k w := by
  unfold p_tld
  rcases hC.2.2.1 with ⟨h1, h2, h3, h4⟩ | ⟨h1, h2, h3, h4⟩
  · simp only [h2, if_true]
    exact ⟨h3, fun k w hk hw => h4 k w hk hw⟩
  · have : ¬ 0 < c 3 := by omega
    simp only [this, if_false]
    exact ⟨h3, fun k w hk hw => h4 k w hk hw⟩
theorem C_7 {μ : mMu} {f : Nat → Nat → Int32} {l : Nat → Nat → Int64} {r : Nat → Nat → Option Nat} (hs : Sh μ) (hr : Rf r) {σ : Nat → Nat} {c : Nat → Nat} {S : Nat → Nat → Nat → Int32} (hC : CAll f r 1 σ c S) (hc : CB c) {k w : Nat} (hk : k < (if 0 < c 3 then c 3 else c 10)) (hw : w < 5) : CALL 7 [.ref 17, .int (nI k), .int (nI w)] (st μ f l r) = some (.inl (some (.int (p_tld c S k w))), st μ f l r) := by
  have h17a : (mS μ 17).1 = 0 := by rw [hs 17 (by decide)]; rfl
  have h18a : (mS μ 18).1 = 20 := by rw [hs 18 (by decide)]; rfl
  have h18b : (mS μ 18).2 = 10 := by rw [hs 18 (by decide)]; rfl
  have h19a : (mS μ 19).1 = 20 := by rw [hs 19 (by decide)]; rfl
  have h19b : (mS μ 19).2 = 10 := by rw [hs 19 (by decide)]; rfl
  have h20a : (mS μ 20).1 = 20 := by rw [hs 20 (by decide)]; rfl
  have h20b : (mS μ 20).2 = 10 := by rw [hs 20 (by decide)]; rfl
  have h21a : (mS μ 21).1 = 20 := by rw [hs 21 (by decide)]; rfl
  have h21b : (mS μ 21).2 = 10 := by rw [hs 21 (by decide)]; rfl
  have h22a : (mS μ 22).1 = 20 := by rw [hs 22 (by decide)]; rfl
  have h22b : (mS μ 22).2 = 10 := by rw [hs 22 (by decide)]; rfl
  have r17_0 : r 17 0 = some 18 := hr 17 0 18 rfl
  have r17_1 : r 17 1 = some 19 := hr 17 1 19 rfl
  have r17_2 : r 17 2 = some 20 := hr 17 2 20 rfl
  have r17_3 : r 17 3 = some 21 := hr 17 3 21 rfl
  have r17_4 : r 17 4 = some 22 := hr 17 4 22 rfl
  have hb := (bl_sz hs hr hC hc (l := l)).2 k
  have h0 := hb 0 hk (by decide)
  have h1 := hb 1 hk (by decide)
  have h2 := hb 2 hk (by decide)
  have h3 := hb 3 hk (by decide)
  have h4 := hb 4 hk (by decide)
  have hk10 : k < 10 := by
    have hc' := hc
    obtain ⟨c0, c1, c2, c3, c4, c5, c6, c7, c8, c9, c10, c11, c12, c13, c14⟩ := hc
    split at hk <;> omega
  rw [B_7_0]
  have hw' : w = 0 ∨ w = 1 ∨ w = 2 ∨ w = 3 ∨ w = 4 := by omega
  rcases hw' with rfl | rfl | rfl | rfl | rfl
  · simp (disch := omega) only [st_I, st_L, st_R, st_S, st_N, st_C, st_Z, st_X, st_D, st_st, st_sI, st_sIr, st_sL, st_sR, gfI_st, gfL_st, gfR_st, gfN_st, pfI_st, pfL_st, pfR_st, pfZ_st0, pfZ_st1, ldI_st, ldL_st, stoI_st, stoL_st, aln_st, cpA_st, bq_st, bq_S, oI_s, oL_s, oD_s, oV_s, oR_s, oR_n, oI_e, oL_e, oD_e, Option.bind_some, fa_lit, fa_litL, nI_add, pk_mul, nI_m1, nI_lt', nI_le', nI_eq', lc_ge, lc_le, lc_gt, lc_lt, lc_eq, isZ_0, isZ_1, bI_0, bI_z, decide_eq_true_eq, Bool.not_eq_true', Bool.not_true, Bool.not_false, decide_eq_false_iff_not, if_true, if_false, ite_true, ite_false, eq_self, not_true, not_false_eq_true, C_80, C_81, C_82, C_84, C_85, C_86, C_94, C_95, C_96, C_97, yu_ne, yu_eq, up_eq, up_ne, yur_ne, yur_eq, yu_uu, y1_eq, y1_ne, y1_y1, Nat.mul_zero, Nat.zero_mul, Nat.add_zero, Nat.zero_add, Nat.mul_one, Nat.one_mul, Nat.reduceEqDiff, Nat.reduceLT, Nat.reduceLeDiff, Nat.reduceAdd, Nat.reduceMul, decide_true, decide_false, cond_true, cond_false, reduceCtorEq, Bool.false_eq_true, Bool.true_eq_false, Bool.true_and, Bool.and_true, Bool.false_and, Bool.and_false, r17_0, r17_1, r17_2, r17_3, r17_4, h0]
  · simp (disch := omega) only [st_I, st_L, st_R, st_S, st_N, st_C, st_Z, st_X, st_D, st_st, st_sI, st_sIr, st_sL, st_sR, gfI_st, gfL_st, gfR_st, gfN_st, pfI_st, pfL_st, pfR_st, pfZ_st0, pfZ_st1, ldI_st, ldL_st, stoI_st, stoL_st, aln_st, cpA_st, bq_st, bq_S, oI_s, oL_s, oD_s, oV_s, oR_s, oR_n, oI_e, oL_e, oD_e, Option.bind_some, fa_lit, fa_litL, nI_add, pk_mul, nI_m1, nI_lt', nI_le', nI_eq', lc_ge, lc_le, lc_gt, lc_lt, lc_eq, isZ_0, isZ_1, bI_0, bI_z, decide_eq_true_eq, Bool.not_eq_true', Bool.not_true, Bool.not_false, decide_eq_false_iff_not, if_true, if_false, ite_true, ite_false, eq_self, not_true, not_false_eq_true, C_80, C_81, C_82, C_84, C_85, C_86, C_94, C_95, C_96, C_97, yu_ne, yu_eq, up_eq, up_ne, yur_ne, yur_eq, yu_uu, y1_eq, y1_ne, y1_y1, Nat.mul_zero, Nat.zero_mul, Nat.add_zero, Nat.zero_add, Nat.mul_one, Nat.one_mul, Nat.reduceEqDiff, Nat.reduceLT, Nat.reduceLeDiff, Nat.reduceAdd, Nat.reduceMul, decide_true, decide_false, cond_true, cond_false, reduceCtorEq, Bool.false_eq_true, Bool.true_eq_false, Bool.true_and, Bool.and_true, Bool.false_and, Bool.and_false, r17_0, r17_1, r17_2, r17_3, r17_4, h1]
  · simp (disch := omega) only [st_I, st_L, st_R, st_S, st_N, st_C, st_Z, st_X, st_D, st_st, st_sI, st_sIr, st_sL, st_sR, gfI_st, gfL_st, gfR_st, gfN_st, pfI_st, pfL_st, pfR_st, pfZ_st0, pfZ_st1, ldI_st, ldL_st, stoI_st, stoL_st, aln_st, cpA_st, bq_st, bq_S, oI_s, oL_s, oD_s, oV_s, oR_s, oR_n, oI_e, oL_e, oD_e, Option.bind_some, fa_lit, fa_litL, nI_add, pk_mul, nI_m1, nI_lt', nI_le', nI_eq', lc_ge, lc_le, lc_gt, lc_lt, lc_eq, isZ_0, isZ_1, bI_0, bI_z, decide_eq_true_eq, Bool.not_eq_true', Bool.not_true, Bool.not_false, decide_eq_false_iff_not, if_true, if_false, ite_true, ite_false, eq_self, not_true, not_false_eq_true, C_80, C_81, C_82, C_84, C_85, C_86, C_94, C_95, C_96, C_97, yu_ne, yu_eq, up_eq, up_ne, yur_ne, yur_eq, yu_uu, y1_eq, y1_ne, y1_y1, Nat.mul_zero, Nat.zero_mul, Nat.add_zero, Nat.zero_add, Nat.mul_one, Nat.one_mul, Nat.reduceEqDiff, Nat.reduceLT, Nat.reduceLeDiff, Nat.reduceAdd, Nat.reduceMul, decide_true, decide_false, cond_true, cond_false, reduceCtorEq, Bool.false_eq_true, Bool.true_eq_false, Bool.true_and, Bool.and_true, Bool.false_and, Bool.and_false, r17_0, r17_1, r17_2, r17_3, r17_4, h2]
  · simp (disch := omega) only [st_I, st_L, st_R, st_S, st_N, st_C, st_Z, st_X, st_D, st_st, st_sI, st_sIr, st_sL, st_sR, gfI_st, gfL_st, gfR_st, gfN_st, pfI_st, pfL_st, pfR_st, pfZ_st0, pfZ_st1, ldI_st, ldL_st, stoI_st, stoL_st, aln_st, cpA_st, bq_st, bq_S, oI_s, oL_s, oD_s, oV_s, oR_s, oR_n, oI_e, oL_e, oD_e, Option.bind_some, fa_lit, fa_litL, nI_add, pk_mul, nI_m1, nI_lt', nI_le', nI_eq', lc_ge, lc_le, lc_gt, lc_lt, lc_eq, isZ_0, isZ_1, bI_0, bI_z, decide_eq_true_eq, Bool.not_eq_true', Bool.not_true, Bool.not_false, decide_eq_false_iff_not, if_true, if_false, ite_true, ite_false, eq_self, not_true, not_false_eq_true, C_80, C_81, C_82, C_84, C_85, C_86, C_94, C_95, C_96, C_97, yu_ne, yu_eq, up_eq, up_ne, yur_ne, yur_eq, yu_uu, y1_eq, y1_ne, y1_y1, Nat.mul_zero, Nat.zero_mul, Nat.add_zero, Nat.zero_add, Nat.mul_one, Nat.one_mul, Nat.reduceEqDiff, Nat.reduceLT, Nat.reduceLeDiff, Nat.reduceAdd, Nat.reduceMul, decide_true, decide_false, cond_true, cond_false, reduceCtorEq, Bool.false_eq_true, Bool.true_eq_false, Bool.true_and, Bool.and_true, Bool.false_and, Bool.and_false, r17_0, r17_1, r17_2, r17_3, r17_4, h3]
  · simp (disch := omega) only [st_I, st_L, st_R, st_S, st_N, st_C, st_Z, st_X, st_D, st_st, st_sI, st_sIr, st_sL, st_sR, gfI_st, gfL_st, gfR_st, gfN_st, pfI_st, pfL_st, pfR_st, pfZ_st0, pfZ_st1, ldI_st, ldL_st, stoI_st, stoL_st, aln_st, cpA_st, bq_st, bq_S, oI_s, oL_s, oD_s, oV_s, oR_s, oR_n, oI_e, oL_e, oD_e, Option.bind_some, fa_lit, fa_litL, nI_add, pk_mul, nI_m1, nI_lt', nI_le', nI_eq', lc_ge, lc_le, lc_gt, lc_lt, lc_eq, isZ_0, isZ_1, bI_0, bI_z, decide_eq_true_eq, Bool.not_eq_true', Bool.not_true, Bool.not_false, decide_eq_false_iff_not, if_true, if_false, ite_true, ite_false, eq_self, not_true, not_false_eq_true, C_80, C_81, C_82, C_84, C_85, C_86, C_94, C_95, C_96, C_97, yu_ne, yu_eq, up_eq, up_ne, yur_ne, yur_eq, yu_uu, y1_eq, y1_ne, y1_y1, Nat.mul_zero, Nat.zero_mul, Nat.add_zero, Nat.zero_add, Nat.mul_one, Nat.one_mul, Nat.reduceEqDiff, Nat.reduceLT, Nat.reduceLeDiff, Nat.reduceAdd, Nat.reduceMul, decide_true, decide_false, cond_true, cond_false, reduceCtorEq, Bool.false_eq_true, Bool.true_eq_false, Bool.true_and, Bool.and_true, Bool.false_and, Bool.and_false, r17_0, r17_1, r17_2, r17_3, r17_4, h4]
theorem C_72 {μ : mMu} {f : Nat → Nat → Int32} {l : Nat → Nat → Int64} {r : Nat → Nat → Option Nat} (hs : Sh μ) (hr : Rf r) {σ : Nat → Nat} {c : Nat → Nat} {S : Nat → Nat → Nat → Int32} (hC : CAll f r 1 σ c S) (hc : CB c) {b w : Int32} : CALL 72 [.ref 0, .int b, .int w] (st μ f l r) = bif wi b (nI 0) (nI (if 0 < c 3 then c 3 else c 10) - nI 1) && wi w (nI 0) (nI 4) then some (.inl (some (.int (p_tld c S (ix b) (ix w)))), st μ f l r) else some (.inr 2, mBurn (st μ f l r) 6) := by
  have h0a : (mS μ 0).1 = 8 := by rw [hs 0 (by decide)]; rfl
  have h1a : (mS μ 1).1 = 6 := by rw [hs 1 (by decide)]; rfl
  have h17a : (mS μ 17).1 = 0 := by rw [hs 17 (by decide)]; rfl
  have r0_0 : r 0 0 = some 1 := hr 0 0 1 rfl
  have r1_1 : r 1 1 = some 17 := hr 1 1 17 rfl
  have hz := (bl_sz hs hr hC hc (l := l)).1
  have hb10 : (if 0 < c 3 then c 3 else c 10) ≤ 10 := by
    have hc' := hc
    obtain ⟨c0, c1, c2, c3, c4, c5, c6, c7, c8, c9, c10, c11, c12, c13, c14⟩ := hc
    split <;> omega
  rw [B_72_0]
  simp (disch := omega) only [st_I, st_L, st_R, st_S, st_N, st_C, st_Z, st_X, st_D, st_st, st_sI, st_sIr, st_sL, st_sR, gfI_st, gfL_st, gfR_st, gfN_st, pfI_st, pfL_st, pfR_st, pfZ_st0, pfZ_st1, ldI_st, ldL_st, stoI_st, stoL_st, aln_st, cpA_st, bq_st, bq_S, oI_s, oL_s, oD_s, oV_s, oR_s, oR_n, oI_e, oL_e, oD_e, Option.bind_some, fa_lit, fa_litL, nI_add, pk_mul, nI_m1, nI_lt', nI_le', nI_eq', lc_ge, lc_le, lc_gt, lc_lt, lc_eq, isZ_0, isZ_1, bI_0, bI_z, decide_eq_true_eq, Bool.not_eq_true', Bool.not_true, Bool.not_false, decide_eq_false_iff_not, if_true, if_false, ite_true, ite_false, eq_self, not_true, not_false_eq_true, C_80, C_81, C_82, C_84, C_85, C_86, C_94, C_95, C_96, C_97, yu_ne, yu_eq, up_eq, up_ne, yur_ne, yur_eq, yu_uu, y1_eq, y1_ne, y1_y1, Nat.mul_zero, Nat.zero_mul, Nat.add_zero, Nat.zero_add, Nat.mul_one, Nat.one_mul, Nat.reduceEqDiff, Nat.reduceLT, Nat.reduceLeDiff, Nat.reduceAdd, Nat.reduceMul, decide_true, decide_false, cond_true, cond_false, reduceCtorEq, Bool.false_eq_true, Bool.true_eq_false, Bool.true_and, Bool.and_true, Bool.false_and, Bool.and_false, r0_0, r1_1, hz]
  cases h1 : wi b (nI 0) (nI (if 0 < c 3 then c 3 else c 10) - nI 1) with
  | false => rfl
  | true =>
    cases h2 : wi w (nI 0) (nI 4) with
    | false => rfl
    | true =>
      obtain ⟨k, hk, rfl⟩ := wi_get1 (by omega) h1
      obtain ⟨m, hm2, rfl⟩ := wi_get (by decide) h2
      rw [ix_nI (by omega), ix_nI (by omega)]
      simp (disch := omega) only [st_I, st_L, st_R, st_S, st_N, st_C, st_Z, st_X, st_D, st_st, st_sI, st_sIr, st_sL, st_sR, gfI_st, gfL_st, gfR_st, gfN_st, pfI_st, pfL_st, pfR_st, pfZ_st0, pfZ_st1, ldI_st, ldL_st, stoI_st, stoL_st, aln_st, cpA_st, bq_st, bq_S, oI_s, oL_s, oD_s, oV_s, oR_s, oR_n, oI_e, oL_e, oD_e, Option.bind_some, fa_lit, fa_litL, nI_add, pk_mul, nI_m1, nI_lt', nI_le', nI_eq', lc_ge, lc_le, lc_gt, lc_lt, lc_eq, isZ_0, isZ_1, bI_0, bI_z, decide_eq_true_eq, Bool.not_eq_true', Bool.not_true, Bool.not_false, decide_eq_false_iff_not, if_true, if_false, ite_true, ite_false, eq_self, not_true, not_false_eq_true, C_80, C_81, C_82, C_84, C_85, C_86, C_94, C_95, C_96, C_97, yu_ne, yu_eq, up_eq, up_ne, yur_ne, yur_eq, yu_uu, y1_eq, y1_ne, y1_y1, Nat.mul_zero, Nat.zero_mul, Nat.add_zero, Nat.zero_add, Nat.mul_one, Nat.one_mul, Nat.reduceEqDiff, Nat.reduceLT, Nat.reduceLeDiff, Nat.reduceAdd, Nat.reduceMul, decide_true, decide_false, cond_true, cond_false, reduceCtorEq, Bool.false_eq_true, Bool.true_eq_false, Bool.true_and, Bool.and_true, Bool.false_and, Bool.and_false, r0_0, r1_1, C_7 hs hr hC hc (k := k) (w := m) hk (by omega)]
theorem C_20 {μ : mMu} {f : Nat → Nat → Int32} {l : Nat → Nat → Int64} {r : Nat → Nat → Option Nat} (hs : Sh μ) (hr : Rf r) {σ : Nat → Nat} {c : Nat → Nat} {S : Nat → Nat → Nat → Int32} (hC : CAll f r 1 σ c S) (hc : CB c) : CALL 20 [.ref 31] (st μ f l r) = some (.inl (some (.int (nI (min (c 8) 120)))), st μ f l r) := by
  have h31a : (mS μ 31).1 = 3 := by rw [hs 31 (by decide)]; rfl
  have h : f 31 4 = nI (c 8) := hC.2.2.2.2.1.1
  have hc' := hc
  obtain ⟨c0, c1, c2, c3, c4, c5, c6, c7, c8, c9, c10, c11, c12, c13, c14⟩ := hc
  rw [B_20_0]
  simp (disch := omega) only [st_I, st_L, st_R, st_S, st_N, st_C, st_Z, st_X, st_D, st_st, st_sI, st_sIr, st_sL, st_sR, gfI_st, gfL_st, gfR_st, gfN_st, pfI_st, pfL_st, pfR_st, pfZ_st0, pfZ_st1, ldI_st, ldL_st, stoI_st, stoL_st, aln_st, cpA_st, bq_st, bq_S, oI_s, oL_s, oD_s, oV_s, oR_s, oR_n, oI_e, oL_e, oD_e, Option.bind_some, fa_lit, fa_litL, nI_add, pk_mul, nI_m1, nI_lt', nI_le', nI_eq', lc_ge, lc_le, lc_gt, lc_lt, lc_eq, isZ_0, isZ_1, bI_0, bI_z, decide_eq_true_eq, Bool.not_eq_true', Bool.not_true, Bool.not_false, decide_eq_false_iff_not, if_true, if_false, ite_true, ite_false, eq_self, not_true, not_false_eq_true, C_80, C_81, C_82, C_84, C_85, C_86, C_94, C_95, C_96, C_97, yu_ne, yu_eq, up_eq, up_ne, yur_ne, yur_eq, yu_uu, y1_eq, y1_ne, y1_y1, Nat.mul_zero, Nat.zero_mul, Nat.add_zero, Nat.zero_add, Nat.mul_one, Nat.one_mul, Nat.reduceEqDiff, Nat.reduceLT, Nat.reduceLeDiff, Nat.reduceAdd, Nat.reduceMul, decide_true, decide_false, cond_true, cond_false, reduceCtorEq, Bool.false_eq_true, Bool.true_eq_false, Bool.true_and, Bool.and_true, Bool.false_and, Bool.and_false, h, mn_nat]
theorem C_21 {μ : mMu} {f : Nat → Nat → Int32} {l : Nat → Nat → Int64} {r : Nat → Nat → Option Nat} (hs : Sh μ) (hr : Rf r) {σ : Nat → Nat} {c : Nat → Nat} {S : Nat → Nat → Nat → Int32} (hC : CAll f r 1 σ c S) (hc : CB c) {e w : Nat} (he : e < min (c 8) 120) (hw : w < 4) : CALL 21 [.ref 31, .int (nI e), .int (nI w)] (st μ f l r) = some (.inl (some (.int (S 9 e w))), st μ f l r) := by
  have h31a : (mS μ 31).1 = 3 := by rw [hs 31 (by decide)]; rfl
  have h32a : (mS μ 32).1 = 20 := by rw [hs 32 (by decide)]; rfl
  have h32b : (mS μ 32).2 = 120 := by rw [hs 32 (by decide)]; rfl
  have h33a : (mS μ 33).1 = 20 := by rw [hs 33 (by decide)]; rfl
  have h33b : (mS μ 33).2 = 120 := by rw [hs 33 (by decide)]; rfl
  have h34a : (mS μ 34).1 = 20 := by rw [hs 34 (by decide)]; rfl
  have h34b : (mS μ 34).2 = 120 := by rw [hs 34 (by decide)]; rfl
  have h35a : (mS μ 35).1 = 20 := by rw [hs 35 (by decide)]; rfl
  have h35b : (mS μ 35).2 = 120 := by rw [hs 35 (by decide)]; rfl
  have r31_0 : r 31 0 = some 32 := hr 31 0 32 rfl
  have r31_1 : r 31 1 = some 33 := hr 31 1 33 rfl
  have r31_2 : r 31 2 = some 34 := hr 31 2 34 rfl
  have r31_3 : r 31 3 = some 35 := hr 31 3 35 rfl
  have h : f 31 4 = nI (c 8) := hC.2.2.2.2.1.1
  have hv := hC.2.2.2.2.1.2 e
  have h0 : f 32 (evx (c 8) e) = S 9 e 0 := hv 0 he (by decide)
  have h1 : f 33 (evx (c 8) e) = S 9 e 1 := hv 1 he (by decide)
  have h2 : f 34 (evx (c 8) e) = S 9 e 2 := hv 2 he (by decide)
  have h3 : f 35 (evx (c 8) e) = S 9 e 3 := hv 3 he (by decide)
  have hc' := hc
  obtain ⟨c0, c1, c2, c3, c4, c5, c6, c7, c8, c9, c10, c11, c12, c13, c14⟩ := hc
  have e1 : nI (c 8) - nI (min (c 8) 120) = nI (c 8 - min (c 8) 120) := pk_sub (by omega)
  have e2 : (c 8 - min (c 8) 120 + e) % 120 = evx (c 8) e := rfl
  have e3 : evx (c 8) e < 120 := Nat.mod_lt _ (by decide)
  rw [B_21_0]
  have hw' : w = 0 ∨ w = 1 ∨ w = 2 ∨ w = 3 := by omega
  rcases hw' with rfl | rfl | rfl | rfl
  · simp (disch := omega) only [st_I, st_L, st_R, st_S, st_N, st_C, st_Z, st_X, st_D, st_st, st_sI, st_sIr, st_sL, st_sR, gfI_st, gfL_st, gfR_st, gfN_st, pfI_st, pfL_st, pfR_st, pfZ_st0, pfZ_st1, ldI_st, ldL_st, stoI_st, stoL_st, aln_st, cpA_st, bq_st, bq_S, oI_s, oL_s, oD_s, oV_s, oR_s, oR_n, oI_e, oL_e, oD_e, Option.bind_some, fa_lit, fa_litL, nI_add, pk_mul, nI_m1, nI_lt', nI_le', nI_eq', lc_ge, lc_le, lc_gt, lc_lt, lc_eq, isZ_0, isZ_1, bI_0, bI_z, decide_eq_true_eq, Bool.not_eq_true', Bool.not_true, Bool.not_false, decide_eq_false_iff_not, if_true, if_false, ite_true, ite_false, eq_self, not_true, not_false_eq_true, C_80, C_81, C_82, C_84, C_85, C_86, C_94, C_95, C_96, C_97, yu_ne, yu_eq, up_eq, up_ne, yur_ne, yur_eq, yu_uu, y1_eq, y1_ne, y1_y1, Nat.mul_zero, Nat.zero_mul, Nat.add_zero, Nat.zero_add, Nat.mul_one, Nat.one_mul, Nat.reduceEqDiff, Nat.reduceLT, Nat.reduceLeDiff, Nat.reduceAdd, Nat.reduceMul, decide_true, decide_false, cond_true, cond_false, reduceCtorEq, Bool.false_eq_true, Bool.true_eq_false, Bool.true_and, Bool.and_true, Bool.false_and, Bool.and_false, r31_0, r31_1, r31_2, r31_3, h, C_20 hs hr hC hc', e1, pk_rem, e2, h0]
  · simp (disch := omega) only [st_I, st_L, st_R, st_S, st_N, st_C, st_Z, st_X, st_D, st_st, st_sI, st_sIr, st_sL, st_sR, gfI_st, gfL_st, gfR_st, gfN_st, pfI_st, pfL_st, pfR_st, pfZ_st0, pfZ_st1, ldI_st, ldL_st, stoI_st, stoL_st, aln_st, cpA_st, bq_st, bq_S, oI_s, oL_s, oD_s, oV_s, oR_s, oR_n, oI_e, oL_e, oD_e, Option.bind_some, fa_lit, fa_litL, nI_add, pk_mul, nI_m1, nI_lt', nI_le', nI_eq', lc_ge, lc_le, lc_gt, lc_lt, lc_eq, isZ_0, isZ_1, bI_0, bI_z, decide_eq_true_eq, Bool.not_eq_true', Bool.not_true, Bool.not_false, decide_eq_false_iff_not, if_true, if_false, ite_true, ite_false, eq_self, not_true, not_false_eq_true, C_80, C_81, C_82, C_84, C_85, C_86, C_94, C_95, C_96, C_97, yu_ne, yu_eq, up_eq, up_ne, yur_ne, yur_eq, yu_uu, y1_eq, y1_ne, y1_y1, Nat.mul_zero, Nat.zero_mul, Nat.add_zero, Nat.zero_add, Nat.mul_one, Nat.one_mul, Nat.reduceEqDiff, Nat.reduceLT, Nat.reduceLeDiff, Nat.reduceAdd, Nat.reduceMul, decide_true, decide_false, cond_true, cond_false, reduceCtorEq, Bool.false_eq_true, Bool.true_eq_false, Bool.true_and, Bool.and_true, Bool.false_and, Bool.and_false, r31_0, r31_1, r31_2, r31_3, h, C_20 hs hr hC hc', e1, pk_rem, e2, h1]
  · simp (disch := omega) only [st_I, st_L, st_R, st_S, st_N, st_C, st_Z, st_X, st_D, st_st, st_sI, st_sIr, st_sL, st_sR, gfI_st, gfL_st, gfR_st, gfN_st, pfI_st, pfL_st, pfR_st, pfZ_st0, pfZ_st1, ldI_st, ldL_st, stoI_st, stoL_st, aln_st, cpA_st, bq_st, bq_S, oI_s, oL_s, oD_s, oV_s, oR_s, oR_n, oI_e, oL_e, oD_e, Option.bind_some, fa_lit, fa_litL, nI_add, pk_mul, nI_m1, nI_lt', nI_le', nI_eq', lc_ge, lc_le, lc_gt, lc_lt, lc_eq, isZ_0, isZ_1, bI_0, bI_z, decide_eq_true_eq, Bool.not_eq_true', Bool.not_true, Bool.not_false, decide_eq_false_iff_not, if_true, if_false, ite_true, ite_false, eq_self, not_true, not_false_eq_true, C_80, C_81, C_82, C_84, C_85, C_86, C_94, C_95, C_96, C_97, yu_ne, yu_eq, up_eq, up_ne, yur_ne, yur_eq, yu_uu, y1_eq, y1_ne, y1_y1, Nat.mul_zero, Nat.zero_mul, Nat.add_zero, Nat.zero_add, Nat.mul_one, Nat.one_mul, Nat.reduceEqDiff, Nat.reduceLT, Nat.reduceLeDiff, Nat.reduceAdd, Nat.reduceMul, decide_true, decide_false, cond_true, cond_false, reduceCtorEq, Bool.false_eq_true, Bool.true_eq_false, Bool.true_and, Bool.and_true, Bool.false_and, Bool.and_false, r31_0, r31_1, r31_2, r31_3, h, C_20 hs hr hC hc', e1, pk_rem, e2, h2]
  · simp (disch := omega) only [st_I, st_L, st_R, st_S, st_N, st_C, st_Z, st_X, st_D, st_st, st_sI, st_sIr, st_sL, st_sR, gfI_st, gfL_st, gfR_st, gfN_st, pfI_st, pfL_st, pfR_st, pfZ_st0, pfZ_st1, ldI_st, ldL_st, stoI_st, stoL_st, aln_st, cpA_st, bq_st, bq_S, oI_s, oL_s, oD_s, oV_s, oR_s, oR_n, oI_e, oL_e, oD_e, Option.bind_some, fa_lit, fa_litL, nI_add, pk_mul, nI_m1, nI_lt', nI_le', nI_eq', lc_ge, lc_le, lc_gt, lc_lt, lc_eq, isZ_0, isZ_1, bI_0, bI_z, decide_eq_true_eq, Bool.not_eq_true', Bool.not_true, Bool.not_false, decide_eq_false_iff_not, if_true, if_false, ite_true, ite_false, eq_self, not_true, not_false_eq_true, C_80, C_81, C_82, C_84, C_85, C_86, C_94, C_95, C_96, C_97, yu_ne, yu_eq, up_eq, up_ne, yur_ne, yur_eq, yu_uu, y1_eq, y1_ne, y1_y1, Nat.mul_zero, Nat.zero_mul, Nat.add_zero, Nat.zero_add, Nat.mul_one, Nat.one_mul, Nat.reduceEqDiff, Nat.reduceLT, Nat.reduceLeDiff, Nat.reduceAdd, Nat.reduceMul, decide_true, decide_false, cond_true, cond_false, reduceCtorEq, Bool.false_eq_true, Bool.true_eq_false, Bool.true_and, Bool.and_true, Bool.false_and, Bool.and_false, r31_0, r31_1, r31_2, r31_3, h, C_20 hs hr hC hc', e1, pk_rem, e2, h3]
theorem C_79 {μ : mMu} {f : Nat → Nat → Int32} {l : Nat → Nat → Int64} {r : Nat → Nat → Option Nat} (hs : Sh μ) (hr : Rf r) {σ : Nat → Nat} {c : Nat → Nat} {S : Nat → Nat → Nat → Int32} (hC : CAll f r 1 σ c S) (hc : CB c) {e w : Int32} : CALL 79 [.ref 0, .int e, .int w] (st μ f l r) = bif wi e (nI 0) (nI (min (c 8) 120) - nI 1) && wi w (nI 0) (nI 3) then some (.inl (some (.int (S 9 (ix e) (ix w)))), st μ f l r) else some (.inr 2, mBurn (st μ f l r) 6) := by
  have h0a : (mS μ 0).1 = 8 := by rw [hs 0 (by decide)]; rfl
  have h1a : (mS μ 1).1 = 6 := by rw [hs 1 (by decide)]; rfl
  have h31a : (mS μ 31).1 = 3 := by rw [hs 31 (by decide)]; rfl
  have r0_0 : r 0 0 = some 1 := hr 0 0 1 rfl
  have r1_3 : r 1 3 = some 31 := hr 1 3 31 rfl
  rw [B_79_0]
  simp (disch := omega) only [st_I, st_L, st_R, st_S, st_N, st_C, st_Z, st_X, st_D, st_st, st_sI, st_sIr, st_sL, st_sR, gfI_st, gfL_st, gfR_st, gfN_st, pfI_st, pfL_st, pfR_st, pfZ_st0, pfZ_st1, ldI_st, ldL_st, stoI_st, stoL_st, aln_st, cpA_st, bq_st, bq_S, oI_s, oL_s, oD_s, oV_s, oR_s, oR_n, oI_e, oL_e, oD_e, Option.bind_some, fa_lit, fa_litL, nI_add, pk_mul, nI_m1, nI_lt', nI_le', nI_eq', lc_ge, lc_le, lc_gt, lc_lt, lc_eq, isZ_0, isZ_1, bI_0, bI_z, decide_eq_true_eq, Bool.not_eq_true', Bool.not_true, Bool.not_false, decide_eq_false_iff_not, if_true, if_false, ite_true, ite_false, eq_self, not_true, not_false_eq_true, C_80, C_81, C_82, C_84, C_85, C_86, C_94, C_95, C_96, C_97, yu_ne, yu_eq, up_eq, up_ne, yur_ne, yur_eq, yu_uu, y1_eq, y1_ne, y1_y1, Nat.mul_zero, Nat.zero_mul, Nat.add_zero, Nat.zero_add, Nat.mul_one, Nat.one_mul, Nat.reduceEqDiff, Nat.reduceLT, Nat.reduceLeDiff, Nat.reduceAdd, Nat.reduceMul, decide_true, decide_false, cond_true, cond_false, reduceCtorEq, Bool.false_eq_true, Bool.true_eq_false, Bool.true_and, Bool.and_true, Bool.false_and, Bool.and_false, r0_0, r1_3, C_20 hs hr hC hc]
  cases h1 : wi e (nI 0) (nI (min (c 8) 120) - nI 1) with
  | false => rfl
  | true =>
    cases h2 : wi w (nI 0) (nI 3) with
    | false => rfl
    | true =>
      obtain ⟨k, hk, rfl⟩ := wi_get1 (by omega) h1
      obtain ⟨m, hm2, rfl⟩ := wi_get (by decide) h2
      rw [ix_nI (by omega), ix_nI (by omega)]
      simp (disch := omega) only [st_I, st_L, st_R, st_S, st_N, st_C, st_Z, st_X, st_D, st_st, st_sI, st_sIr, st_sL, st_sR, gfI_st, gfL_st, gfR_st, gfN_st, pfI_st, pfL_st, pfR_st, pfZ_st0, pfZ_st1, ldI_st, ldL_st, stoI_st, stoL_st, aln_st, cpA_st, bq_st, bq_S, oI_s, oL_s, oD_s, oV_s, oR_s, oR_n, oI_e, oL_e, oD_e, Option.bind_some, fa_lit, fa_litL, nI_add, pk_mul, nI_m1, nI_lt', nI_le', nI_eq', lc_ge, lc_le, lc_gt, lc_lt, lc_eq, isZ_0, isZ_1, bI_0, bI_z, decide_eq_true_eq, Bool.not_eq_true', Bool.not_true, Bool.not_false, decide_eq_false_iff_not, if_true, if_false, ite_true, ite_false, eq_self, not_true, not_false_eq_true, C_80, C_81, C_82, C_84, C_85, C_86, C_94, C_95, C_96, C_97, yu_ne, yu_eq, up_eq, up_ne, yur_ne, yur_eq, yu_uu, y1_eq, y1_ne, y1_y1, Nat.mul_zero, Nat.zero_mul, Nat.add_zero, Nat.zero_add, Nat.mul_one, Nat.one_mul, Nat.reduceEqDiff, Nat.reduceLT, Nat.reduceLeDiff, Nat.reduceAdd, Nat.reduceMul, decide_true, decide_false, cond_true, cond_false, reduceCtorEq, Bool.false_eq_true, Bool.true_eq_false, Bool.true_and, Bool.and_true, Bool.false_and, Bool.and_false, r0_0, r1_3, C_21 hs hr hC hc (e := k) (w := m) hk (by omega)]
/-- a track's cells -/
theorem tr_at {μ : mMu} {f : Nat → Nat → Int32} {l : Nat → Nat → Int64} {r : Nat → Nat → Option Nat} (hs : Sh μ) (hr : Rf r) {σ : Nat → Nat} {c : Nat → Nat} {S : Nat → Nat → Nat → Int32} (hC : CAll f r 1 σ c S) (hc : CB c) {t : Nat} (ht : t < c 4) : σ t < 10 ∧ TE f (37 + 3 * σ t) (S 7 t) := ⟨(hC.2.2.2.2.2.1.1 t (by have := hc.2.2.2.2.1; omega)).1, hC.2.2.2.2.2.2.1 t ht⟩
theorem C_51 {μ : mMu} {f : Nat → Nat → Int32} {l : Nat → Nat → Int64} {r : Nat → Nat → Option Nat} (hs : Sh μ) (hr : Rf r) {σ : Nat → Nat} {c : Nat → Nat} {S : Nat → Nat → Nat → Int32} (hC : CAll f r 1 σ c S) (hc : CB c) : CALL 51 [.ref 1] (st μ f l r) = some (.inl (some (.int (nI (cn (firm (S 7)) (c 4))))), st μ f l r) := by
  have h1a : (mS μ 1).1 = 6 := by rw [hs 1 (by decide)]; rfl
  have r1_4 : r 1 4 = some 36 := hr 1 4 36 rfl
  have k5 : f 1 5 = nI (c 4) := hC.1.1
  have hc' := hc
  obtain ⟨c0, c1, c2, c3, c4, c5, c6, c7, c8, c9, c10, c11, c12, c13, c14⟩ := hc
  rw [B_51_0]
  refine loopP (fun i o => o = RUN 51 4 [some (.ref 1), some (.int (nI (cn (firm (S 7)) i))), some (.int (nI i))] [] (st μ f l r)) (fun o => o = some (.inl (some (.int (nI (cn (firm (S 7)) (c 4))))), st μ f l r)) (c 4) ?_ ?_ 0 _ (Nat.zero_le _) rfl
  · rintro o rfl
    rw [B_51_4]
    simp (disch := omega) only [st_I, st_L, st_R, st_S, st_N, st_C, st_Z, st_X, st_D, st_st, st_sI, st_sIr, st_sL, st_sR, gfI_st, gfL_st, gfR_st, gfN_st, pfI_st, pfL_st, pfR_st, pfZ_st0, pfZ_st1, ldI_st, ldL_st, stoI_st, stoL_st, aln_st, cpA_st, bq_st, bq_S, oI_s, oL_s, oD_s, oV_s, oR_s, oR_n, oI_e, oL_e, oD_e, Option.bind_some, fa_lit, fa_litL, nI_add, pk_mul, nI_m1, nI_lt', nI_le', nI_eq', lc_ge, lc_le, lc_gt, lc_lt, lc_eq, isZ_0, isZ_1, bI_0, bI_z, decide_eq_true_eq, Bool.not_eq_true', Bool.not_true, Bool.not_false, decide_eq_false_iff_not, if_true, if_false, ite_true, ite_false, eq_self, not_true, not_false_eq_true, C_80, C_81, C_82, C_84, C_85, C_86, C_94, C_95, C_96, C_97, yu_ne, yu_eq, up_eq, up_ne, yur_ne, yur_eq, yu_uu, y1_eq, y1_ne, y1_y1, Nat.mul_zero, Nat.zero_mul, Nat.add_zero, Nat.zero_add, Nat.mul_one, Nat.one_mul, Nat.reduceEqDiff, Nat.reduceLT, Nat.reduceLeDiff, Nat.reduceAdd, Nat.reduceMul, decide_true, decide_false, cond_true, cond_false, reduceCtorEq, Bool.false_eq_true, Bool.true_eq_false, Bool.true_and, Bool.and_true, Bool.false_and, Bool.and_false, r1_4, k5, Nat.le_refl]
  · rintro i o hi rfl
    have hi' : ¬ c 4 ≤ i := by omega
    have hi10 : i < 10 := by omega
    obtain ⟨hσ, hT⟩ := tr_at hs hr hC hc' (l := l) hi
    have hsh := (trk_sh hs hσ).1
    have hsa : (mS μ (37 + 3 * σ i)).1 = 7 := by rw [hsh]
    have h5 : f (37 + 3 * σ i) 5 = S 7 i 5 := hT.2.1 5 (by decide) (by decide)
    right
    rw [B_51_4]
    simp (disch := omega) only [st_I, st_L, st_R, st_S, st_N, st_C, st_Z, st_X, st_D, st_st, st_sI, st_sIr, st_sL, st_sR, gfI_st, gfL_st, gfR_st, gfN_st, pfI_st, pfL_st, pfR_st, pfZ_st0, pfZ_st1, ldI_st, ldL_st, stoI_st, stoL_st, aln_st, cpA_st, bq_st, bq_S, oI_s, oL_s, oD_s, oV_s, oR_s, oR_n, oI_e, oL_e, oD_e, Option.bind_some, fa_lit, fa_litL, nI_add, pk_mul, nI_m1, nI_lt', nI_le', nI_eq', lc_ge, lc_le, lc_gt, lc_lt, lc_eq, isZ_0, isZ_1, bI_0, bI_z, decide_eq_true_eq, Bool.not_eq_true', Bool.not_true, Bool.not_false, decide_eq_false_iff_not, if_true, if_false, ite_true, ite_false, eq_self, not_true, not_false_eq_true, C_80, C_81, C_82, C_84, C_85, C_86, C_94, C_95, C_96, C_97, yu_ne, yu_eq, up_eq, up_ne, yur_ne, yur_eq, yu_uu, y1_eq, y1_ne, y1_y1, Nat.mul_zero, Nat.zero_mul, Nat.add_zero, Nat.zero_add, Nat.mul_one, Nat.one_mul, Nat.reduceEqDiff, Nat.reduceLT, Nat.reduceLeDiff, Nat.reduceAdd, Nat.reduceMul, decide_true, decide_false, cond_true, cond_false, reduceCtorEq, Bool.false_eq_true, Bool.true_eq_false, Bool.true_and, Bool.and_true, Bool.false_and, Bool.and_false, r1_4, k5, hi', ldT hs hr hC.2.2.2.2.2.1 hi10, h5, cn]
    unfold firm
    by_cases q : S 7 i 5 = nI 1
    · simp (disch := omega) only [st_I, st_L, st_R, st_S, st_N, st_C, st_Z, st_X, st_D, st_st, st_sI, st_sIr, st_sL, st_sR, gfI_st, gfL_st, gfR_st, gfN_st, pfI_st, pfL_st, pfR_st, pfZ_st0, pfZ_st1, ldI_st, ldL_st, stoI_st, stoL_st, aln_st, cpA_st, bq_st, bq_S, oI_s, oL_s, oD_s, oV_s, oR_s, oR_n, oI_e, oL_e, oD_e, Option.bind_some, fa_lit, fa_litL, nI_add, pk_mul, nI_m1, nI_lt', nI_le', nI_eq', lc_ge, lc_le, lc_gt, lc_lt, lc_eq, isZ_0, isZ_1, bI_0, bI_z, decide_eq_true_eq, Bool.not_eq_true', Bool.not_true, Bool.not_false, decide_eq_false_iff_not, if_true, if_false, ite_true, ite_false, eq_self, not_true, not_false_eq_true, C_80, C_81, C_82, C_84, C_85, C_86, C_94, C_95, C_96, C_97, yu_ne, yu_eq, up_eq, up_ne, yur_ne, yur_eq, yu_uu, y1_eq, y1_ne, y1_y1, Nat.mul_zero, Nat.zero_mul, Nat.add_zero, Nat.zero_add, Nat.mul_one, Nat.one_mul, Nat.reduceEqDiff, Nat.reduceLT, Nat.reduceLeDiff, Nat.reduceAdd, Nat.reduceMul, decide_true, decide_false, cond_true, cond_false, reduceCtorEq, Bool.false_eq_true, Bool.true_eq_false, Bool.true_and, Bool.and_true, Bool.false_and, Bool.and_false, r1_4, q]
    · simp (disch := omega) only [st_I, st_L, st_R, st_S, st_N, st_C, st_Z, st_X, st_D, st_st, st_sI, st_sIr, st_sL, st_sR, gfI_st, gfL_st, gfR_st, gfN_st, pfI_st, pfL_st, pfR_st, pfZ_st0, pfZ_st1, ldI_st, ldL_st, stoI_st, stoL_st, aln_st, cpA_st, bq_st, bq_S, oI_s, oL_s, oD_s, oV_s, oR_s, oR_n, oI_e, oL_e, oD_e, Option.bind_some, fa_lit, fa_litL, nI_add, pk_mul, nI_m1, nI_lt', nI_le', nI_eq', lc_ge, lc_le, lc_gt, lc_lt, lc_eq, isZ_0, isZ_1, bI_0, bI_z, decide_eq_true_eq, Bool.not_eq_true', Bool.not_true, Bool.not_false, decide_eq_false_iff_not, if_true, if_false, ite_true, ite_false, eq_self, not_true, not_false_eq_true, C_80, C_81, C_82, C_84, C_85, C_86, C_94, C_95, C_96, C_97, yu_ne, yu_eq, up_eq, up_ne, yur_ne, yur_eq, yu_uu, y1_eq, y1_ne, y1_y1, Nat.mul_zero, Nat.zero_mul, Nat.add_zero, Nat.zero_add, Nat.mul_one, Nat.one_mul, Nat.reduceEqDiff, Nat.reduceLT, Nat.reduceLeDiff, Nat.reduceAdd, Nat.reduceMul, decide_true, decide_false, cond_true, cond_false, reduceCtorEq, Bool.false_eq_true, Bool.true_eq_false, Bool.true_and, Bool.and_true, Bool.false_and, Bool.and_false, r1_4, q]
theorem C_50 {μ : mMu} {f : Nat → Nat → Int32} {l : Nat → Nat → Int64} {r : Nat → Nat → Option Nat} (hs : Sh μ) (hr : Rf r) {σ : Nat → Nat} {c : Nat → Nat} {S : Nat → Nat → Nat → Int32} (hC : CAll f r 1 σ c S) (hc : CB c) {w : Nat} (hw : w ≤ 10) : CALL 50 [.ref 1, .int (nI w)] (st μ f l r) = some (.inl (some (.int (qcnt c (S 7) w))), st μ f l r) := by
  have h1a : (mS μ 1).1 = 6 := by rw [hs 1 (by decide)]; rfl
  have h2a : (mS μ 2).1 = 2 := by rw [hs 2 (by decide)]; rfl
  have h6a : (mS μ 6).1 = 1 := by rw [hs 6 (by decide)]; rfl
  have h11a : (mS μ 11).1 = 1 := by rw [hs 11 (by decide)]; rfl
  have h17a : (mS μ 17).1 = 0 := by rw [hs 17 (by decide)]; rfl
  have h23a : (mS μ 23).1 = 5 := by rw [hs 23 (by decide)]; rfl
  have h31a : (mS μ 31).1 = 3 := by rw [hs 31 (by decide)]; rfl
  have r1_0 : r 1 0 = some 2 := hr 1 0 2 rfl
  have r1_1 : r 1 1 = some 17 := hr 1 1 17 rfl
  have r1_2 : r 1 2 = some 23 := hr 1 2 23 rfl
  have r1_3 : r 1 3 = some 31 := hr 1 3 31 rfl
  have r2_4 : r 2 4 = some 6 := hr 2 4 6 rfl
  have r2_5 : r 2 5 = some 11 := hr 2 5 11 rfl
  obtain ⟨k5, k6, k7, k8, k9, k10, k11, k12⟩ := hC.1
  have a0 : f 2 3 = nI (c 0) := hC.2.1.1
  have a1 : f 6 4 = nI (c 1) := hC.2.1.2.2.1
  have a2 : f 11 4 = nI (c 2) := hC.2.1.2.2.2.2.1
  have a6 : f 23 7 = nI (c 5) := hC.2.2.2.1.1
  have a9 : f 31 4 = nI (c 8) := hC.2.2.2.2.1.1
  rw [B_50_0]
  unfold qcnt
  have hw' : w = 0 ∨ w = 1 ∨ w = 2 ∨ w = 3 ∨ w = 4 ∨ w = 5 ∨ w = 6 ∨ w = 7 ∨ w = 8 ∨ w = 9 ∨ w = 10 := by omega
  rcases hw' with rfl | rfl | rfl | rfl | rfl | rfl | rfl | rfl | rfl | rfl | rfl <;> simp (disch := omega) only [st_I, st_L, st_R, st_S, st_N, st_C, st_Z, st_X, st_D, st_st, st_sI, st_sIr, st_sL, st_sR, gfI_st, gfL_st, gfR_st, gfN_st, pfI_st, pfL_st, pfR_st, pfZ_st0, pfZ_st1, ldI_st, ldL_st, stoI_st, stoL_st, aln_st, cpA_st, bq_st, bq_S, oI_s, oL_s, oD_s, oV_s, oR_s, oR_n, oI_e, oL_e, oD_e, Option.bind_some, fa_lit, fa_litL, nI_add, pk_mul, nI_m1, nI_lt', nI_le', nI_eq', lc_ge, lc_le, lc_gt, lc_lt, lc_eq, isZ_0, isZ_1, bI_0, bI_z, decide_eq_true_eq, Bool.not_eq_true', Bool.not_true, Bool.not_false, decide_eq_false_iff_not, if_true, if_false, ite_true, ite_false, eq_self, not_true, not_false_eq_true, C_80, C_81, C_82, C_84, C_85, C_86, C_94, C_95, C_96, C_97, yu_ne, yu_eq, up_eq, up_ne, yur_ne, yur_eq, yu_uu, y1_eq, y1_ne, y1_y1, Nat.mul_zero, Nat.zero_mul, Nat.add_zero, Nat.zero_add, Nat.mul_one, Nat.one_mul, Nat.reduceEqDiff, Nat.reduceLT, Nat.reduceLeDiff, Nat.reduceAdd, Nat.reduceMul, decide_true, decide_false, cond_true, cond_false, reduceCtorEq, Bool.false_eq_true, Bool.true_eq_false, Bool.true_and, Bool.and_true, Bool.false_and, Bool.and_false, r1_0, r1_1, r1_2, r1_3, r2_4, r2_5, a0, a1, a2, a6, a9, k5, k10, k11, k12, C_2 hs hr hC hc, C_51 hs hr hC hc, Nat.reduceSub]
theorem C_74 {μ : mMu} {f : Nat → Nat → Int32} {l : Nat → Nat → Int64} {r : Nat → Nat → Option Nat} (hs : Sh μ) (hr : Rf r) {σ : Nat → Nat} {c : Nat → Nat} {S : Nat → Nat → Nat → Int32} (hC : CAll f r 1 σ c S) (hc : CB c) {w : Int32} : CALL 74 [.ref 0, .int w] (st μ f l r) = bif wi w (nI 0) (nI 10) then some (.inl (some (.int (qcnt c (S 7) (ix w)))), st μ f l r) else some (.inr 2, mBurn (st μ f l r) 6) := by
  have h0a : (mS μ 0).1 = 8 := by rw [hs 0 (by decide)]; rfl
  have h1a : (mS μ 1).1 = 6 := by rw [hs 1 (by decide)]; rfl
  have r0_0 : r 0 0 = some 1 := hr 0 0 1 rfl
  rw [B_74_0]
  simp (disch := omega) only [st_I, st_L, st_R, st_S, st_N, st_C, st_Z, st_X, st_D, st_st, st_sI, st_sIr, st_sL, st_sR, gfI_st, gfL_st, gfR_st, gfN_st, pfI_st, pfL_st, pfR_st, pfZ_st0, pfZ_st1, ldI_st, ldL_st, stoI_st, stoL_st, aln_st, cpA_st, bq_st, bq_S, oI_s, oL_s, oD_s, oV_s, oR_s, oR_n, oI_e, oL_e, oD_e, Option.bind_some, fa_lit, fa_litL, nI_add, pk_mul, nI_m1, nI_lt', nI_le', nI_eq', lc_ge, lc_le, lc_gt, lc_lt, lc_eq, isZ_0, isZ_1, bI_0, bI_z, decide_eq_true_eq, Bool.not_eq_true', Bool.not_true, Bool.not_false, decide_eq_false_iff_not, if_true, if_false, ite_true, ite_false, eq_self, not_true, not_false_eq_true, C_80, C_81, C_82, C_84, C_85, C_86, C_94, C_95, C_96, C_97, yu_ne, yu_eq, up_eq, up_ne, yur_ne, yur_eq, yu_uu, y1_eq, y1_ne, y1_y1, Nat.mul_zero, Nat.zero_mul, Nat.add_zero, Nat.zero_add, Nat.mul_one, Nat.one_mul, Nat.reduceEqDiff, Nat.reduceLT, Nat.reduceLeDiff, Nat.reduceAdd, Nat.reduceMul, decide_true, decide_false, cond_true, cond_false, reduceCtorEq, Bool.false_eq_true, Bool.true_eq_false, Bool.true_and, Bool.and_true, Bool.false_and, Bool.and_false, r0_0]
  cases h2 : wi w (nI 0) (nI 10) with
  | false => rfl
  | true =>
    obtain ⟨m, hm2, rfl⟩ := wi_get (by decide) h2
    rw [ix_nI (by omega)]
    simp (disch := omega) only [st_I, st_L, st_R, st_S, st_N, st_C, st_Z, st_X, st_D, st_st, st_sI, st_sIr, st_sL, st_sR, gfI_st, gfL_st, gfR_st, gfN_st, pfI_st, pfL_st, pfR_st, pfZ_st0, pfZ_st1, ldI_st, ldL_st, stoI_st, stoL_st, aln_st, cpA_st, bq_st, bq_S, oI_s, oL_s, oD_s, oV_s, oR_s, oR_n, oI_e, oL_e, oD_e, Option.bind_some, fa_lit, fa_litL, nI_add, pk_mul, nI_m1, nI_lt', nI_le', nI_eq', lc_ge, lc_le, lc_gt, lc_lt, lc_eq, isZ_0, isZ_1, bI_0, bI_z, decide_eq_true_eq, Bool.not_eq_true', Bool.not_true, Bool.not_false, decide_eq_false_iff_not, if_true, if_false, ite_true, ite_false, eq_self, not_true, not_false_eq_true, C_80, C_81, C_82, C_84, C_85, C_86, C_94, C_95, C_96, C_97, yu_ne, yu_eq, up_eq, up_ne, yur_ne, yur_eq, yu_uu, y1_eq, y1_ne, y1_y1, Nat.mul_zero, Nat.zero_mul, Nat.add_zero, Nat.zero_add, Nat.mul_one, Nat.one_mul, Nat.reduceEqDiff, Nat.reduceLT, Nat.reduceLeDiff, Nat.reduceAdd, Nat.reduceMul, decide_true, decide_false, cond_true, cond_false, reduceCtorEq, Bool.false_eq_true, Bool.true_eq_false, Bool.true_and, Bool.and_true, Bool.false_and, Bool.and_false, r0_0, C_50 hs hr hC hc (w := m) (by omega)]
theorem C_75 {μ : mMu} {f : Nat → Nat → Int32} {l : Nat → Nat → Int64} {r : Nat → Nat → Option Nat} (hs : Sh μ) (hr : Rf r) {σ : Nat → Nat} {c : Nat → Nat} {S : Nat → Nat → Nat → Int32} (hC : CAll f r 1 σ c S) (hc : CB c) {w : Int32} : CALL 75 [.ref 0, .int w] (st μ f l r) = bif wi w (nI 0) (nI (c 4) - nI 1) then some (.inl (some (.int (S 7 (ix w) 0))), st μ f l r) else some (.inr 2, mBurn (st μ f l r) 6) := by
  have h0a : (mS μ 0).1 = 8 := by rw [hs 0 (by decide)]; rfl
  have h1a : (mS μ 1).1 = 6 := by rw [hs 1 (by decide)]; rfl
  have r0_0 : r 0 0 = some 1 := hr 0 0 1 rfl
  have r1_4 : r 1 4 = some 36 := hr 1 4 36 rfl
  have k5 : f 1 5 = nI (c 4) := hC.1.1
  rw [B_75_0]
  simp (disch := omega) only [st_I, st_L, st_R, st_S, st_N, st_C, st_Z, st_X, st_D, st_st, st_sI, st_sIr, st_sL, st_sR, gfI_st, gfL_st, gfR_st, gfN_st, pfI_st, pfL_st, pfR_st, pfZ_st0, pfZ_st1, ldI_st, ldL_st, stoI_st, stoL_st, aln_st, cpA_st, bq_st, bq_S, oI_s, oL_s, oD_s, oV_s, oR_s, oR_n, oI_e, oL_e, oD_e, Option.bind_some, fa_lit, fa_litL, nI_add, pk_mul, nI_m1, nI_lt', nI_le', nI_eq', lc_ge, lc_le, lc_gt, lc_lt, lc_eq, isZ_0, isZ_1, bI_0, bI_z, decide_eq_true_eq, Bool.not_eq_true', Bool.not_true, Bool.not_false, decide_eq_false_iff_not, if_true, if_false, ite_true, ite_false, eq_self, not_true, not_false_eq_true, C_80, C_81, C_82, C_84, C_85, C_86, C_94, C_95, C_96, C_97, yu_ne, yu_eq, up_eq, up_ne, yur_ne, yur_eq, yu_uu, y1_eq, y1_ne, y1_y1, Nat.mul_zero, Nat.zero_mul, Nat.add_zero, Nat.zero_add, Nat.mul_one, Nat.one_mul, Nat.reduceEqDiff, Nat.reduceLT, Nat.reduceLeDiff, Nat.reduceAdd, Nat.reduceMul, decide_true, decide_false, cond_true, cond_false, reduceCtorEq, Bool.false_eq_true, Bool.true_eq_false, Bool.true_and, Bool.and_true, Bool.false_and, Bool.and_false, r0_0, r1_4, k5]
  cases h2 : wi w (nI 0) (nI (c 4) - nI 1) with
  | false => rfl
  | true =>
    have hc' := hc
    obtain ⟨c0, c1, c2, c3, c4, c5, c6, c7, c8, c9, c10, c11, c12, c13, c14⟩ := hc
    obtain ⟨m, hm2, rfl⟩ := wi_get1 (by omega) h2
    rw [ix_nI (by omega)]
    obtain ⟨hσ, hT⟩ := tr_at hs hr hC hc' (l := l) hm2
    have hsh := (trk_sh hs hσ).1
    have hsa : (mS μ (37 + 3 * σ m)).1 = 7 := by rw [hsh]
    have h0 : f (37 + 3 * σ m) 0 = S 7 m 0 := hT.1
    simp (disch := omega) only [st_I, st_L, st_R, st_S, st_N, st_C, st_Z, st_X, st_D, st_st, st_sI, st_sIr, st_sL, st_sR, gfI_st, gfL_st, gfR_st, gfN_st, pfI_st, pfL_st, pfR_st, pfZ_st0, pfZ_st1, ldI_st, ldL_st, stoI_st, stoL_st, aln_st, cpA_st, bq_st, bq_S, oI_s, oL_s, oD_s, oV_s, oR_s, oR_n, oI_e, oL_e, oD_e, Option.bind_some, fa_lit, fa_litL, nI_add, pk_mul, nI_m1, nI_lt', nI_le', nI_eq', lc_ge, lc_le, lc_gt, lc_lt, lc_eq, isZ_0, isZ_1, bI_0, bI_z, decide_eq_true_eq, Bool.not_eq_true', Bool.not_true, Bool.not_false, decide_eq_false_iff_not, if_true, if_false, ite_true, ite_false, eq_self, not_true, not_false_eq_true, C_80, C_81, C_82, C_84, C_85, C_86, C_94, C_95, C_96, C_97, yu_ne, yu_eq, up_eq, up_ne, yur_ne, yur_eq, yu_uu, y1_eq, y1_ne, y1_y1, Nat.mul_zero, Nat.zero_mul, Nat.add_zero, Nat.zero_add, Nat.mul_one, Nat.one_mul, Nat.reduceEqDiff, Nat.reduceLT, Nat.reduceLeDiff, Nat.reduceAdd, Nat.reduceMul, decide_true, decide_false, cond_true, cond_false, reduceCtorEq, Bool.false_eq_true, Bool.true_eq_false, Bool.true_and, Bool.and_true, Bool.false_and, Bool.and_false, r0_0, r1_4, ldT hs hr hC.2.2.2.2.2.1 (t := m) (by omega), h0]
theorem C_36 {μ : mMu} {f : Nat → Nat → Int32} {l : Nat → Nat → Int64} {r : Nat → Nat → Option Nat} (hs : Sh μ) (hr : Rf r) {σ : Nat → Nat} {c : Nat → Nat} {S : Nat → Nat → Nat → Int32} (hC : CAll f r 1 σ c S) (hc : CB c) {nm : Int32} : CALL 36 [.ref 1, .int nm] (st μ f l r) = match pfnd c S nm with
    | some t => some (.inl (some (.ref (37 + 3 * σ t))), st μ f l r)
    | none => some (.inl (some .null), st μ f l r) := by
  have h1a : (mS μ 1).1 = 6 := by rw [hs 1 (by decide)]; rfl
  have r1_4 : r 1 4 = some 36 := hr 1 4 36 rfl
  have k5 : f 1 5 = nI (c 4) := hC.1.1
  have hc' := hc
  obtain ⟨c0, c1, c2, c3, c4, c5, c6, c7, c8, c9, c10, c11, c12, c13, c14⟩ := hc
  rw [B_36_0]
  refine loopP (fun i o => o = RUN 36 2 [some (.ref 1), some (.int nm), some (.int (nI i))] [] (st μ f l r) ∧ ∀ j, j < i → S 7 j 0 ≠ nm) (fun o => o = match pfnd c S nm with
    | some t => some (.inl (some (.ref (37 + 3 * σ t))), st μ f l r)
    | none => some (.inl (some .null), st μ f l r)) (c 4) ?_ ?_ 0 _ (Nat.zero_le _) ⟨rfl, fun j hj => absurd hj (Nat.not_lt_zero j)⟩
  · rintro o ⟨rfl, h⟩
    have hn : pfnd c S nm = none := ff_none (fun j hj => decide_eq_false (h j hj))
    rw [B_36_2, hn]
    simp (disch := omega) only [st_I, st_L, st_R, st_S, st_N, st_C, st_Z, st_X, st_D, st_st, st_sI, st_sIr, st_sL, st_sR, gfI_st, gfL_st, gfR_st, gfN_st, pfI_st, pfL_st, pfR_st, pfZ_st0, pfZ_st1, ldI_st, ldL_st, stoI_st, stoL_st, aln_st, cpA_st, bq_st, bq_S, oI_s, oL_s, oD_s, oV_s, oR_s, oR_n, oI_e, oL_e, oD_e, Option.bind_some, fa_lit, fa_litL, nI_add, pk_mul, nI_m1, nI_lt', nI_le', nI_eq', lc_ge, lc_le, lc_gt, lc_lt, lc_eq, isZ_0, isZ_1, bI_0, bI_z, decide_eq_true_eq, Bool.not_eq_true', Bool.not_true, Bool.not_false, decide_eq_false_iff_not, if_true, if_false, ite_true, ite_false, eq_self, not_true, not_false_eq_true, C_80, C_81, C_82, C_84, C_85, C_86, C_94, C_95, C_96, C_97, yu_ne, yu_eq, up_eq, up_ne, yur_ne, yur_eq, yu_uu, y1_eq, y1_ne, y1_y1, Nat.mul_zero, Nat.zero_mul, Nat.add_zero, Nat.zero_add, Nat.mul_one, Nat.one_mul, Nat.reduceEqDiff, Nat.reduceLT, Nat.reduceLeDiff, Nat.reduceAdd, Nat.reduceMul, decide_true, decide_false, cond_true, cond_false, reduceCtorEq, Bool.false_eq_true, Bool.true_eq_false, Bool.true_and, Bool.and_true, Bool.false_and, Bool.and_false, r1_4, k5, Nat.le_refl]
  · rintro i o hi ⟨rfl, h⟩
    have hi' : ¬ c 4 ≤ i := by omega
    have hi10 : i < 10 := by omega
    obtain ⟨hσ, hT⟩ := tr_at hs hr hC hc' (l := l) hi
    have hsh := (trk_sh hs hσ).1
    have hsa : (mS μ (37 + 3 * σ i)).1 = 7 := by rw [hsh]
    have h0 : f (37 + 3 * σ i) 0 = S 7 i 0 := hT.1
    rw [B_36_2]
    simp (disch := omega) only [st_I, st_L, st_R, st_S, st_N, st_C, st_Z, st_X, st_D, st_st, st_sI, st_sIr, st_sL, st_sR, gfI_st, gfL_st, gfR_st, gfN_st, pfI_st, pfL_st, pfR_st, pfZ_st0, pfZ_st1, ldI_st, ldL_st, stoI_st, stoL_st, aln_st, cpA_st, bq_st, bq_S, oI_s, oL_s, oD_s, oV_s, oR_s, oR_n, oI_e, oL_e, oD_e, Option.bind_some, fa_lit, fa_litL, nI_add, pk_mul, nI_m1, nI_lt', nI_le', nI_eq', lc_ge, lc_le, lc_gt, lc_lt, lc_eq, isZ_0, isZ_1, bI_0, bI_z, decide_eq_true_eq, Bool.not_eq_true', Bool.not_true, Bool.not_false, decide_eq_false_iff_not, if_true, if_false, ite_true, ite_false, eq_self, not_true, not_false_eq_true, C_80, C_81, C_82, C_84, C_85, C_86, C_94, C_95, C_96, C_97, yu_ne, yu_eq, up_eq, up_ne, yur_ne, yur_eq, yu_uu, y1_eq, y1_ne, y1_y1, Nat.mul_zero, Nat.zero_mul, Nat.add_zero, Nat.zero_add, Nat.mul_one, Nat.one_mul, Nat.reduceEqDiff, Nat.reduceLT, Nat.reduceLeDiff, Nat.reduceAdd, Nat.reduceMul, decide_true, decide_false, cond_true, cond_false, reduceCtorEq, Bool.false_eq_true, Bool.true_eq_false, Bool.true_and, Bool.and_true, Bool.false_and, Bool.and_false, r1_4, k5, hi', ldT hs hr hC.2.2.2.2.2.1 hi10, h0]
    by_cases hp : S 7 i 0 = nm
    · left
      have hn : pfnd c S nm = some i := ff_some (fun j hj => decide_eq_false (h j hj)) (decide_eq_true hp) hi
      rw [hn]
      simp (disch := omega) only [st_I, st_L, st_R, st_S, st_N, st_C, st_Z, st_X, st_D, st_st, st_sI, st_sIr, st_sL, st_sR, gfI_st, gfL_st, gfR_st, gfN_st, pfI_st, pfL_st, pfR_st, pfZ_st0, pfZ_st1, ldI_st, ldL_st, stoI_st, stoL_st, aln_st, cpA_st, bq_st, bq_S, oI_s, oL_s, oD_s, oV_s, oR_s, oR_n, oI_e, oL_e, oD_e, Option.bind_some, fa_lit, fa_litL, nI_add, pk_mul, nI_m1, nI_lt', nI_le', nI_eq', lc_ge, lc_le, lc_gt, lc_lt, lc_eq, isZ_0, isZ_1, bI_0, bI_z, decide_eq_true_eq, Bool.not_eq_true', Bool.not_true, Bool.not_false, decide_eq_false_iff_not, if_true, if_false, ite_true, ite_false, eq_self, not_true, not_false_eq_true, C_80, C_81, C_82, C_84, C_85, C_86, C_94, C_95, C_96, C_97, yu_ne, yu_eq, up_eq, up_ne, yur_ne, yur_eq, yu_uu, y1_eq, y1_ne, y1_y1, Nat.mul_zero, Nat.zero_mul, Nat.add_zero, Nat.zero_add, Nat.mul_one, Nat.one_mul, Nat.reduceEqDiff, Nat.reduceLT, Nat.reduceLeDiff, Nat.reduceAdd, Nat.reduceMul, decide_true, decide_false, cond_true, cond_false, reduceCtorEq, Bool.false_eq_true, Bool.true_eq_false, Bool.true_and, Bool.and_true, Bool.false_and, Bool.and_false, r1_4, hp]
    · right
      simp (disch := omega) only [st_I, st_L, st_R, st_S, st_N, st_C, st_Z, st_X, st_D, st_st, st_sI, st_sIr, st_sL, st_sR, gfI_st, gfL_st, gfR_st, gfN_st, pfI_st, pfL_st, pfR_st, pfZ_st0, pfZ_st1, ldI_st, ldL_st, stoI_st, stoL_st, aln_st, cpA_st, bq_st, bq_S, oI_s, oL_s, oD_s, oV_s, oR_s, oR_n, oI_e, oL_e, oD_e, Option.bind_some, fa_lit, fa_litL, nI_add, pk_mul, nI_m1, nI_lt', nI_le', nI_eq', lc_ge, lc_le, lc_gt, lc_lt, lc_eq, isZ_0, isZ_1, bI_0, bI_z, decide_eq_true_eq, Bool.not_eq_true', Bool.not_true, Bool.not_false, decide_eq_false_iff_not, if_true, if_false, ite_true, ite_false, eq_self, not_true, not_false_eq_true, C_80, C_81, C_82, C_84, C_85, C_86, C_94, C_95, C_96, C_97, yu_ne, yu_eq, up_eq, up_ne, yur_ne, yur_eq, yu_uu, y1_eq, y1_ne, y1_y1, Nat.mul_zero, Nat.zero_mul, Nat.add_zero, Nat.zero_add, Nat.mul_one, Nat.one_mul, Nat.reduceEqDiff, Nat.reduceLT, Nat.reduceLeDiff, Nat.reduceAdd, Nat.reduceMul, decide_true, decide_false, cond_true, cond_false, reduceCtorEq, Bool.false_eq_true, Bool.true_eq_false, Bool.true_and, Bool.and_true, Bool.false_and, Bool.and_false, r1_4, hp]
      refine ⟨trivial, fun j hj => ?_⟩
      rcases Nat.lt_or_ge j i with h1 | h1
      · exact h j h1
      · have : j = i := by omega
        rw [this]; exact hp
