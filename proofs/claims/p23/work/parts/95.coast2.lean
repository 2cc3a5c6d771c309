/-! ===== the law's coast, whole; the tuning ===== -/
theorem st_all {Cb Zb : Nat} {X : Nat × (Nat → Int32)} {μ : mMu} {f : Nat → Nat → Int32} {l : Nat → Nat → Int64} {r : Nat → Nat → Option Nat} {σ : Nat → Nat} {c : Nat → Nat} {S : Nat → Nat → Nat → Int32} (h : LW Cb Zb X μ f r σ c S) (hX : X.1 ≤ 260) {n : Nat} (hn : n ≤ 3) (h0 : c 0 = 0) {o6 o7 o8 o9 o10 o11 : Option Value} : ∀ j, j ≤ n → ∃ μ' f' l' r' c' S' o6' o7' o8', RUN 100 24 [some (.ref 0), some (.retAddr 0), some (.int (nI 900)), some (.ref 137), some (.int (nI n)), some (.int (nI 0)), o6, o7, o8, o9, o10, o11] [] (st μ f l r) = RUN 100 24 [some (.ref 0), some (.retAddr 0), some (.int (nI 900)), some (.ref 137), some (.int (nI n)), some (.int (nI j)), o6', o7', o8', o9, o10, o11] [] (st μ' f' l' r') ∧ LW (Cb + 2 * j) (Zb + 7 * j) X μ' f' r' σ c' S' ∧ c' 0 = j ∧ ∀ q, q ≠ 0 → c' q = c q
  | 0, _ => ⟨μ, f, l, r, c, S, o6, o7, o8, rfl, h, h0, fun _ _ => rfl⟩
  | j + 1, hj => by
    obtain ⟨μ1, f1, l1, r1, c1, S1, p6, p7, p8, e1, h1, h2, h3⟩ := st_all h hX hn h0 (l := l) (o6 := o6) (o7 := o7) (o8 := o8) (o9 := o9) (o10 := o10) (o11 := o11) j (by omega)
    obtain ⟨μ2, f2, l2, r2, c2, S2, q6, q7, q8, e2, g1, g2, g3⟩ := st_step (l := l1) h1 hX (n := n) (i := j) (by omega) hn h2 (o6 := p6) (o7 := p7) (o8 := p8) (o9 := o9) (o10 := o10) (o11 := o11)
    exact ⟨μ2, f2, l2, r2, c2, S2, q6, q7, q8, e1.trans e2, g1, g2, fun q hq => (g3 q hq).trans (h3 q hq)⟩
theorem pl_all {Cb Zb : Nat} {X : Nat × (Nat → Int32)} {μ : mMu} {f : Nat → Nat → Int32} {l : Nat → Nat → Int64} {r : Nat → Nat → Option Nat} {σ : Nat → Nat} {c : Nat → Nat} {S : Nat → Nat → Nat → Int32} (h : LW Cb Zb X μ f r σ c S) (hX : X.1 ≤ 260) {m : Nat} (hm : m ≤ 2) (h0 : c 1 = 0) {o4 o7 o8 o9 o10 o11 : Option Value} : ∀ j, j ≤ m → ∃ μ' f' l' r' c' S' o7' o8' o9' o10' o11', RUN 100 160 [some (.ref 0), some (.retAddr 0), some (.int (nI 900)), some (.ref 137), o4, some (.int (nI m)), some (.int (nI 0)), o7, o8, o9, o10, o11] [] (st μ f l r) = RUN 100 160 [some (.ref 0), some (.retAddr 0), some (.int (nI 900)), some (.ref 137), o4, some (.int (nI m)), some (.int (nI j)), o7', o8', o9', o10', o11'] [] (st μ' f' l' r') ∧ LW (Cb + 2 * j) (Zb + 7 * j) X μ' f' r' σ c' S' ∧ c' 1 = j ∧ ∀ q, q ≠ 1 → c' q = c q
  | 0, _ => ⟨μ, f, l, r, c, S, o7, o8, o9, o10, o11, rfl, h, h0, fun _ _ => rfl⟩
  | j + 1, hj => by
    obtain ⟨μ1, f1, l1, r1, c1, S1, p7, p8, p9, p10, p11, e1, h1, h2, h3⟩ := pl_all h hX hm h0 (l := l) (o4 := o4) (o7 := o7) (o8 := o8) (o9 := o9) (o10 := o10) (o11 := o11) j (by omega)
    obtain ⟨μ2, f2, l2, r2, c2, S2, q7, q8, q9, q10, q11, e2, g1, g2, g3⟩ := pl_step (l := l1) h1 hX (m := m) (k := j) hm (by omega) h2 (o4 := o4) (o7 := p7) (o8 := p8) (o9 := p9) (o10 := p10) (o11 := p11)
    exact ⟨μ2, f2, l2, r2, c2, S2, q7, q8, q9, q10, q11, e1.trans e2, g1, g2, fun q hq => (g3 q hq).trans (h3 q hq)⟩
theorem ar_all {Cb Zb : Nat} {X : Nat × (Nat → Int32)} {μ : mMu} {f : Nat → Nat → Int32} {l : Nat → Nat → Int64} {r : Nat → Nat → Option Nat} {σ : Nat → Nat} {c : Nat → Nat} {S : Nat → Nat → Nat → Int32} (h : LW Cb Zb X μ f r σ c S) (hX : X.1 ≤ 260) {m : Nat} (hm : m ≤ 2) (h0 : c 2 = 0) {o4 o7 o8 o9 o10 o11 : Option Value} : ∀ j, j ≤ 2 → ∃ μ' f' l' r' c' S' o7' o8' o9' o10' o11', RUN 100 160 [some (.ref 0), some (.retAddr 0), some (.int (nI 900)), some (.ref 137), o4, some (.int (nI m)), some (.int (nI m)), o7, o8, o9, o10, o11] [] (st μ f l r) = RUN 100 160 [some (.ref 0), some (.retAddr 0), some (.int (nI 900)), some (.ref 137), o4, some (.int (nI m)), some (.int (nI (m + j))), o7', o8', o9', o10', o11'] [] (st μ' f' l' r') ∧ LW (Cb + 2 * j) (Zb + 7 * j) X μ' f' r' σ c' S' ∧ c' 2 = j ∧ ∀ q, q ≠ 2 → c' q = c q
  | 0, _ => ⟨μ, f, l, r, c, S, o7, o8, o9, o10, o11, rfl, h, h0, fun _ _ => rfl⟩
  | j + 1, hj => by
    obtain ⟨μ1, f1, l1, r1, c1, S1, p7, p8, p9, p10, p11, e1, h1, h2, h3⟩ := ar_all h hX hm h0 (l := l) (o4 := o4) (o7 := o7) (o8 := o8) (o9 := o9) (o10 := o10) (o11 := o11) j (by omega)
    obtain ⟨μ2, f2, l2, r2, c2, S2, q7, q8, q9, q10, q11, e2, g1, g2, g3⟩ := ar_step (l := l1) h1 hX (m := m) (k := m + j) hm (by omega) (by omega) (by omega) (o4 := o4) (o7 := p7) (o8 := p8) (o9 := p9) (o10 := p10) (o11 := p11)
    exact ⟨μ2, f2, l2, r2, c2, S2, q7, q8, q9, q10, q11, e1.trans e2, g1, by omega, fun q hq => (g3 q hq).trans (h3 q hq)⟩
/-! the start, behind the class -/
theorem sg_f {m : mMu} {b z : Nat} {D E : List (Nat × Nat)} {X : Nat × (Nat → Int32)} (h : Pb m b z D E X) (hb : 137 ≤ b) (hE : ∀ q, q ∈ EE → q ∈ E) {a j : Nat} (ha : a < 137) : mI m a j = FI a j := by
  by_cases q : FI a j = nI 0
  · rcases h.2.2.2.2.2.2.2.2 a j (by omega) with e | e
    · rw [e, q]
    · exact e
  · have hj : j < 20 := by
      rcases Nat.lt_or_ge j 20 with hj | hj
      · exact hj
      · exact absurd (FI_20 hj) q
    exact (h.2.2.2.2.2.2.2.1 (a, j) (hE _ (EE_all a ha j hj q))).2
theorem sg_x {m : mMu} {b z : Nat} {D E : List (Nat × Nat)} {X : Nat × (Nat → Int32)} (h : Pb m b z D E X) (hD : ∀ q, q ∈ DD → q ∈ D) {a j v : Nat} (ha : a < 137) (hj : j < 20) (hv : RX a j = some v) : mR m a j = some v := Pb_r h (hD _ (DD_all a ha j hj (by rw [hv]; exact fun hh => by cases hh))) hv
theorem sg_rf {m : mMu} {b z : Nat} {D E : List (Nat × Nat)} {X : Nat × (Nat → Int32)} (h : Pb m b z D E X) (hD : ∀ q, q ∈ DD → q ∈ D) : Rf (mR m) := fun a j v hv => by
  have ha := RT_lt hv
  have hj := RT_20 hv
  have e := RX_RT a ha j hj (by rw [hv]; exact fun hh => by cases hh)
  exact sg_x h hD ha hj (by rw [e]; exact hv)
theorem XI_0 : XI c_0 S_0 := ⟨⟨fun e he => absurd he (by show ¬ e < min 0 120; omega), fun e he => absurd he (by show ¬ e + 1 < min 0 120; omega), fun _ => rfl⟩, fun t ht => absurd ht (Nat.not_lt_zero t), fun a b _ hb => absurd hb (Nat.not_lt_zero b)⟩
theorem LW_0 {m : mMu} {z : Nat} {D E : List (Nat × Nat)} {X : Nat × (Nat → Int32)} (h : Pb m 146 z D E X) (hD : ∀ q, q ∈ DD → q ∈ D) (hE : ∀ q, q ∈ EE → q ∈ E) (h3 : ∀ j, j < 3 → (137, j) ∈ D) : LW 146 z X m (mI m) (mR m) (fun t => t) c_0 S_0 := by
  have p1 : ∀ t, t < 10 → RX 36 t = some (37 + 3 * t) := by decide
  have p2 : ∀ j, j < 3 → RX 137 j = some (138 + j) := by decide
  have p3 : ∀ j, j < 3 → SH (138 + j) = (24, 0) := by decide
  have row : ∀ j, j < 3 → RW m (mR m) j 0 := fun j hj => ⟨138 + j, Pb_r h (h3 j hj) (p2 j hj), ⟨by omega, by rw [h.1]; omega, by rw [Pb_s h (by omega)]; exact p3 j hj⟩, fun i hi => absurd hi (Nat.not_lt_zero i)⟩
  exact ⟨⟨fun a ha => Pb_s h (by omega), sg_rf h hD, by rw [h.1]; exact Nat.le_refl _, h.2.2.2.1, by rw [h.2.1]; exact Nat.le_refl _, by rw [h.2.2.1]; exact Nat.le_refl _⟩, CAll_st (fun a j ha => sg_f h (by omega) hE ha) ⟨fun t ht => ⟨ht, sg_x h hD (by omega) (by omega) (p1 t ht)⟩, fun t u _ _ e => e⟩, INV_0, XI_0, by rw [Pb_s h (by omega)]; rfl, row 0 (by omega), row 1 (by omega), row 2 (by omega), fun hn => absurd hn (Nat.lt_irrefl 0)⟩
theorem coast_ok {m : mMu} {X : Nat × (Nat → Int32)} (h : Pb m 137 16085 DD EE X) (hX : X.1 ≤ 260) : ∃ μ f l r σ c S, CALL 100 [.ref 0, .retAddr 0, .int (nI 900)] m = some (.inl (some (.ref 137)), st μ f l r) ∧ LW 160 16600 X μ f r σ c S ∧ 0 < c 0 ∧ c 2 = 2 ∧ ∀ q, 3 ≤ q → c q = c_0 q := by
  have p1 := Pb_new (k := 18) (sh := (9, 0)) h rfl
  obtain ⟨m1, e1, p2⟩ := N87 p1
  have w0 := LW_0 p2 (fun q hq => List.mem_append_right _ hq) (fun q hq => List.mem_append_right _ hq) (fun j hj => by
    have : j = 0 ∨ j = 1 ∨ j = 2 := by omega
    rcases this with rfl | rfl | rfl <;> simp)
  have hm : m1 = st m1 (mI m1) (mL m1) (mR m1) := rfl
  generalize mI m1 = f0 at hm w0
  generalize mL m1 = l0 at hm w0
  generalize mR m1 = r0 at hm w0
  have hX1 : (mX m1).1 ≤ 260 := by rw [w0.1.2.2.2.1]; exact hX
  have b1 := bel_lt (v := cel (mX m1) 0) (n := 3) (by omega)
  have b2 := fun M : mMu => bel_lt (v := cel (mX M) 0 >>> (nI 3 &&& nI 31)) (n := 3) (by omega)
  have e0 : CALL 100 [.ref 0, .retAddr 0, .int (nI 900)] m = RUN 100 24 [some (.ref 0), some (.retAddr 0), some (.int (nI 900)), some (.ref 137), some (.int (nI (1 + bel (cel (mX m1) 0) 3))), some (.int (nI 0)), none, none, none, none, none, none] [] (st m1 f0 l0 r0) := by
    rw [B_100_0, h.1, e1, oV_s, hm]
    simp (disch := omega) only [st_I, st_L, st_R, st_S, st_N, st_C, st_Z, st_X, st_D, st_st, st_sI, st_sIr, st_sL, st_sR, gfI_st, gfL_st, gfR_st, gfN_st, pfI_st, pfL_st, pfR_st, pfZ_st0, pfZ_st1, ldI_st, ldL_st, stoI_st, stoL_st, aln_st, cpA_st, bq_st, bq_S, oI_s, oL_s, oD_s, oV_s, oR_s, oR_n, oI_e, oL_e, oD_e, Option.bind_some, fa_lit, fa_litL, nI_add, pk_mul, nI_m1, nI_lt', nI_le', nI_eq', lc_ge, lc_le, lc_gt, lc_lt, lc_eq, isZ_0, isZ_1, bI_0, bI_z, decide_eq_true_eq, Bool.not_eq_true', Bool.not_true, Bool.not_false, decide_eq_false_iff_not, if_true, if_false, ite_true, ite_false, eq_self, not_true, not_false_eq_true, C_80, C_81, C_82, C_84, C_85, C_86, C_94, C_95, C_96, C_97, yu_ne, yu_eq, up_eq, up_ne, yur_ne, yur_eq, yu_uu, y1_eq, y1_ne, y1_y1, Nat.mul_zero, Nat.zero_mul, Nat.add_zero, Nat.zero_add, Nat.mul_one, Nat.one_mul, Nat.reduceEqDiff, Nat.reduceLT, Nat.reduceLeDiff, Nat.reduceAdd, Nat.reduceMul, decide_true, decide_false, cond_true, cond_false, reduceCtorEq, Bool.false_eq_true, Bool.true_eq_false, Bool.true_and, Bool.and_true, Bool.false_and, Bool.and_false, C_99, C_98, st_X]
  obtain ⟨μ1, f1, l1, r1, c1, S1, p6, p7, p8, q1, w1, k1, k2⟩ := st_all (l := l0) w0 hX (n := 1 + bel (cel (mX m1) 0) 3) (by omega) rfl (o6 := none) (o7 := none) (o8 := none) (o9 := none) (o10 := none) (o11 := none) (1 + bel (cel (mX m1) 0) 3) (Nat.le_refl _)
  have hn3 : 1 + bel (cel (mX m1) 0) 3 ≤ 3 ∧ 1 ≤ 1 + bel (cel (mX m1) 0) 3 := by omega
  generalize 1 + bel (cel (mX m1) 0) 3 = n at *
  have hX2 : (mX μ1).1 ≤ 260 := by rw [w1.1.2.2.2.1]; exact hX
  have b2' := b2 μ1
  have q2 : RUN 100 24 [some (.ref 0), some (.retAddr 0), some (.int (nI 900)), some (.ref 137), some (.int (nI n)), some (.int (nI n)), p6, p7, p8, none, none, none] [] (st μ1 f1 l1 r1) = RUN 100 160 [some (.ref 0), some (.retAddr 0), some (.int (nI 900)), some (.ref 137), some (.int (nI n)), some (.int (nI (bel (cel (mX μ1) 0 >>> (nI 3 &&& nI 31)) 3))), some (.int (nI 0)), p7, p8, none, none, none] [] (st μ1 f1 l1 r1) := by
    rw [B_100_24]
    simp (disch := omega) only [st_I, st_L, st_R, st_S, st_N, st_C, st_Z, st_X, st_D, st_st, st_sI, st_sIr, st_sL, st_sR, gfI_st, gfL_st, gfR_st, gfN_st, pfI_st, pfL_st, pfR_st, pfZ_st0, pfZ_st1, ldI_st, ldL_st, stoI_st, stoL_st, aln_st, cpA_st, bq_st, bq_S, oI_s, oL_s, oD_s, oV_s, oR_s, oR_n, oI_e, oL_e, oD_e, Option.bind_some, fa_lit, fa_litL, nI_add, pk_mul, nI_m1, nI_lt', nI_le', nI_eq', lc_ge, lc_le, lc_gt, lc_lt, lc_eq, isZ_0, isZ_1, bI_0, bI_z, decide_eq_true_eq, Bool.not_eq_true', Bool.not_true, Bool.not_false, decide_eq_false_iff_not, if_true, if_false, ite_true, ite_false, eq_self, not_true, not_false_eq_true, C_80, C_81, C_82, C_84, C_85, C_86, C_94, C_95, C_96, C_97, yu_ne, yu_eq, up_eq, up_ne, yur_ne, yur_eq, yu_uu, y1_eq, y1_ne, y1_y1, Nat.mul_zero, Nat.zero_mul, Nat.add_zero, Nat.zero_add, Nat.mul_one, Nat.one_mul, Nat.reduceEqDiff, Nat.reduceLT, Nat.reduceLeDiff, Nat.reduceAdd, Nat.reduceMul, decide_true, decide_false, cond_true, cond_false, reduceCtorEq, Bool.false_eq_true, Bool.true_eq_false, Bool.true_and, Bool.and_true, Bool.false_and, Bool.and_false, Nat.le_refl, C_99, C_98]
  obtain ⟨μ2, f2, l2, r2, c2, S2, v7, v8, v9, v10, v11, q3, w2, k3, k4⟩ := pl_all (l := l1) w1 hX (m := bel (cel (mX μ1) 0 >>> (nI 3 &&& nI 31)) 3) (by omega) (by rw [k2 1 (by decide)]; rfl) (o4 := some (.int (nI n))) (o7 := p7) (o8 := p8) (o9 := none) (o10 := none) (o11 := none) _ (Nat.le_refl _)
  generalize bel (cel (mX μ1) 0 >>> (nI 3 &&& nI 31)) 3 = k at *
  obtain ⟨μ3, f3, l3, r3, c3, S3, u7, u8, u9, u10, u11, q4, w3, k5, k6⟩ := ar_all (l := l2) w2 hX (m := k) (by omega) (by rw [k4 2 (by decide), k2 2 (by decide)]; rfl) (o4 := some (.int (nI n))) (o7 := v7) (o8 := v8) (o9 := v9) (o10 := v10) (o11 := v11) 2 (Nat.le_refl _)
  have q5 : RUN 100 160 [some (.ref 0), some (.retAddr 0), some (.int (nI 900)), some (.ref 137), some (.int (nI n)), some (.int (nI k)), some (.int (nI (k + 2))), u7, u8, u9, u10, u11] [] (st μ3 f3 l3 r3) = some (.inl (some (.ref 137)), st μ3 f3 l3 r3) := by
    rw [B_100_160]
    simp (disch := omega) only [st_I, st_L, st_R, st_S, st_N, st_C, st_Z, st_X, st_D, st_st, st_sI, st_sIr, st_sL, st_sR, gfI_st, gfL_st, gfR_st, gfN_st, pfI_st, pfL_st, pfR_st, pfZ_st0, pfZ_st1, ldI_st, ldL_st, stoI_st, stoL_st, aln_st, cpA_st, bq_st, bq_S, oI_s, oL_s, oD_s, oV_s, oR_s, oR_n, oI_e, oL_e, oD_e, Option.bind_some, fa_lit, fa_litL, nI_add, pk_mul, nI_m1, nI_lt', nI_le', nI_eq', lc_ge, lc_le, lc_gt, lc_lt, lc_eq, isZ_0, isZ_1, bI_0, bI_z, decide_eq_true_eq, Bool.not_eq_true', Bool.not_true, Bool.not_false, decide_eq_false_iff_not, if_true, if_false, ite_true, ite_false, eq_self, not_true, not_false_eq_true, C_80, C_81, C_82, C_84, C_85, C_86, C_94, C_95, C_96, C_97, yu_ne, yu_eq, up_eq, up_ne, yur_ne, yur_eq, yu_uu, y1_eq, y1_ne, y1_y1, Nat.mul_zero, Nat.zero_mul, Nat.add_zero, Nat.zero_add, Nat.mul_one, Nat.one_mul, Nat.reduceEqDiff, Nat.reduceLT, Nat.reduceLeDiff, Nat.reduceAdd, Nat.reduceMul, decide_true, decide_false, cond_true, cond_false, reduceCtorEq, Bool.false_eq_true, Bool.true_eq_false, Bool.true_and, Bool.and_true, Bool.false_and, Bool.and_false, Nat.le_refl]
  refine ⟨μ3, f3, l3, r3, fun t => t, c3, S3, e0.trans (q1.trans (q2.trans (q3.trans (q4.trans q5)))), ?_, ?_, k5, fun q hq => ?_⟩
  · obtain ⟨⟨g1, g2, g3, g4, g5, g6⟩, g7⟩ := w3
    exact ⟨⟨g1, g2, g3, g4, by omega, by omega⟩, g7⟩
  · rw [k6 0 (by decide), k4 0 (by decide), k1]; omega
  · rw [k6 q (by omega), k4 q (by omega), k2 q (by omega)]
theorem tune_ok {Cb Zb : Nat} {X : Nat × (Nat → Int32)} {μ : mMu} {f : Nat → Nat → Int32} {l : Nat → Nat → Int64} {r : Nat → Nat → Option Nat} {σ : Nat → Nat} {c : Nat → Nat} {S : Nat → Nat → Nat → Int32} (h : LW Cb Zb X μ f r σ c S) {b1 b2 b3 : Nat} (h1 : b1 < 300) (h2 : b2 < 17) (h3 : b3 < 17) : ∃ f' c', CALL 70 [.ref 0, .int (nI 60), .int (nI (30 + b1)), .int (nI b2), .int (nI b3)] (st μ f l r) = some (.inl (some (.int (nI (c 12)))), st μ f' l r) ∧ LW Cb Zb X μ f' r σ c' S ∧ ∀ q, q < 11 → c' q = c q := by
  obtain ⟨⟨hs, hr, hN, hXe, hCb, hZb⟩, hC, hI, hXI, hH⟩ := h
  have w1 : wi (nI 60) (nI 0) (nI 500) = true := by decide
  have w2 : wi (nI (30 + b1)) (nI 1) (nI 2000) = true := by
    rw [wi_iff, nI_toInt (n := 30 + b1) (by omega), nI_toInt (n := 1) (by decide), nI_toInt (n := 2000) (by decide)]
    omega
  have w3 : ∀ b, b < 17 → wi (nI b) (nI 0) (nI 16) = true := fun b hb => by
    rw [wi_iff, nI_toInt (n := b) (by omega), nI_toInt (n := 0) (by decide), nI_toInt (n := 16) (by decide)]
    omega
  have hsp : s_tune c S (nI 60) (nI (30 + b1)) (nI b2) (nI b3) = (nI (c 12), nI 0, u1 (u1 (u1 (u1 c 11 (ix (nI 60))) 12 (ix (nI (30 + b1)))) 13 (ix (nI b2))) 14 (ix (nI b3)), S) := by
    unfold s_tune
    rw [w1, w2, w3 b2 h2, w3 b3 h3]
    rfl
  have c70 := C_70 hs hr (l := l) hC hI.1 (x := nI 60) (y := nI (30 + b1)) (z := nI b2) (w := nI b3)
  have hIa := INV_tune hI (x := nI 60) (y := nI (30 + b1)) (z := nI b2) (w := nI b3)
  rw [hsp] at c70 hIa
  simp only at c70 hIa
  have cq : ∀ q, q < 11 → u1 (u1 (u1 (u1 c 11 (ix (nI 60))) 12 (ix (nI (30 + b1)))) 13 (ix (nI b2))) 14 (ix (nI b3)) q = c q := fun q hq => by rw [y1_ne (by omega), y1_ne (by omega), y1_ne (by omega), y1_ne (by omega)]
  rcases c70 with ⟨-, f', e70, hC', hf'⟩ | ⟨q, -⟩ | ⟨q, -⟩
  · refine ⟨f', _, e70, ⟨⟨hs, hr, hN, hXe, hCb, hZb⟩, hC', hIa, XI_of hXI (fun q _ h9 => cq q (by omega)) rfl rfl, ?_⟩, cq⟩
    simp only
    rw [cq 0 (by omega), cq 1 (by omega), cq 2 (by omega)]
    exact HS_e hH (by omega) (Nat.le_refl _) (fun _ _ _ => rfl) (fun _ _ _ => rfl) (fun a h1 _ => hf' a (Or.inr (by omega)))
  · exact absurd (show nI 0 = nI 1 from q) (by decide)
  · exact absurd (show nI 0 = nI 2 from q) (by decide)
