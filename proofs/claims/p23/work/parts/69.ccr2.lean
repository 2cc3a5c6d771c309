/-! ===== the class' crossings ===== -/
theorem cr1_k {a b : Nat} {s : CS} : (cr1 a b s).2 7 = s.2 7 := by
  unfold cr1
  split
  · cases firm (s.2 7) a && (firm (s.2 7) b && p_cr (s.2 7 a) (s.2 7 b))
    · rfl
    · simp only [cond_true, noteS_r (show (7 : Nat) ≠ 9 by decide)]
  · rfl
theorem cr1s_k {a : Nat} {s : CS} : ∀ i, (itr (cr1 a) i s).2 7 = s.2 7
  | 0 => rfl
  | i + 1 => by rw [itr_s', cr1_k]; exact cr1s_k i
theorem cr1s_0 {a : Nat} {s : CS} : ∀ i, i ≤ a + 1 → itr (cr1 a) i s = s
  | 0, _ => rfl
  | i + 1, h => by
    rw [itr_s', cr1s_0 i (by omega)]
    unfold cr1
    rw [if_neg (by omega)]
def CRP (T : Nat → Nat → Int32) (n : Nat) : Prop := (∀ a, a < n → firm T a = true → nI 1 < T a 8 ∧ T a 14 = T a 10 ∧ T a 15 = T a 11) ∧ ∀ a b, a < n → b < n → firm T a = true → firm T b = true → p_crC (T a 1) (T a 10) (T a 2) (T a 11) (T b 1) (T b 10) (T b 2) (T b 11) = p_cr (T a) (T b)
theorem S50 {μ : mMu} {f : Nat → Nat → Int32} {l : Nat → Nat → Int64} {r : Nat → Nat → Option Nat} (hs : Sh μ) (hr : Rf r) {σ : Nat → Nat} {c : Nat → Nat} {S : Nat → Nat → Nat → Int32} {n a b : Nat} (hn : n ≤ 10) (h4 : c 4 = n) (h8 : c 8 < 2000000000) (ha : a < b) (hb : b < n) (hA : CRa f c S) (hp : CPm r 1 σ) (ht : TMs f σ n (S 7)) (hX : CRP (S 7) n) : ∃ f', RUN 45 14 [some (.ref 1), some (.int (nI a)), some (.int (nI b))] [] (st μ f l r) = RUN 45 14 [some (.ref 1), some (.int (nI a)), some (.int (nI (b + 1)))] [] (st μ f' l r) ∧ CRa f' (cr1 a b (c, S)).1 (cr1 a b (c, S)).2 ∧ ∀ q, (q < 31 ∨ 35 < q) → f' q = f q := by
  have h1a : (mS μ 1).1 = 6 := by rw [hs 1 (by decide)]; rfl
  have h31a : (mS μ 31).1 = 3 := by rw [hs 31 (by decide)]; rfl
  have r1_3 : r 1 3 = some 31 := hr 1 3 31 rfl
  have r1_4 : r 1 4 = some 36 := hr 1 4 36 rfl
  have hσ := (hp.1 a (by omega)).1
  have hσ2 := (hp.1 b (by omega)).1
  have s1a : (mS μ (37 + 3 * σ a)).1 = 7 := by rw [(trk_sh hs hσ).1]
  have s1b : (mS μ (37 + 3 * σ b)).1 = 7 := by rw [(trk_sh hs hσ2).1]
  have k5 : f 1 5 = nI n := by rw [← h4]; exact hA.1.1
  have hb' : ¬ n ≤ b := by omega
  have x1 := ldT hs hr (f := f) (l := l) hp (t := a) (by omega)
  have x2 := ldT hs hr (f := f) (l := l) hp (t := b) (by omega)
  have x3 := C_46m hs hr (l := l) hn hp ht (a := a) (b := b) (by omega) hb
  have ta := ht a (by omega)
  have tb := ht b hb
  have ta0 : f (37 + 3 * σ a) 0 = S 7 a 0 := ta.1
  have tb0 : f (37 + 3 * σ b) 0 = S 7 b 0 := tb.1
  have k31 : f 31 4 = nI (c 8) := hA.2.2.2.2.1
  have k10 : f 1 10 = nI (c 6) := hA.1.2.2.2.2.2.1
  have x4 := C_19 hs hr (f := f) (l := l) (a := nI (c 6)) (b := nI 6) (c := S 7 a 0) (d := S 7 b 0) k31 h8
  unfold cr1
  simp only [ha, if_true]
  rw [B_45_14]
  cases qa : firm (S 7) a
  · rw [qa] at x3
    simp (disch := omega) only [st_I, st_L, st_R, st_S, st_N, st_C, st_Z, st_X, st_D, st_st, st_sI, st_sIr, st_sL, st_sR, gfI_st, gfL_st, gfR_st, gfN_st, pfI_st, pfL_st, pfR_st, pfZ_st0, pfZ_st1, ldI_st, ldL_st, stoI_st, stoL_st, aln_st, cpA_st, bq_st, bq_S, oI_s, oL_s, oD_s, oV_s, oR_s, oR_n, oI_e, oL_e, oD_e, Option.bind_some, fa_lit, fa_litL, nI_add, pk_mul, nI_m1, nI_lt', nI_le', nI_eq', lc_ge, lc_le, lc_gt, lc_lt, lc_eq, isZ_0, isZ_1, bI_0, bI_z, decide_eq_true_eq, Bool.not_eq_true', Bool.not_true, Bool.not_false, decide_eq_false_iff_not, if_true, if_false, ite_true, ite_false, eq_self, not_true, not_false_eq_true, C_80, C_81, C_82, C_84, C_85, C_86, C_94, C_95, C_96, C_97, yu_ne, yu_eq, up_eq, up_ne, yur_ne, yur_eq, yu_uu, y1_eq, y1_ne, y1_y1, Nat.mul_zero, Nat.zero_mul, Nat.add_zero, Nat.zero_add, Nat.mul_one, Nat.one_mul, Nat.reduceEqDiff, Nat.reduceLT, Nat.reduceLeDiff, Nat.reduceAdd, Nat.reduceMul, decide_true, decide_false, cond_true, cond_false, reduceCtorEq, Bool.false_eq_true, Bool.true_eq_false, Bool.true_and, Bool.and_true, Bool.false_and, Bool.and_false, r1_3, r1_4, k5, hb', x3]
    exact ⟨f, rfl, hA, fun _ _ => rfl⟩
  · cases qb : firm (S 7) b
    · rw [qa, qb] at x3
      simp (disch := omega) only [st_I, st_L, st_R, st_S, st_N, st_C, st_Z, st_X, st_D, st_st, st_sI, st_sIr, st_sL, st_sR, gfI_st, gfL_st, gfR_st, gfN_st, pfI_st, pfL_st, pfR_st, pfZ_st0, pfZ_st1, ldI_st, ldL_st, stoI_st, stoL_st, aln_st, cpA_st, bq_st, bq_S, oI_s, oL_s, oD_s, oV_s, oR_s, oR_n, oI_e, oL_e, oD_e, Option.bind_some, fa_lit, fa_litL, nI_add, pk_mul, nI_m1, nI_lt', nI_le', nI_eq', lc_ge, lc_le, lc_gt, lc_lt, lc_eq, isZ_0, isZ_1, bI_0, bI_z, decide_eq_true_eq, Bool.not_eq_true', Bool.not_true, Bool.not_false, decide_eq_false_iff_not, if_true, if_false, ite_true, ite_false, eq_self, not_true, not_false_eq_true, C_80, C_81, C_82, C_84, C_85, C_86, C_94, C_95, C_96, C_97, yu_ne, yu_eq, up_eq, up_ne, yur_ne, yur_eq, yu_uu, y1_eq, y1_ne, y1_y1, Nat.mul_zero, Nat.zero_mul, Nat.add_zero, Nat.zero_add, Nat.mul_one, Nat.one_mul, Nat.reduceEqDiff, Nat.reduceLT, Nat.reduceLeDiff, Nat.reduceAdd, Nat.reduceMul, decide_true, decide_false, cond_true, cond_false, reduceCtorEq, Bool.false_eq_true, Bool.true_eq_false, Bool.true_and, Bool.and_true, Bool.false_and, Bool.and_false, r1_3, r1_4, k5, hb', x3]
      exact ⟨f, rfl, hA, fun _ _ => rfl⟩
    · obtain ⟨y1, y2, y3⟩ := hX.1 a (by omega) qa
      obtain ⟨y4, y5, y6⟩ := hX.1 b hb qb
      have y7 := hX.2 a b (by omega) hb qa qb
      have pa := ta.2.2.2.2.2.2.2 0 (by decide) y1
      have pb := tb.2.2.2.2.2.2.2 0 (by decide) y4
      have x5 := C_61 hs hr (l := l) hσ hσ2 ta.2.2.2.2.2.1 (pa.1.trans y2) ta.2.2.2.2.2.2.1 (pa.2.trans y3) tb.2.2.2.2.2.1 (pb.1.trans y5) tb.2.2.2.2.2.2.1 (pb.2.trans y6)
      rw [y7] at x5
      rw [qa, qb] at x3
      cases qc : p_cr (S 7 a) (S 7 b)
      · rw [qc] at x5
        simp (disch := omega) only [st_I, st_L, st_R, st_S, st_N, st_C, st_Z, st_X, st_D, st_st, st_sI, st_sIr, st_sL, st_sR, gfI_st, gfL_st, gfR_st, gfN_st, pfI_st, pfL_st, pfR_st, pfZ_st0, pfZ_st1, ldI_st, ldL_st, stoI_st, stoL_st, aln_st, cpA_st, bq_st, bq_S, oI_s, oL_s, oD_s, oV_s, oR_s, oR_n, oI_e, oL_e, oD_e, Option.bind_some, fa_lit, fa_litL, nI_add, pk_mul, nI_m1, nI_lt', nI_le', nI_eq', lc_ge, lc_le, lc_gt, lc_lt, lc_eq, isZ_0, isZ_1, bI_0, bI_z, decide_eq_true_eq, Bool.not_eq_true', Bool.not_true, Bool.not_false, decide_eq_false_iff_not, if_true, if_false, ite_true, ite_false, eq_self, not_true, not_false_eq_true, C_80, C_81, C_82, C_84, C_85, C_86, C_94, C_95, C_96, C_97, yu_ne, yu_eq, up_eq, up_ne, yur_ne, yur_eq, yu_uu, y1_eq, y1_ne, y1_y1, Nat.mul_zero, Nat.zero_mul, Nat.add_zero, Nat.zero_add, Nat.mul_one, Nat.one_mul, Nat.reduceEqDiff, Nat.reduceLT, Nat.reduceLeDiff, Nat.reduceAdd, Nat.reduceMul, decide_true, decide_false, cond_true, cond_false, reduceCtorEq, Bool.false_eq_true, Bool.true_eq_false, Bool.true_and, Bool.and_true, Bool.false_and, Bool.and_false, r1_3, r1_4, k5, hb', x3, x1, x2, s1a, s1b, x5]
        exact ⟨f, rfl, hA, fun _ _ => rfl⟩
      · rw [qc] at x5
        simp (disch := omega) only [st_I, st_L, st_R, st_S, st_N, st_C, st_Z, st_X, st_D, st_st, st_sI, st_sIr, st_sL, st_sR, gfI_st, gfL_st, gfR_st, gfN_st, pfI_st, pfL_st, pfR_st, pfZ_st0, pfZ_st1, ldI_st, ldL_st, stoI_st, stoL_st, aln_st, cpA_st, bq_st, bq_S, oI_s, oL_s, oD_s, oV_s, oR_s, oR_n, oI_e, oL_e, oD_e, Option.bind_some, fa_lit, fa_litL, nI_add, pk_mul, nI_m1, nI_lt', nI_le', nI_eq', lc_ge, lc_le, lc_gt, lc_lt, lc_eq, isZ_0, isZ_1, bI_0, bI_z, decide_eq_true_eq, Bool.not_eq_true', Bool.not_true, Bool.not_false, decide_eq_false_iff_not, if_true, if_false, ite_true, ite_false, eq_self, not_true, not_false_eq_true, C_80, C_81, C_82, C_84, C_85, C_86, C_94, C_95, C_96, C_97, yu_ne, yu_eq, up_eq, up_ne, yur_ne, yur_eq, yu_uu, y1_eq, y1_ne, y1_y1, Nat.mul_zero, Nat.zero_mul, Nat.add_zero, Nat.zero_add, Nat.mul_one, Nat.one_mul, Nat.reduceEqDiff, Nat.reduceLT, Nat.reduceLeDiff, Nat.reduceAdd, Nat.reduceMul, decide_true, decide_false, cond_true, cond_false, reduceCtorEq, Bool.false_eq_true, Bool.true_eq_false, Bool.true_and, Bool.and_true, Bool.false_and, Bool.and_false, r1_3, r1_4, k5, hb', x3, x1, x2, s1a, s1b, x5, ta0, tb0, k10, x4]
        exact ⟨_, rfl, CRa_e hA, fun q h => cnote_o h⟩
theorem CRP_T {T T' : Nat → Nat → Int32} {n : Nat} (h : CRP T n) (e : T' = T) : CRP T' n := by rw [e]; exact h
theorem L50 {μ : mMu} {f : Nat → Nat → Int32} {l : Nat → Nat → Int64} {r : Nat → Nat → Option Nat} (hs : Sh μ) (hr : Rf r) {σ : Nat → Nat} {c : Nat → Nat} {S : Nat → Nat → Nat → Int32} {n a : Nat} (hn : n ≤ 10) (h4 : c 4 = n) (h8 : c 8 + 100 < 2000000000) (ha : a < n) (hA : CRa f c S) (hp : CPm r 1 σ) (ht : TMs f σ n (S 7)) (hX : CRP (S 7) n) : ∃ f' o2, RUN 45 14 [some (.ref 1), some (.int (nI a)), some (.int (nI (a + 1)))] [] (st μ f l r) = RUN 45 2 [some (.ref 1), some (.int (nI (a + 1))), o2] [] (st μ f' l r) ∧ CRa f' (itr (cr1 a) n (c, S)).1 (itr (cr1 a) n (c, S)).2 ∧ ∀ q, (q < 31 ∨ 35 < q) → f' q = f q := by
  have h1a : (mS μ 1).1 = 6 := by rw [hs 1 (by decide)]; rfl
  refine loopP (fun b o => ∃ f', o = RUN 45 14 [some (.ref 1), some (.int (nI a)), some (.int (nI b))] [] (st μ f' l r) ∧ CRa f' (itr (cr1 a) b (c, S)).1 (itr (cr1 a) b (c, S)).2 ∧ a < b ∧ ∀ q, (q < 31 ∨ 35 < q) → f' q = f q) (fun o => ∃ f' o2, o = RUN 45 2 [some (.ref 1), some (.int (nI (a + 1))), o2] [] (st μ f' l r) ∧ CRa f' (itr (cr1 a) n (c, S)).1 (itr (cr1 a) n (c, S)).2 ∧ ∀ q, (q < 31 ∨ 35 < q) → f' q = f q) n ?_ ?_ (a + 1) _ (by omega) ⟨f, rfl, by rw [cr1s_0 (a + 1) (Nat.le_refl _)]; exact hA, Nat.lt_succ_self a, fun _ _ => rfl⟩
  · rintro o ⟨f', rfl, g1, g2, g3⟩
    have hb := itr_bd (g := cr1 a) (e := 1) cr1_bd (s := (c, S)) n
    have k5 : f' 1 5 = nI n := by rw [g1.1.1, hb.1 4 (by decide), ← h4]
    rw [B_45_14]
    simp (disch := omega) only [st_I, st_L, st_R, st_S, st_N, st_C, st_Z, st_X, st_D, st_st, st_sI, st_sIr, st_sL, st_sR, gfI_st, gfL_st, gfR_st, gfN_st, pfI_st, pfL_st, pfR_st, pfZ_st0, pfZ_st1, ldI_st, ldL_st, stoI_st, stoL_st, aln_st, cpA_st, bq_st, bq_S, oI_s, oL_s, oD_s, oV_s, oR_s, oR_n, oI_e, oL_e, oD_e, Option.bind_some, fa_lit, fa_litL, nI_add, pk_mul, nI_m1, nI_lt', nI_le', nI_eq', lc_ge, lc_le, lc_gt, lc_lt, lc_eq, isZ_0, isZ_1, bI_0, bI_z, decide_eq_true_eq, Bool.not_eq_true', Bool.not_true, Bool.not_false, decide_eq_false_iff_not, if_true, if_false, ite_true, ite_false, eq_self, not_true, not_false_eq_true, C_80, C_81, C_82, C_84, C_85, C_86, C_94, C_95, C_96, C_97, yu_ne, yu_eq, up_eq, up_ne, yur_ne, yur_eq, yu_uu, y1_eq, y1_ne, y1_y1, Nat.mul_zero, Nat.zero_mul, Nat.add_zero, Nat.zero_add, Nat.mul_one, Nat.one_mul, Nat.reduceEqDiff, Nat.reduceLT, Nat.reduceLeDiff, Nat.reduceAdd, Nat.reduceMul, decide_true, decide_false, cond_true, cond_false, reduceCtorEq, Bool.false_eq_true, Bool.true_eq_false, Bool.true_and, Bool.and_true, Bool.false_and, Bool.and_false, k5, Nat.le_refl]
    exact ⟨f', _, rfl, g1, g3⟩
  · rintro b o hi ⟨f', rfl, g1, g2, g3⟩
    right
    have hb := itr_bd (g := cr1 a) (e := 1) cr1_bd (s := (c, S)) b
    have e7 : (itr (cr1 a) b (c, S)).2 7 = S 7 := cr1s_k b
    have hb2 := hb.2
    simp only at hb2
    obtain ⟨f2, q1, q2, q3⟩ := S50 hs hr (l := l) (a := a) (b := b) hn (by rw [hb.1 4 (by decide)]; exact h4) (by omega) g2 hi g1 hp (by rw [e7]; exact fun u hu => TM_k (ht u hu) (g3 _ (by omega)) (g3 _ (by omega)) (g3 _ (by omega))) (CRP_T hX e7)
    rw [itr_s']
    exact ⟨f2, q1, q2, by omega, fun q h => (q3 q h).trans (g3 q h)⟩
theorem C_45 {μ : mMu} {f : Nat → Nat → Int32} {l : Nat → Nat → Int64} {r : Nat → Nat → Option Nat} (hs : Sh μ) (hr : Rf r) {σ : Nat → Nat} {c : Nat → Nat} {S : Nat → Nat → Nat → Int32} (hn : c 4 ≤ 10) (h8 : c 8 + 300 < 2000000000) (hA : CRa f c S) (hp : CPm r 1 σ) (ht : TMs f σ (c 4) (S 7)) (hX : CRP (S 7) (c 4)) : ∃ f', CALL 45 [.ref 1] (st μ f l r) = some (.inl none, st μ f' l r) ∧ CRa f' (crs (c 4) (c, S)).1 (crs (c 4) (c, S)).2 ∧ ∀ q, (q < 31 ∨ 35 < q) → f' q = f q := by
  have h1a : (mS μ 1).1 = 6 := by rw [hs 1 (by decide)]; rfl
  have key : ∀ i, (∀ q, q ≠ 8 → (itr (fun a s => itr (cr1 a) (c 4) s) i (c, S)).1 q = c q) ∧ (itr (fun a s => itr (cr1 a) (c 4) s) i (c, S)).1 8 ≤ c 8 + c 4 * i := itr_bd (g := fun a s => itr (cr1 a) (c 4) s) (e := c 4) (fun a s => by
    have := itr_bd (g := cr1 a) (e := 1) cr1_bd (s := s) (c 4)
    rw [Nat.one_mul] at this
    exact this)
  have k7 : ∀ i, (itr (fun a s => itr (cr1 a) (c 4) s) i (c, S)).2 7 = S 7 := fun i => by
    induction i with
    | zero => rfl
    | succ i ih => rw [itr_s', cr1s_k]; exact ih
  rw [B_45_0]
  simp (disch := omega) only [st_I, st_L, st_R, st_S, st_N, st_C, st_Z, st_X, st_D, st_st, st_sI, st_sIr, st_sL, st_sR, gfI_st, gfL_st, gfR_st, gfN_st, pfI_st, pfL_st, pfR_st, pfZ_st0, pfZ_st1, ldI_st, ldL_st, stoI_st, stoL_st, aln_st, cpA_st, bq_st, bq_S, oI_s, oL_s, oD_s, oV_s, oR_s, oR_n, oI_e, oL_e, oD_e, Option.bind_some, fa_lit, fa_litL, nI_add, pk_mul, nI_m1, nI_lt', nI_le', nI_eq', lc_ge, lc_le, lc_gt, lc_lt, lc_eq, isZ_0, isZ_1, bI_0, bI_z, decide_eq_true_eq, Bool.not_eq_true', Bool.not_true, Bool.not_false, decide_eq_false_iff_not, if_true, if_false, ite_true, ite_false, eq_self, not_true, not_false_eq_true, C_80, C_81, C_82, C_84, C_85, C_86, C_94, C_95, C_96, C_97, yu_ne, yu_eq, up_eq, up_ne, yur_ne, yur_eq, yu_uu, y1_eq, y1_ne, y1_y1, Nat.mul_zero, Nat.zero_mul, Nat.add_zero, Nat.zero_add, Nat.mul_one, Nat.one_mul, Nat.reduceEqDiff, Nat.reduceLT, Nat.reduceLeDiff, Nat.reduceAdd, Nat.reduceMul, decide_true, decide_false, cond_true, cond_false, reduceCtorEq, Bool.false_eq_true, Bool.true_eq_false, Bool.true_and, Bool.and_true, Bool.false_and, Bool.and_false]
  refine loopP (fun i o => ∃ f' o2, o = RUN 45 2 [some (.ref 1), some (.int (nI i)), o2] [] (st μ f' l r) ∧ CRa f' (itr (fun a s => itr (cr1 a) (c 4) s) i (c, S)).1 (itr (fun a s => itr (cr1 a) (c 4) s) i (c, S)).2 ∧ ∀ q, (q < 31 ∨ 35 < q) → f' q = f q) (fun o => ∃ f', o = some (.inl none, st μ f' l r) ∧ CRa f' (crs (c 4) (c, S)).1 (crs (c 4) (c, S)).2 ∧ ∀ q, (q < 31 ∨ 35 < q) → f' q = f q) (c 4) ?_ ?_ 0 _ (Nat.zero_le _) ⟨f, _, rfl, hA, fun _ _ => rfl⟩
  · rintro o ⟨f', o2, rfl, g1, g2⟩
    have k5 : f' 1 5 = nI (c 4) := by rw [g1.1.1, (key (c 4)).1 4 (by decide)]
    rw [B_45_2]
    simp (disch := omega) only [st_I, st_L, st_R, st_S, st_N, st_C, st_Z, st_X, st_D, st_st, st_sI, st_sIr, st_sL, st_sR, gfI_st, gfL_st, gfR_st, gfN_st, pfI_st, pfL_st, pfR_st, pfZ_st0, pfZ_st1, ldI_st, ldL_st, stoI_st, stoL_st, aln_st, cpA_st, bq_st, bq_S, oI_s, oL_s, oD_s, oV_s, oR_s, oR_n, oI_e, oL_e, oD_e, Option.bind_some, fa_lit, fa_litL, nI_add, pk_mul, nI_m1, nI_lt', nI_le', nI_eq', lc_ge, lc_le, lc_gt, lc_lt, lc_eq, isZ_0, isZ_1, bI_0, bI_z, decide_eq_true_eq, Bool.not_eq_true', Bool.not_true, Bool.not_false, decide_eq_false_iff_not, if_true, if_false, ite_true, ite_false, eq_self, not_true, not_false_eq_true, C_80, C_81, C_82, C_84, C_85, C_86, C_94, C_95, C_96, C_97, yu_ne, yu_eq, up_eq, up_ne, yur_ne, yur_eq, yu_uu, y1_eq, y1_ne, y1_y1, Nat.mul_zero, Nat.zero_mul, Nat.add_zero, Nat.zero_add, Nat.mul_one, Nat.one_mul, Nat.reduceEqDiff, Nat.reduceLT, Nat.reduceLeDiff, Nat.reduceAdd, Nat.reduceMul, decide_true, decide_false, cond_true, cond_false, reduceCtorEq, Bool.false_eq_true, Bool.true_eq_false, Bool.true_and, Bool.and_true, Bool.false_and, Bool.and_false, k5, Nat.le_refl]
    exact ⟨f', rfl, g1, g2⟩
  · rintro i o hi ⟨f', o2, rfl, g1, g2⟩
    right
    have k5 : f' 1 5 = nI (c 4) := by rw [g1.1.1, (key i).1 4 (by decide)]
    have hi' : ¬ c 4 ≤ i := by omega
    have hm : c 4 * i ≤ 10 * 10 := Nat.mul_le_mul hn (by omega)
    have h8' := (key i).2
    obtain ⟨f2, o3, q1, q2, q3⟩ := L50 hs hr (l := l) hn ((key i).1 4 (by decide)) (by omega) hi g1 hp (by rw [k7]; exact fun u hu => TM_k (ht u hu) (g2 _ (by omega)) (g2 _ (by omega)) (g2 _ (by omega))) (CRP_T hX (k7 i))
    rw [itr_s', B_45_2]
    simp (disch := omega) only [st_I, st_L, st_R, st_S, st_N, st_C, st_Z, st_X, st_D, st_st, st_sI, st_sIr, st_sL, st_sR, gfI_st, gfL_st, gfR_st, gfN_st, pfI_st, pfL_st, pfR_st, pfZ_st0, pfZ_st1, ldI_st, ldL_st, stoI_st, stoL_st, aln_st, cpA_st, bq_st, bq_S, oI_s, oL_s, oD_s, oV_s, oR_s, oR_n, oI_e, oL_e, oD_e, Option.bind_some, fa_lit, fa_litL, nI_add, pk_mul, nI_m1, nI_lt', nI_le', nI_eq', lc_ge, lc_le, lc_gt, lc_lt, lc_eq, isZ_0, isZ_1, bI_0, bI_z, decide_eq_true_eq, Bool.not_eq_true', Bool.not_true, Bool.not_false, decide_eq_false_iff_not, if_true, if_false, ite_true, ite_false, eq_self, not_true, not_false_eq_true, C_80, C_81, C_82, C_84, C_85, C_86, C_94, C_95, C_96, C_97, yu_ne, yu_eq, up_eq, up_ne, yur_ne, yur_eq, yu_uu, y1_eq, y1_ne, y1_y1, Nat.mul_zero, Nat.zero_mul, Nat.add_zero, Nat.zero_add, Nat.mul_one, Nat.one_mul, Nat.reduceEqDiff, Nat.reduceLT, Nat.reduceLeDiff, Nat.reduceAdd, Nat.reduceMul, decide_true, decide_false, cond_true, cond_false, reduceCtorEq, Bool.false_eq_true, Bool.true_eq_false, Bool.true_and, Bool.and_true, Bool.false_and, Bool.and_false, k5, hi']
    exact ⟨f2, o3, q1, q2, fun q h => (q3 q h).trans (g2 q h)⟩
