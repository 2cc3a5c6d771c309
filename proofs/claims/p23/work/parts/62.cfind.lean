/-! ===== the class' findNearest ===== -/
def fix (s : FS) : Int32 := match s.1 with
  | none => -nI 1
  | some u => nI u
theorem C_31 {μ : mMu} {f : Nat → Nat → Int32} {l : Nat → Nat → Int64} {r : Nat → Nat → Option Nat} (hs : Sh μ) (hr : Rf r) {c : Nat → Nat} {R : Nat → Int32} {K : Int64} (h5 : c 5 ≤ 130) (k7 : f 23 7 = nI (c 5)) (hw : ∀ i, i < c 5 → kw c (cT f i)) (hq : ∀ i, i < c 5 → sq (cT f i 1 + p_way (cT f i 3) (nI (c 7) - cT f i 6) - R 1).toInt64 (cT f i 2 + p_way (cT f i 4) (nI (c 7) - cT f i 6) - R 2).toInt64 = lsq (c 7) R (cT f i)) : CALL 31 [.ref 23, .int (R 1), .int (R 2), .int (nI (c 7)), .long K] (st μ f l r) = some (.inl (some (.int (fix (itr (kst c R (cT f)) (c 5) (none, K))))), st μ f l r) := by
  have h23a : (mS μ 23).1 = 5 := by rw [hs 23 (by decide)]; rfl
  have h24a : (mS μ 24).1 = 20 := by rw [hs 24 (by decide)]; rfl
  have h24b : (mS μ 24).2 = 130 := by rw [hs 24 (by decide)]; rfl
  have h25a : (mS μ 25).1 = 20 := by rw [hs 25 (by decide)]; rfl
  have h25b : (mS μ 25).2 = 130 := by rw [hs 25 (by decide)]; rfl
  have h26a : (mS μ 26).1 = 20 := by rw [hs 26 (by decide)]; rfl
  have h26b : (mS μ 26).2 = 130 := by rw [hs 26 (by decide)]; rfl
  have h27a : (mS μ 27).1 = 20 := by rw [hs 27 (by decide)]; rfl
  have h27b : (mS μ 27).2 = 130 := by rw [hs 27 (by decide)]; rfl
  have h28a : (mS μ 28).1 = 20 := by rw [hs 28 (by decide)]; rfl
  have h28b : (mS μ 28).2 = 130 := by rw [hs 28 (by decide)]; rfl
  have h29a : (mS μ 29).1 = 20 := by rw [hs 29 (by decide)]; rfl
  have h29b : (mS μ 29).2 = 130 := by rw [hs 29 (by decide)]; rfl
  have h30a : (mS μ 30).1 = 20 := by rw [hs 30 (by decide)]; rfl
  have h30b : (mS μ 30).2 = 130 := by rw [hs 30 (by decide)]; rfl
  have r23_0 : r 23 0 = some 24 := hr 23 0 24 rfl
  have r23_1 : r 23 1 = some 25 := hr 23 1 25 rfl
  have r23_2 : r 23 2 = some 26 := hr 23 2 26 rfl
  have r23_3 : r 23 3 = some 27 := hr 23 3 27 rfl
  have r23_4 : r 23 4 = some 28 := hr 23 4 28 rfl
  have r23_5 : r 23 5 = some 29 := hr 23 5 29 rfl
  have r23_6 : r 23 6 = some 30 := hr 23 6 30 rfl
  rw [B_31_0]
  refine loopP (fun i o => ∃ x6 y7 o10 o11 o12, o = RUN 31 9 [some (.ref 23), some (.int (R 1)), some (.int (R 2)), some (.int (nI (c 7))), some (.long K), none, some (.int x6), some (.long y7), none, some (.int (nI i)), o10, o11, o12] [] (st μ f l r) ∧ x6 = fix (itr (kst c R (cT f)) i (none, K)) ∧ ((itr (kst c R (cT f)) i (none, K)).1 ≠ none → y7 = (itr (kst c R (cT f)) i (none, K)).2)) (fun o => o = some (.inl (some (.int (fix (itr (kst c R (cT f)) (c 5) (none, K))))), st μ f l r)) (c 5) ?_ ?_ 0 _ (Nat.zero_le _) ⟨_, _, _, _, _, rfl, rfl, fun h => absurd rfl h⟩
  · rintro o ⟨x6, y7, o10, o11, o12, rfl, rfl, -⟩
    rw [B_31_9]
    simp (maxSteps := 5000000) (disch := omega) only [st_I, st_L, st_R, st_S, st_N, st_C, st_Z, st_X, st_D, st_st, st_sI, st_sIr, st_sL, st_sR, gfI_st, gfL_st, gfR_st, gfN_st, pfI_st, pfL_st, pfR_st, pfZ_st0, pfZ_st1, ldI_st, ldL_st, stoI_st, stoL_st, aln_st, cpA_st, bq_st, bq_S, oI_s, oL_s, oD_s, oV_s, oR_s, oR_n, oI_e, oL_e, oD_e, Option.bind_some, fa_lit, fa_litL, nI_add, pk_mul, nI_m1, nI_lt', nI_le', nI_eq', lc_ge, lc_le, lc_gt, lc_lt, lc_eq, isZ_0, isZ_1, bI_0, bI_z, decide_eq_true_eq, Bool.not_eq_true', Bool.not_true, Bool.not_false, decide_eq_false_iff_not, if_true, if_false, ite_true, ite_false, eq_self, not_true, not_false_eq_true, C_80, C_81, C_82, C_84, C_85, C_86, C_94, C_95, C_96, C_97, yu_ne, yu_eq, up_eq, up_ne, yur_ne, yur_eq, yu_uu, y1_eq, y1_ne, y1_y1, Nat.mul_zero, Nat.zero_mul, Nat.add_zero, Nat.zero_add, Nat.mul_one, Nat.one_mul, Nat.reduceEqDiff, Nat.reduceLT, Nat.reduceLeDiff, Nat.reduceAdd, Nat.reduceMul, decide_true, decide_false, cond_true, cond_false, reduceCtorEq, Bool.false_eq_true, Bool.true_eq_false, Bool.true_and, Bool.and_true, Bool.false_and, Bool.and_false, r23_0, r23_1, r23_2, r23_3, r23_4, r23_5, r23_6, k7, Nat.le_refl]
  · rintro i o hi ⟨x6, y7, o10, o11, o12, rfl, rfl, hy⟩
    right
    have hi' : ¬ c 5 ≤ i := by omega
    have hwi := hw i hi
    have hqi := hq i hi
    unfold kw at hwi
    have sp := kst_sp (c := c) (R := R) (L := cT f) (K := K) i
    have hs' : itr (kst c R (cT f)) (i + 1) (none, K) = kst c R (cT f) i (itr (kst c R (cT f)) i (none, K)) := rfl
    rw [hs']
    generalize itr (kst c R (cT f)) i (none, K) = s at hy sp ⊢
    have ek : kst c R (cT f) i s = (bif kbt (cT f) i (lsq (c 7) R (cT f i)) s then (some i, lsq (c 7) R (cT f i)) else s) := by unfold kst; rw [if_pos hwi]
    rw [ek]
    generalize lsq (c 7) R (cT f i) = X at hqi ⊢
    have t0 : ∀ e, f 24 e = cT f e 0 := fun e => rfl
    have t1 : f 25 i = cT f i 1 := rfl
    have t2 : f 26 i = cT f i 2 := rfl
    have t3 : f 27 i = cT f i 3 := rfl
    have t4 : f 28 i = cT f i 4 := rfl
    have t6 : f 30 i = cT f i 6 := rfl
    rw [B_31_9]
    obtain ⟨o, v⟩ := s
    unfold kbt fix
    cases o with
    | none =>
      have ev := (sp.1 rfl).1
      simp only at ev
      subst ev
      have m0 : -nI 1 < nI 0 := by decide
      by_cases q : X ≤ v
      · have q' : ¬ v < X := by rw [fa_lt64]; rw [fa_le64] at q; omega
        simp (maxSteps := 5000000) (disch := omega) only [st_I, st_L, st_R, st_S, st_N, st_C, st_Z, st_X, st_D, st_st, st_sI, st_sIr, st_sL, st_sR, gfI_st, gfL_st, gfR_st, gfN_st, pfI_st, pfL_st, pfR_st, pfZ_st0, pfZ_st1, ldI_st, ldL_st, stoI_st, stoL_st, aln_st, cpA_st, bq_st, bq_S, oI_s, oL_s, oD_s, oV_s, oR_s, oR_n, oI_e, oL_e, oD_e, Option.bind_some, fa_lit, fa_litL, nI_add, pk_mul, nI_m1, nI_lt', nI_le', nI_eq', lc_ge, lc_le, lc_gt, lc_lt, lc_eq, isZ_0, isZ_1, bI_0, bI_z, decide_eq_true_eq, Bool.not_eq_true', Bool.not_true, Bool.not_false, decide_eq_false_iff_not, if_true, if_false, ite_true, ite_false, eq_self, not_true, not_false_eq_true, C_80, C_81, C_82, C_84, C_85, C_86, C_94, C_95, C_96, C_97, yu_ne, yu_eq, up_eq, up_ne, yur_ne, yur_eq, yu_uu, y1_eq, y1_ne, y1_y1, Nat.mul_zero, Nat.zero_mul, Nat.add_zero, Nat.zero_add, Nat.mul_one, Nat.one_mul, Nat.reduceEqDiff, Nat.reduceLT, Nat.reduceLeDiff, Nat.reduceAdd, Nat.reduceMul, decide_true, decide_false, cond_true, cond_false, reduceCtorEq, Bool.false_eq_true, Bool.true_eq_false, Bool.true_and, Bool.and_true, Bool.false_and, Bool.and_false, r23_0, r23_1, r23_2, r23_3, r23_4, r23_5, r23_6, k7, hi', t1, t2, t3, t4, t6, hqi, q, q', m0]
        exact ⟨_, _, _, _, _, rfl, rfl, fun _ => rfl⟩
      · have q' : v < X := by rw [fa_lt64]; rw [fa_le64] at q; omega
        simp (maxSteps := 5000000) (disch := omega) only [st_I, st_L, st_R, st_S, st_N, st_C, st_Z, st_X, st_D, st_st, st_sI, st_sIr, st_sL, st_sR, gfI_st, gfL_st, gfR_st, gfN_st, pfI_st, pfL_st, pfR_st, pfZ_st0, pfZ_st1, ldI_st, ldL_st, stoI_st, stoL_st, aln_st, cpA_st, bq_st, bq_S, oI_s, oL_s, oD_s, oV_s, oR_s, oR_n, oI_e, oL_e, oD_e, Option.bind_some, fa_lit, fa_litL, nI_add, pk_mul, nI_m1, nI_lt', nI_le', nI_eq', lc_ge, lc_le, lc_gt, lc_lt, lc_eq, isZ_0, isZ_1, bI_0, bI_z, decide_eq_true_eq, Bool.not_eq_true', Bool.not_true, Bool.not_false, decide_eq_false_iff_not, if_true, if_false, ite_true, ite_false, eq_self, not_true, not_false_eq_true, C_80, C_81, C_82, C_84, C_85, C_86, C_94, C_95, C_96, C_97, yu_ne, yu_eq, up_eq, up_ne, yur_ne, yur_eq, yu_uu, y1_eq, y1_ne, y1_y1, Nat.mul_zero, Nat.zero_mul, Nat.add_zero, Nat.zero_add, Nat.mul_one, Nat.one_mul, Nat.reduceEqDiff, Nat.reduceLT, Nat.reduceLeDiff, Nat.reduceAdd, Nat.reduceMul, decide_true, decide_false, cond_true, cond_false, reduceCtorEq, Bool.false_eq_true, Bool.true_eq_false, Bool.true_and, Bool.and_true, Bool.false_and, Bool.and_false, r23_0, r23_1, r23_2, r23_3, r23_4, r23_5, r23_6, k7, hi', t1, t2, t3, t4, t6, hqi, q, q']
        exact ⟨_, _, _, _, _, rfl, rfl, fun h => absurd rfl h⟩
    | some u =>
      obtain ⟨g0, -, g2, g3, -⟩ := sp.2 u rfl
      have ey := hy (by simp)
      simp only at ey g3
      subst ey
      rw [← g3] at g2
      have m0 : ¬ nI u < nI 0 := by rw [nI_ltI (by omega) (by omega)]; omega
      by_cases q1 : X < y7
      · have q0 : X ≤ K := by rw [fa_le64]; rw [fa_lt64] at q1; omega
        simp (maxSteps := 5000000) (disch := omega) only [st_I, st_L, st_R, st_S, st_N, st_C, st_Z, st_X, st_D, st_st, st_sI, st_sIr, st_sL, st_sR, gfI_st, gfL_st, gfR_st, gfN_st, pfI_st, pfL_st, pfR_st, pfZ_st0, pfZ_st1, ldI_st, ldL_st, stoI_st, stoL_st, aln_st, cpA_st, bq_st, bq_S, oI_s, oL_s, oD_s, oV_s, oR_s, oR_n, oI_e, oL_e, oD_e, Option.bind_some, fa_lit, fa_litL, nI_add, pk_mul, nI_m1, nI_lt', nI_le', nI_eq', lc_ge, lc_le, lc_gt, lc_lt, lc_eq, isZ_0, isZ_1, bI_0, bI_z, decide_eq_true_eq, Bool.not_eq_true', Bool.not_true, Bool.not_false, decide_eq_false_iff_not, if_true, if_false, ite_true, ite_false, eq_self, not_true, not_false_eq_true, C_80, C_81, C_82, C_84, C_85, C_86, C_94, C_95, C_96, C_97, yu_ne, yu_eq, up_eq, up_ne, yur_ne, yur_eq, yu_uu, y1_eq, y1_ne, y1_y1, Nat.mul_zero, Nat.zero_mul, Nat.add_zero, Nat.zero_add, Nat.mul_one, Nat.one_mul, Nat.reduceEqDiff, Nat.reduceLT, Nat.reduceLeDiff, Nat.reduceAdd, Nat.reduceMul, decide_true, decide_false, cond_true, cond_false, reduceCtorEq, Bool.false_eq_true, Bool.true_eq_false, Bool.true_and, Bool.and_true, Bool.false_and, Bool.and_false, r23_0, r23_1, r23_2, r23_3, r23_4, r23_5, r23_6, k7, hi', t1, t2, t3, t4, t6, hqi, q1, q0, m0, Bool.true_or]
        exact ⟨_, _, _, _, _, rfl, rfl, fun _ => rfl⟩
      · by_cases q2 : X = y7
        · subst q2
          have q0 : X ≤ K := by rw [fa_le64]; omega
          by_cases q3 : cT f u 0 ≤ cT f i 0
          · simp (maxSteps := 5000000) (disch := omega) only [st_I, st_L, st_R, st_S, st_N, st_C, st_Z, st_X, st_D, st_st, st_sI, st_sIr, st_sL, st_sR, gfI_st, gfL_st, gfR_st, gfN_st, pfI_st, pfL_st, pfR_st, pfZ_st0, pfZ_st1, ldI_st, ldL_st, stoI_st, stoL_st, aln_st, cpA_st, bq_st, bq_S, oI_s, oL_s, oD_s, oV_s, oR_s, oR_n, oI_e, oL_e, oD_e, Option.bind_some, fa_lit, fa_litL, nI_add, pk_mul, nI_m1, nI_lt', nI_le', nI_eq', lc_ge, lc_le, lc_gt, lc_lt, lc_eq, isZ_0, isZ_1, bI_0, bI_z, decide_eq_true_eq, Bool.not_eq_true', Bool.not_true, Bool.not_false, decide_eq_false_iff_not, if_true, if_false, ite_true, ite_false, eq_self, not_true, not_false_eq_true, C_80, C_81, C_82, C_84, C_85, C_86, C_94, C_95, C_96, C_97, yu_ne, yu_eq, up_eq, up_ne, yur_ne, yur_eq, yu_uu, y1_eq, y1_ne, y1_y1, Nat.mul_zero, Nat.zero_mul, Nat.add_zero, Nat.zero_add, Nat.mul_one, Nat.one_mul, Nat.reduceEqDiff, Nat.reduceLT, Nat.reduceLeDiff, Nat.reduceAdd, Nat.reduceMul, decide_true, decide_false, cond_true, cond_false, reduceCtorEq, Bool.false_eq_true, Bool.true_eq_false, Bool.true_and, Bool.and_true, Bool.false_and, Bool.and_false, r23_0, r23_1, r23_2, r23_3, r23_4, r23_5, r23_6, k7, hi', t0, t1, t2, t3, t4, t6, hqi, q1, q0, q3, m0, Bool.or_false]
            exact ⟨_, _, _, _, _, rfl, rfl, fun _ => rfl⟩
          · simp (maxSteps := 5000000) (disch := omega) only [st_I, st_L, st_R, st_S, st_N, st_C, st_Z, st_X, st_D, st_st, st_sI, st_sIr, st_sL, st_sR, gfI_st, gfL_st, gfR_st, gfN_st, pfI_st, pfL_st, pfR_st, pfZ_st0, pfZ_st1, ldI_st, ldL_st, stoI_st, stoL_st, aln_st, cpA_st, bq_st, bq_S, oI_s, oL_s, oD_s, oV_s, oR_s, oR_n, oI_e, oL_e, oD_e, Option.bind_some, fa_lit, fa_litL, nI_add, pk_mul, nI_m1, nI_lt', nI_le', nI_eq', lc_ge, lc_le, lc_gt, lc_lt, lc_eq, isZ_0, isZ_1, bI_0, bI_z, decide_eq_true_eq, Bool.not_eq_true', Bool.not_true, Bool.not_false, decide_eq_false_iff_not, if_true, if_false, ite_true, ite_false, eq_self, not_true, not_false_eq_true, C_80, C_81, C_82, C_84, C_85, C_86, C_94, C_95, C_96, C_97, yu_ne, yu_eq, up_eq, up_ne, yur_ne, yur_eq, yu_uu, y1_eq, y1_ne, y1_y1, Nat.mul_zero, Nat.zero_mul, Nat.add_zero, Nat.zero_add, Nat.mul_one, Nat.one_mul, Nat.reduceEqDiff, Nat.reduceLT, Nat.reduceLeDiff, Nat.reduceAdd, Nat.reduceMul, decide_true, decide_false, cond_true, cond_false, reduceCtorEq, Bool.false_eq_true, Bool.true_eq_false, Bool.true_and, Bool.and_true, Bool.false_and, Bool.and_false, r23_0, r23_1, r23_2, r23_3, r23_4, r23_5, r23_6, k7, hi', t0, t1, t2, t3, t4, t6, hqi, q1, q0, q3, m0, Bool.or_true]
            exact ⟨_, _, _, _, _, rfl, rfl, fun _ => rfl⟩
        · by_cases q0 : X ≤ K
          · simp (maxSteps := 5000000) (disch := omega) only [st_I, st_L, st_R, st_S, st_N, st_C, st_Z, st_X, st_D, st_st, st_sI, st_sIr, st_sL, st_sR, gfI_st, gfL_st, gfR_st, gfN_st, pfI_st, pfL_st, pfR_st, pfZ_st0, pfZ_st1, ldI_st, ldL_st, stoI_st, stoL_st, aln_st, cpA_st, bq_st, bq_S, oI_s, oL_s, oD_s, oV_s, oR_s, oR_n, oI_e, oL_e, oD_e, Option.bind_some, fa_lit, fa_litL, nI_add, pk_mul, nI_m1, nI_lt', nI_le', nI_eq', lc_ge, lc_le, lc_gt, lc_lt, lc_eq, isZ_0, isZ_1, bI_0, bI_z, decide_eq_true_eq, Bool.not_eq_true', Bool.not_true, Bool.not_false, decide_eq_false_iff_not, if_true, if_false, ite_true, ite_false, eq_self, not_true, not_false_eq_true, C_80, C_81, C_82, C_84, C_85, C_86, C_94, C_95, C_96, C_97, yu_ne, yu_eq, up_eq, up_ne, yur_ne, yur_eq, yu_uu, y1_eq, y1_ne, y1_y1, Nat.mul_zero, Nat.zero_mul, Nat.add_zero, Nat.zero_add, Nat.mul_one, Nat.one_mul, Nat.reduceEqDiff, Nat.reduceLT, Nat.reduceLeDiff, Nat.reduceAdd, Nat.reduceMul, decide_true, decide_false, cond_true, cond_false, reduceCtorEq, Bool.false_eq_true, Bool.true_eq_false, Bool.true_and, Bool.and_true, Bool.false_and, Bool.and_false, r23_0, r23_1, r23_2, r23_3, r23_4, r23_5, r23_6, k7, hi', t0, t1, t2, t3, t4, t6, hqi, q1, q2, q0, m0, Bool.or_false]
            exact ⟨_, _, _, _, _, rfl, rfl, fun _ => rfl⟩
          · simp (maxSteps := 5000000) (disch := omega) only [st_I, st_L, st_R, st_S, st_N, st_C, st_Z, st_X, st_D, st_st, st_sI, st_sIr, st_sL, st_sR, gfI_st, gfL_st, gfR_st, gfN_st, pfI_st, pfL_st, pfR_st, pfZ_st0, pfZ_st1, ldI_st, ldL_st, stoI_st, stoL_st, aln_st, cpA_st, bq_st, bq_S, oI_s, oL_s, oD_s, oV_s, oR_s, oR_n, oI_e, oL_e, oD_e, Option.bind_some, fa_lit, fa_litL, nI_add, pk_mul, nI_m1, nI_lt', nI_le', nI_eq', lc_ge, lc_le, lc_gt, lc_lt, lc_eq, isZ_0, isZ_1, bI_0, bI_z, decide_eq_true_eq, Bool.not_eq_true', Bool.not_true, Bool.not_false, decide_eq_false_iff_not, if_true, if_false, ite_true, ite_false, eq_self, not_true, not_false_eq_true, C_80, C_81, C_82, C_84, C_85, C_86, C_94, C_95, C_96, C_97, yu_ne, yu_eq, up_eq, up_ne, yur_ne, yur_eq, yu_uu, y1_eq, y1_ne, y1_y1, Nat.mul_zero, Nat.zero_mul, Nat.add_zero, Nat.zero_add, Nat.mul_one, Nat.one_mul, Nat.reduceEqDiff, Nat.reduceLT, Nat.reduceLeDiff, Nat.reduceAdd, Nat.reduceMul, decide_true, decide_false, cond_true, cond_false, reduceCtorEq, Bool.false_eq_true, Bool.true_eq_false, Bool.true_and, Bool.and_true, Bool.false_and, Bool.and_false, r23_0, r23_1, r23_2, r23_3, r23_4, r23_5, r23_6, k7, hi', t0, t1, t2, t3, t4, t6, hqi, q1, q2, q0, m0, Bool.or_false]
            exact ⟨_, _, _, _, _, rfl, rfl, fun _ => rfl⟩
