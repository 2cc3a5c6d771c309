/-! ===== the class' sweep: what becomes of a track ===== -/
theorem cmp_ge {kp : (Nat → Int32) → Bool} {T : Nat → Nat → Int32} : ∀ n u, n ≤ u → (cmp kp T n).1 u = T u
  | 0, _, _ => rfl
  | n + 1, u, h => by
    have h1 := cmp_ge (kp := kp) (T := T) n
    have h2 := cmp_le (kp := kp) (T := T) n
    rw [cmp_s]
    cases kp ((cmp kp T n).1 n)
    · exact h1 u (by omega)
    · show u1 (cmp kp T n).1 (cmp kp T n).2 ((cmp kp T n).1 n) u = T u
      rw [y1_ne (by omega)]
      exact h1 u (by omega)
theorem cmp_eq {kp : (Nat → Int32) → Bool} {T T' : Nat → Nat → Int32} : ∀ n, (∀ u, u < n → T' u = T u) → (cmp kp T' n).2 = (cmp kp T n).2 ∧ ∀ u, u < (cmp kp T n).2 → (cmp kp T' n).1 u = (cmp kp T n).1 u
  | 0, _ => ⟨rfl, fun u h => absurd h (Nat.not_lt_zero u)⟩
  | n + 1, h => by
    obtain ⟨h1, h2⟩ := cmp_eq (kp := kp) (T := T) (T' := T') n (fun u hu => h u (by omega))
    have e : (cmp kp T' n).1 n = (cmp kp T n).1 n := by rw [cmp_ge n n (Nat.le_refl _), cmp_ge n n (Nat.le_refl _), h n (by omega)]
    rw [cmp_s, cmp_s, e]
    cases kp ((cmp kp T n).1 n)
    · exact ⟨h1, h2⟩
    · refine ⟨by show (cmp kp T' n).2 + 1 = (cmp kp T n).2 + 1; rw [h1], fun u hu => ?_⟩
      have hu' : u < (cmp kp T n).2 + 1 := hu
      show u1 (cmp kp T' n).1 (cmp kp T' n).2 _ u = u1 (cmp kp T n).1 (cmp kp T n).2 _ u
      rw [h1]
      by_cases q : u = (cmp kp T n).2
      · rw [q, y1_eq, y1_eq]
      · rw [y1_ne q, y1_ne q]
        exact h2 u (by omega)
def IS (R : Nat → Int32) : Prop := (R 5 = nI 0 ∧ (R 7 = nI 0 ∨ R 7 = nI 1)) ∨ (R 5 = nI 1 ∧ R 7 = nI 0) ∨ (R 5 = nI 2 ∧ ∃ m, m ≤ 4 ∧ R 7 = nI m)
def OUT (dt : Int32) (t : Nat) (s : CS) (K : Int32) (Q' : Nat → Int32) : Prop :=
  (K = -nI 1 ∧ endd Q' = false ∧ kpT Q' = true ∧ mv1 dt t s = (s.1, u1 s.2 7 (u1 (s.2 7) t Q')))
  ∨ (¬ K < nI 0 ∧ ¬ K = nI 3 ∧ endd Q' = false ∧ kpT Q' = true ∧ mv1 dt t s = (noteC s.1, u1 (noteS s.1 s.2 K (Q' 0) (-nI 1)) 7 (u1 (s.2 7) t Q')))
  ∨ (K = -nI 1 ∧ endd Q' = true ∧ ∃ Q'', kpT Q'' = false ∧ mv1 dt t s = (s.1, u1 s.2 7 (u1 (s.2 7) t Q'')))
  ∨ (K = nI 3 ∧ endd Q' = true ∧ ∃ Q'', kpT Q'' = false ∧ mv1 dt t s = (u1 (noteC s.1) 5 (s.1 5 + 1), u1 (u1 (noteS s.1 s.2 (nI 3) (Q' 0) (-nI 1)) 8 (u1 (s.2 8) (s.1 5) (rc7 (Q' 0) (Q' 1) (Q' 2) (Q' 3) (Q' 4) (nI (s.1 6)) (nI (s.1 7))))) 7 (u1 (s.2 7) t Q'')))
theorem q10 : ¬ nI 1 = nI 0 := by decide
theorem q20 : ¬ nI 2 = nI 0 := by decide
theorem q02 : ¬ nI 0 = nI 2 := by decide
theorem q01 : ¬ nI 0 = nI 1 := by decide
theorem q21 : ¬ nI 2 = nI 1 := by decide
theorem q03 : ¬ nI 0 = nI 3 := by decide
theorem q13 : ¬ nI 1 = nI 3 := by decide
theorem q23 : ¬ nI 2 = nI 3 := by decide
theorem q43 : ¬ nI 4 = nI 3 := by decide
theorem l40 : ¬ nI 4 < nI 0 := by decide
theorem l10 : ¬ nI 1 < nI 0 := by decide
theorem l20 : ¬ nI 2 < nI 0 := by decide
theorem l02 : nI 0 < nI 2 := by decide
theorem l05 : nI 0 < nI 5 := by decide
theorem aged_w {R : Nat → Int32} {w : Nat} (h : w ≠ 8) (h2 : w ≠ 12) : aged R w = R w := by
  unfold aged
  rw [up_ne h, up_ne h2]
theorem aged_12 {R : Nat → Int32} : aged R 12 = nI 0 := by
  unfold aged
  rw [up_ne (by decide), up_eq]
theorem isZ0 : isZ (nI 0) = true := by decide
theorem isZ1 : isZ (nI 1) = true := by decide
theorem out_j {dt : Int32} {t : Nat} {s : CS} (h : ¬ s.2 7 t 13 = -nI 1) (hI : IS (s.2 7 t)) : OUT dt t s (jnK (aged (s.2 7 t))) (jnC s.1 (s.2 5 (ix (s.2 7 t 13))) dt (aged (s.2 7 t))) ∧ isZ (jnC s.1 (s.2 5 (ix (s.2 7 t 13))) dt (aged (s.2 7 t)) 12) = true := by
  have e13 : aged (s.2 7 t) 13 = s.2 7 t 13 := aged_w (by decide) (by decide)
  have e12 : aged (s.2 7 t) 12 = nI 0 := aged_12
  have e5 : aged (s.2 7 t) 5 = s.2 7 t 5 := aged_w (by decide) (by decide)
  have h3 : ¬ aged (s.2 7 t) 5 = nI 3 := by
    rw [e5]
    rcases hI with ⟨i5, -⟩ | ⟨i5, -⟩ | ⟨i5, -⟩ <;> rw [i5]
    · exact q03
    · exact q13
    · exact q23
  have em : mv1 dt t s = flwS s.1 s.2 t dt (aged (s.2 7 t)) := by unfold mv1; rw [if_neg h]
  unfold OUT
  rw [em]
  unfold flwS
  rw [e13]
  generalize aged (s.2 7 t) = Q at e12 h3 ⊢
  have f0 : flwR s.1 (s.2 5 (ix (s.2 7 t 13))) dt Q 0 = Q 0 := by unfold flwR; simp (disch := omega) only [st_I, st_L, st_R, st_S, st_N, st_C, st_Z, st_X, st_D, st_st, st_sI, st_sIr, st_sL, st_sR, gfI_st, gfL_st, gfR_st, gfN_st, pfI_st, pfL_st, pfR_st, pfZ_st0, pfZ_st1, ldI_st, ldL_st, stoI_st, stoL_st, aln_st, cpA_st, bq_st, bq_S, oI_s, oL_s, oD_s, oV_s, oR_s, oR_n, oI_e, oL_e, oD_e, Option.bind_some, fa_lit, fa_litL, nI_add, pk_mul, nI_m1, nI_lt', nI_le', nI_eq', lc_ge, lc_le, lc_gt, lc_lt, lc_eq, isZ_0, isZ_1, bI_0, bI_z, decide_eq_true_eq, Bool.not_eq_true', Bool.not_true, Bool.not_false, decide_eq_false_iff_not, if_true, if_false, ite_true, ite_false, eq_self, not_true, not_false_eq_true, C_80, C_81, C_82, C_84, C_85, C_86, C_94, C_95, C_96, C_97, yu_ne, yu_eq, up_eq, up_ne, yur_ne, yur_eq, yu_uu, y1_eq, y1_ne, y1_y1, Nat.mul_zero, Nat.zero_mul, Nat.add_zero, Nat.zero_add, Nat.mul_one, Nat.one_mul, Nat.reduceEqDiff, Nat.reduceLT, Nat.reduceLeDiff, Nat.reduceAdd, Nat.reduceMul, decide_true, decide_false, cond_true, cond_false, reduceCtorEq, Bool.false_eq_true, Bool.true_eq_false, Bool.true_and, Bool.and_true, Bool.false_and, Bool.and_false]
  have f5 : flwR s.1 (s.2 5 (ix (s.2 7 t 13))) dt Q 5 = Q 5 := by unfold flwR; simp (disch := omega) only [st_I, st_L, st_R, st_S, st_N, st_C, st_Z, st_X, st_D, st_st, st_sI, st_sIr, st_sL, st_sR, gfI_st, gfL_st, gfR_st, gfN_st, pfI_st, pfL_st, pfR_st, pfZ_st0, pfZ_st1, ldI_st, ldL_st, stoI_st, stoL_st, aln_st, cpA_st, bq_st, bq_S, oI_s, oL_s, oD_s, oV_s, oR_s, oR_n, oI_e, oL_e, oD_e, Option.bind_some, fa_lit, fa_litL, nI_add, pk_mul, nI_m1, nI_lt', nI_le', nI_eq', lc_ge, lc_le, lc_gt, lc_lt, lc_eq, isZ_0, isZ_1, bI_0, bI_z, decide_eq_true_eq, Bool.not_eq_true', Bool.not_true, Bool.not_false, decide_eq_false_iff_not, if_true, if_false, ite_true, ite_false, eq_self, not_true, not_false_eq_true, C_80, C_81, C_82, C_84, C_85, C_86, C_94, C_95, C_96, C_97, yu_ne, yu_eq, up_eq, up_ne, yur_ne, yur_eq, yu_uu, y1_eq, y1_ne, y1_y1, Nat.mul_zero, Nat.zero_mul, Nat.add_zero, Nat.zero_add, Nat.mul_one, Nat.one_mul, Nat.reduceEqDiff, Nat.reduceLT, Nat.reduceLeDiff, Nat.reduceAdd, Nat.reduceMul, decide_true, decide_false, cond_true, cond_false, reduceCtorEq, Bool.false_eq_true, Bool.true_eq_false, Bool.true_and, Bool.and_true, Bool.false_and, Bool.and_false]
  have f7 : flwR s.1 (s.2 5 (ix (s.2 7 t 13))) dt Q 7 = nI 0 := by unfold flwR; simp (disch := omega) only [st_I, st_L, st_R, st_S, st_N, st_C, st_Z, st_X, st_D, st_st, st_sI, st_sIr, st_sL, st_sR, gfI_st, gfL_st, gfR_st, gfN_st, pfI_st, pfL_st, pfR_st, pfZ_st0, pfZ_st1, ldI_st, ldL_st, stoI_st, stoL_st, aln_st, cpA_st, bq_st, bq_S, oI_s, oL_s, oD_s, oV_s, oR_s, oR_n, oI_e, oL_e, oD_e, Option.bind_some, fa_lit, fa_litL, nI_add, pk_mul, nI_m1, nI_lt', nI_le', nI_eq', lc_ge, lc_le, lc_gt, lc_lt, lc_eq, isZ_0, isZ_1, bI_0, bI_z, decide_eq_true_eq, Bool.not_eq_true', Bool.not_true, Bool.not_false, decide_eq_false_iff_not, if_true, if_false, ite_true, ite_false, eq_self, not_true, not_false_eq_true, C_80, C_81, C_82, C_84, C_85, C_86, C_94, C_95, C_96, C_97, yu_ne, yu_eq, up_eq, up_ne, yur_ne, yur_eq, yu_uu, y1_eq, y1_ne, y1_y1, Nat.mul_zero, Nat.zero_mul, Nat.add_zero, Nat.zero_add, Nat.mul_one, Nat.one_mul, Nat.reduceEqDiff, Nat.reduceLT, Nat.reduceLeDiff, Nat.reduceAdd, Nat.reduceMul, decide_true, decide_false, cond_true, cond_false, reduceCtorEq, Bool.false_eq_true, Bool.true_eq_false, Bool.true_and, Bool.and_true, Bool.false_and, Bool.and_false]
  have f12 : flwR s.1 (s.2 5 (ix (s.2 7 t 13))) dt Q 12 = nI 0 := by unfold flwR; simp (disch := omega) only [st_I, st_L, st_R, st_S, st_N, st_C, st_Z, st_X, st_D, st_st, st_sI, st_sIr, st_sL, st_sR, gfI_st, gfL_st, gfR_st, gfN_st, pfI_st, pfL_st, pfR_st, pfZ_st0, pfZ_st1, ldI_st, ldL_st, stoI_st, stoL_st, aln_st, cpA_st, bq_st, bq_S, oI_s, oL_s, oD_s, oV_s, oR_s, oR_n, oI_e, oL_e, oD_e, Option.bind_some, fa_lit, fa_litL, nI_add, pk_mul, nI_m1, nI_lt', nI_le', nI_eq', lc_ge, lc_le, lc_gt, lc_lt, lc_eq, isZ_0, isZ_1, bI_0, bI_z, decide_eq_true_eq, Bool.not_eq_true', Bool.not_true, Bool.not_false, decide_eq_false_iff_not, if_true, if_false, ite_true, ite_false, eq_self, not_true, not_false_eq_true, C_80, C_81, C_82, C_84, C_85, C_86, C_94, C_95, C_96, C_97, yu_ne, yu_eq, up_eq, up_ne, yur_ne, yur_eq, yu_uu, y1_eq, y1_ne, y1_y1, Nat.mul_zero, Nat.zero_mul, Nat.add_zero, Nat.zero_add, Nat.mul_one, Nat.one_mul, Nat.reduceEqDiff, Nat.reduceLT, Nat.reduceLeDiff, Nat.reduceAdd, Nat.reduceMul, decide_true, decide_false, cond_true, cond_false, reduceCtorEq, Bool.false_eq_true, Bool.true_eq_false, Bool.true_and, Bool.and_true, Bool.false_and, Bool.and_false, e12]
  unfold jnK jnC
  generalize flwR s.1 (s.2 5 (ix (s.2 7 t 13))) dt Q = B at f0 f5 f7 f12 ⊢
  by_cases c2 : Q 5 = nI 2
  · rw [if_pos c2, if_pos c2, if_pos c2]
    refine ⟨Or.inr (Or.inl ⟨l40, q43, ?_, ?_, ?_⟩), ?_⟩
    · unfold endd; rw [up_eq, if_neg q10, up_ne (by decide), f7]; simp only [l05, decide_true, Bool.not_true]
    · unfold kpT; rw [up_eq]; simp only [q13, decide_false, Bool.not_false]
    · rw [up_ne (by decide), f0]
    · rw [up_ne (by decide), f12]; exact isZ0
  · rw [if_neg c2, if_neg c2, if_neg c2]
    by_cases c3 : Q 5 = nI 0 ∧ nI 3 ≤ Q 6 + nI 1
    · rw [if_pos c3, if_pos c3, if_pos c3]
      refine ⟨Or.inr (Or.inl ⟨l10, q13, ?_, ?_, ?_⟩), ?_⟩
      · unfold endd; rw [up_ne (by decide), up_eq, if_neg q10, up_ne (by decide), up_ne (by decide), f7]; simp only [l05, decide_true, Bool.not_true]
      · unfold kpT; rw [up_ne (by decide), up_eq]; simp only [q13, decide_false, Bool.not_false]
      · rw [up_ne (by decide), up_ne (by decide), f0]
      · rw [up_eq]; exact isZ1
    · rw [if_neg c3, if_neg c3, if_neg c3]
      refine ⟨Or.inl ⟨rfl, ?_, ?_, rfl⟩, ?_⟩
      · unfold endd
        rw [f5, f7]
        simp only [l02, l05, decide_true, Bool.not_true, ite_self]
      · unfold kpT
        rw [f5]
        simp only [h3, decide_false, Bool.not_false]
      · rw [f12]; exact isZ0
theorem out_m {dt : Int32} {t : Nat} {s : CS} (h : s.2 7 t 13 = -nI 1) (hI : IS (s.2 7 t)) : OUT dt t s (msK (aged (s.2 7 t))) (msC (aged (s.2 7 t))) ∧ isZ (msC (aged (s.2 7 t)) 12) = true := by
  have e5 : aged (s.2 7 t) 5 = s.2 7 t 5 := aged_w (by decide) (by decide)
  have e7 : aged (s.2 7 t) 7 = s.2 7 t 7 := aged_w (by decide) (by decide)
  have e12 : aged (s.2 7 t) 12 = nI 0 := aged_12
  have em : mv1 dt t s = mssS s.1 s.2 t (aged (s.2 7 t)) := by unfold mv1; rw [if_pos h]
  unfold IS at hI
  rw [← e5, ← e7] at hI
  unfold OUT
  rw [em]
  unfold mssS
  generalize aged (s.2 7 t) = Q at e12 hI ⊢
  unfold msK msC
  rcases hI with ⟨i5, i7⟩ | ⟨i5, i7⟩ | ⟨i5, m, hm, i7⟩
  · rw [i5, if_pos rfl, if_neg q01, if_neg q01, if_neg (by simp only [q02, false_and, not_false_eq_true])]
    rcases i7 with i7 | i7
    · have n1 : ¬ Q 7 + nI 1 = nI 2 := by rw [i7]; decide
      rw [if_neg n1]
      refine ⟨Or.inl ⟨rfl, ?_, ?_, rfl⟩, ?_⟩
      · unfold endd; rw [up_ne (by decide), i5, if_pos rfl, up_eq, i7]; decide
      · unfold kpT; rw [up_ne (by decide), i5]; decide
      · rw [up_ne (by decide), e12]; exact isZ0
    · have n1 : Q 7 + nI 1 = nI 2 := by rw [i7]; decide
      rw [if_pos n1]
      refine ⟨Or.inr (Or.inr (Or.inl ⟨rfl, ?_, _, ?_, rfl⟩)), ?_⟩
      · unfold endd; rw [up_ne (by decide), i5, if_pos rfl, up_eq, i7]; decide
      · unfold kpT; rw [up_eq]; decide
      · rw [up_ne (by decide), e12]; exact isZ0
  · rw [i5, if_neg q10, if_pos rfl, if_pos rfl, if_pos rfl]
    refine ⟨Or.inr (Or.inl ⟨l20, q23, ?_, ?_, ?_⟩), ?_⟩
    · unfold endd; rw [up_eq, if_neg q20, up_ne (by decide), up_eq, i7]; decide
    · unfold kpT; rw [up_eq]; decide
    · rw [up_ne (by decide), up_ne (by decide)]
    · rw [up_ne (by decide), up_ne (by decide), e12]; exact isZ0
  · rw [i5, if_neg q20, if_neg q21, if_neg q21, if_neg q21]
    by_cases c5 : nI 5 ≤ Q 7 + nI 1
    · rw [if_pos ⟨rfl, c5⟩, if_pos ⟨rfl, c5⟩]
      refine ⟨Or.inr (Or.inr (Or.inr ⟨rfl, ?_, up (up Q 7 (Q 7 + nI 1)) 5 (nI 3), ?_, ?_⟩)), ?_⟩
      · have : ¬ Q 7 + nI 1 < nI 5 := by rw [fa_lt]; rw [fa_le] at c5; omega
        unfold endd; rw [up_ne (by decide), i5, if_neg q20, up_eq]; simp only [this, decide_false, Bool.not_false]
      · unfold kpT; rw [up_eq]; decide
      · simp (disch := omega) only [st_I, st_L, st_R, st_S, st_N, st_C, st_Z, st_X, st_D, st_st, st_sI, st_sIr, st_sL, st_sR, gfI_st, gfL_st, gfR_st, gfN_st, pfI_st, pfL_st, pfR_st, pfZ_st0, pfZ_st1, ldI_st, ldL_st, stoI_st, stoL_st, aln_st, cpA_st, bq_st, bq_S, oI_s, oL_s, oD_s, oV_s, oR_s, oR_n, oI_e, oL_e, oD_e, Option.bind_some, fa_lit, fa_litL, nI_add, pk_mul, nI_m1, nI_lt', nI_le', nI_eq', lc_ge, lc_le, lc_gt, lc_lt, lc_eq, isZ_0, isZ_1, bI_0, bI_z, decide_eq_true_eq, Bool.not_eq_true', Bool.not_true, Bool.not_false, decide_eq_false_iff_not, if_true, if_false, ite_true, ite_false, eq_self, not_true, not_false_eq_true, C_80, C_81, C_82, C_84, C_85, C_86, C_94, C_95, C_96, C_97, yu_ne, yu_eq, up_eq, up_ne, yur_ne, yur_eq, yu_uu, y1_eq, y1_ne, y1_y1, Nat.mul_zero, Nat.zero_mul, Nat.add_zero, Nat.zero_add, Nat.mul_one, Nat.one_mul, Nat.reduceEqDiff, Nat.reduceLT, Nat.reduceLeDiff, Nat.reduceAdd, Nat.reduceMul, decide_true, decide_false, cond_true, cond_false, reduceCtorEq, Bool.false_eq_true, Bool.true_eq_false, Bool.true_and, Bool.and_true, Bool.false_and, Bool.and_false]
      · rw [up_ne (by decide), e12]; exact isZ0
    · have c5' : Q 7 + nI 1 < nI 5 := by rw [fa_lt]; rw [fa_le] at c5; omega
      rw [if_neg (fun hh => c5 hh.2), if_neg (fun hh => c5 hh.2)]
      refine ⟨Or.inl ⟨rfl, ?_, ?_, rfl⟩, ?_⟩
      · unfold endd; rw [up_ne (by decide), i5, if_neg q20, up_eq]; simp only [c5', decide_true, Bool.not_true]
      · unfold kpT; rw [up_ne (by decide), i5]; decide
      · rw [up_ne (by decide), e12]; exact isZ0
