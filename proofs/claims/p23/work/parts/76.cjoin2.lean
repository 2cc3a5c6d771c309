/-! ===== the class joins: costs, choices ===== -/
theorem C_27r {μ : mMu} {f : Nat → Nat → Int32} {l : Nat → Nat → Int64} {r : Nat → Nat → Option Nat} (hs : Sh μ) (hr : Rf r) {t k tk : Nat} (ht : t < 10) (hk : k < 10) (htk : tk < 1024) : CALL 27 [.ref 133, .int (nI t), .int (nI tk), .int (nI k)] (st μ f l r) = some (.inl (some (.long (l 135 (t * 10 + k) - cjw + l 136 ((t + 1) * 1024 + (tk ||| 2 ^ k))))), st μ f l r) := by
  have h133a : (mS μ 133).1 = 4 := by rw [hs 133 (by decide)]; rfl
  have h135a : (mS μ 135).1 = 21 := by rw [hs 135 (by decide)]; rfl
  have h135b : (mS μ 135).2 = 100 := by rw [hs 135 (by decide)]; rfl
  have h136a : (mS μ 136).1 = 21 := by rw [hs 136 (by decide)]; rfl
  have h136b : (mS μ 136).2 = 11264 := by rw [hs 136 (by decide)]; rfl
  have r133_1 : r 133 1 = some 135 := hr 133 1 135 rfl
  have r133_2 : r 133 2 = some 136 := hr 133 2 136 rfl
  have ho : tk ||| 2 ^ k < 1024 := or_lt (n := 10) htk hk
  rw [B_27_0]
  simp (disch := omega) only [st_I, st_L, st_R, st_S, st_N, st_C, st_Z, st_X, st_D, st_st, st_sI, st_sIr, st_sL, st_sR, gfI_st, gfL_st, gfR_st, gfN_st, pfI_st, pfL_st, pfR_st, pfZ_st0, pfZ_st1, ldI_st, ldL_st, stoI_st, stoL_st, aln_st, cpA_st, bq_st, bq_S, oI_s, oL_s, oD_s, oV_s, oR_s, oR_n, oI_e, oL_e, oD_e, Option.bind_some, fa_lit, fa_litL, nI_add, pk_mul, nI_m1, nI_lt', nI_le', nI_eq', lc_ge, lc_le, lc_gt, lc_lt, lc_eq, isZ_0, isZ_1, bI_0, bI_z, decide_eq_true_eq, Bool.not_eq_true', Bool.not_true, Bool.not_false, decide_eq_false_iff_not, if_true, if_false, ite_true, ite_false, eq_self, not_true, not_false_eq_true, C_80, C_81, C_82, C_84, C_85, C_86, C_94, C_95, C_96, C_97, yu_ne, yu_eq, up_eq, up_ne, yur_ne, yur_eq, yu_uu, y1_eq, y1_ne, y1_y1, Nat.mul_zero, Nat.zero_mul, Nat.add_zero, Nat.zero_add, Nat.mul_one, Nat.one_mul, Nat.reduceEqDiff, Nat.reduceLT, Nat.reduceLeDiff, Nat.reduceAdd, Nat.reduceMul, decide_true, decide_false, cond_true, cond_false, reduceCtorEq, Bool.false_eq_true, Bool.true_eq_false, Bool.true_and, Bool.and_true, Bool.false_and, Bool.and_false, r133_1, r133_2, shl1, fa_or, cjw_eq]
def JH (f : Nat → Nat → Int32) (l : Nat → Nat → Int64) (n nb : Nat) (q : Nat → Nat → Int64) : Prop := ∀ t, t < n → ∃ m, m < 1024 ∧ f 134 t = nI m ∧ (∀ k, k < 10 → m.testBit k = (decide (k < nb) && !decide (q t k < lN 0))) ∧ ∀ k, k < nb → ¬ q t k < lN 0 → l 135 (t * 10 + k) = q t k ∧ 0 ≤ (q t k).toInt ∧ (q t k).toInt ≤ 1200000000
def JC (l : Nat → Nat → Int64) (n nb t : Nat) (q : Nat → Nat → Int64) : Prop := ∀ tk, tk < 2 ^ nb → pop tk ≤ t → RJ (n - t) (bM mny q nb n (n - t) tk) (l 136 (t * 1024 + tk))
theorem JH_l {f : Nat → Nat → Int32} {l l' : Nat → Nat → Int64} {n nb : Nat} {q : Nat → Nat → Int64} (h : JH f l n nb q) (e : l' 135 = l 135) : JH f l' n nb q := by
  unfold JH at h ⊢
  rw [e]
  exact h
theorem C_26 {μ : mMu} {f : Nat → Nat → Int32} {l : Nat → Nat → Int64} {r : Nat → Nat → Option Nat} (hs : Sh μ) (hr : Rf r) {n nb t tk : Nat} {q : Nat → Nat → Int64} (hn : n ≤ 10) (hnb : nb ≤ 10) (ht : t < n) (htk : tk < 2 ^ nb) (hp : pop tk ≤ t) (hJ : JH f l n nb q) (hC : JC l n nb (t + 1) q) : ∃ y, CALL 26 [.ref 133, .int (nI t), .int (nI tk)] (st μ f l r) = some (.inl (some (.long y)), st μ f l r) ∧ RJ (n - t) (bM mny q nb n (n - t) tk) y := by
  have h133a : (mS μ 133).1 = 4 := by rw [hs 133 (by decide)]; rfl
  have h134a : (mS μ 134).1 = 20 := by rw [hs 134 (by decide)]; rfl
  have h134b : (mS μ 134).2 = 10 := by rw [hs 134 (by decide)]; rfl
  have h136a : (mS μ 136).1 = 21 := by rw [hs 136 (by decide)]; rfl
  have h136b : (mS μ 136).2 = 11264 := by rw [hs 136 (by decide)]; rfl
  have r133_0 : r 133 0 = some 134 := hr 133 0 134 rfl
  have r133_2 : r 133 2 = some 136 := hr 133 2 136 rfl
  have h1024 := pow_le10 hnb
  obtain ⟨m, hm, e0, hb, hq⟩ := hJ t ht
  obtain ⟨fr, hfr, efr, hfb⟩ := free_nI hm (show tk < 1024 by omega)
  obtain ⟨d, hd⟩ : ∃ d, n - (t + 1) = d := ⟨_, rfl⟩
  have hnt : n - t = d + 1 := by omega
  have hmt : n - 1 - d = t := by omega
  rw [hnt, bM_s, hmt]
  have base : RJ (d + 1) (bM mny q nb n d tk) (l 136 ((t + 1) * 1024 + tk)) := RJ_le (by rw [← hd]; exact hC tk htk (by omega)) (Nat.le_succ d)
  have rest : ∀ k, k < nb → RJ d (bM mny q nb n d (tk ||| 2 ^ k)) (l 136 ((t + 1) * 1024 + (tk ||| 2 ^ k))) := fun k hk => by
    have := hC (tk ||| 2 ^ k) (or_lt htk hk) (Nat.le_trans pop_or (by omega))
    rw [hd] at this
    exact this
  have cf : ∀ j, j < nb → fr.testBit j = can q t j tk := fun j hj => by
    rw [hfb j (by omega), hb j (by omega), decide_eq_true hj, Bool.true_and]
    unfold can
    rw [Bool.and_comm]
  rw [B_26_0]
  simp (disch := omega) only [st_I, st_L, st_R, st_S, st_N, st_C, st_Z, st_X, st_D, st_st, st_sI, st_sIr, st_sL, st_sR, gfI_st, gfL_st, gfR_st, gfN_st, pfI_st, pfL_st, pfR_st, pfZ_st0, pfZ_st1, ldI_st, ldL_st, stoI_st, stoL_st, aln_st, cpA_st, bq_st, bq_S, oI_s, oL_s, oD_s, oV_s, oR_s, oR_n, oI_e, oL_e, oD_e, Option.bind_some, fa_lit, fa_litL, nI_add, pk_mul, nI_m1, nI_lt', nI_le', nI_eq', lc_ge, lc_le, lc_gt, lc_lt, lc_eq, isZ_0, isZ_1, bI_0, bI_z, decide_eq_true_eq, Bool.not_eq_true', Bool.not_true, Bool.not_false, decide_eq_false_iff_not, if_true, if_false, ite_true, ite_false, eq_self, not_true, not_false_eq_true, C_80, C_81, C_82, C_84, C_85, C_86, C_94, C_95, C_96, C_97, yu_ne, yu_eq, up_eq, up_ne, yur_ne, yur_eq, yu_uu, y1_eq, y1_ne, y1_y1, Nat.mul_zero, Nat.zero_mul, Nat.add_zero, Nat.zero_add, Nat.mul_one, Nat.one_mul, Nat.reduceEqDiff, Nat.reduceLT, Nat.reduceLeDiff, Nat.reduceAdd, Nat.reduceMul, decide_true, decide_false, cond_true, cond_false, reduceCtorEq, Bool.false_eq_true, Bool.true_eq_false, Bool.true_and, Bool.and_true, Bool.false_and, Bool.and_false, r133_0, r133_2, e0, efr]
  refine loopP (fun k o => ∃ y, o = RUN 26 30 [some (.ref 133), some (.int (nI t)), some (.int (nI tk)), some (.long y), none, some (.int (nI fr)), some (.int (nI k))] [] (st μ f l r) ∧ RJ (d + 1) (itr (mf mny q (bM mny q nb n d) t tk) (min k nb) (bM mny q nb n d tk)) y) (fun o => ∃ y, o = some (.inl (some (.long y)), st μ f l r) ∧ RJ (d + 1) (itr (mf mny q (bM mny q nb n d) t tk) nb (bM mny q nb n d tk)) y) 10 ?_ ?_ 0 _ (Nat.zero_le _) ⟨_, rfl, by rw [Nat.zero_min]; exact base⟩
  · rintro o ⟨y, rfl, hy⟩
    rw [Nat.min_eq_right hnb] at hy
    rw [B_26_30]
    simp (disch := omega) only [st_I, st_L, st_R, st_S, st_N, st_C, st_Z, st_X, st_D, st_st, st_sI, st_sIr, st_sL, st_sR, gfI_st, gfL_st, gfR_st, gfN_st, pfI_st, pfL_st, pfR_st, pfZ_st0, pfZ_st1, ldI_st, ldL_st, stoI_st, stoL_st, aln_st, cpA_st, bq_st, bq_S, oI_s, oL_s, oD_s, oV_s, oR_s, oR_n, oI_e, oL_e, oD_e, Option.bind_some, fa_lit, fa_litL, nI_add, pk_mul, nI_m1, nI_lt', nI_le', nI_eq', lc_ge, lc_le, lc_gt, lc_lt, lc_eq, isZ_0, isZ_1, bI_0, bI_z, decide_eq_true_eq, Bool.not_eq_true', Bool.not_true, Bool.not_false, decide_eq_false_iff_not, if_true, if_false, ite_true, ite_false, eq_self, not_true, not_false_eq_true, C_80, C_81, C_82, C_84, C_85, C_86, C_94, C_95, C_96, C_97, yu_ne, yu_eq, up_eq, up_ne, yur_ne, yur_eq, yu_uu, y1_eq, y1_ne, y1_y1, Nat.mul_zero, Nat.zero_mul, Nat.add_zero, Nat.zero_add, Nat.mul_one, Nat.one_mul, Nat.reduceEqDiff, Nat.reduceLT, Nat.reduceLeDiff, Nat.reduceAdd, Nat.reduceMul, decide_true, decide_false, cond_true, cond_false, reduceCtorEq, Bool.false_eq_true, Bool.true_eq_false, Bool.true_and, Bool.and_true, Bool.false_and, Bool.and_false, r133_0, r133_2, Nat.le_refl]
    exact ⟨y, rfl, hy⟩
  · rintro k o hk ⟨y, rfl, hy⟩
    have hk' : ¬ 10 ≤ k := by omega
    have s0 := shr_0 hfr (show k < 31 by omega)
    have eb := bit_nI (n := fr) (k := k) (by omega) (by omega)
    rw [B_26_30]
    by_cases q0 : fr < 2 ^ k
    · left
      simp (disch := omega) only [st_I, st_L, st_R, st_S, st_N, st_C, st_Z, st_X, st_D, st_st, st_sI, st_sIr, st_sL, st_sR, gfI_st, gfL_st, gfR_st, gfN_st, pfI_st, pfL_st, pfR_st, pfZ_st0, pfZ_st1, ldI_st, ldL_st, stoI_st, stoL_st, aln_st, cpA_st, bq_st, bq_S, oI_s, oL_s, oD_s, oV_s, oR_s, oR_n, oI_e, oL_e, oD_e, Option.bind_some, fa_lit, fa_litL, nI_add, pk_mul, nI_m1, nI_lt', nI_le', nI_eq', lc_ge, lc_le, lc_gt, lc_lt, lc_eq, isZ_0, isZ_1, bI_0, bI_z, decide_eq_true_eq, Bool.not_eq_true', Bool.not_true, Bool.not_false, decide_eq_false_iff_not, if_true, if_false, ite_true, ite_false, eq_self, not_true, not_false_eq_true, C_80, C_81, C_82, C_84, C_85, C_86, C_94, C_95, C_96, C_97, yu_ne, yu_eq, up_eq, up_ne, yur_ne, yur_eq, yu_uu, y1_eq, y1_ne, y1_y1, Nat.mul_zero, Nat.zero_mul, Nat.add_zero, Nat.zero_add, Nat.mul_one, Nat.one_mul, Nat.reduceEqDiff, Nat.reduceLT, Nat.reduceLeDiff, Nat.reduceAdd, Nat.reduceMul, decide_true, decide_false, cond_true, cond_false, reduceCtorEq, Bool.false_eq_true, Bool.true_eq_false, Bool.true_and, Bool.and_true, Bool.false_and, Bool.and_false, r133_0, r133_2, hk', s0, q0]
      refine ⟨y, rfl, ?_⟩
      rcases Nat.lt_or_ge k nb with g | g
      · have is := itr_stop (g := mf mny q (bM mny q nb n d) t tk) (a := k) (s := bM mny q nb n d tk) (nb - k) (fun j x h1 h2 => mf_f (by rw [← cf j (by omega)]; exact hi_0 q0 h1))
        rw [show k + (nb - k) = nb by omega] at is
        rw [Nat.min_eq_left (by omega)] at hy
        rw [is]
        exact hy
      · rw [Nat.min_eq_right g] at hy
        exact hy
    · right
      cases qb : fr.testBit k with
      | false =>
        rw [qb] at eb
        simp (disch := omega) only [st_I, st_L, st_R, st_S, st_N, st_C, st_Z, st_X, st_D, st_st, st_sI, st_sIr, st_sL, st_sR, gfI_st, gfL_st, gfR_st, gfN_st, pfI_st, pfL_st, pfR_st, pfZ_st0, pfZ_st1, ldI_st, ldL_st, stoI_st, stoL_st, aln_st, cpA_st, bq_st, bq_S, oI_s, oL_s, oD_s, oV_s, oR_s, oR_n, oI_e, oL_e, oD_e, Option.bind_some, fa_lit, fa_litL, nI_add, pk_mul, nI_m1, nI_lt', nI_le', nI_eq', lc_ge, lc_le, lc_gt, lc_lt, lc_eq, isZ_0, isZ_1, bI_0, bI_z, decide_eq_true_eq, Bool.not_eq_true', Bool.not_true, Bool.not_false, decide_eq_false_iff_not, if_true, if_false, ite_true, ite_false, eq_self, not_true, not_false_eq_true, C_80, C_81, C_82, C_84, C_85, C_86, C_94, C_95, C_96, C_97, yu_ne, yu_eq, up_eq, up_ne, yur_ne, yur_eq, yu_uu, y1_eq, y1_ne, y1_y1, Nat.mul_zero, Nat.zero_mul, Nat.add_zero, Nat.zero_add, Nat.mul_one, Nat.one_mul, Nat.reduceEqDiff, Nat.reduceLT, Nat.reduceLeDiff, Nat.reduceAdd, Nat.reduceMul, decide_true, decide_false, cond_true, cond_false, reduceCtorEq, Bool.false_eq_true, Bool.true_eq_false, Bool.true_and, Bool.and_true, Bool.false_and, Bool.and_false, r133_0, r133_2, hk', s0, q0, eb]
        refine ⟨y, rfl, ?_⟩
        rcases Nat.lt_or_ge k nb with g | g
        · rw [Nat.min_eq_left (by omega)] at hy
          rw [Nat.min_eq_left (by omega), itr_s', mf_f (by rw [← cf k g]; exact qb)]
          exact hy
        · rw [Nat.min_eq_right g] at hy
          rw [Nat.min_eq_right (by omega)]
          exact hy
      | true =>
        rw [qb] at eb
        have g : k < nb := by
          have := hfb k hk
          rw [qb, hb k hk] at this
          rcases Nat.lt_or_ge k nb with g | g
          · exact g
          · rw [decide_eq_false (show ¬ k < nb by omega)] at this
            simp at this
        have hcn : can q t k tk = true := by rw [← cf k g]; exact qb
        have hneg : ¬ q t k < lN 0 := by
          intro hh
          unfold can at hcn
          rw [decide_eq_true hh] at hcn
          simp at hcn
        obtain ⟨v1, v2, v3⟩ := hq k g hneg
        have x31 := C_27r hs hr (f := f) (l := l) (show t < 10 by omega) hk (show tk < 1024 by omega)
        simp (disch := omega) only [st_I, st_L, st_R, st_S, st_N, st_C, st_Z, st_X, st_D, st_st, st_sI, st_sIr, st_sL, st_sR, gfI_st, gfL_st, gfR_st, gfN_st, pfI_st, pfL_st, pfR_st, pfZ_st0, pfZ_st1, ldI_st, ldL_st, stoI_st, stoL_st, aln_st, cpA_st, bq_st, bq_S, oI_s, oL_s, oD_s, oV_s, oR_s, oR_n, oI_e, oL_e, oD_e, Option.bind_some, fa_lit, fa_litL, nI_add, pk_mul, nI_m1, nI_lt', nI_le', nI_eq', lc_ge, lc_le, lc_gt, lc_lt, lc_eq, isZ_0, isZ_1, bI_0, bI_z, decide_eq_true_eq, Bool.not_eq_true', Bool.not_true, Bool.not_false, decide_eq_false_iff_not, if_true, if_false, ite_true, ite_false, eq_self, not_true, not_false_eq_true, C_80, C_81, C_82, C_84, C_85, C_86, C_94, C_95, C_96, C_97, yu_ne, yu_eq, up_eq, up_ne, yur_ne, yur_eq, yu_uu, y1_eq, y1_ne, y1_y1, Nat.mul_zero, Nat.zero_mul, Nat.add_zero, Nat.zero_add, Nat.mul_one, Nat.one_mul, Nat.reduceEqDiff, Nat.reduceLT, Nat.reduceLeDiff, Nat.reduceAdd, Nat.reduceMul, decide_true, decide_false, cond_true, cond_false, reduceCtorEq, Bool.false_eq_true, Bool.true_eq_false, Bool.true_and, Bool.and_true, Bool.false_and, Bool.and_false, r133_0, r133_2, hk', s0, q0, eb, x31]
        refine ⟨_, rfl, ?_⟩
        rw [Nat.min_eq_left (by omega)] at hy
        rw [Nat.min_eq_left (by omega), itr_s', mf_t hcn]
        refine RJ_mx (by omega) hy ?_
        rw [v1]
        unfold bw
        exact RJ_st (by omega) (rest k g) mny_int cjw_int v2 v3
theorem C_28 {μ : mMu} {f : Nat → Nat → Int32} {l : Nat → Nat → Int64} {r : Nat → Nat → Option Nat} (hs : Sh μ) (hr : Rf r) {n nb t tk : Nat} {q : Nat → Nat → Int64} (hn : n ≤ 10) (hnb : nb ≤ 10) (ht : t < n) (htk : tk < 2 ^ nb) (hp : pop tk ≤ t) (hJ : JH f l n nb q) (hC : JC l n nb (t + 1) q) (hC0 : JC l n nb t q) : CALL 28 [.ref 133, .int (nI t), .int (nI tk)] (st μ f l r) = some (.inl (some (.int (fI (sel mny q nb n t tk)))), st μ f l r) := by
  have h133a : (mS μ 133).1 = 4 := by rw [hs 133 (by decide)]; rfl
  have h134a : (mS μ 134).1 = 20 := by rw [hs 134 (by decide)]; rfl
  have h134b : (mS μ 134).2 = 10 := by rw [hs 134 (by decide)]; rfl
  have h136a : (mS μ 136).1 = 21 := by rw [hs 136 (by decide)]; rfl
  have h136b : (mS μ 136).2 = 11264 := by rw [hs 136 (by decide)]; rfl
  have r133_0 : r 133 0 = some 134 := hr 133 0 134 rfl
  have r133_2 : r 133 2 = some 136 := hr 133 2 136 rfl
  have h1024 := pow_le10 hnb
  obtain ⟨m, hm, e0, hb, hq⟩ := hJ t ht
  obtain ⟨fr, hfr, efr, hfb⟩ := free_nI hm (show tk < 1024 by omega)
  obtain ⟨d, hd⟩ : ∃ d, n - (t + 1) = d := ⟨_, rfl⟩
  have hnt : n - t = d + 1 := by omega
  have hmt : n - 1 - t = d := by omega
  have rest : ∀ k, k < nb → RJ d (bM mny q nb n d (tk ||| 2 ^ k)) (l 136 ((t + 1) * 1024 + (tk ||| 2 ^ k))) := fun k hk => by
    have := hC (tk ||| 2 ^ k) (or_lt htk hk) (Nat.le_trans pop_or (by omega))
    rw [hd] at this
    exact this
  have own : RJ (d + 1) (bM mny q nb n (d + 1) tk) (l 136 (t * 1024 + tk)) := by
    have := hC0 tk htk hp
    rw [hnt] at this
    exact this
  have cf : ∀ j, j < nb → fr.testBit j = can q t j tk := fun j hj => by
    rw [hfb j (by omega), hb j (by omega), decide_eq_true hj, Bool.true_and]
    unfold can
    rw [Bool.and_comm]
  have es : sel mny q nb n t tk = ff (fun k => can q t k tk && decide (bw mny q (bM mny q nb n d) t k tk = bM mny q nb n (d + 1) tk)) nb := by
    unfold sel
    rw [hmt, hnt]
  rw [es, B_28_0]
  simp (disch := omega) only [st_I, st_L, st_R, st_S, st_N, st_C, st_Z, st_X, st_D, st_st, st_sI, st_sIr, st_sL, st_sR, gfI_st, gfL_st, gfR_st, gfN_st, pfI_st, pfL_st, pfR_st, pfZ_st0, pfZ_st1, ldI_st, ldL_st, stoI_st, stoL_st, aln_st, cpA_st, bq_st, bq_S, oI_s, oL_s, oD_s, oV_s, oR_s, oR_n, oI_e, oL_e, oD_e, Option.bind_some, fa_lit, fa_litL, nI_add, pk_mul, nI_m1, nI_lt', nI_le', nI_eq', lc_ge, lc_le, lc_gt, lc_lt, lc_eq, isZ_0, isZ_1, bI_0, bI_z, decide_eq_true_eq, Bool.not_eq_true', Bool.not_true, Bool.not_false, decide_eq_false_iff_not, if_true, if_false, ite_true, ite_false, eq_self, not_true, not_false_eq_true, C_80, C_81, C_82, C_84, C_85, C_86, C_94, C_95, C_96, C_97, yu_ne, yu_eq, up_eq, up_ne, yur_ne, yur_eq, yu_uu, y1_eq, y1_ne, y1_y1, Nat.mul_zero, Nat.zero_mul, Nat.add_zero, Nat.zero_add, Nat.mul_one, Nat.one_mul, Nat.reduceEqDiff, Nat.reduceLT, Nat.reduceLeDiff, Nat.reduceAdd, Nat.reduceMul, decide_true, decide_false, cond_true, cond_false, reduceCtorEq, Bool.false_eq_true, Bool.true_eq_false, Bool.true_and, Bool.and_true, Bool.false_and, Bool.and_false, r133_0, r133_2, e0, efr]
  refine loopP (fun k o => o = RUN 28 14 [some (.ref 133), some (.int (nI t)), some (.int (nI tk)), some (.int (nI fr)), some (.int (nI k))] [] (st μ f l r) ∧ ∀ j, j < k → j < nb → (can q t j tk && decide (bw mny q (bM mny q nb n d) t j tk = bM mny q nb n (d + 1) tk)) = false) (fun o => o = some (.inl (some (.int (fI (ff (fun k => can q t k tk && decide (bw mny q (bM mny q nb n d) t k tk = bM mny q nb n (d + 1) tk)) nb)))), st μ f l r)) 10 ?_ ?_ 0 _ (Nat.zero_le _) ⟨rfl, fun j hj => absurd hj (Nat.not_lt_zero j)⟩
  · rintro o ⟨rfl, h⟩
    rw [ff_none (fun j hj => h j (by omega) hj), B_28_14]
    simp (disch := omega) only [st_I, st_L, st_R, st_S, st_N, st_C, st_Z, st_X, st_D, st_st, st_sI, st_sIr, st_sL, st_sR, gfI_st, gfL_st, gfR_st, gfN_st, pfI_st, pfL_st, pfR_st, pfZ_st0, pfZ_st1, ldI_st, ldL_st, stoI_st, stoL_st, aln_st, cpA_st, bq_st, bq_S, oI_s, oL_s, oD_s, oV_s, oR_s, oR_n, oI_e, oL_e, oD_e, Option.bind_some, fa_lit, fa_litL, nI_add, pk_mul, nI_m1, nI_lt', nI_le', nI_eq', lc_ge, lc_le, lc_gt, lc_lt, lc_eq, isZ_0, isZ_1, bI_0, bI_z, decide_eq_true_eq, Bool.not_eq_true', Bool.not_true, Bool.not_false, decide_eq_false_iff_not, if_true, if_false, ite_true, ite_false, eq_self, not_true, not_false_eq_true, C_80, C_81, C_82, C_84, C_85, C_86, C_94, C_95, C_96, C_97, yu_ne, yu_eq, up_eq, up_ne, yur_ne, yur_eq, yu_uu, y1_eq, y1_ne, y1_y1, Nat.mul_zero, Nat.zero_mul, Nat.add_zero, Nat.zero_add, Nat.mul_one, Nat.one_mul, Nat.reduceEqDiff, Nat.reduceLT, Nat.reduceLeDiff, Nat.reduceAdd, Nat.reduceMul, decide_true, decide_false, cond_true, cond_false, reduceCtorEq, Bool.false_eq_true, Bool.true_eq_false, Bool.true_and, Bool.and_true, Bool.false_and, Bool.and_false, r133_0, r133_2, Nat.le_refl]
    rfl
  · rintro k o hk ⟨rfl, h⟩
    have hk' : ¬ 10 ≤ k := by omega
    have eb := bit_nI (n := fr) (k := k) (by omega) (by omega)
    have nx : (k < nb → (can q t k tk && decide (bw mny q (bM mny q nb n d) t k tk = bM mny q nb n (d + 1) tk)) = false) → ∀ j, j < k + 1 → j < nb → (can q t j tk && decide (bw mny q (bM mny q nb n d) t j tk = bM mny q nb n (d + 1) tk)) = false := fun hh j h1 h2 => by
      by_cases e : j = k
      · subst e; exact hh h2
      · exact h j (by omega) h2
    rw [B_28_14]
    cases qb : fr.testBit k with
    | false =>
      right
      rw [qb] at eb
      simp (disch := omega) only [st_I, st_L, st_R, st_S, st_N, st_C, st_Z, st_X, st_D, st_st, st_sI, st_sIr, st_sL, st_sR, gfI_st, gfL_st, gfR_st, gfN_st, pfI_st, pfL_st, pfR_st, pfZ_st0, pfZ_st1, ldI_st, ldL_st, stoI_st, stoL_st, aln_st, cpA_st, bq_st, bq_S, oI_s, oL_s, oD_s, oV_s, oR_s, oR_n, oI_e, oL_e, oD_e, Option.bind_some, fa_lit, fa_litL, nI_add, pk_mul, nI_m1, nI_lt', nI_le', nI_eq', lc_ge, lc_le, lc_gt, lc_lt, lc_eq, isZ_0, isZ_1, bI_0, bI_z, decide_eq_true_eq, Bool.not_eq_true', Bool.not_true, Bool.not_false, decide_eq_false_iff_not, if_true, if_false, ite_true, ite_false, eq_self, not_true, not_false_eq_true, C_80, C_81, C_82, C_84, C_85, C_86, C_94, C_95, C_96, C_97, yu_ne, yu_eq, up_eq, up_ne, yur_ne, yur_eq, yu_uu, y1_eq, y1_ne, y1_y1, Nat.mul_zero, Nat.zero_mul, Nat.add_zero, Nat.zero_add, Nat.mul_one, Nat.one_mul, Nat.reduceEqDiff, Nat.reduceLT, Nat.reduceLeDiff, Nat.reduceAdd, Nat.reduceMul, decide_true, decide_false, cond_true, cond_false, reduceCtorEq, Bool.false_eq_true, Bool.true_eq_false, Bool.true_and, Bool.and_true, Bool.false_and, Bool.and_false, r133_0, r133_2, hk', eb]
      refine ⟨trivial, nx fun g => ?_⟩
      rw [← cf k g, qb, Bool.false_and]
    | true =>
      rw [qb] at eb
      have g : k < nb := by
        have := hfb k hk
        rw [qb, hb k hk] at this
        rcases Nat.lt_or_ge k nb with g | g
        · exact g
        · rw [decide_eq_false (show ¬ k < nb by omega)] at this
          simp at this
      have hcn : can q t k tk = true := by rw [← cf k g]; exact qb
      have hneg : ¬ q t k < lN 0 := by
        intro hh
        unfold can at hcn
        rw [decide_eq_true hh] at hcn
        simp at hcn
      obtain ⟨v1, v2, v3⟩ := hq k g hneg
      have x31 := C_27r hs hr (f := f) (l := l) (show t < 10 by omega) hk (show tk < 1024 by omega)
      rw [v1] at x31
      have eq : (bw mny q (bM mny q nb n d) t k tk = bM mny q nb n (d + 1) tk) = (q t k - cjw + l 136 ((t + 1) * 1024 + (tk ||| 2 ^ k)) = l 136 (t * 1024 + tk)) := by
        unfold bw
        exact RJ_eq (by omega) (RJ_st (by omega) (rest k g) mny_int cjw_int v2 v3) own
      by_cases qe : q t k - cjw + l 136 ((t + 1) * 1024 + (tk ||| 2 ^ k)) = l 136 (t * 1024 + tk)
      · left
        rw [ff_some (fun j hj => h j hj (by omega)) (by rw [hcn, decide_eq_true (by rw [eq]; exact qe)]; rfl) g]
        simp (disch := omega) only [st_I, st_L, st_R, st_S, st_N, st_C, st_Z, st_X, st_D, st_st, st_sI, st_sIr, st_sL, st_sR, gfI_st, gfL_st, gfR_st, gfN_st, pfI_st, pfL_st, pfR_st, pfZ_st0, pfZ_st1, ldI_st, ldL_st, stoI_st, stoL_st, aln_st, cpA_st, bq_st, bq_S, oI_s, oL_s, oD_s, oV_s, oR_s, oR_n, oI_e, oL_e, oD_e, Option.bind_some, fa_lit, fa_litL, nI_add, pk_mul, nI_m1, nI_lt', nI_le', nI_eq', lc_ge, lc_le, lc_gt, lc_lt, lc_eq, isZ_0, isZ_1, bI_0, bI_z, decide_eq_true_eq, Bool.not_eq_true', Bool.not_true, Bool.not_false, decide_eq_false_iff_not, if_true, if_false, ite_true, ite_false, eq_self, not_true, not_false_eq_true, C_80, C_81, C_82, C_84, C_85, C_86, C_94, C_95, C_96, C_97, yu_ne, yu_eq, up_eq, up_ne, yur_ne, yur_eq, yu_uu, y1_eq, y1_ne, y1_y1, Nat.mul_zero, Nat.zero_mul, Nat.add_zero, Nat.zero_add, Nat.mul_one, Nat.one_mul, Nat.reduceEqDiff, Nat.reduceLT, Nat.reduceLeDiff, Nat.reduceAdd, Nat.reduceMul, decide_true, decide_false, cond_true, cond_false, reduceCtorEq, Bool.false_eq_true, Bool.true_eq_false, Bool.true_and, Bool.and_true, Bool.false_and, Bool.and_false, r133_0, r133_2, hk', eb, x31, qe]
        rfl
      · right
        simp (disch := omega) only [st_I, st_L, st_R, st_S, st_N, st_C, st_Z, st_X, st_D, st_st, st_sI, st_sIr, st_sL, st_sR, gfI_st, gfL_st, gfR_st, gfN_st, pfI_st, pfL_st, pfR_st, pfZ_st0, pfZ_st1, ldI_st, ldL_st, stoI_st, stoL_st, aln_st, cpA_st, bq_st, bq_S, oI_s, oL_s, oD_s, oV_s, oR_s, oR_n, oI_e, oL_e, oD_e, Option.bind_some, fa_lit, fa_litL, nI_add, pk_mul, nI_m1, nI_lt', nI_le', nI_eq', lc_ge, lc_le, lc_gt, lc_lt, lc_eq, isZ_0, isZ_1, bI_0, bI_z, decide_eq_true_eq, Bool.not_eq_true', Bool.not_true, Bool.not_false, decide_eq_false_iff_not, if_true, if_false, ite_true, ite_false, eq_self, not_true, not_false_eq_true, C_80, C_81, C_82, C_84, C_85, C_86, C_94, C_95, C_96, C_97, yu_ne, yu_eq, up_eq, up_ne, yur_ne, yur_eq, yu_uu, y1_eq, y1_ne, y1_y1, Nat.mul_zero, Nat.zero_mul, Nat.add_zero, Nat.zero_add, Nat.mul_one, Nat.one_mul, Nat.reduceEqDiff, Nat.reduceLT, Nat.reduceLeDiff, Nat.reduceAdd, Nat.reduceMul, decide_true, decide_false, cond_true, cond_false, reduceCtorEq, Bool.false_eq_true, Bool.true_eq_false, Bool.true_and, Bool.and_true, Bool.false_and, Bool.and_false, r133_0, r133_2, hk', eb, x31, qe]
        refine ⟨trivial, nx fun _ => ?_⟩
        rw [decide_eq_false (by rw [eq]; exact qe), Bool.and_false]
theorem RJ_0 : RJ 0 (lN 0) (lN 0) := ⟨0, 0, Nat.le_refl _, Nat.zero_le _, by decide, by decide⟩
theorem C_25 {μ : mMu} {f : Nat → Nat → Int32} {l : Nat → Nat → Int64} {r : Nat → Nat → Option Nat} (hs : Sh μ) (hr : Rf r) {n nb : Nat} {q : Nat → Nat → Int64} (hn : n ≤ 10) (hnb : nb ≤ 10) (hJ : JH f l n nb q) : ∃ l', CALL 25 [.ref 133, .int (nI n), .int (nI (2 ^ nb))] (st μ f l r) = some (.inl none, st μ f l' r) ∧ (∀ x, x ≠ 136 → l' x = l x) ∧ ∀ t, t ≤ n → JC l' n nb t q := by
  have h133a : (mS μ 133).1 = 4 := by rw [hs 133 (by decide)]; rfl
  have h136a : (mS μ 136).1 = 21 := by rw [hs 136 (by decide)]; rfl
  have h136b : (mS μ 136).2 = 11264 := by rw [hs 136 (by decide)]; rfl
  have r133_2 : r 133 2 = some 136 := hr 133 2 136 rfl
  have h1024 := pow_le10 hnb
  rw [B_25_0]
  refine loopP (fun j o => ∃ l', o = RUN 25 2 [some (.ref 133), some (.int (nI n)), some (.int (nI (2 ^ nb))), some (.int (nI j)), none] [] (st μ f l' r) ∧ (∀ x, x ≠ 136 → l' x = l x) ∧ ∀ tk, tk < j → l' 136 (n * 1024 + tk) = lN 0) (fun o => ∃ l', o = some (.inl none, st μ f l' r) ∧ (∀ x, x ≠ 136 → l' x = l x) ∧ ∀ t, t ≤ n → JC l' n nb t q) (2 ^ nb) ?_ ?_ 0 _ (Nat.zero_le _) ⟨l, rfl, fun _ _ => rfl, fun tk h => absurd h (Nat.not_lt_zero tk)⟩
  · rintro o ⟨l1, rfl, g1, g2⟩
    rw [B_25_2]
    simp (disch := omega) only [st_I, st_L, st_R, st_S, st_N, st_C, st_Z, st_X, st_D, st_st, st_sI, st_sIr, st_sL, st_sR, gfI_st, gfL_st, gfR_st, gfN_st, pfI_st, pfL_st, pfR_st, pfZ_st0, pfZ_st1, ldI_st, ldL_st, stoI_st, stoL_st, aln_st, cpA_st, bq_st, bq_S, oI_s, oL_s, oD_s, oV_s, oR_s, oR_n, oI_e, oL_e, oD_e, Option.bind_some, fa_lit, fa_litL, nI_add, pk_mul, nI_m1, nI_lt', nI_le', nI_eq', lc_ge, lc_le, lc_gt, lc_lt, lc_eq, isZ_0, isZ_1, bI_0, bI_z, decide_eq_true_eq, Bool.not_eq_true', Bool.not_true, Bool.not_false, decide_eq_false_iff_not, if_true, if_false, ite_true, ite_false, eq_self, not_true, not_false_eq_true, C_80, C_81, C_82, C_84, C_85, C_86, C_94, C_95, C_96, C_97, yu_ne, yu_eq, up_eq, up_ne, yur_ne, yur_eq, yu_uu, y1_eq, y1_ne, y1_y1, Nat.mul_zero, Nat.zero_mul, Nat.add_zero, Nat.zero_add, Nat.mul_one, Nat.one_mul, Nat.reduceEqDiff, Nat.reduceLT, Nat.reduceLeDiff, Nat.reduceAdd, Nat.reduceMul, decide_true, decide_false, cond_true, cond_false, reduceCtorEq, Bool.false_eq_true, Bool.true_eq_false, Bool.true_and, Bool.and_true, Bool.false_and, Bool.and_false, r133_2, Nat.le_refl]
    refine loopP (fun i o => ∃ l' o4, o = RUN 25 30 [some (.ref 133), some (.int (nI n)), some (.int (nI (2 ^ nb))), some (.int (nI n - nI (i + 1))), o4] [] (st μ f l' r) ∧ (∀ x, x ≠ 136 → l' x = l x) ∧ ∀ t, n - i ≤ t → t ≤ n → JC l' n nb t q) (fun o => ∃ l', o = some (.inl none, st μ f l' r) ∧ (∀ x, x ≠ 136 → l' x = l x) ∧ ∀ t, t ≤ n → JC l' n nb t q) n ?_ ?_ 0 _ (Nat.zero_le _) ⟨l1, _, rfl, g1, fun t h1 h2 tk h3 h4 => ?_⟩
    · rintro o ⟨l', o4, rfl, h1, h2⟩
      have hneg : nI n - nI (n + 1) < nI 0 := pk_sneg (a := n) (b := n + 1) (by omega) (by omega)
      rw [B_25_30]
      simp (disch := omega) only [st_I, st_L, st_R, st_S, st_N, st_C, st_Z, st_X, st_D, st_st, st_sI, st_sIr, st_sL, st_sR, gfI_st, gfL_st, gfR_st, gfN_st, pfI_st, pfL_st, pfR_st, pfZ_st0, pfZ_st1, ldI_st, ldL_st, stoI_st, stoL_st, aln_st, cpA_st, bq_st, bq_S, oI_s, oL_s, oD_s, oV_s, oR_s, oR_n, oI_e, oL_e, oD_e, Option.bind_some, fa_lit, fa_litL, nI_add, pk_mul, nI_m1, nI_lt', nI_le', nI_eq', lc_ge, lc_le, lc_gt, lc_lt, lc_eq, isZ_0, isZ_1, bI_0, bI_z, decide_eq_true_eq, Bool.not_eq_true', Bool.not_true, Bool.not_false, decide_eq_false_iff_not, if_true, if_false, ite_true, ite_false, eq_self, not_true, not_false_eq_true, C_80, C_81, C_82, C_84, C_85, C_86, C_94, C_95, C_96, C_97, yu_ne, yu_eq, up_eq, up_ne, yur_ne, yur_eq, yu_uu, y1_eq, y1_ne, y1_y1, Nat.mul_zero, Nat.zero_mul, Nat.add_zero, Nat.zero_add, Nat.mul_one, Nat.one_mul, Nat.reduceEqDiff, Nat.reduceLT, Nat.reduceLeDiff, Nat.reduceAdd, Nat.reduceMul, decide_true, decide_false, cond_true, cond_false, reduceCtorEq, Bool.false_eq_true, Bool.true_eq_false, Bool.true_and, Bool.and_true, Bool.false_and, Bool.and_false, r133_2, hneg]
      exact ⟨l', rfl, h1, fun t ht => h2 t (by omega) ht⟩
    · rintro i o hi ⟨l', o4, rfl, h1, h2⟩
      right
      have e1 : nI n - nI (i + 1) = nI (n - (i + 1)) := pk_sub (by omega)
      have hnn : ¬ (nI (n - (i + 1)) < nI 0) := nI_nn (by omega)
      rw [B_25_30, e1]
      simp (disch := omega) only [st_I, st_L, st_R, st_S, st_N, st_C, st_Z, st_X, st_D, st_st, st_sI, st_sIr, st_sL, st_sR, gfI_st, gfL_st, gfR_st, gfN_st, pfI_st, pfL_st, pfR_st, pfZ_st0, pfZ_st1, ldI_st, ldL_st, stoI_st, stoL_st, aln_st, cpA_st, bq_st, bq_S, oI_s, oL_s, oD_s, oV_s, oR_s, oR_n, oI_e, oL_e, oD_e, Option.bind_some, fa_lit, fa_litL, nI_add, pk_mul, nI_m1, nI_lt', nI_le', nI_eq', lc_ge, lc_le, lc_gt, lc_lt, lc_eq, isZ_0, isZ_1, bI_0, bI_z, decide_eq_true_eq, Bool.not_eq_true', Bool.not_true, Bool.not_false, decide_eq_false_iff_not, if_true, if_false, ite_true, ite_false, eq_self, not_true, not_false_eq_true, C_80, C_81, C_82, C_84, C_85, C_86, C_94, C_95, C_96, C_97, yu_ne, yu_eq, up_eq, up_ne, yur_ne, yur_eq, yu_uu, y1_eq, y1_ne, y1_y1, Nat.mul_zero, Nat.zero_mul, Nat.add_zero, Nat.zero_add, Nat.mul_one, Nat.one_mul, Nat.reduceEqDiff, Nat.reduceLT, Nat.reduceLeDiff, Nat.reduceAdd, Nat.reduceMul, decide_true, decide_false, cond_true, cond_false, reduceCtorEq, Bool.false_eq_true, Bool.true_eq_false, Bool.true_and, Bool.and_true, Bool.false_and, Bool.and_false, r133_2, hnn]
      generalize ht : n - (i + 1) = t
      have ht10 : t < 10 := by omega
      have e2 : nI t + -nI 1 = nI n - nI (i + 1 + 1) := by rw [← ht, ← e1, nI_nsub]
      refine loopP (fun j o => ∃ l', o = RUN 25 37 [some (.ref 133), some (.int (nI n)), some (.int (nI (2 ^ nb))), some (.int (nI t)), some (.int (nI j))] [] (st μ f l' r) ∧ (∀ x, x ≠ 136 → l' x = l x) ∧ (∀ t', t + 1 ≤ t' → t' ≤ n → JC l' n nb t' q) ∧ ∀ tk, tk < j → pop tk ≤ t → RJ (n - t) (bM mny q nb n (n - t) tk) (l' 136 (t * 1024 + tk))) (fun o => ∃ l' o4, o = RUN 25 30 [some (.ref 133), some (.int (nI n)), some (.int (nI (2 ^ nb))), some (.int (nI n - nI (i + 1 + 1))), o4] [] (st μ f l' r) ∧ (∀ x, x ≠ 136 → l' x = l x) ∧ ∀ t', t ≤ t' → t' ≤ n → JC l' n nb t' q) (2 ^ nb) ?_ ?_ 0 _ (Nat.zero_le _) ⟨l', rfl, h1, fun t' h3 h4 => h2 t' (by omega) h4, fun tk h => absurd h (Nat.not_lt_zero tk)⟩
      · rintro o ⟨l2, rfl, p1, p2, p3⟩
        rw [B_25_37]
        simp (disch := omega) only [st_I, st_L, st_R, st_S, st_N, st_C, st_Z, st_X, st_D, st_st, st_sI, st_sIr, st_sL, st_sR, gfI_st, gfL_st, gfR_st, gfN_st, pfI_st, pfL_st, pfR_st, pfZ_st0, pfZ_st1, ldI_st, ldL_st, stoI_st, stoL_st, aln_st, cpA_st, bq_st, bq_S, oI_s, oL_s, oD_s, oV_s, oR_s, oR_n, oI_e, oL_e, oD_e, Option.bind_some, fa_lit, fa_litL, nI_add, pk_mul, nI_m1, nI_lt', nI_le', nI_eq', lc_ge, lc_le, lc_gt, lc_lt, lc_eq, isZ_0, isZ_1, bI_0, bI_z, decide_eq_true_eq, Bool.not_eq_true', Bool.not_true, Bool.not_false, decide_eq_false_iff_not, if_true, if_false, ite_true, ite_false, eq_self, not_true, not_false_eq_true, C_80, C_81, C_82, C_84, C_85, C_86, C_94, C_95, C_96, C_97, yu_ne, yu_eq, up_eq, up_ne, yur_ne, yur_eq, yu_uu, y1_eq, y1_ne, y1_y1, Nat.mul_zero, Nat.zero_mul, Nat.add_zero, Nat.zero_add, Nat.mul_one, Nat.one_mul, Nat.reduceEqDiff, Nat.reduceLT, Nat.reduceLeDiff, Nat.reduceAdd, Nat.reduceMul, decide_true, decide_false, cond_true, cond_false, reduceCtorEq, Bool.false_eq_true, Bool.true_eq_false, Bool.true_and, Bool.and_true, Bool.false_and, Bool.and_false, r133_2, Nat.le_refl, e2]
        refine ⟨l2, _, rfl, p1, fun t' h3 h4 => ?_⟩
        rcases Nat.lt_or_ge t t' with g | g
        · exact p2 t' (by omega) h4
        · have : t' = t := by omega
          subst this
          exact p3
      · rintro j o hj ⟨l2, rfl, p1, p2, p3⟩
        right
        have hj' : ¬ 2 ^ nb ≤ j := by omega
        have hj1 : j < 1024 := by omega
        have x167 := C_90 (n := j) (μ := st μ f l2 r) hj1
        have pl : pop j ≤ 10 := cn_le _ _
        rw [B_25_37]
        by_cases qp : t < pop j
        · simp (disch := omega) only [st_I, st_L, st_R, st_S, st_N, st_C, st_Z, st_X, st_D, st_st, st_sI, st_sIr, st_sL, st_sR, gfI_st, gfL_st, gfR_st, gfN_st, pfI_st, pfL_st, pfR_st, pfZ_st0, pfZ_st1, ldI_st, ldL_st, stoI_st, stoL_st, aln_st, cpA_st, bq_st, bq_S, oI_s, oL_s, oD_s, oV_s, oR_s, oR_n, oI_e, oL_e, oD_e, Option.bind_some, fa_lit, fa_litL, nI_add, pk_mul, nI_m1, nI_lt', nI_le', nI_eq', lc_ge, lc_le, lc_gt, lc_lt, lc_eq, isZ_0, isZ_1, bI_0, bI_z, decide_eq_true_eq, Bool.not_eq_true', Bool.not_true, Bool.not_false, decide_eq_false_iff_not, if_true, if_false, ite_true, ite_false, eq_self, not_true, not_false_eq_true, C_80, C_81, C_82, C_84, C_85, C_86, C_94, C_95, C_96, C_97, yu_ne, yu_eq, up_eq, up_ne, yur_ne, yur_eq, yu_uu, y1_eq, y1_ne, y1_y1, Nat.mul_zero, Nat.zero_mul, Nat.add_zero, Nat.zero_add, Nat.mul_one, Nat.one_mul, Nat.reduceEqDiff, Nat.reduceLT, Nat.reduceLeDiff, Nat.reduceAdd, Nat.reduceMul, decide_true, decide_false, cond_true, cond_false, reduceCtorEq, Bool.false_eq_true, Bool.true_eq_false, Bool.true_and, Bool.and_true, Bool.false_and, Bool.and_false, r133_2, hj', x167, qp]
          refine ⟨l2, rfl, p1, p2, fun tk h3 h4 => ?_⟩
          by_cases e : tk = j
          · subst e; omega
          · exact p3 tk (by omega) h4
        · obtain ⟨y, x30, hy⟩ := C_26 hs hr (l := l2) (r := r) (f := f) hn hnb (show t < n by omega) hj (show pop j ≤ t by omega) (JH_l hJ (p1 135 (by decide))) (p2 (t + 1) (Nat.le_refl _) (by omega))
          simp (disch := omega) only [st_I, st_L, st_R, st_S, st_N, st_C, st_Z, st_X, st_D, st_st, st_sI, st_sIr, st_sL, st_sR, gfI_st, gfL_st, gfR_st, gfN_st, pfI_st, pfL_st, pfR_st, pfZ_st0, pfZ_st1, ldI_st, ldL_st, stoI_st, stoL_st, aln_st, cpA_st, bq_st, bq_S, oI_s, oL_s, oD_s, oV_s, oR_s, oR_n, oI_e, oL_e, oD_e, Option.bind_some, fa_lit, fa_litL, nI_add, pk_mul, nI_m1, nI_lt', nI_le', nI_eq', lc_ge, lc_le, lc_gt, lc_lt, lc_eq, isZ_0, isZ_1, bI_0, bI_z, decide_eq_true_eq, Bool.not_eq_true', Bool.not_true, Bool.not_false, decide_eq_false_iff_not, if_true, if_false, ite_true, ite_false, eq_self, not_true, not_false_eq_true, C_80, C_81, C_82, C_84, C_85, C_86, C_94, C_95, C_96, C_97, yu_ne, yu_eq, up_eq, up_ne, yur_ne, yur_eq, yu_uu, y1_eq, y1_ne, y1_y1, Nat.mul_zero, Nat.zero_mul, Nat.add_zero, Nat.zero_add, Nat.mul_one, Nat.one_mul, Nat.reduceEqDiff, Nat.reduceLT, Nat.reduceLeDiff, Nat.reduceAdd, Nat.reduceMul, decide_true, decide_false, cond_true, cond_false, reduceCtorEq, Bool.false_eq_true, Bool.true_eq_false, Bool.true_and, Bool.and_true, Bool.false_and, Bool.and_false, r133_2, hj', x167, qp, x30]
          refine ⟨_, rfl, fun x hx => (yu_ne hx).trans (p1 x hx), fun t' h3 h4 tk h5 h6 => ?_, fun tk h3 h4 => ?_⟩
          · rw [yu_eq, up_ne (by omega)]
            exact p2 t' h3 h4 tk h5 h6
          · rw [yu_eq]
            by_cases e : tk = j
            · subst e; rw [up_eq]; exact hy
            · rw [up_ne (by omega)]; exact p3 tk (by omega) h4
    · have : t = n := by omega
      subst this
      rw [Nat.sub_self, g2 tk h3]
      exact RJ_0
  · rintro j o hj ⟨l', rfl, g1, g2⟩
    right
    have hj' : ¬ 2 ^ nb ≤ j := by omega
    rw [B_25_2]
    simp (disch := omega) only [st_I, st_L, st_R, st_S, st_N, st_C, st_Z, st_X, st_D, st_st, st_sI, st_sIr, st_sL, st_sR, gfI_st, gfL_st, gfR_st, gfN_st, pfI_st, pfL_st, pfR_st, pfZ_st0, pfZ_st1, ldI_st, ldL_st, stoI_st, stoL_st, aln_st, cpA_st, bq_st, bq_S, oI_s, oL_s, oD_s, oV_s, oR_s, oR_n, oI_e, oL_e, oD_e, Option.bind_some, fa_lit, fa_litL, nI_add, pk_mul, nI_m1, nI_lt', nI_le', nI_eq', lc_ge, lc_le, lc_gt, lc_lt, lc_eq, isZ_0, isZ_1, bI_0, bI_z, decide_eq_true_eq, Bool.not_eq_true', Bool.not_true, Bool.not_false, decide_eq_false_iff_not, if_true, if_false, ite_true, ite_false, eq_self, not_true, not_false_eq_true, C_80, C_81, C_82, C_84, C_85, C_86, C_94, C_95, C_96, C_97, yu_ne, yu_eq, up_eq, up_ne, yur_ne, yur_eq, yu_uu, y1_eq, y1_ne, y1_y1, Nat.mul_zero, Nat.zero_mul, Nat.add_zero, Nat.zero_add, Nat.mul_one, Nat.one_mul, Nat.reduceEqDiff, Nat.reduceLT, Nat.reduceLeDiff, Nat.reduceAdd, Nat.reduceMul, decide_true, decide_false, cond_true, cond_false, reduceCtorEq, Bool.false_eq_true, Bool.true_eq_false, Bool.true_and, Bool.and_true, Bool.false_and, Bool.and_false, r133_2, hj']
    refine ⟨_, rfl, fun x hx => (yu_ne hx).trans (g1 x hx), fun tk h => ?_⟩
    rw [yu_eq]
    by_cases e : tk = j
    · rw [e, up_eq]
    · rw [up_ne (by omega)]; exact g2 tk (by omega)
