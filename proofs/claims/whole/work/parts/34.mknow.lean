/-! ===== 6. the reference knows again; sorts ===== -/
def lsq (tk : Nat) (R L : Nat → Int32) : Int64 := sq ((R 1).toInt64 - (L 1 + p_wy (L 3) (nI tk - L 6)).toInt64) ((R 2).toInt64 - (L 2 + p_wy (L 4) (nI tk - L 6)).toInt64)
theorem C_137 {m0 μ : mMu} {f : Nat → Nat → Int32} {l : Nat → Nat → Int64} {r : Nat → Nat → Option Nat} {k z : Nat} {c : Nat → Nat} {S : Nat → Nat → Nat → Int32} {i t : Nat} (h : Md m0 μ f l r k z c S) (hc : CB c) (hi : i < 60) (ht : t < 10) : CALL 137 [.ref 137, .int (nI i), .int (nI t)] (st μ f l r) = some (.inl (some (.long (lsq (c 7) (S 7 t) (S 8 i)))), st μ f l r) := by
  have hs := h.1
  have hr := h.2.1
  have hm := h.2.2.2.2
  have h137a : (mS μ 137).1 = 9 := by rw [hs 137 (by decide)]; rfl
  have h138a : (mS μ 138).1 = 20 := by rw [hs 138 (by decide)]; rfl
  have h138b : (mS μ 138).2 = 15 := by rw [hs 138 (by decide)]; rfl
  have h146a : (mS μ 146).1 = 20 := by rw [hs 146 (by decide)]; rfl
  have h146b : (mS μ 146).2 = 420 := by rw [hs 146 (by decide)]; rfl
  have r137_1 : r 137 1 = some 138 := hr 137 1 138 rfl
  have r137_9 : r 137 9 = some 146 := hr 137 9 146 rfl
  have L0_7 : f 138 7 = nI (c 7) := hm.1 7 (by decide)
  have L7 : ∀ i k, i < 10 → k < 38 → f 145 (38 * i + k) = S 7 i k := hm.2.2.2.2.2.2.2.1
  have L7z : ∀ i, i < 10 → f 145 (38 * i) = S 7 i 0 := fun i hi => L7 i 0 hi (by decide)
  have L8 : ∀ i k, i < 60 → k < 7 → f 146 (7 * i + k) = S 8 i k := hm.2.2.2.2.2.2.2.2.1
  have L8z : ∀ i, i < 60 → f 146 (7 * i) = S 8 i 0 := fun i hi => L8 i 0 hi (by decide)
  rw [B_137_0]
  simp (disch := omega) only [st_I, st_L, st_R, st_S, st_N, st_C, st_Z, st_X, st_D, st_st, st_sI, st_sIr, st_sL, st_sR, gfI_st, gfL_st, gfR_st, gfN_st, pfI_st, pfL_st, pfR_st, pfZ_st0, pfZ_st1, ldI_st, ldL_st, stoI_st, stoL_st, aln_st, cpA_st, bq_st, bq_S, oI_s, oL_s, oD_s, oV_s, oR_s, oR_n, oI_e, oL_e, oD_e, Option.bind_some, fa_lit, fa_litL, nI_add, pk_mul, nI_m1, nI_lt', nI_le', nI_eq', lc_ge, lc_le, lc_gt, lc_lt, lc_eq, isZ_0, isZ_1, bI_0, bI_z, decide_eq_true_eq, Bool.not_eq_true', Bool.not_true, Bool.not_false, decide_eq_false_iff_not, if_true, if_false, ite_true, ite_false, eq_self, not_true, not_false_eq_true, C_95, C_96, C_97, C_99, C_100, C_102, C_106, C_107, C_109, C_168, C_171, C_172, C_173, C_174, C_175, yu_ne, yu_eq, up_eq, up_ne, yur_ne, yur_eq, yu_uu, y1_eq, y1_ne, y1_y1, Nat.mul_zero, Nat.zero_mul, Nat.add_zero, Nat.zero_add, Nat.mul_one, Nat.one_mul, Nat.reduceEqDiff, Nat.reduceLT, Nat.reduceLeDiff, Nat.reduceAdd, Nat.reduceMul, decide_true, decide_false, cond_true, cond_false, reduceCtorEq, Bool.false_eq_true, Bool.true_eq_false, Bool.true_and, Bool.and_true, Bool.false_and, Bool.and_false, r137_1, r137_9, L0_7, L7, L7z, L8, L8z, C_108 h16, C_124r hs hr ht]
  rfl
abbrev FS : Type := Option Nat × Int64
def kbt (L : Nat → Nat → Int32) (i : Nat) (its : Int64) (s : FS) : Bool := match s.1 with
  | none => !decide (s.2 < its)
  | some u => decide (its < s.2) || (decide (its = s.2) && !decide (L u 0 ≤ L i 0))
def kst (c : Nat → Nat) (R : Nat → Int32) (L : Nat → Nat → Int32) (i : Nat) (s : FS) : FS := if nI (c 6) - L i 5 ≤ nI 12 then (bif kbt L i (lsq (c 7) R (L i)) s then (some i, lsq (c 7) R (L i)) else s) else s
def krch (c : Nat → Nat) : Int64 := lN 64 * (nI (c 12)).toInt64 * (lN 64 * (nI (c 12)).toInt64)
def kfnd (c : Nat → Nat) (R : Nat → Int32) (L : Nat → Nat → Int32) : Option Nat := (itr (kst c R L) (c 5) (none, krch c)).1
def shl (T : Nat → Nat → Int32) (i n : Nat) : Nat → Nat → Int32 := fun e => if i ≤ e ∧ e < n then T (e + 1) else T e
def rnm (n : Nat) (T : Nat → Nat → Int32) (own nm : Int32) : Nat → Nat → Int32 := upn n (fun _ R => if R 4 = own then up R 4 nm else R) T
def kns (t : Nat) (s : CS) : CS := match kfnd s.1 (s.2 7 t) (s.2 8) with
  | none => s
  | some i => (u1 (noteC s.1) 5 (s.1 5 - 1), u1 (u1 (noteS s.1 (u1 s.2 5 (rnm (s.1 3) (s.2 5) (s.2 7 t 0) (s.2 8 i 0))) (nI 5) (s.2 8 i 0) (s.2 7 t 0)) 7 (u1 (s.2 7) t (up (s.2 7 t) 0 (s.2 8 i 0)))) 8 (shl (s.2 8) i (s.1 5 - 1)))
theorem kst_lt {c : Nat → Nat} {R : Nat → Int32} {L : Nat → Nat → Int32} {v : Int64} : ∀ n, ∀ u, (itr (kst c R L) n (none, v)).1 = some u → u < n
  | 0, _, h => by cases h
  | n + 1, u, h => by
    have ih := kst_lt (c := c) (R := R) (L := L) (v := v) n
    rw [itr_s'] at h
    generalize itr (kst c R L) n (none, v) = s at h ih
    unfold kst at h
    split at h
    · cases hq : kbt L n (lsq (c 7) R (L n)) s with
      | true => rw [hq] at h; simp only [cond_true] at h; cases h; omega
      | false => rw [hq] at h; simp only [cond_false] at h; have := ih u h; omega
    · have := ih u h; omega
theorem m1_ne {n : Nat} (h : n < 2147483648) : ¬ nI n = -nI 1 := by
  intro e
  rw [fa_eq, nI_toInt h] at e
  have : (-nI 1 : Int32).toInt = -1 := by decide
  omega
theorem K_find {m0 μ : mMu} {f : Nat → Nat → Int32} {l : Nat → Nat → Int64} {r : Nat → Nat → Option Nat} {k z : Nat} {c : Nat → Nat} {S : Nat → Nat → Nat → Int32} {t : Nat} (h : Md m0 μ f l r k z c S) (hc : CB c) (ht : t < 10) {o2 o3 o8 o9 o10 : Option Value} {Q : mOut → Prop}
    (hQ : ∀ o8 o9 o10 y, Q (RUN 138 24 [some (.ref 137), some (.int (nI t)), o2, o3, some (.int (fI (kfnd c (S 7 t) (S 8)))), some (.long y), none, some (.int (nI (c 5))), o8, o9, o10] [] (st μ f l r))) :
    Q (RUN 138 24 [some (.ref 137), some (.int (nI t)), o2, o3, some (.int (-nI 1)), some (.long (krch c)), none, some (.int (nI 0)), o8, o9, o10] [] (st μ f l r)) := by
  have hs := h.1
  have hr := h.2.1
  have hm := h.2.2.2.2
  have h137a : (mS μ 137).1 = 9 := by rw [hs 137 (by decide)]; rfl
  have h138a : (mS μ 138).1 = 20 := by rw [hs 138 (by decide)]; rfl
  have h138b : (mS μ 138).2 = 15 := by rw [hs 138 (by decide)]; rfl
  have h146a : (mS μ 146).1 = 20 := by rw [hs 146 (by decide)]; rfl
  have h146b : (mS μ 146).2 = 420 := by rw [hs 146 (by decide)]; rfl
  have r137_1 : r 137 1 = some 138 := hr 137 1 138 rfl
  have r137_9 : r 137 9 = some 146 := hr 137 9 146 rfl
  have L0_5 : f 138 5 = nI (c 5) := hm.1 5 (by decide)
  have L0_6 : f 138 6 = nI (c 6) := hm.1 6 (by decide)
  have L8 : ∀ i k, i < 60 → k < 7 → f 146 (7 * i + k) = S 8 i k := hm.2.2.2.2.2.2.2.2.1
  have L8z : ∀ i, i < 60 → f 146 (7 * i) = S 8 i 0 := fun i hi => L8 i 0 hi (by decide)
  have hc' := hc
  obtain ⟨c0, c1, c2, c3, c4, c5, c6, c7, c8, c9, c10, c11, c12, c13, c14⟩ := hc
  refine loopP (fun i o => ∃ o8 o9 o10, o = RUN 138 24 [some (.ref 137), some (.int (nI t)), o2, o3, some (.int (fI (itr (kst c (S 7 t) (S 8)) i (none, krch c)).1)), some (.long (itr (kst c (S 7 t) (S 8)) i (none, krch c)).2), none, some (.int (nI i)), o8, o9, o10] [] (st μ f l r)) Q (c 5) ?_ ?_ 0 _ (Nat.zero_le _) ⟨_, _, _, rfl⟩
  · rintro o ⟨o8, o9, o10, rfl⟩
    exact hQ _ _ _ _
  · rintro i o hi ⟨o8, o9, o10, rfl⟩
    have hi' : ¬ c 5 ≤ i := by omega
    have hlt := kst_lt (c := c) (R := S 7 t) (L := S 8) (v := krch c) i
    right
    rw [B_138_24, itr_s']
    generalize itr (kst c (S 7 t) (S 8)) i (none, krch c) = s at hlt ⊢
    obtain ⟨u, y⟩ := s
    simp only at hlt ⊢
    generalize hK : kst c (S 7 t) (S 8) i (u, y) = K
    unfold kst at hK
    have hq := C_137 h hc' (i := i) (t := t) (by omega) ht
    generalize lsq (c 7) (S 7 t) (S 8 i) = its at hq hK
    cases u with
    | none =>
      simp only [fI]
      simp (disch := omega) only [st_I, st_L, st_R, st_S, st_N, st_C, st_Z, st_X, st_D, st_st, st_sI, st_sIr, st_sL, st_sR, gfI_st, gfL_st, gfR_st, gfN_st, pfI_st, pfL_st, pfR_st, pfZ_st0, pfZ_st1, ldI_st, ldL_st, stoI_st, stoL_st, aln_st, cpA_st, bq_st, bq_S, oI_s, oL_s, oD_s, oV_s, oR_s, oR_n, oI_e, oL_e, oD_e, Option.bind_some, fa_lit, fa_litL, nI_add, pk_mul, nI_m1, nI_lt', nI_le', nI_eq', lc_ge, lc_le, lc_gt, lc_lt, lc_eq, isZ_0, isZ_1, bI_0, bI_z, decide_eq_true_eq, Bool.not_eq_true', Bool.not_true, Bool.not_false, decide_eq_false_iff_not, if_true, if_false, ite_true, ite_false, eq_self, not_true, not_false_eq_true, C_95, C_96, C_97, C_99, C_100, C_102, C_106, C_107, C_109, C_168, C_171, C_172, C_173, C_174, C_175, yu_ne, yu_eq, up_eq, up_ne, yur_ne, yur_eq, yu_uu, y1_eq, y1_ne, y1_y1, Nat.mul_zero, Nat.zero_mul, Nat.add_zero, Nat.zero_add, Nat.mul_one, Nat.one_mul, Nat.reduceEqDiff, Nat.reduceLT, Nat.reduceLeDiff, Nat.reduceAdd, Nat.reduceMul, decide_true, decide_false, cond_true, cond_false, reduceCtorEq, Bool.false_eq_true, Bool.true_eq_false, Bool.true_and, Bool.and_true, Bool.false_and, Bool.and_false, r137_1, r137_9, L0_5, L0_6, L8, L8z, hi', hq]
      by_cases h12 : nI (c 6) - S 8 i 5 ≤ nI 12
      · rw [if_pos h12] at hK
        unfold kbt at hK
        simp (disch := omega) only [st_I, st_L, st_R, st_S, st_N, st_C, st_Z, st_X, st_D, st_st, st_sI, st_sIr, st_sL, st_sR, gfI_st, gfL_st, gfR_st, gfN_st, pfI_st, pfL_st, pfR_st, pfZ_st0, pfZ_st1, ldI_st, ldL_st, stoI_st, stoL_st, aln_st, cpA_st, bq_st, bq_S, oI_s, oL_s, oD_s, oV_s, oR_s, oR_n, oI_e, oL_e, oD_e, Option.bind_some, fa_lit, fa_litL, nI_add, pk_mul, nI_m1, nI_lt', nI_le', nI_eq', lc_ge, lc_le, lc_gt, lc_lt, lc_eq, isZ_0, isZ_1, bI_0, bI_z, decide_eq_true_eq, Bool.not_eq_true', Bool.not_true, Bool.not_false, decide_eq_false_iff_not, if_true, if_false, ite_true, ite_false, eq_self, not_true, not_false_eq_true, C_95, C_96, C_97, C_99, C_100, C_102, C_106, C_107, C_109, C_168, C_171, C_172, C_173, C_174, C_175, yu_ne, yu_eq, up_eq, up_ne, yur_ne, yur_eq, yu_uu, y1_eq, y1_ne, y1_y1, Nat.mul_zero, Nat.zero_mul, Nat.add_zero, Nat.zero_add, Nat.mul_one, Nat.one_mul, Nat.reduceEqDiff, Nat.reduceLT, Nat.reduceLeDiff, Nat.reduceAdd, Nat.reduceMul, decide_true, decide_false, cond_true, cond_false, reduceCtorEq, Bool.false_eq_true, Bool.true_eq_false, Bool.true_and, Bool.and_true, Bool.false_and, Bool.and_false, r137_1, r137_9, L0_5, L0_6, L8, L8z, h12]
        by_cases q : y < its
        · simp only [q, decide_true, Bool.not_true, cond_false] at hK
          simp (disch := omega) only [st_I, st_L, st_R, st_S, st_N, st_C, st_Z, st_X, st_D, st_st, st_sI, st_sIr, st_sL, st_sR, gfI_st, gfL_st, gfR_st, gfN_st, pfI_st, pfL_st, pfR_st, pfZ_st0, pfZ_st1, ldI_st, ldL_st, stoI_st, stoL_st, aln_st, cpA_st, bq_st, bq_S, oI_s, oL_s, oD_s, oV_s, oR_s, oR_n, oI_e, oL_e, oD_e, Option.bind_some, fa_lit, fa_litL, nI_add, pk_mul, nI_m1, nI_lt', nI_le', nI_eq', lc_ge, lc_le, lc_gt, lc_lt, lc_eq, isZ_0, isZ_1, bI_0, bI_z, decide_eq_true_eq, Bool.not_eq_true', Bool.not_true, Bool.not_false, decide_eq_false_iff_not, if_true, if_false, ite_true, ite_false, eq_self, not_true, not_false_eq_true, C_95, C_96, C_97, C_99, C_100, C_102, C_106, C_107, C_109, C_168, C_171, C_172, C_173, C_174, C_175, yu_ne, yu_eq, up_eq, up_ne, yur_ne, yur_eq, yu_uu, y1_eq, y1_ne, y1_y1, Nat.mul_zero, Nat.zero_mul, Nat.add_zero, Nat.zero_add, Nat.mul_one, Nat.one_mul, Nat.reduceEqDiff, Nat.reduceLT, Nat.reduceLeDiff, Nat.reduceAdd, Nat.reduceMul, decide_true, decide_false, cond_true, cond_false, reduceCtorEq, Bool.false_eq_true, Bool.true_eq_false, Bool.true_and, Bool.and_true, Bool.false_and, Bool.and_false, r137_1, r137_9, L0_5, L0_6, L8, L8z, q]
          rw [B_138_138]
          simp (disch := omega) only [st_I, st_L, st_R, st_S, st_N, st_C, st_Z, st_X, st_D, st_st, st_sI, st_sIr, st_sL, st_sR, gfI_st, gfL_st, gfR_st, gfN_st, pfI_st, pfL_st, pfR_st, pfZ_st0, pfZ_st1, ldI_st, ldL_st, stoI_st, stoL_st, aln_st, cpA_st, bq_st, bq_S, oI_s, oL_s, oD_s, oV_s, oR_s, oR_n, oI_e, oL_e, oD_e, Option.bind_some, fa_lit, fa_litL, nI_add, pk_mul, nI_m1, nI_lt', nI_le', nI_eq', lc_ge, lc_le, lc_gt, lc_lt, lc_eq, isZ_0, isZ_1, bI_0, bI_z, decide_eq_true_eq, Bool.not_eq_true', Bool.not_true, Bool.not_false, decide_eq_false_iff_not, if_true, if_false, ite_true, ite_false, eq_self, not_true, not_false_eq_true, C_95, C_96, C_97, C_99, C_100, C_102, C_106, C_107, C_109, C_168, C_171, C_172, C_173, C_174, C_175, yu_ne, yu_eq, up_eq, up_ne, yur_ne, yur_eq, yu_uu, y1_eq, y1_ne, y1_y1, Nat.mul_zero, Nat.zero_mul, Nat.add_zero, Nat.zero_add, Nat.mul_one, Nat.one_mul, Nat.reduceEqDiff, Nat.reduceLT, Nat.reduceLeDiff, Nat.reduceAdd, Nat.reduceMul, decide_true, decide_false, cond_true, cond_false, reduceCtorEq, Bool.false_eq_true, Bool.true_eq_false, Bool.true_and, Bool.and_true, Bool.false_and, Bool.and_false, r137_1, r137_9, L0_5, L0_6, L8, L8z]
          rw [B_138_156, nI_1, ← hK]
          exact ⟨_, _, _, rfl⟩
        · simp only [q, decide_false, Bool.not_false, cond_true] at hK
          simp (disch := omega) only [st_I, st_L, st_R, st_S, st_N, st_C, st_Z, st_X, st_D, st_st, st_sI, st_sIr, st_sL, st_sR, gfI_st, gfL_st, gfR_st, gfN_st, pfI_st, pfL_st, pfR_st, pfZ_st0, pfZ_st1, ldI_st, ldL_st, stoI_st, stoL_st, aln_st, cpA_st, bq_st, bq_S, oI_s, oL_s, oD_s, oV_s, oR_s, oR_n, oI_e, oL_e, oD_e, Option.bind_some, fa_lit, fa_litL, nI_add, pk_mul, nI_m1, nI_lt', nI_le', nI_eq', lc_ge, lc_le, lc_gt, lc_lt, lc_eq, isZ_0, isZ_1, bI_0, bI_z, decide_eq_true_eq, Bool.not_eq_true', Bool.not_true, Bool.not_false, decide_eq_false_iff_not, if_true, if_false, ite_true, ite_false, eq_self, not_true, not_false_eq_true, C_95, C_96, C_97, C_99, C_100, C_102, C_106, C_107, C_109, C_168, C_171, C_172, C_173, C_174, C_175, yu_ne, yu_eq, up_eq, up_ne, yur_ne, yur_eq, yu_uu, y1_eq, y1_ne, y1_y1, Nat.mul_zero, Nat.zero_mul, Nat.add_zero, Nat.zero_add, Nat.mul_one, Nat.one_mul, Nat.reduceEqDiff, Nat.reduceLT, Nat.reduceLeDiff, Nat.reduceAdd, Nat.reduceMul, decide_true, decide_false, cond_true, cond_false, reduceCtorEq, Bool.false_eq_true, Bool.true_eq_false, Bool.true_and, Bool.and_true, Bool.false_and, Bool.and_false, r137_1, r137_9, L0_5, L0_6, L8, L8z, q]
          rw [B_138_138]
          simp (disch := omega) only [st_I, st_L, st_R, st_S, st_N, st_C, st_Z, st_X, st_D, st_st, st_sI, st_sIr, st_sL, st_sR, gfI_st, gfL_st, gfR_st, gfN_st, pfI_st, pfL_st, pfR_st, pfZ_st0, pfZ_st1, ldI_st, ldL_st, stoI_st, stoL_st, aln_st, cpA_st, bq_st, bq_S, oI_s, oL_s, oD_s, oV_s, oR_s, oR_n, oI_e, oL_e, oD_e, Option.bind_some, fa_lit, fa_litL, nI_add, pk_mul, nI_m1, nI_lt', nI_le', nI_eq', lc_ge, lc_le, lc_gt, lc_lt, lc_eq, isZ_0, isZ_1, bI_0, bI_z, decide_eq_true_eq, Bool.not_eq_true', Bool.not_true, Bool.not_false, decide_eq_false_iff_not, if_true, if_false, ite_true, ite_false, eq_self, not_true, not_false_eq_true, C_95, C_96, C_97, C_99, C_100, C_102, C_106, C_107, C_109, C_168, C_171, C_172, C_173, C_174, C_175, yu_ne, yu_eq, up_eq, up_ne, yur_ne, yur_eq, yu_uu, y1_eq, y1_ne, y1_y1, Nat.mul_zero, Nat.zero_mul, Nat.add_zero, Nat.zero_add, Nat.mul_one, Nat.one_mul, Nat.reduceEqDiff, Nat.reduceLT, Nat.reduceLeDiff, Nat.reduceAdd, Nat.reduceMul, decide_true, decide_false, cond_true, cond_false, reduceCtorEq, Bool.false_eq_true, Bool.true_eq_false, Bool.true_and, Bool.and_true, Bool.false_and, Bool.and_false, r137_1, r137_9, L0_5, L0_6, L8, L8z]
          rw [B_138_156, nI_1, ← hK]
          exact ⟨_, _, _, rfl⟩
      · rw [if_neg h12] at hK
        simp (disch := omega) only [st_I, st_L, st_R, st_S, st_N, st_C, st_Z, st_X, st_D, st_st, st_sI, st_sIr, st_sL, st_sR, gfI_st, gfL_st, gfR_st, gfN_st, pfI_st, pfL_st, pfR_st, pfZ_st0, pfZ_st1, ldI_st, ldL_st, stoI_st, stoL_st, aln_st, cpA_st, bq_st, bq_S, oI_s, oL_s, oD_s, oV_s, oR_s, oR_n, oI_e, oL_e, oD_e, Option.bind_some, fa_lit, fa_litL, nI_add, pk_mul, nI_m1, nI_lt', nI_le', nI_eq', lc_ge, lc_le, lc_gt, lc_lt, lc_eq, isZ_0, isZ_1, bI_0, bI_z, decide_eq_true_eq, Bool.not_eq_true', Bool.not_true, Bool.not_false, decide_eq_false_iff_not, if_true, if_false, ite_true, ite_false, eq_self, not_true, not_false_eq_true, C_95, C_96, C_97, C_99, C_100, C_102, C_106, C_107, C_109, C_168, C_171, C_172, C_173, C_174, C_175, yu_ne, yu_eq, up_eq, up_ne, yur_ne, yur_eq, yu_uu, y1_eq, y1_ne, y1_y1, Nat.mul_zero, Nat.zero_mul, Nat.add_zero, Nat.zero_add, Nat.mul_one, Nat.one_mul, Nat.reduceEqDiff, Nat.reduceLT, Nat.reduceLeDiff, Nat.reduceAdd, Nat.reduceMul, decide_true, decide_false, cond_true, cond_false, reduceCtorEq, Bool.false_eq_true, Bool.true_eq_false, Bool.true_and, Bool.and_true, Bool.false_and, Bool.and_false, r137_1, r137_9, L0_5, L0_6, L8, L8z, h12]
        rw [B_138_156, nI_1, ← hK]
        exact ⟨_, _, _, rfl⟩
    | some v =>
      have hv := hlt v rfl
      simp only [fI]
      simp (disch := omega) only [st_I, st_L, st_R, st_S, st_N, st_C, st_Z, st_X, st_D, st_st, st_sI, st_sIr, st_sL, st_sR, gfI_st, gfL_st, gfR_st, gfN_st, pfI_st, pfL_st, pfR_st, pfZ_st0, pfZ_st1, ldI_st, ldL_st, stoI_st, stoL_st, aln_st, cpA_st, bq_st, bq_S, oI_s, oL_s, oD_s, oV_s, oR_s, oR_n, oI_e, oL_e, oD_e, Option.bind_some, fa_lit, fa_litL, nI_add, pk_mul, nI_m1, nI_lt', nI_le', nI_eq', lc_ge, lc_le, lc_gt, lc_lt, lc_eq, isZ_0, isZ_1, bI_0, bI_z, decide_eq_true_eq, Bool.not_eq_true', Bool.not_true, Bool.not_false, decide_eq_false_iff_not, if_true, if_false, ite_true, ite_false, eq_self, not_true, not_false_eq_true, C_95, C_96, C_97, C_99, C_100, C_102, C_106, C_107, C_109, C_168, C_171, C_172, C_173, C_174, C_175, yu_ne, yu_eq, up_eq, up_ne, yur_ne, yur_eq, yu_uu, y1_eq, y1_ne, y1_y1, Nat.mul_zero, Nat.zero_mul, Nat.add_zero, Nat.zero_add, Nat.mul_one, Nat.one_mul, Nat.reduceEqDiff, Nat.reduceLT, Nat.reduceLeDiff, Nat.reduceAdd, Nat.reduceMul, decide_true, decide_false, cond_true, cond_false, reduceCtorEq, Bool.false_eq_true, Bool.true_eq_false, Bool.true_and, Bool.and_true, Bool.false_and, Bool.and_false, r137_1, r137_9, L0_5, L0_6, L8, L8z, hi', hq, m1_ne]
      by_cases h12 : nI (c 6) - S 8 i 5 ≤ nI 12
      · rw [if_pos h12] at hK
        unfold kbt at hK
        simp (disch := omega) only [st_I, st_L, st_R, st_S, st_N, st_C, st_Z, st_X, st_D, st_st, st_sI, st_sIr, st_sL, st_sR, gfI_st, gfL_st, gfR_st, gfN_st, pfI_st, pfL_st, pfR_st, pfZ_st0, pfZ_st1, ldI_st, ldL_st, stoI_st, stoL_st, aln_st, cpA_st, bq_st, bq_S, oI_s, oL_s, oD_s, oV_s, oR_s, oR_n, oI_e, oL_e, oD_e, Option.bind_some, fa_lit, fa_litL, nI_add, pk_mul, nI_m1, nI_lt', nI_le', nI_eq', lc_ge, lc_le, lc_gt, lc_lt, lc_eq, isZ_0, isZ_1, bI_0, bI_z, decide_eq_true_eq, Bool.not_eq_true', Bool.not_true, Bool.not_false, decide_eq_false_iff_not, if_true, if_false, ite_true, ite_false, eq_self, not_true, not_false_eq_true, C_95, C_96, C_97, C_99, C_100, C_102, C_106, C_107, C_109, C_168, C_171, C_172, C_173, C_174, C_175, yu_ne, yu_eq, up_eq, up_ne, yur_ne, yur_eq, yu_uu, y1_eq, y1_ne, y1_y1, Nat.mul_zero, Nat.zero_mul, Nat.add_zero, Nat.zero_add, Nat.mul_one, Nat.one_mul, Nat.reduceEqDiff, Nat.reduceLT, Nat.reduceLeDiff, Nat.reduceAdd, Nat.reduceMul, decide_true, decide_false, cond_true, cond_false, reduceCtorEq, Bool.false_eq_true, Bool.true_eq_false, Bool.true_and, Bool.and_true, Bool.false_and, Bool.and_false, r137_1, r137_9, L0_5, L0_6, L8, L8z, h12]
        by_cases q : its < y
        · simp only [q, decide_true, Bool.true_or, cond_true] at hK
          simp (disch := omega) only [st_I, st_L, st_R, st_S, st_N, st_C, st_Z, st_X, st_D, st_st, st_sI, st_sIr, st_sL, st_sR, gfI_st, gfL_st, gfR_st, gfN_st, pfI_st, pfL_st, pfR_st, pfZ_st0, pfZ_st1, ldI_st, ldL_st, stoI_st, stoL_st, aln_st, cpA_st, bq_st, bq_S, oI_s, oL_s, oD_s, oV_s, oR_s, oR_n, oI_e, oL_e, oD_e, Option.bind_some, fa_lit, fa_litL, nI_add, pk_mul, nI_m1, nI_lt', nI_le', nI_eq', lc_ge, lc_le, lc_gt, lc_lt, lc_eq, isZ_0, isZ_1, bI_0, bI_z, decide_eq_true_eq, Bool.not_eq_true', Bool.not_true, Bool.not_false, decide_eq_false_iff_not, if_true, if_false, ite_true, ite_false, eq_self, not_true, not_false_eq_true, C_95, C_96, C_97, C_99, C_100, C_102, C_106, C_107, C_109, C_168, C_171, C_172, C_173, C_174, C_175, yu_ne, yu_eq, up_eq, up_ne, yur_ne, yur_eq, yu_uu, y1_eq, y1_ne, y1_y1, Nat.mul_zero, Nat.zero_mul, Nat.add_zero, Nat.zero_add, Nat.mul_one, Nat.one_mul, Nat.reduceEqDiff, Nat.reduceLT, Nat.reduceLeDiff, Nat.reduceAdd, Nat.reduceMul, decide_true, decide_false, cond_true, cond_false, reduceCtorEq, Bool.false_eq_true, Bool.true_eq_false, Bool.true_and, Bool.and_true, Bool.false_and, Bool.and_false, r137_1, r137_9, L0_5, L0_6, L8, L8z, q]
          rw [B_138_133, B_138_138]
          simp (disch := omega) only [st_I, st_L, st_R, st_S, st_N, st_C, st_Z, st_X, st_D, st_st, st_sI, st_sIr, st_sL, st_sR, gfI_st, gfL_st, gfR_st, gfN_st, pfI_st, pfL_st, pfR_st, pfZ_st0, pfZ_st1, ldI_st, ldL_st, stoI_st, stoL_st, aln_st, cpA_st, bq_st, bq_S, oI_s, oL_s, oD_s, oV_s, oR_s, oR_n, oI_e, oL_e, oD_e, Option.bind_some, fa_lit, fa_litL, nI_add, pk_mul, nI_m1, nI_lt', nI_le', nI_eq', lc_ge, lc_le, lc_gt, lc_lt, lc_eq, isZ_0, isZ_1, bI_0, bI_z, decide_eq_true_eq, Bool.not_eq_true', Bool.not_true, Bool.not_false, decide_eq_false_iff_not, if_true, if_false, ite_true, ite_false, eq_self, not_true, not_false_eq_true, C_95, C_96, C_97, C_99, C_100, C_102, C_106, C_107, C_109, C_168, C_171, C_172, C_173, C_174, C_175, yu_ne, yu_eq, up_eq, up_ne, yur_ne, yur_eq, yu_uu, y1_eq, y1_ne, y1_y1, Nat.mul_zero, Nat.zero_mul, Nat.add_zero, Nat.zero_add, Nat.mul_one, Nat.one_mul, Nat.reduceEqDiff, Nat.reduceLT, Nat.reduceLeDiff, Nat.reduceAdd, Nat.reduceMul, decide_true, decide_false, cond_true, cond_false, reduceCtorEq, Bool.false_eq_true, Bool.true_eq_false, Bool.true_and, Bool.and_true, Bool.false_and, Bool.and_false, r137_1, r137_9, L0_5, L0_6, L8, L8z]
          rw [B_138_156, nI_1, ← hK]
          exact ⟨_, _, _, rfl⟩
        · by_cases q2 : its = y
          · subst q2
            by_cases q3 : S 8 v 0 ≤ S 8 i 0
            · simp only [q, q3, decide_true, decide_false, Bool.not_true, Bool.and_false, Bool.or_false, cond_false, eq_self] at hK
              simp (disch := omega) only [st_I, st_L, st_R, st_S, st_N, st_C, st_Z, st_X, st_D, st_st, st_sI, st_sIr, st_sL, st_sR, gfI_st, gfL_st, gfR_st, gfN_st, pfI_st, pfL_st, pfR_st, pfZ_st0, pfZ_st1, ldI_st, ldL_st, stoI_st, stoL_st, aln_st, cpA_st, bq_st, bq_S, oI_s, oL_s, oD_s, oV_s, oR_s, oR_n, oI_e, oL_e, oD_e, Option.bind_some, fa_lit, fa_litL, nI_add, pk_mul, nI_m1, nI_lt', nI_le', nI_eq', lc_ge, lc_le, lc_gt, lc_lt, lc_eq, isZ_0, isZ_1, bI_0, bI_z, decide_eq_true_eq, Bool.not_eq_true', Bool.not_true, Bool.not_false, decide_eq_false_iff_not, if_true, if_false, ite_true, ite_false, eq_self, not_true, not_false_eq_true, C_95, C_96, C_97, C_99, C_100, C_102, C_106, C_107, C_109, C_168, C_171, C_172, C_173, C_174, C_175, yu_ne, yu_eq, up_eq, up_ne, yur_ne, yur_eq, yu_uu, y1_eq, y1_ne, y1_y1, Nat.mul_zero, Nat.zero_mul, Nat.add_zero, Nat.zero_add, Nat.mul_one, Nat.one_mul, Nat.reduceEqDiff, Nat.reduceLT, Nat.reduceLeDiff, Nat.reduceAdd, Nat.reduceMul, decide_true, decide_false, cond_true, cond_false, reduceCtorEq, Bool.false_eq_true, Bool.true_eq_false, Bool.true_and, Bool.and_true, Bool.false_and, Bool.and_false, r137_1, r137_9, L0_5, L0_6, L8, L8z, q, q3]
              rw [B_138_137, B_138_138]
              simp (disch := omega) only [st_I, st_L, st_R, st_S, st_N, st_C, st_Z, st_X, st_D, st_st, st_sI, st_sIr, st_sL, st_sR, gfI_st, gfL_st, gfR_st, gfN_st, pfI_st, pfL_st, pfR_st, pfZ_st0, pfZ_st1, ldI_st, ldL_st, stoI_st, stoL_st, aln_st, cpA_st, bq_st, bq_S, oI_s, oL_s, oD_s, oV_s, oR_s, oR_n, oI_e, oL_e, oD_e, Option.bind_some, fa_lit, fa_litL, nI_add, pk_mul, nI_m1, nI_lt', nI_le', nI_eq', lc_ge, lc_le, lc_gt, lc_lt, lc_eq, isZ_0, isZ_1, bI_0, bI_z, decide_eq_true_eq, Bool.not_eq_true', Bool.not_true, Bool.not_false, decide_eq_false_iff_not, if_true, if_false, ite_true, ite_false, eq_self, not_true, not_false_eq_true, C_95, C_96, C_97, C_99, C_100, C_102, C_106, C_107, C_109, C_168, C_171, C_172, C_173, C_174, C_175, yu_ne, yu_eq, up_eq, up_ne, yur_ne, yur_eq, yu_uu, y1_eq, y1_ne, y1_y1, Nat.mul_zero, Nat.zero_mul, Nat.add_zero, Nat.zero_add, Nat.mul_one, Nat.one_mul, Nat.reduceEqDiff, Nat.reduceLT, Nat.reduceLeDiff, Nat.reduceAdd, Nat.reduceMul, decide_true, decide_false, cond_true, cond_false, reduceCtorEq, Bool.false_eq_true, Bool.true_eq_false, Bool.true_and, Bool.and_true, Bool.false_and, Bool.and_false, r137_1, r137_9, L0_5, L0_6, L8, L8z]
              rw [B_138_156, nI_1, ← hK]
              exact ⟨_, _, _, rfl⟩
            · simp only [q, q3, decide_true, decide_false, Bool.not_false, Bool.and_true, Bool.or_true, cond_true, eq_self] at hK
              simp (disch := omega) only [st_I, st_L, st_R, st_S, st_N, st_C, st_Z, st_X, st_D, st_st, st_sI, st_sIr, st_sL, st_sR, gfI_st, gfL_st, gfR_st, gfN_st, pfI_st, pfL_st, pfR_st, pfZ_st0, pfZ_st1, ldI_st, ldL_st, stoI_st, stoL_st, aln_st, cpA_st, bq_st, bq_S, oI_s, oL_s, oD_s, oV_s, oR_s, oR_n, oI_e, oL_e, oD_e, Option.bind_some, fa_lit, fa_litL, nI_add, pk_mul, nI_m1, nI_lt', nI_le', nI_eq', lc_ge, lc_le, lc_gt, lc_lt, lc_eq, isZ_0, isZ_1, bI_0, bI_z, decide_eq_true_eq, Bool.not_eq_true', Bool.not_true, Bool.not_false, decide_eq_false_iff_not, if_true, if_false, ite_true, ite_false, eq_self, not_true, not_false_eq_true, C_95, C_96, C_97, C_99, C_100, C_102, C_106, C_107, C_109, C_168, C_171, C_172, C_173, C_174, C_175, yu_ne, yu_eq, up_eq, up_ne, yur_ne, yur_eq, yu_uu, y1_eq, y1_ne, y1_y1, Nat.mul_zero, Nat.zero_mul, Nat.add_zero, Nat.zero_add, Nat.mul_one, Nat.one_mul, Nat.reduceEqDiff, Nat.reduceLT, Nat.reduceLeDiff, Nat.reduceAdd, Nat.reduceMul, decide_true, decide_false, cond_true, cond_false, reduceCtorEq, Bool.false_eq_true, Bool.true_eq_false, Bool.true_and, Bool.and_true, Bool.false_and, Bool.and_false, r137_1, r137_9, L0_5, L0_6, L8, L8z, q, q3]
              rw [B_138_133, B_138_138]
              simp (disch := omega) only [st_I, st_L, st_R, st_S, st_N, st_C, st_Z, st_X, st_D, st_st, st_sI, st_sIr, st_sL, st_sR, gfI_st, gfL_st, gfR_st, gfN_st, pfI_st, pfL_st, pfR_st, pfZ_st0, pfZ_st1, ldI_st, ldL_st, stoI_st, stoL_st, aln_st, cpA_st, bq_st, bq_S, oI_s, oL_s, oD_s, oV_s, oR_s, oR_n, oI_e, oL_e, oD_e, Option.bind_some, fa_lit, fa_litL, nI_add, pk_mul, nI_m1, nI_lt', nI_le', nI_eq', lc_ge, lc_le, lc_gt, lc_lt, lc_eq, isZ_0, isZ_1, bI_0, bI_z, decide_eq_true_eq, Bool.not_eq_true', Bool.not_true, Bool.not_false, decide_eq_false_iff_not, if_true, if_false, ite_true, ite_false, eq_self, not_true, not_false_eq_true, C_95, C_96, C_97, C_99, C_100, C_102, C_106, C_107, C_109, C_168, C_171, C_172, C_173, C_174, C_175, yu_ne, yu_eq, up_eq, up_ne, yur_ne, yur_eq, yu_uu, y1_eq, y1_ne, y1_y1, Nat.mul_zero, Nat.zero_mul, Nat.add_zero, Nat.zero_add, Nat.mul_one, Nat.one_mul, Nat.reduceEqDiff, Nat.reduceLT, Nat.reduceLeDiff, Nat.reduceAdd, Nat.reduceMul, decide_true, decide_false, cond_true, cond_false, reduceCtorEq, Bool.false_eq_true, Bool.true_eq_false, Bool.true_and, Bool.and_true, Bool.false_and, Bool.and_false, r137_1, r137_9, L0_5, L0_6, L8, L8z]
              rw [B_138_156, nI_1, ← hK]
              exact ⟨_, _, _, rfl⟩
          · simp only [q, q2, decide_false, Bool.false_and, Bool.or_false, cond_false] at hK
            simp (disch := omega) only [st_I, st_L, st_R, st_S, st_N, st_C, st_Z, st_X, st_D, st_st, st_sI, st_sIr, st_sL, st_sR, gfI_st, gfL_st, gfR_st, gfN_st, pfI_st, pfL_st, pfR_st, pfZ_st0, pfZ_st1, ldI_st, ldL_st, stoI_st, stoL_st, aln_st, cpA_st, bq_st, bq_S, oI_s, oL_s, oD_s, oV_s, oR_s, oR_n, oI_e, oL_e, oD_e, Option.bind_some, fa_lit, fa_litL, nI_add, pk_mul, nI_m1, nI_lt', nI_le', nI_eq', lc_ge, lc_le, lc_gt, lc_lt, lc_eq, isZ_0, isZ_1, bI_0, bI_z, decide_eq_true_eq, Bool.not_eq_true', Bool.not_true, Bool.not_false, decide_eq_false_iff_not, if_true, if_false, ite_true, ite_false, eq_self, not_true, not_false_eq_true, C_95, C_96, C_97, C_99, C_100, C_102, C_106, C_107, C_109, C_168, C_171, C_172, C_173, C_174, C_175, yu_ne, yu_eq, up_eq, up_ne, yur_ne, yur_eq, yu_uu, y1_eq, y1_ne, y1_y1, Nat.mul_zero, Nat.zero_mul, Nat.add_zero, Nat.zero_add, Nat.mul_one, Nat.one_mul, Nat.reduceEqDiff, Nat.reduceLT, Nat.reduceLeDiff, Nat.reduceAdd, Nat.reduceMul, decide_true, decide_false, cond_true, cond_false, reduceCtorEq, Bool.false_eq_true, Bool.true_eq_false, Bool.true_and, Bool.and_true, Bool.false_and, Bool.and_false, r137_1, r137_9, L0_5, L0_6, L8, L8z, q, q2]
            rw [B_138_137, B_138_138]
            simp (disch := omega) only [st_I, st_L, st_R, st_S, st_N, st_C, st_Z, st_X, st_D, st_st, st_sI, st_sIr, st_sL, st_sR, gfI_st, gfL_st, gfR_st, gfN_st, pfI_st, pfL_st, pfR_st, pfZ_st0, pfZ_st1, ldI_st, ldL_st, stoI_st, stoL_st, aln_st, cpA_st, bq_st, bq_S, oI_s, oL_s, oD_s, oV_s, oR_s, oR_n, oI_e, oL_e, oD_e, Option.bind_some, fa_lit, fa_litL, nI_add, pk_mul, nI_m1, nI_lt', nI_le', nI_eq', lc_ge, lc_le, lc_gt, lc_lt, lc_eq, isZ_0, isZ_1, bI_0, bI_z, decide_eq_true_eq, Bool.not_eq_true', Bool.not_true, Bool.not_false, decide_eq_false_iff_not, if_true, if_false, ite_true, ite_false, eq_self, not_true, not_false_eq_true, C_95, C_96, C_97, C_99, C_100, C_102, C_106, C_107, C_109, C_168, C_171, C_172, C_173, C_174, C_175, yu_ne, yu_eq, up_eq, up_ne, yur_ne, yur_eq, yu_uu, y1_eq, y1_ne, y1_y1, Nat.mul_zero, Nat.zero_mul, Nat.add_zero, Nat.zero_add, Nat.mul_one, Nat.one_mul, Nat.reduceEqDiff, Nat.reduceLT, Nat.reduceLeDiff, Nat.reduceAdd, Nat.reduceMul, decide_true, decide_false, cond_true, cond_false, reduceCtorEq, Bool.false_eq_true, Bool.true_eq_false, Bool.true_and, Bool.and_true, Bool.false_and, Bool.and_false, r137_1, r137_9, L0_5, L0_6, L8, L8z]
            rw [B_138_156, nI_1, ← hK]
            exact ⟨_, _, _, rfl⟩
      · rw [if_neg h12] at hK
        simp (disch := omega) only [st_I, st_L, st_R, st_S, st_N, st_C, st_Z, st_X, st_D, st_st, st_sI, st_sIr, st_sL, st_sR, gfI_st, gfL_st, gfR_st, gfN_st, pfI_st, pfL_st, pfR_st, pfZ_st0, pfZ_st1, ldI_st, ldL_st, stoI_st, stoL_st, aln_st, cpA_st, bq_st, bq_S, oI_s, oL_s, oD_s, oV_s, oR_s, oR_n, oI_e, oL_e, oD_e, Option.bind_some, fa_lit, fa_litL, nI_add, pk_mul, nI_m1, nI_lt', nI_le', nI_eq', lc_ge, lc_le, lc_gt, lc_lt, lc_eq, isZ_0, isZ_1, bI_0, bI_z, decide_eq_true_eq, Bool.not_eq_true', Bool.not_true, Bool.not_false, decide_eq_false_iff_not, if_true, if_false, ite_true, ite_false, eq_self, not_true, not_false_eq_true, C_95, C_96, C_97, C_99, C_100, C_102, C_106, C_107, C_109, C_168, C_171, C_172, C_173, C_174, C_175, yu_ne, yu_eq, up_eq, up_ne, yur_ne, yur_eq, yu_uu, y1_eq, y1_ne, y1_y1, Nat.mul_zero, Nat.zero_mul, Nat.add_zero, Nat.zero_add, Nat.mul_one, Nat.one_mul, Nat.reduceEqDiff, Nat.reduceLT, Nat.reduceLeDiff, Nat.reduceAdd, Nat.reduceMul, decide_true, decide_false, cond_true, cond_false, reduceCtorEq, Bool.false_eq_true, Bool.true_eq_false, Bool.true_and, Bool.and_true, Bool.false_and, Bool.and_false, r137_1, r137_9, L0_5, L0_6, L8, L8z, h12]
        rw [B_138_156, nI_1, ← hK]
        exact ⟨_, _, _, rfl⟩
theorem MRr_shl {g : Nat → Int32} {n w i m : Nat} {T : Nat → Nat → Int32} (h : MRr g n w T) (hm : m < n) (hi : i ≤ m) : MRr (cpF g g (w * (i + 1)) (w * i) (w * (m - i))) n w (shl T i m) := by
  refine MRr_ext (MRr_cp (s := i + 1) (d := i) (k := m - i) h h (by omega)) fun a b ha hb => ?_
  show (if i ≤ a ∧ a < i + (m - i) then T (i + 1 + (a - i)) else T a) b = (if i ≤ a ∧ a < m then T (a + 1) else T a) b
  by_cases q : i ≤ a ∧ a < m
  · have e : i + 1 + (a - i) = a + 1 := by omega
    rw [if_pos q, if_pos (by omega), e]
  · rw [if_neg q, if_neg (by omega)]
theorem MRr_8s {f : Nat → Nat → Int32} {c : Nat → Nat} {S : Nat → Nat → Nat → Int32} {G : Nat → Int32} {X : Nat → Nat → Int32} (hm : MR f c S) (ht : MRr G 60 7 X) : MR (u2r f 146 G) c (u1 S 8 X) := MRr_8 hm ht
theorem K_tell {m0 μ : mMu} {f : Nat → Nat → Int32} {l : Nat → Nat → Int64} {r : Nat → Nat → Option Nat} {k z : Nat} {c : Nat → Nat} {S : Nat → Nat → Nat → Int32} {t i : Nat} (h : Md m0 μ f l r k z c S) (hc : CB c) (ht : t < 10) (hi : i < c 5) {o2 o3 o5 o6 o10 : Option Value} :
    MV (RUN 138 192 [some (.ref 137), some (.int (nI t)), o2, o3, some (.int (nI i)), o5, o6, some (.int (S 7 t 0)), some (.int (S 8 i 0)), some (.int (nI 0)), o10] [] (st μ f l r)) m0 (k + 1) (z + 4) (u1 (noteC c) 5 (c 5 - 1)) (u1 (u1 (noteS c (u1 S 5 (rnm (c 3) (S 5) (S 7 t 0) (S 8 i 0))) (nI 5) (S 8 i 0) (S 7 t 0)) 7 (u1 (S 7) t (up (S 7 t) 0 (S 8 i 0)))) 8 (shl (S 8) i (c 5 - 1))) := by
  have hs := h.1
  have hr := h.2.1
  have h137a : (mS μ 137).1 = 9 := by rw [hs 137 (by decide)]; rfl
  have h138a : (mS μ 138).1 = 20 := by rw [hs 138 (by decide)]; rfl
  have h138b : (mS μ 138).2 = 15 := by rw [hs 138 (by decide)]; rfl
  have h143a : (mS μ 143).1 = 20 := by rw [hs 143 (by decide)]; rfl
  have h143b : (mS μ 143).2 = 50 := by rw [hs 143 (by decide)]; rfl
  have h145a : (mS μ 145).1 = 20 := by rw [hs 145 (by decide)]; rfl
  have h145b : (mS μ 145).2 = 380 := by rw [hs 145 (by decide)]; rfl
  have r137_1 : r 137 1 = some 138 := hr 137 1 138 rfl
  have r137_6 : r 137 6 = some 143 := hr 137 6 143 rfl
  have hc' := hc
  obtain ⟨c0, c1, c2, c3, c4, c5, c6, c7, c8, c9, c10, c11, c12, c13, c14⟩ := hc
  generalize hown : S 7 t 0 = own
  generalize hnm : S 8 i 0 = nm
  refine loopP (fun j o => ∃ f', o = RUN 138 192 [some (.ref 137), some (.int (nI t)), o2, o3, some (.int (nI i)), o5, o6, some (.int own), some (.int nm), some (.int (nI j)), o10] [] (st μ f' l r) ∧ Md m0 μ f' l r k z c (u1 S 5 (rnm j (S 5) own nm))) (fun o => MV o m0 (k + 1) (z + 4) _ _) (c 3) ?_ ?_ 0 _ (Nat.zero_le _) ⟨f, rfl, ?_⟩
  · rintro o ⟨f', rfl, h'⟩
    have L3 : f' 138 3 = nI (c 3) := h'.2.2.2.2.1 3 (by decide)
    have h0 := Md_foc t h'
    rw [y1_ne (show 7 ≠ 5 by decide)] at h0
    obtain ⟨f1, q1, h1⟩ := sR_e (w := 0) (v := nm) h0 ht (by decide)
    obtain ⟨μ2, f2, l2, r2, q2, h2⟩ := Md_note h1 hc' (kd := nI 5) (nm := nm) (ot := own)
    rw [noteS_7] at h2
    rw [B_138_192]
    simp (disch := omega) only [st_I, st_L, st_R, st_S, st_N, st_C, st_Z, st_X, st_D, st_st, st_sI, st_sIr, st_sL, st_sR, gfI_st, gfL_st, gfR_st, gfN_st, pfI_st, pfL_st, pfR_st, pfZ_st0, pfZ_st1, ldI_st, ldL_st, stoI_st, stoL_st, aln_st, cpA_st, bq_st, bq_S, oI_s, oL_s, oD_s, oV_s, oR_s, oR_n, oI_e, oL_e, oD_e, Option.bind_some, fa_lit, fa_litL, nI_add, pk_mul, nI_m1, nI_lt', nI_le', nI_eq', lc_ge, lc_le, lc_gt, lc_lt, lc_eq, isZ_0, isZ_1, bI_0, bI_z, decide_eq_true_eq, Bool.not_eq_true', Bool.not_true, Bool.not_false, decide_eq_false_iff_not, if_true, if_false, ite_true, ite_false, eq_self, not_true, not_false_eq_true, C_95, C_96, C_97, C_99, C_100, C_102, C_106, C_107, C_109, C_168, C_171, C_172, C_173, C_174, C_175, yu_ne, yu_eq, up_eq, up_ne, yur_ne, yur_eq, yu_uu, y1_eq, y1_ne, y1_y1, Nat.mul_zero, Nat.zero_mul, Nat.add_zero, Nat.zero_add, Nat.mul_one, Nat.one_mul, Nat.reduceEqDiff, Nat.reduceLT, Nat.reduceLeDiff, Nat.reduceAdd, Nat.reduceMul, decide_true, decide_false, cond_true, cond_false, reduceCtorEq, Bool.false_eq_true, Bool.true_eq_false, Bool.true_and, Bool.and_true, Bool.false_and, Bool.and_false, r137_1, r137_6, L3, Nat.le_refl, q1, q2]
    have h137na : (mS μ2 137).1 = 9 := by rw [h2.1 137 (by decide)]; rfl
    have h138na : (mS μ2 138).1 = 20 := by rw [h2.1 138 (by decide)]; rfl
    have h138nb : (mS μ2 138).2 = 15 := by rw [h2.1 138 (by decide)]; rfl
    have h146na : (mS μ2 146).1 = 20 := by rw [h2.1 146 (by decide)]; rfl
    have h146nb : (mS μ2 146).2 = 420 := by rw [h2.1 146 (by decide)]; rfl
    have r1 : r2 137 1 = some 138 := h2.2.1 137 1 138 rfl
    have r9 : r2 137 9 = some 146 := h2.2.1 137 9 146 rfl
    have L5 : f2 138 5 = nI (c 5) := h2.2.2.2.2.1 5 (by decide)
    have e1 : nI (c 5) - nI 1 = nI (c 5 - 1) := pk_sub (by omega)
    have e2 : nI (c 5 - 1) - nI i = nI (c 5 - 1 - i) := pk_sub (by omega)
    simp (disch := omega) only [st_I, st_L, st_R, st_S, st_N, st_C, st_Z, st_X, st_D, st_st, st_sI, st_sIr, st_sL, st_sR, gfI_st, gfL_st, gfR_st, gfN_st, pfI_st, pfL_st, pfR_st, pfZ_st0, pfZ_st1, ldI_st, ldL_st, stoI_st, stoL_st, aln_st, cpA_st, bq_st, bq_S, oI_s, oL_s, oD_s, oV_s, oR_s, oR_n, oI_e, oL_e, oD_e, Option.bind_some, fa_lit, fa_litL, nI_add, pk_mul, nI_m1, nI_lt', nI_le', nI_eq', lc_ge, lc_le, lc_gt, lc_lt, lc_eq, isZ_0, isZ_1, bI_0, bI_z, decide_eq_true_eq, Bool.not_eq_true', Bool.not_true, Bool.not_false, decide_eq_false_iff_not, if_true, if_false, ite_true, ite_false, eq_self, not_true, not_false_eq_true, C_95, C_96, C_97, C_99, C_100, C_102, C_106, C_107, C_109, C_168, C_171, C_172, C_173, C_174, C_175, yu_ne, yu_eq, up_eq, up_ne, yur_ne, yur_eq, yu_uu, y1_eq, y1_ne, y1_y1, Nat.mul_zero, Nat.zero_mul, Nat.add_zero, Nat.zero_add, Nat.mul_one, Nat.one_mul, Nat.reduceEqDiff, Nat.reduceLT, Nat.reduceLeDiff, Nat.reduceAdd, Nat.reduceMul, decide_true, decide_false, cond_true, cond_false, reduceCtorEq, Bool.false_eq_true, Bool.true_eq_false, Bool.true_and, Bool.and_true, Bool.false_and, Bool.and_false, r137_1, r137_6, r1, r9, L5, e1, e2]
    have h8 : MRr (f2 146) 60 7 (S 8) := by
      have := h2.2.2.2.2.2.2.2.2.2.2.2.2.1
      rw [y1_ne (by decide), noteS_r (by decide), y1_ne (by decide)] at this
      exact this
    have h9 := MRr_8s (MR_c (k := 5) (v := c 5 - 1) h2.2.2.2.2) (MRr_shl h8 (m := c 5 - 1) (i := i) (by omega) (by omega))
    refine ⟨_, _, _, _, rfl, Md_f h2 (fun a ha => by simp (disch := omega) only [st_I, st_L, st_R, st_S, st_N, st_C, st_Z, st_X, st_D, st_st, st_sI, st_sIr, st_sL, st_sR, gfI_st, gfL_st, gfR_st, gfN_st, pfI_st, pfL_st, pfR_st, pfZ_st0, pfZ_st1, ldI_st, ldL_st, stoI_st, stoL_st, aln_st, cpA_st, bq_st, bq_S, oI_s, oL_s, oD_s, oV_s, oR_s, oR_n, oI_e, oL_e, oD_e, Option.bind_some, fa_lit, fa_litL, nI_add, pk_mul, nI_m1, nI_lt', nI_le', nI_eq', lc_ge, lc_le, lc_gt, lc_lt, lc_eq, isZ_0, isZ_1, bI_0, bI_z, decide_eq_true_eq, Bool.not_eq_true', Bool.not_true, Bool.not_false, decide_eq_false_iff_not, if_true, if_false, ite_true, ite_false, eq_self, not_true, not_false_eq_true, C_95, C_96, C_97, C_99, C_100, C_102, C_106, C_107, C_109, C_168, C_171, C_172, C_173, C_174, C_175, yu_ne, yu_eq, up_eq, up_ne, yur_ne, yur_eq, yu_uu, y1_eq, y1_ne, y1_y1, Nat.mul_zero, Nat.zero_mul, Nat.add_zero, Nat.zero_add, Nat.mul_one, Nat.one_mul, Nat.reduceEqDiff, Nat.reduceLT, Nat.reduceLeDiff, Nat.reduceAdd, Nat.reduceMul, decide_true, decide_false, cond_true, cond_false, reduceCtorEq, Bool.false_eq_true, Bool.true_eq_false, Bool.true_and, Bool.and_true, Bool.false_and, Bool.and_false, r137_1, r137_6]) h9⟩
  · rintro j o hj ⟨f', rfl, h'⟩
    have hj' : ¬ c 3 ≤ j := by omega
    have hj10 : j < 10 := by omega
    have L3 : f' 138 3 = nI (c 3) := h'.2.2.2.2.1 3 (by decide)
    have L54 : f' 143 (5 * j + 4) = S 5 j 4 := by
      rw [h'.2.2.2.2.2.2.2.2.2.1 j 4 hj10 (by decide), y1_eq]
      unfold rnm
      rw [upn_at (Nat.le_refl j)]
    have hsu : rnm (j + 1) (S 5) own nm = u1 (rnm j (S 5) own nm) j (if S 5 j 4 = own then up (S 5 j) 4 nm else S 5 j) := upn_s
    have hat : rnm j (S 5) own nm j = S 5 j := upn_at (Nat.le_refl j)
    right
    rw [B_138_192, hsu]
    simp (disch := omega) only [st_I, st_L, st_R, st_S, st_N, st_C, st_Z, st_X, st_D, st_st, st_sI, st_sIr, st_sL, st_sR, gfI_st, gfL_st, gfR_st, gfN_st, pfI_st, pfL_st, pfR_st, pfZ_st0, pfZ_st1, ldI_st, ldL_st, stoI_st, stoL_st, aln_st, cpA_st, bq_st, bq_S, oI_s, oL_s, oD_s, oV_s, oR_s, oR_n, oI_e, oL_e, oD_e, Option.bind_some, fa_lit, fa_litL, nI_add, pk_mul, nI_m1, nI_lt', nI_le', nI_eq', lc_ge, lc_le, lc_gt, lc_lt, lc_eq, isZ_0, isZ_1, bI_0, bI_z, decide_eq_true_eq, Bool.not_eq_true', Bool.not_true, Bool.not_false, decide_eq_false_iff_not, if_true, if_false, ite_true, ite_false, eq_self, not_true, not_false_eq_true, C_95, C_96, C_97, C_99, C_100, C_102, C_106, C_107, C_109, C_168, C_171, C_172, C_173, C_174, C_175, yu_ne, yu_eq, up_eq, up_ne, yur_ne, yur_eq, yu_uu, y1_eq, y1_ne, y1_y1, Nat.mul_zero, Nat.zero_mul, Nat.add_zero, Nat.zero_add, Nat.mul_one, Nat.one_mul, Nat.reduceEqDiff, Nat.reduceLT, Nat.reduceLeDiff, Nat.reduceAdd, Nat.reduceMul, decide_true, decide_false, cond_true, cond_false, reduceCtorEq, Bool.false_eq_true, Bool.true_eq_false, Bool.true_and, Bool.and_true, Bool.false_and, Bool.and_false, r137_1, r137_6, L3, hj', L54]
    by_cases q : S 5 j 4 = own
    · simp (disch := omega) only [st_I, st_L, st_R, st_S, st_N, st_C, st_Z, st_X, st_D, st_st, st_sI, st_sIr, st_sL, st_sR, gfI_st, gfL_st, gfR_st, gfN_st, pfI_st, pfL_st, pfR_st, pfZ_st0, pfZ_st1, ldI_st, ldL_st, stoI_st, stoL_st, aln_st, cpA_st, bq_st, bq_S, oI_s, oL_s, oD_s, oV_s, oR_s, oR_n, oI_e, oL_e, oD_e, Option.bind_some, fa_lit, fa_litL, nI_add, pk_mul, nI_m1, nI_lt', nI_le', nI_eq', lc_ge, lc_le, lc_gt, lc_lt, lc_eq, isZ_0, isZ_1, bI_0, bI_z, decide_eq_true_eq, Bool.not_eq_true', Bool.not_true, Bool.not_false, decide_eq_false_iff_not, if_true, if_false, ite_true, ite_false, eq_self, not_true, not_false_eq_true, C_95, C_96, C_97, C_99, C_100, C_102, C_106, C_107, C_109, C_168, C_171, C_172, C_173, C_174, C_175, yu_ne, yu_eq, up_eq, up_ne, yur_ne, yur_eq, yu_uu, y1_eq, y1_ne, y1_y1, Nat.mul_zero, Nat.zero_mul, Nat.add_zero, Nat.zero_add, Nat.mul_one, Nat.one_mul, Nat.reduceEqDiff, Nat.reduceLT, Nat.reduceLeDiff, Nat.reduceAdd, Nat.reduceMul, decide_true, decide_false, cond_true, cond_false, reduceCtorEq, Bool.false_eq_true, Bool.true_eq_false, Bool.true_and, Bool.and_true, Bool.false_and, Bool.and_false, r137_1, r137_6, q]
      rw [B_138_232]
      have h5 := MRu_5 (i := j) (j := 4) (v := nm) h'.2.2.2.2 (by decide)
      rw [y1_eq, y1_y1, hat] at h5
      exact ⟨_, by rw [nI_1], Md_f h' (fun a ha => by simp (disch := omega) only [st_I, st_L, st_R, st_S, st_N, st_C, st_Z, st_X, st_D, st_st, st_sI, st_sIr, st_sL, st_sR, gfI_st, gfL_st, gfR_st, gfN_st, pfI_st, pfL_st, pfR_st, pfZ_st0, pfZ_st1, ldI_st, ldL_st, stoI_st, stoL_st, aln_st, cpA_st, bq_st, bq_S, oI_s, oL_s, oD_s, oV_s, oR_s, oR_n, oI_e, oL_e, oD_e, Option.bind_some, fa_lit, fa_litL, nI_add, pk_mul, nI_m1, nI_lt', nI_le', nI_eq', lc_ge, lc_le, lc_gt, lc_lt, lc_eq, isZ_0, isZ_1, bI_0, bI_z, decide_eq_true_eq, Bool.not_eq_true', Bool.not_true, Bool.not_false, decide_eq_false_iff_not, if_true, if_false, ite_true, ite_false, eq_self, not_true, not_false_eq_true, C_95, C_96, C_97, C_99, C_100, C_102, C_106, C_107, C_109, C_168, C_171, C_172, C_173, C_174, C_175, yu_ne, yu_eq, up_eq, up_ne, yur_ne, yur_eq, yu_uu, y1_eq, y1_ne, y1_y1, Nat.mul_zero, Nat.zero_mul, Nat.add_zero, Nat.zero_add, Nat.mul_one, Nat.one_mul, Nat.reduceEqDiff, Nat.reduceLT, Nat.reduceLeDiff, Nat.reduceAdd, Nat.reduceMul, decide_true, decide_false, cond_true, cond_false, reduceCtorEq, Bool.false_eq_true, Bool.true_eq_false, Bool.true_and, Bool.and_true, Bool.false_and, Bool.and_false, r137_1, r137_6]) h5⟩
    · simp (disch := omega) only [st_I, st_L, st_R, st_S, st_N, st_C, st_Z, st_X, st_D, st_st, st_sI, st_sIr, st_sL, st_sR, gfI_st, gfL_st, gfR_st, gfN_st, pfI_st, pfL_st, pfR_st, pfZ_st0, pfZ_st1, ldI_st, ldL_st, stoI_st, stoL_st, aln_st, cpA_st, bq_st, bq_S, oI_s, oL_s, oD_s, oV_s, oR_s, oR_n, oI_e, oL_e, oD_e, Option.bind_some, fa_lit, fa_litL, nI_add, pk_mul, nI_m1, nI_lt', nI_le', nI_eq', lc_ge, lc_le, lc_gt, lc_lt, lc_eq, isZ_0, isZ_1, bI_0, bI_z, decide_eq_true_eq, Bool.not_eq_true', Bool.not_true, Bool.not_false, decide_eq_false_iff_not, if_true, if_false, ite_true, ite_false, eq_self, not_true, not_false_eq_true, C_95, C_96, C_97, C_99, C_100, C_102, C_106, C_107, C_109, C_168, C_171, C_172, C_173, C_174, C_175, yu_ne, yu_eq, up_eq, up_ne, yur_ne, yur_eq, yu_uu, y1_eq, y1_ne, y1_y1, Nat.mul_zero, Nat.zero_mul, Nat.add_zero, Nat.zero_add, Nat.mul_one, Nat.one_mul, Nat.reduceEqDiff, Nat.reduceLT, Nat.reduceLeDiff, Nat.reduceAdd, Nat.reduceMul, decide_true, decide_false, cond_true, cond_false, reduceCtorEq, Bool.false_eq_true, Bool.true_eq_false, Bool.true_and, Bool.and_true, Bool.false_and, Bool.and_false, r137_1, r137_6, q]
      rw [B_138_232]
      refine ⟨_, by rw [nI_1], ?_⟩
      have e : u1 (rnm j (S 5) own nm) j (S 5 j) = rnm j (S 5) own nm := by
        have := y1_id (f := rnm j (S 5) own nm) (a := j)
        rw [hat] at this
        exact this
      rw [e]
      exact h'
  · have e : rnm 0 (S 5) own nm = S 5 := upn_0
    rw [e, y1_id]
    exact h
theorem C_138 {m0 μ : mMu} {f : Nat → Nat → Int32} {l : Nat → Nat → Int64} {r : Nat → Nat → Option Nat} {k z : Nat} {c : Nat → Nat} {S : Nat → Nat → Nat → Int32} {t : Nat} (h : Md m0 μ f l r k z c S) (hc : CB c) (ht : t < 10) : MV (CALL 138 [.ref 137, .int (nI t)] (st μ f l r)) m0 (k + 1) (z + 4) (kns t (c, S)).1 (kns t (c, S)).2 := by
  have hs := h.1
  have hr := h.2.1
  have hm := h.2.2.2.2
  have h137a : (mS μ 137).1 = 9 := by rw [hs 137 (by decide)]; rfl
  have h138a : (mS μ 138).1 = 20 := by rw [hs 138 (by decide)]; rfl
  have h138b : (mS μ 138).2 = 15 := by rw [hs 138 (by decide)]; rfl
  have h146a : (mS μ 146).1 = 20 := by rw [hs 146 (by decide)]; rfl
  have h146b : (mS μ 146).2 = 420 := by rw [hs 146 (by decide)]; rfl
  have r137_1 : r 137 1 = some 138 := hr 137 1 138 rfl
  have r137_9 : r 137 9 = some 146 := hr 137 9 146 rfl
  have L0_5 : f 138 5 = nI (c 5) := hm.1 5 (by decide)
  have L0_12 : f 138 12 = nI (c 12) := hm.1 12 (by decide)
  have L8 : ∀ i k, i < 60 → k < 7 → f 146 (7 * i + k) = S 8 i k := hm.2.2.2.2.2.2.2.2.1
  have L8z : ∀ i, i < 60 → f 146 (7 * i) = S 8 i 0 := fun i hi => L8 i 0 hi (by decide)
  have hc' := hc
  obtain ⟨c0, c1, c2, c3, c4, c5, c6, c7, c8, c9, c10, c11, c12, c13, c14⟩ := hc
  rw [B_138_0]
  simp (disch := omega) only [st_I, st_L, st_R, st_S, st_N, st_C, st_Z, st_X, st_D, st_st, st_sI, st_sIr, st_sL, st_sR, gfI_st, gfL_st, gfR_st, gfN_st, pfI_st, pfL_st, pfR_st, pfZ_st0, pfZ_st1, ldI_st, ldL_st, stoI_st, stoL_st, aln_st, cpA_st, bq_st, bq_S, oI_s, oL_s, oD_s, oV_s, oR_s, oR_n, oI_e, oL_e, oD_e, Option.bind_some, fa_lit, fa_litL, nI_add, pk_mul, nI_m1, nI_lt', nI_le', nI_eq', lc_ge, lc_le, lc_gt, lc_lt, lc_eq, isZ_0, isZ_1, bI_0, bI_z, decide_eq_true_eq, Bool.not_eq_true', Bool.not_true, Bool.not_false, decide_eq_false_iff_not, if_true, if_false, ite_true, ite_false, eq_self, not_true, not_false_eq_true, C_95, C_96, C_97, C_99, C_100, C_102, C_106, C_107, C_109, C_168, C_171, C_172, C_173, C_174, C_175, yu_ne, yu_eq, up_eq, up_ne, yur_ne, yur_eq, yu_uu, y1_eq, y1_ne, y1_y1, Nat.mul_zero, Nat.zero_mul, Nat.add_zero, Nat.zero_add, Nat.mul_one, Nat.one_mul, Nat.reduceEqDiff, Nat.reduceLT, Nat.reduceLeDiff, Nat.reduceAdd, Nat.reduceMul, decide_true, decide_false, cond_true, cond_false, reduceCtorEq, Bool.false_eq_true, Bool.true_eq_false, Bool.true_and, Bool.and_true, Bool.false_and, Bool.and_false, r137_1, r137_9, L0_5, L0_12, L8, L8z]
  have hk : lN 64 * (nI (c 12)).toInt64 * (lN 64 * (nI (c 12)).toInt64) = krch c := rfl
  rw [hk]
  refine K_find h hc' ht (Q := fun o => MV o m0 (k + 1) (z + 4) (kns t (c, S)).1 (kns t (c, S)).2) fun o8 o9 o10 y => ?_
  unfold kns
  simp only
  cases hf : kfnd c (S 7 t) (S 8) with
  | none =>
    rw [B_138_24]
    simp only [fI]
    simp (disch := omega) only [st_I, st_L, st_R, st_S, st_N, st_C, st_Z, st_X, st_D, st_st, st_sI, st_sIr, st_sL, st_sR, gfI_st, gfL_st, gfR_st, gfN_st, pfI_st, pfL_st, pfR_st, pfZ_st0, pfZ_st1, ldI_st, ldL_st, stoI_st, stoL_st, aln_st, cpA_st, bq_st, bq_S, oI_s, oL_s, oD_s, oV_s, oR_s, oR_n, oI_e, oL_e, oD_e, Option.bind_some, fa_lit, fa_litL, nI_add, pk_mul, nI_m1, nI_lt', nI_le', nI_eq', lc_ge, lc_le, lc_gt, lc_lt, lc_eq, isZ_0, isZ_1, bI_0, bI_z, decide_eq_true_eq, Bool.not_eq_true', Bool.not_true, Bool.not_false, decide_eq_false_iff_not, if_true, if_false, ite_true, ite_false, eq_self, not_true, not_false_eq_true, C_95, C_96, C_97, C_99, C_100, C_102, C_106, C_107, C_109, C_168, C_171, C_172, C_173, C_174, C_175, yu_ne, yu_eq, up_eq, up_ne, yur_ne, yur_eq, yu_uu, y1_eq, y1_ne, y1_y1, Nat.mul_zero, Nat.zero_mul, Nat.add_zero, Nat.zero_add, Nat.mul_one, Nat.one_mul, Nat.reduceEqDiff, Nat.reduceLT, Nat.reduceLeDiff, Nat.reduceAdd, Nat.reduceMul, decide_true, decide_false, cond_true, cond_false, reduceCtorEq, Bool.false_eq_true, Bool.true_eq_false, Bool.true_and, Bool.and_true, Bool.false_and, Bool.and_false, r137_1, r137_9, L0_5, L0_12, L8, L8z, Nat.le_refl]
    exact ⟨_, _, _, _, rfl, Md_le h (by omega) (by omega)⟩
  | some i =>
    have hi : i < c 5 := kst_lt (c := c) (R := S 7 t) (L := S 8) (v := krch c) (c 5) i hf
    rw [B_138_24]
    simp only [fI]
    simp (disch := omega) only [st_I, st_L, st_R, st_S, st_N, st_C, st_Z, st_X, st_D, st_st, st_sI, st_sIr, st_sL, st_sR, gfI_st, gfL_st, gfR_st, gfN_st, pfI_st, pfL_st, pfR_st, pfZ_st0, pfZ_st1, ldI_st, ldL_st, stoI_st, stoL_st, aln_st, cpA_st, bq_st, bq_S, oI_s, oL_s, oD_s, oV_s, oR_s, oR_n, oI_e, oL_e, oD_e, Option.bind_some, fa_lit, fa_litL, nI_add, pk_mul, nI_m1, nI_lt', nI_le', nI_eq', lc_ge, lc_le, lc_gt, lc_lt, lc_eq, isZ_0, isZ_1, bI_0, bI_z, decide_eq_true_eq, Bool.not_eq_true', Bool.not_true, Bool.not_false, decide_eq_false_iff_not, if_true, if_false, ite_true, ite_false, eq_self, not_true, not_false_eq_true, C_95, C_96, C_97, C_99, C_100, C_102, C_106, C_107, C_109, C_168, C_171, C_172, C_173, C_174, C_175, yu_ne, yu_eq, up_eq, up_ne, yur_ne, yur_eq, yu_uu, y1_eq, y1_ne, y1_y1, Nat.mul_zero, Nat.zero_mul, Nat.add_zero, Nat.zero_add, Nat.mul_one, Nat.one_mul, Nat.reduceEqDiff, Nat.reduceLT, Nat.reduceLeDiff, Nat.reduceAdd, Nat.reduceMul, decide_true, decide_false, cond_true, cond_false, reduceCtorEq, Bool.false_eq_true, Bool.true_eq_false, Bool.true_and, Bool.and_true, Bool.false_and, Bool.and_false, r137_1, r137_9, L0_5, L0_12, L8, L8z, Nat.le_refl, m1_ne, C_124 hs hr hm hc' ht]
    exact K_tell h hc' ht hi
