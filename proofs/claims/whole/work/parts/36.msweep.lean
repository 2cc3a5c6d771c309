/-! ===== the reference's sweep ===== -/
def kpF (k : Nat) (R : Nat → Int32) : Bool := decide (nI k - R 5 ≤ nI 12)
def forgS (s : CS) : CS := let b := cmp (kpF (s.1 6)) (s.2 8) (s.1 5); (u1 s.1 5 b.2, u1 s.2 8 b.1)
theorem cmp_s {kp : (Nat → Int32) → Bool} {T : Nat → Nat → Int32} {i : Nat} : cmp kp T (i + 1) = (bif kp ((cmp kp T i).1 i) then (u1 (cmp kp T i).1 (cmp kp T i).2 ((cmp kp T i).1 i), (cmp kp T i).2 + 1) else cmp kp T i) := rfl
theorem C_148 {m0 μ : mMu} {f : Nat → Nat → Int32} {l : Nat → Nat → Int64} {r : Nat → Nat → Option Nat} {k z : Nat} {c : Nat → Nat} {S : Nat → Nat → Nat → Int32} (h : Md m0 μ f l r k z c S) (hc : CB c) : MV (CALL 148 [.ref 137] (st μ f l r)) m0 k z (forgS (c, S)).1 (forgS (c, S)).2 := by
  have hs := h.1
  have hr := h.2.1
  have h137a : (mS μ 137).1 = 9 := by rw [hs 137 (by decide)]; rfl
  have h138a : (mS μ 138).1 = 20 := by rw [hs 138 (by decide)]; rfl
  have h138b : (mS μ 138).2 = 15 := by rw [hs 138 (by decide)]; rfl
  have h146a : (mS μ 146).1 = 20 := by rw [hs 146 (by decide)]; rfl
  have h146b : (mS μ 146).2 = 420 := by rw [hs 146 (by decide)]; rfl
  have r137_1 : r 137 1 = some 138 := hr 137 1 138 rfl
  have r137_9 : r 137 9 = some 146 := hr 137 9 146 rfl
  have hc' := hc
  obtain ⟨c0, c1, c2, c3, c4, c5, c6, c7, c8, c9, c10, c11, c12, c13, c14⟩ := hc
  unfold forgS
  simp only
  rw [B_148_0]
  simp (disch := omega) only [st_I, st_L, st_R, st_S, st_N, st_C, st_Z, st_X, st_D, st_st, st_sI, st_sIr, st_sL, st_sR, gfI_st, gfL_st, gfR_st, gfN_st, pfI_st, pfL_st, pfR_st, pfZ_st0, pfZ_st1, ldI_st, ldL_st, stoI_st, stoL_st, aln_st, cpA_st, bq_st, bq_S, oI_s, oL_s, oD_s, oV_s, oR_s, oR_n, oI_e, oL_e, oD_e, Option.bind_some, fa_lit, fa_litL, nI_add, pk_mul, nI_m1, nI_lt', nI_le', nI_eq', lc_ge, lc_le, lc_gt, lc_lt, lc_eq, isZ_0, isZ_1, bI_0, bI_z, decide_eq_true_eq, Bool.not_eq_true', Bool.not_true, Bool.not_false, decide_eq_false_iff_not, if_true, if_false, ite_true, ite_false, eq_self, not_true, not_false_eq_true, C_95, C_96, C_97, C_99, C_100, C_102, C_106, C_107, C_109, C_168, C_171, C_172, C_173, C_174, C_175, yu_ne, yu_eq, up_eq, up_ne, yur_ne, yur_eq, yu_uu, y1_eq, y1_ne, y1_y1, Nat.mul_zero, Nat.zero_mul, Nat.add_zero, Nat.zero_add, Nat.mul_one, Nat.one_mul, Nat.reduceEqDiff, Nat.reduceLT, Nat.reduceLeDiff, Nat.reduceAdd, Nat.reduceMul, decide_true, decide_false, cond_true, cond_false, reduceCtorEq, Bool.false_eq_true, Bool.true_eq_false, Bool.true_and, Bool.and_true, Bool.false_and, Bool.and_false, r137_1, r137_9]
  refine loopP (fun i o => ∃ f', o = RUN 148 4 [some (.ref 137), some (.int (nI (cmp (kpF (c 6)) (S 8) i).2)), some (.int (nI i))] [] (st μ f' l r) ∧ Md m0 μ f' l r k z c (u1 S 8 (cmp (kpF (c 6)) (S 8) i).1)) (fun o => MV o m0 k z (u1 c 5 (cmp (kpF (c 6)) (S 8) (c 5)).2) (u1 S 8 (cmp (kpF (c 6)) (S 8) (c 5)).1)) (c 5) ?_ ?_ 0 _ (Nat.zero_le _) ⟨f, rfl, ?_⟩
  · rintro o ⟨f', rfl, h'⟩
    have L5 : f' 138 5 = nI (c 5) := h'.2.2.2.2.1 5 (by decide)
    rw [B_148_4]
    simp (disch := omega) only [st_I, st_L, st_R, st_S, st_N, st_C, st_Z, st_X, st_D, st_st, st_sI, st_sIr, st_sL, st_sR, gfI_st, gfL_st, gfR_st, gfN_st, pfI_st, pfL_st, pfR_st, pfZ_st0, pfZ_st1, ldI_st, ldL_st, stoI_st, stoL_st, aln_st, cpA_st, bq_st, bq_S, oI_s, oL_s, oD_s, oV_s, oR_s, oR_n, oI_e, oL_e, oD_e, Option.bind_some, fa_lit, fa_litL, nI_add, pk_mul, nI_m1, nI_lt', nI_le', nI_eq', lc_ge, lc_le, lc_gt, lc_lt, lc_eq, isZ_0, isZ_1, bI_0, bI_z, decide_eq_true_eq, Bool.not_eq_true', Bool.not_true, Bool.not_false, decide_eq_false_iff_not, if_true, if_false, ite_true, ite_false, eq_self, not_true, not_false_eq_true, C_95, C_96, C_97, C_99, C_100, C_102, C_106, C_107, C_109, C_168, C_171, C_172, C_173, C_174, C_175, yu_ne, yu_eq, up_eq, up_ne, yur_ne, yur_eq, yu_uu, y1_eq, y1_ne, y1_y1, Nat.mul_zero, Nat.zero_mul, Nat.add_zero, Nat.zero_add, Nat.mul_one, Nat.one_mul, Nat.reduceEqDiff, Nat.reduceLT, Nat.reduceLeDiff, Nat.reduceAdd, Nat.reduceMul, decide_true, decide_false, cond_true, cond_false, reduceCtorEq, Bool.false_eq_true, Bool.true_eq_false, Bool.true_and, Bool.and_true, Bool.false_and, Bool.and_false, r137_1, r137_9, L5, Nat.le_refl]
    exact ⟨_, _, _, _, rfl, Md_f h' (fun a ha => yu_ne (by omega)) (MR_c h'.2.2.2.2)⟩
  · rintro i o hi ⟨f', rfl, h'⟩
    have hi' : ¬ c 5 ≤ i := by omega
    have hi60 : i < 60 := by omega
    have L5 : f' 138 5 = nI (c 5) := h'.2.2.2.2.1 5 (by decide)
    have L6 : f' 138 6 = nI (c 6) := h'.2.2.2.2.1 6 (by decide)
    have hcm := cmp_le (kp := kpF (c 6)) (T := S 8) i
    rw [cmp_s]
    generalize cmp (kpF (c 6)) (S 8) i = q at h' hcm ⊢
    obtain ⟨T, lf⟩ := q
    simp only at h' hcm ⊢
    have h8 : MRr (f' 146) 60 7 T := by
      have := h'.2.2.2.2.2.2.2.2.2.2.2.2.1
      rw [y1_eq] at this
      exact this
    have L85 : f' 146 (7 * i + 5) = T i 5 := h8 i 5 hi60 (by decide)
    right
    rw [B_148_4]
    simp (disch := omega) only [st_I, st_L, st_R, st_S, st_N, st_C, st_Z, st_X, st_D, st_st, st_sI, st_sIr, st_sL, st_sR, gfI_st, gfL_st, gfR_st, gfN_st, pfI_st, pfL_st, pfR_st, pfZ_st0, pfZ_st1, ldI_st, ldL_st, stoI_st, stoL_st, aln_st, cpA_st, bq_st, bq_S, oI_s, oL_s, oD_s, oV_s, oR_s, oR_n, oI_e, oL_e, oD_e, Option.bind_some, fa_lit, fa_litL, nI_add, pk_mul, nI_m1, nI_lt', nI_le', nI_eq', lc_ge, lc_le, lc_gt, lc_lt, lc_eq, isZ_0, isZ_1, bI_0, bI_z, decide_eq_true_eq, Bool.not_eq_true', Bool.not_true, Bool.not_false, decide_eq_false_iff_not, if_true, if_false, ite_true, ite_false, eq_self, not_true, not_false_eq_true, C_95, C_96, C_97, C_99, C_100, C_102, C_106, C_107, C_109, C_168, C_171, C_172, C_173, C_174, C_175, yu_ne, yu_eq, up_eq, up_ne, yur_ne, yur_eq, yu_uu, y1_eq, y1_ne, y1_y1, Nat.mul_zero, Nat.zero_mul, Nat.add_zero, Nat.zero_add, Nat.mul_one, Nat.one_mul, Nat.reduceEqDiff, Nat.reduceLT, Nat.reduceLeDiff, Nat.reduceAdd, Nat.reduceMul, decide_true, decide_false, cond_true, cond_false, reduceCtorEq, Bool.false_eq_true, Bool.true_eq_false, Bool.true_and, Bool.and_true, Bool.false_and, Bool.and_false, r137_1, r137_9, L5, hi', L6, L85]
    unfold kpF
    by_cases q : nI (c 6) - T i 5 ≤ nI 12
    · simp (disch := omega) only [st_I, st_L, st_R, st_S, st_N, st_C, st_Z, st_X, st_D, st_st, st_sI, st_sIr, st_sL, st_sR, gfI_st, gfL_st, gfR_st, gfN_st, pfI_st, pfL_st, pfR_st, pfZ_st0, pfZ_st1, ldI_st, ldL_st, stoI_st, stoL_st, aln_st, cpA_st, bq_st, bq_S, oI_s, oL_s, oD_s, oV_s, oR_s, oR_n, oI_e, oL_e, oD_e, Option.bind_some, fa_lit, fa_litL, nI_add, pk_mul, nI_m1, nI_lt', nI_le', nI_eq', lc_ge, lc_le, lc_gt, lc_lt, lc_eq, isZ_0, isZ_1, bI_0, bI_z, decide_eq_true_eq, Bool.not_eq_true', Bool.not_true, Bool.not_false, decide_eq_false_iff_not, if_true, if_false, ite_true, ite_false, eq_self, not_true, not_false_eq_true, C_95, C_96, C_97, C_99, C_100, C_102, C_106, C_107, C_109, C_168, C_171, C_172, C_173, C_174, C_175, yu_ne, yu_eq, up_eq, up_ne, yur_ne, yur_eq, yu_uu, y1_eq, y1_ne, y1_y1, Nat.mul_zero, Nat.zero_mul, Nat.add_zero, Nat.zero_add, Nat.mul_one, Nat.one_mul, Nat.reduceEqDiff, Nat.reduceLT, Nat.reduceLeDiff, Nat.reduceAdd, Nat.reduceMul, decide_true, decide_false, cond_true, cond_false, reduceCtorEq, Bool.false_eq_true, Bool.true_eq_false, Bool.true_and, Bool.and_true, Bool.false_and, Bool.and_false, r137_1, r137_9, q]
      have h9 := MRr_8 h'.2.2.2.2 (MRr_mv (i := i) (d := lf) h8 hi60)
      rw [y1_y1] at h9
      exact ⟨_, rfl, Md_f h' (fun a ha => yur_ne (by omega)) h9⟩
    · simp (disch := omega) only [st_I, st_L, st_R, st_S, st_N, st_C, st_Z, st_X, st_D, st_st, st_sI, st_sIr, st_sL, st_sR, gfI_st, gfL_st, gfR_st, gfN_st, pfI_st, pfL_st, pfR_st, pfZ_st0, pfZ_st1, ldI_st, ldL_st, stoI_st, stoL_st, aln_st, cpA_st, bq_st, bq_S, oI_s, oL_s, oD_s, oV_s, oR_s, oR_n, oI_e, oL_e, oD_e, Option.bind_some, fa_lit, fa_litL, nI_add, pk_mul, nI_m1, nI_lt', nI_le', nI_eq', lc_ge, lc_le, lc_gt, lc_lt, lc_eq, isZ_0, isZ_1, bI_0, bI_z, decide_eq_true_eq, Bool.not_eq_true', Bool.not_true, Bool.not_false, decide_eq_false_iff_not, if_true, if_false, ite_true, ite_false, eq_self, not_true, not_false_eq_true, C_95, C_96, C_97, C_99, C_100, C_102, C_106, C_107, C_109, C_168, C_171, C_172, C_173, C_174, C_175, yu_ne, yu_eq, up_eq, up_ne, yur_ne, yur_eq, yu_uu, y1_eq, y1_ne, y1_y1, Nat.mul_zero, Nat.zero_mul, Nat.add_zero, Nat.zero_add, Nat.mul_one, Nat.one_mul, Nat.reduceEqDiff, Nat.reduceLT, Nat.reduceLeDiff, Nat.reduceAdd, Nat.reduceMul, decide_true, decide_false, cond_true, cond_false, reduceCtorEq, Bool.false_eq_true, Bool.true_eq_false, Bool.true_and, Bool.and_true, Bool.false_and, Bool.and_false, r137_1, r137_9, q]
      exact ⟨_, rfl, h'⟩
  · have e : (cmp (kpF (c 6)) (S 8) 0).1 = S 8 := rfl
    rw [e, y1_id]
    exact h
def knw (t : Nat) (s : CS) : CS := if s.2 7 t 12 = nI 1 then kns t s else s
theorem kns_c {t : Nat} {s : CS} : (∀ q, q ≠ 5 → q ≠ 8 → (kns t s).1 q = s.1 q) ∧ (kns t s).1 8 ≤ s.1 8 + 1 ∧ (kns t s).1 5 ≤ s.1 5 := by
  unfold kns
  cases kfnd s.1 (s.2 7 t) (s.2 8) with
  | none => exact ⟨fun _ _ _ => rfl, Nat.le_succ _, Nat.le_refl _⟩
  | some i =>
    refine ⟨fun q h5 h8 => ?_, ?_, ?_⟩
    · show u1 (noteC s.1) 5 (s.1 5 - 1) q = s.1 q
      rw [y1_ne h5, noteC_j h8]
    · show u1 (noteC s.1) 5 (s.1 5 - 1) 8 ≤ s.1 8 + 1
      rw [y1_ne (by decide), noteC_8]
      exact Nat.le_refl _
    · show u1 (noteC s.1) 5 (s.1 5 - 1) 5 ≤ s.1 5
      rw [y1_eq]
      omega
theorem knw_c {t : Nat} {s : CS} : (∀ q, q ≠ 5 → q ≠ 8 → (knw t s).1 q = s.1 q) ∧ (knw t s).1 8 ≤ s.1 8 + 1 ∧ (knw t s).1 5 ≤ s.1 5 := by
  unfold knw
  split
  · exact kns_c
  · exact ⟨fun _ _ _ => rfl, Nat.le_succ _, Nat.le_refl _⟩
theorem knws_c {s : CS} : ∀ n, (∀ q, q ≠ 5 → q ≠ 8 → (itr knw n s).1 q = s.1 q) ∧ (itr knw n s).1 8 ≤ s.1 8 + n ∧ (itr knw n s).1 5 ≤ s.1 5
  | 0 => ⟨fun _ _ _ => rfl, Nat.le_refl _, Nat.le_refl _⟩
  | n + 1 => by
    obtain ⟨h1, h2, h3⟩ := knws_c (s := s) n
    obtain ⟨g1, g2, g3⟩ := knw_c (t := n) (s := itr knw n s)
    rw [itr_s']
    exact ⟨fun q h5 h8 => (g1 q h5 h8).trans (h1 q h5 h8), by omega, by omega⟩
/-- a track's path -/
def pe (R : Nat → Int32) : Nat → Int32 := up (up (up (fun w => if 16 ≤ w ∧ w < 38 then R (w - 2) else R w) 14 (R 1)) 15 (R 2)) 12 (nI 0)
def swS (dt : Int32) (c : Nat → Nat) (S : Nat → Nat → Nat → Int32) : JS × CS :=
  let c1 := u1 c 7 (c 7 + ix dt)
  let J := join c1 (u1 S 7 (upn (c 4) (fun _ => e1 dt) (S 7)))
  (J, move dt (c1, J.1))
def sw2 (s : CS) : CS :=
  let s4 := begin' s
  let s5 := itr knw (s4.1 4) s4
  look (s5.1, u1 s5.2 7 (sortT (s5.1 4) (s5.2 7)))
def sw3 (s : CS) : CS :=
  let s9 := forgS (u1 s.1 6 (s.1 6 + 1), u1 s.2 7 (upn (s.1 4) (fun _ => pe) (s.2 7)))
  (u1 (u1 s9.1 10 (s9.1 3)) 3 0, u1 s9.2 6 (fun k => if k < s9.1 3 then s9.2 5 k else s9.2 6 k))
def s_sweep (dt : Int32) (c : Nat → Nat) (S : Nat → Nat → Nat → Int32) : Sp := bif wi dt (nI 1) (nI 60) then (if c 6 = 500 then (nI 0, nI 2, c, S) else (nI (pop (swS dt c S).1.2), nI 0, sw3 (sw2 (swS dt c S).2))) else (nI 0, nI 1, c, S)
theorem S_end {m0 μ : mMu} {f : Nat → Nat → Int32} {l : Nat → Nat → Int64} {r : Nat → Nat → Option Nat} {k z : Nat} {c : Nat → Nat} {S : Nat → Nat → Nat → Int32} {o1 : Option Value} {v : Int32} (h : Md m0 μ f l r k z c S) (hc : CB c) (h6 : c 6 < 500) : MI (RUN 147 114 [some (.ref 137), o1, some (.int v), some (.int (nI 0))] [] (st μ f l r)) m0 k z v (sw3 (c, S)).1 (sw3 (c, S)).2 := by
  have hs := h.1
  have hr := h.2.1
  have h137a : (mS μ 137).1 = 9 := by rw [hs 137 (by decide)]; rfl
  have h138a : (mS μ 138).1 = 20 := by rw [hs 138 (by decide)]; rfl
  have h138b : (mS μ 138).2 = 15 := by rw [hs 138 (by decide)]; rfl
  have h143a : (mS μ 143).1 = 20 := by rw [hs 143 (by decide)]; rfl
  have h143b : (mS μ 143).2 = 50 := by rw [hs 143 (by decide)]; rfl
  have h144a : (mS μ 144).1 = 20 := by rw [hs 144 (by decide)]; rfl
  have h144b : (mS μ 144).2 = 50 := by rw [hs 144 (by decide)]; rfl
  have h145a : (mS μ 145).1 = 20 := by rw [hs 145 (by decide)]; rfl
  have h145b : (mS μ 145).2 = 380 := by rw [hs 145 (by decide)]; rfl
  have r137_1 : r 137 1 = some 138 := hr 137 1 138 rfl
  have r137_6 : r 137 6 = some 143 := hr 137 6 143 rfl
  have r137_7 : r 137 7 = some 144 := hr 137 7 144 rfl
  have r137_8 : r 137 8 = some 145 := hr 137 8 145 rfl
  have hc' := hc
  obtain ⟨c0, c1, c2, c3, c4, c5, c6, c7, c8, c9, c10, c11, c12, c13, c14⟩ := hc
  refine loopP (fun i o => ∃ f', o = RUN 147 114 [some (.ref 137), o1, some (.int v), some (.int (nI i))] [] (st μ f' l r) ∧ Md m0 μ f' l r k z c (u1 S 7 (upn i (fun _ => pe) (S 7)))) (fun o => MI o m0 k z v (sw3 (c, S)).1 (sw3 (c, S)).2) (c 4) ?_ ?_ 0 _ (Nat.zero_le _) ⟨f, rfl, by rw [upn_0, y1_id]; exact h⟩
  · rintro o ⟨f', rfl, h'⟩
    have L4 : f' 138 4 = nI (c 4) := h'.2.2.2.2.1 4 (by decide)
    have L6 : f' 138 6 = nI (c 6) := h'.2.2.2.2.1 6 (by decide)
    have h2 : Md m0 μ (u2 f' 138 6 (nI (c 6 + 1))) l r k z (u1 c 6 (c 6 + 1)) (u1 S 7 (upn (c 4) (fun _ => pe) (S 7))) := Md_f h' (fun a ha => yu_ne (by omega)) (MR_c h'.2.2.2.2)
    have hc2 : CB (u1 c 6 (c 6 + 1)) := by
      unfold CB
      refine ⟨?_, ?_, ?_, ?_, ?_, ?_, ?_, ?_, ?_, ?_, ?_, ?_, ?_, ?_, ?_⟩ <;> simp only [y1_eq, y1_ne (show (0 : Nat) ≠ 6 by decide), y1_ne (show (1 : Nat) ≠ 6 by decide), y1_ne (show (2 : Nat) ≠ 6 by decide), y1_ne (show (3 : Nat) ≠ 6 by decide), y1_ne (show (4 : Nat) ≠ 6 by decide), y1_ne (show (5 : Nat) ≠ 6 by decide), y1_ne (show (7 : Nat) ≠ 6 by decide), y1_ne (show (8 : Nat) ≠ 6 by decide), y1_ne (show (9 : Nat) ≠ 6 by decide), y1_ne (show (10 : Nat) ≠ 6 by decide), y1_ne (show (11 : Nat) ≠ 6 by decide), y1_ne (show (12 : Nat) ≠ 6 by decide), y1_ne (show (13 : Nat) ≠ 6 by decide), y1_ne (show (14 : Nat) ≠ 6 by decide)] <;> omega
    obtain ⟨μ3, f3, l3, r3, q3, h3⟩ := C_148 h2 hc2
    rw [B_147_114]
    simp (disch := omega) only [st_I, st_L, st_R, st_S, st_N, st_C, st_Z, st_X, st_D, st_st, st_sI, st_sIr, st_sL, st_sR, gfI_st, gfL_st, gfR_st, gfN_st, pfI_st, pfL_st, pfR_st, pfZ_st0, pfZ_st1, ldI_st, ldL_st, stoI_st, stoL_st, aln_st, cpA_st, bq_st, bq_S, oI_s, oL_s, oD_s, oV_s, oR_s, oR_n, oI_e, oL_e, oD_e, Option.bind_some, fa_lit, fa_litL, nI_add, pk_mul, nI_m1, nI_lt', nI_le', nI_eq', lc_ge, lc_le, lc_gt, lc_lt, lc_eq, isZ_0, isZ_1, bI_0, bI_z, decide_eq_true_eq, Bool.not_eq_true', Bool.not_true, Bool.not_false, decide_eq_false_iff_not, if_true, if_false, ite_true, ite_false, eq_self, not_true, not_false_eq_true, C_95, C_96, C_97, C_99, C_100, C_102, C_106, C_107, C_109, C_168, C_171, C_172, C_173, C_174, C_175, yu_ne, yu_eq, up_eq, up_ne, yur_ne, yur_eq, yu_uu, y1_eq, y1_ne, y1_y1, Nat.mul_zero, Nat.zero_mul, Nat.add_zero, Nat.zero_add, Nat.mul_one, Nat.one_mul, Nat.reduceEqDiff, Nat.reduceLT, Nat.reduceLeDiff, Nat.reduceAdd, Nat.reduceMul, decide_true, decide_false, cond_true, cond_false, reduceCtorEq, Bool.false_eq_true, Bool.true_eq_false, Bool.true_and, Bool.and_true, Bool.false_and, Bool.and_false, r137_1, r137_6, r137_7, r137_8, L4, L6, Nat.le_refl, q3]
    have e9 : forgS (u1 c 6 (c 6 + 1), u1 S 7 (upn (c 4) (fun _ => pe) (S 7))) = forgS (u1 (c, S).1 6 ((c, S).1 6 + 1), u1 (c, S).2 7 (upn ((c, S).1 4) (fun _ => pe) ((c, S).2 7))) := rfl
    have e3 : (forgS (u1 c 6 (c 6 + 1), u1 S 7 (upn (c 4) (fun _ => pe) (S 7)))).1 3 = c 3 := by
      unfold forgS
      simp only
      rw [y1_ne (by decide), y1_ne (by decide)]
    unfold sw3
    simp only
    rw [e9] at e3 h3
    generalize forgS (u1 (c, S).1 6 ((c, S).1 6 + 1), u1 (c, S).2 7 (upn ((c, S).1 4) (fun _ => pe) ((c, S).2 7))) = s9 at h3 e3
    obtain ⟨c9, S9⟩ := s9
    simp only at h3 e3 ⊢
    have h137na : (mS μ3 137).1 = 9 := by rw [h3.1 137 (by decide)]; rfl
    have h138na : (mS μ3 138).1 = 20 := by rw [h3.1 138 (by decide)]; rfl
    have h138nb : (mS μ3 138).2 = 15 := by rw [h3.1 138 (by decide)]; rfl
    have h143na : (mS μ3 143).1 = 20 := by rw [h3.1 143 (by decide)]; rfl
    have h143nb : (mS μ3 143).2 = 50 := by rw [h3.1 143 (by decide)]; rfl
    have h144na : (mS μ3 144).1 = 20 := by rw [h3.1 144 (by decide)]; rfl
    have h144nb : (mS μ3 144).2 = 50 := by rw [h3.1 144 (by decide)]; rfl
    have r1 : r3 137 1 = some 138 := h3.2.1 137 1 138 rfl
    have r6 : r3 137 6 = some 143 := h3.2.1 137 6 143 rfl
    have r7 : r3 137 7 = some 144 := h3.2.1 137 7 144 rfl
    have L3 : f3 138 3 = nI (c9 3) := h3.2.2.2.2.1 3 (by decide)
    have hcp : cpA (st μ3 f3 l3 r3) 143 (nI 0) 144 (nI 0) (nI (5 * c9 3)) = some (st μ3 (u2r f3 144 (cpF (f3 143) (f3 144) (5 * 0) (5 * 0) (5 * c9 3))) l3 r3) := cpA_st (by omega) (by omega) (by omega) (by omega) (by omega) (by omega)
    simp (disch := omega) only [st_I, st_L, st_R, st_S, st_N, st_C, st_Z, st_X, st_D, st_st, st_sI, st_sIr, st_sL, st_sR, gfI_st, gfL_st, gfR_st, gfN_st, pfI_st, pfL_st, pfR_st, pfZ_st0, pfZ_st1, ldI_st, ldL_st, stoI_st, stoL_st, aln_st, cpA_st, bq_st, bq_S, oI_s, oL_s, oD_s, oV_s, oR_s, oR_n, oI_e, oL_e, oD_e, Option.bind_some, fa_lit, fa_litL, nI_add, pk_mul, nI_m1, nI_lt', nI_le', nI_eq', lc_ge, lc_le, lc_gt, lc_lt, lc_eq, isZ_0, isZ_1, bI_0, bI_z, decide_eq_true_eq, Bool.not_eq_true', Bool.not_true, Bool.not_false, decide_eq_false_iff_not, if_true, if_false, ite_true, ite_false, eq_self, not_true, not_false_eq_true, C_95, C_96, C_97, C_99, C_100, C_102, C_106, C_107, C_109, C_168, C_171, C_172, C_173, C_174, C_175, yu_ne, yu_eq, up_eq, up_ne, yur_ne, yur_eq, yu_uu, y1_eq, y1_ne, y1_y1, Nat.mul_zero, Nat.zero_mul, Nat.add_zero, Nat.zero_add, Nat.mul_one, Nat.one_mul, Nat.reduceEqDiff, Nat.reduceLT, Nat.reduceLeDiff, Nat.reduceAdd, Nat.reduceMul, decide_true, decide_false, cond_true, cond_false, reduceCtorEq, Bool.false_eq_true, Bool.true_eq_false, Bool.true_and, Bool.and_true, Bool.false_and, Bool.and_false, r137_1, r137_6, r137_7, r137_8, r1, r6, r7, L3, hcp]
    have g5 : MRr (f3 143) 10 5 (S9 5) := h3.2.2.2.2.2.2.2.2.2.1
    have g6 : MRr (f3 144) 10 5 (S9 6) := h3.2.2.2.2.2.2.2.2.2.2.1
    have g7 := MRr_6 h3.2.2.2.2 (MRr_ext (MRr_cp (s := 0) (d := 0) (k := c9 3) g5 g6 (by omega)) (T' := fun k => if k < c9 3 then S9 5 k else S9 6 k) (fun i j hi hj => by
      show (if 0 ≤ i ∧ i < 0 + c9 3 then S9 5 (0 + (i - 0)) else S9 6 i) j = (if i < c9 3 then S9 5 i else S9 6 i) j
      by_cases q : i < c9 3
      · rw [if_pos (by omega), if_pos q]
        have : 0 + (i - 0) = i := by omega
        rw [this]
      · rw [if_neg (by omega), if_neg q]))
    exact ⟨_, _, _, _, rfl, Md_f h3 (fun a ha => by simp (disch := omega) only [st_I, st_L, st_R, st_S, st_N, st_C, st_Z, st_X, st_D, st_st, st_sI, st_sIr, st_sL, st_sR, gfI_st, gfL_st, gfR_st, gfN_st, pfI_st, pfL_st, pfR_st, pfZ_st0, pfZ_st1, ldI_st, ldL_st, stoI_st, stoL_st, aln_st, cpA_st, bq_st, bq_S, oI_s, oL_s, oD_s, oV_s, oR_s, oR_n, oI_e, oL_e, oD_e, Option.bind_some, fa_lit, fa_litL, nI_add, pk_mul, nI_m1, nI_lt', nI_le', nI_eq', lc_ge, lc_le, lc_gt, lc_lt, lc_eq, isZ_0, isZ_1, bI_0, bI_z, decide_eq_true_eq, Bool.not_eq_true', Bool.not_true, Bool.not_false, decide_eq_false_iff_not, if_true, if_false, ite_true, ite_false, eq_self, not_true, not_false_eq_true, C_95, C_96, C_97, C_99, C_100, C_102, C_106, C_107, C_109, C_168, C_171, C_172, C_173, C_174, C_175, yu_ne, yu_eq, up_eq, up_ne, yur_ne, yur_eq, yu_uu, y1_eq, y1_ne, y1_y1, Nat.mul_zero, Nat.zero_mul, Nat.add_zero, Nat.zero_add, Nat.mul_one, Nat.one_mul, Nat.reduceEqDiff, Nat.reduceLT, Nat.reduceLeDiff, Nat.reduceAdd, Nat.reduceMul, decide_true, decide_false, cond_true, cond_false, reduceCtorEq, Bool.false_eq_true, Bool.true_eq_false, Bool.true_and, Bool.and_true, Bool.false_and, Bool.and_false, r137_1, r137_6, r137_7, r137_8]) (MR_c (MR_c g7))⟩
  · rintro i o hi ⟨f', rfl, h'⟩
    have hi' : ¬ c 4 ≤ i := by omega
    have hi10 : i < 10 := by omega
    have L4 : f' 138 4 = nI (c 4) := h'.2.2.2.2.1 4 (by decide)
    have g7 : MRr (f' 145) 10 38 (upn i (fun _ => pe) (S 7)) := by
      have := h'.2.2.2.2.2.2.2.2.2.2.2.1
      rw [y1_eq] at this
      exact this
    have hat : upn i (fun _ => pe) (S 7) i = S 7 i := upn_at (Nat.le_refl i)
    have g8 : MRr (cpF (f' 145) (f' 145) (38 * i + 14) (38 * i + 14 + 2) 22) 10 38 (u1 (upn i (fun _ => pe) (S 7)) i (fun w => if 16 ≤ w ∧ w < 38 then S 7 i (w - 2) else S 7 i w)) := by
      intro a b ha hb
      unfold cpF u1
      by_cases q : a = i
      · subst q
        rw [if_pos rfl]
        by_cases q2 : 16 ≤ b ∧ b < 38
        · have e : 38 * a + 14 + (38 * a + b - (38 * a + 14 + 2)) = 38 * a + (b - 2) := by omega
          rw [if_pos (by omega), if_pos q2, e, g7 a (b - 2) ha (by omega), hat]
        · rw [if_neg (by omega), if_neg q2, g7 a b ha hb, hat]
      · rw [if_neg q, if_neg (by omega)]
        exact g7 a b ha hb
    have h2 : Md m0 μ (u2r f' 145 (cpF (f' 145) (f' 145) (38 * i + 14) (38 * i + 14 + 2) 22)) l r k z c (u1 S 7 (u1 (upn i (fun _ => pe) (S 7)) i (fun w => if 16 ≤ w ∧ w < 38 then S 7 i (w - 2) else S 7 i w))) := Md_7 h' (fun a h1 h2 => yur_ne h1) (by rw [yur_eq]; exact g8)
    obtain ⟨f3, q3, h3⟩ := sR_e (w := 14) (v := S 7 i 1) h2 hi10 (by decide)
    obtain ⟨f4, q4, h4⟩ := sR_e (w := 15) (v := S 7 i 2) h3 hi10 (by decide)
    obtain ⟨f5, q5, h5⟩ := sR_e (w := 12) (v := nI 0) h4 hi10 (by decide)
    have e1 : (if 16 ≤ 1 ∧ 1 < 38 then S 7 i (1 - 2) else S 7 i 1) = S 7 i 1 := if_neg (by omega)
    have e2 : (if 16 ≤ 2 ∧ 2 < 38 then S 7 i (2 - 2) else S 7 i 2) = S 7 i 2 := if_neg (by omega)
    right
    have x1 := gR (w := 1) h2 hi10 (by decide)
    have x2 := gR (w := 2) h3 hi10 (by decide)
    simp only [up_ne (show (2 : Nat) ≠ 14 by decide), e1, e2] at x1 x2
    rw [B_147_114, upn_s]
    simp (disch := omega) only [st_I, st_L, st_R, st_S, st_N, st_C, st_Z, st_X, st_D, st_st, st_sI, st_sIr, st_sL, st_sR, gfI_st, gfL_st, gfR_st, gfN_st, pfI_st, pfL_st, pfR_st, pfZ_st0, pfZ_st1, ldI_st, ldL_st, stoI_st, stoL_st, aln_st, cpA_st, bq_st, bq_S, oI_s, oL_s, oD_s, oV_s, oR_s, oR_n, oI_e, oL_e, oD_e, Option.bind_some, fa_lit, fa_litL, nI_add, pk_mul, nI_m1, nI_lt', nI_le', nI_eq', lc_ge, lc_le, lc_gt, lc_lt, lc_eq, isZ_0, isZ_1, bI_0, bI_z, decide_eq_true_eq, Bool.not_eq_true', Bool.not_true, Bool.not_false, decide_eq_false_iff_not, if_true, if_false, ite_true, ite_false, eq_self, not_true, not_false_eq_true, C_95, C_96, C_97, C_99, C_100, C_102, C_106, C_107, C_109, C_168, C_171, C_172, C_173, C_174, C_175, yu_ne, yu_eq, up_eq, up_ne, yur_ne, yur_eq, yu_uu, y1_eq, y1_ne, y1_y1, Nat.mul_zero, Nat.zero_mul, Nat.add_zero, Nat.zero_add, Nat.mul_one, Nat.one_mul, Nat.reduceEqDiff, Nat.reduceLT, Nat.reduceLeDiff, Nat.reduceAdd, Nat.reduceMul, decide_true, decide_false, cond_true, cond_false, reduceCtorEq, Bool.false_eq_true, Bool.true_eq_false, Bool.true_and, Bool.and_true, Bool.false_and, Bool.and_false, r137_1, r137_6, r137_7, r137_8, L4, hi', x1, q3, x2, q4, q5]
    exact ⟨_, rfl, h5⟩
