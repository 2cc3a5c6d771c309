/-! ===== 3., 4., 5. the reference: all tracks, fields, new tracks ===== -/
theorem sR_e {m0 μ : mMu} {f : Nat → Nat → Int32} {l : Nat → Nat → Int64} {r : Nat → Nat → Option Nat} {k z : Nat} {c : Nat → Nat} {S : Nat → Nat → Nat → Int32} {T : Nat → Nat → Int32} {t w : Nat} {R : Nat → Int32} {v : Int32} (h : Md m0 μ f l r k z c (u1 S 7 (u1 T t R))) (ht : t < 10) (hw : w < 38) :
    ∃ f', CALL 125 [.ref 137, .int (nI t), .int (nI w), .int v] (st μ f l r) = some (.inl none, st μ f' l r) ∧ Md m0 μ f' l r k z c (u1 S 7 (u1 T t (up R w v))) := by
  have h2 := MRu_7 (i := t) (j := w) (v := v) h.2.2.2.2 hw
  rw [y1_eq, y1_eq, y1_y1, y1_y1] at h2
  exact ⟨_, C_125 h.1 h.2.1 ht hw, Md_f h (fun a ha => yu_ne (by omega)) h2⟩
theorem Md_foc {m0 μ : mMu} {f : Nat → Nat → Int32} {l : Nat → Nat → Int64} {r : Nat → Nat → Option Nat} {k z : Nat} {c : Nat → Nat} {S : Nat → Nat → Nat → Int32} (t : Nat) (h : Md m0 μ f l r k z c S) : Md m0 μ f l r k z c (u1 S 7 (u1 (S 7) t (S 7 t))) := by
  rw [y1_id, y1_id]; exact h
theorem Md_ext {m0 μ : mMu} {f : Nat → Nat → Int32} {l : Nat → Nat → Int64} {r : Nat → Nat → Option Nat} {k z : Nat} {c : Nat → Nat} {S : Nat → Nat → Nat → Int32} {T : Nat → Nat → Int32} {t : Nat} {R R' : Nat → Int32} (h : Md m0 μ f l r k z c (u1 S 7 (u1 T t R))) (e : ∀ w, w < 38 → R w = R' w) : Md m0 μ f l r k z c (u1 S 7 (u1 T t R')) := by
  have h7 := h.2.2.2.2.2.2.2.2.2.2.2.1
  rw [y1_eq] at h7
  have h8 := MR_7 h.2.2.2.2 (f' := f) (fun _ _ _ _ => rfl) (T := u1 T t R') (MRr_ext h7 fun i j hi hj => by
    unfold u1
    by_cases q : i = t
    · simp [q, e j hj]
    · simp [q])
  rw [y1_y1] at h8
  exact ⟨h.1, h.2.1, h.2.2.1, h.2.2.2.1, h8⟩
theorem MRr_mv {g : Nat → Int32} {n w i d : Nat} {T : Nat → Nat → Int32} (h : MRr g n w T) (hi : i < n) : MRr (cpF g g (w * i) (w * d) w) n w (u1 T d (T i)) := by
  have h2 := MRr_cp (s := i) (d := d) (k := 1) h h (by omega)
  rw [Nat.mul_one] at h2
  refine MRr_ext h2 fun a b ha hb => ?_
  unfold u1
  by_cases q : a = d
  · subst q; simp
  · have : ¬ (d ≤ a ∧ a < d + 1) := by omega
    simp [q, this]
theorem C_135 {m0 μ : mMu} {f : Nat → Nat → Int32} {l : Nat → Nat → Int64} {r : Nat → Nat → Option Nat} {k z : Nat} {c : Nat → Nat} {S : Nat → Nat → Nat → Int32} {dt : Int32} (h : Md m0 μ f l r k z c S) (hc : CB c) (h8 : c 8 + 10 ≤ 1000000) (hd : (2 : Int64) * dt.toInt64 ≠ 0) (hb : ∀ t, t < c 4 → S 7 t 13 ≠ -nI 1 → ∃ b, b < 10 ∧ S 7 t 13 = nI b) (hL : ∀ i, i ≤ c 4 → (itr (mv1 dt) i (c, S)).1 5 ≤ 59) :
    MV (CALL 135 [.ref 137, .int dt] (st μ f l r)) m0 (k + 20) (z + 110) (move dt (c, S)).1 (move dt (c, S)).2 := by
  have hc' := hc
  obtain ⟨c0, c1, c2, c3, c4, c5, c6, c7, c8, c9, c10, c11, c12, c13, c14⟩ := hc
  have h10 : (itr (mv1 dt) (c 4) (c, S)).1 4 = c 4 := (mvs_c (dt := dt) (s := (c, S)) (c 4)).1 4 (by decide) (by decide)
  rw [B_135_0]
  refine loopP (fun i o => ∃ μ f l r o3, o = RUN 135 2 [some (.ref 137), some (.int dt), some (.int (nI i)), o3] [] (st μ f l r) ∧ Md m0 μ f l r (k + 2 * i) (z + 11 * i) (itr (mv1 dt) i (c, S)).1 (itr (mv1 dt) i (c, S)).2) (fun o => MV o m0 (k + 20) (z + 110) (move dt (c, S)).1 (move dt (c, S)).2) (c 4) ?_ ?_ 0 _ (Nat.zero_le _) ⟨μ, f, l, r, _, rfl, h⟩
  · rintro o ⟨μ, f, l, r, o3, rfl, h⟩
    have hs := h.1
    have hr := h.2.1
    have h137a : (mS μ 137).1 = 9 := by rw [hs 137 (by decide)]; rfl
    have h138a : (mS μ 138).1 = 20 := by rw [hs 138 (by decide)]; rfl
    have h138b : (mS μ 138).2 = 15 := by rw [hs 138 (by decide)]; rfl
    have h145a : (mS μ 145).1 = 20 := by rw [hs 145 (by decide)]; rfl
    have h145b : (mS μ 145).2 = 380 := by rw [hs 145 (by decide)]; rfl
    have r137_1 : r 137 1 = some 138 := hr 137 1 138 rfl
    have r137_8 : r 137 8 = some 145 := hr 137 8 145 rfl
    have L4 : f 138 4 = nI (c 4) := by rw [h.2.2.2.2.1 4 (by decide), h10]
    unfold move
    simp only
    generalize itr (mv1 dt) (c 4) (c, S) = s at h h10 ⊢
    obtain ⟨c1, S1⟩ := s
    simp only at h h10 ⊢
    rw [B_135_2]
    simp (disch := omega) only [st_I, st_L, st_R, st_S, st_N, st_C, st_Z, st_X, st_D, st_st, st_sI, st_sIr, st_sL, st_sR, gfI_st, gfL_st, gfR_st, gfN_st, pfI_st, pfL_st, pfR_st, pfZ_st0, pfZ_st1, ldI_st, ldL_st, stoI_st, stoL_st, aln_st, cpA_st, bq_st, bq_S, oI_s, oL_s, oD_s, oV_s, oR_s, oR_n, oI_e, oL_e, oD_e, Option.bind_some, fa_lit, fa_litL, nI_add, pk_mul, nI_m1, nI_lt', nI_le', nI_eq', lc_ge, lc_le, lc_gt, lc_lt, lc_eq, isZ_0, isZ_1, bI_0, bI_z, decide_eq_true_eq, Bool.not_eq_true', Bool.not_true, Bool.not_false, decide_eq_false_iff_not, if_true, if_false, ite_true, ite_false, eq_self, not_true, not_false_eq_true, C_95, C_96, C_97, C_99, C_100, C_102, C_106, C_107, C_109, C_168, C_171, C_172, C_173, C_174, C_175, yu_ne, yu_eq, up_eq, up_ne, yur_ne, yur_eq, yu_uu, y1_eq, y1_ne, y1_y1, Nat.mul_zero, Nat.zero_mul, Nat.add_zero, Nat.zero_add, Nat.mul_one, Nat.one_mul, Nat.reduceEqDiff, Nat.reduceLT, Nat.reduceLeDiff, Nat.reduceAdd, Nat.reduceMul, decide_true, decide_false, cond_true, cond_false, reduceCtorEq, Bool.false_eq_true, Bool.true_eq_false, Bool.true_and, Bool.and_true, Bool.false_and, Bool.and_false, r137_1, r137_8, L4, Nat.le_refl]
    refine loopP (fun i o => ∃ f' o1, o = RUN 135 71 [some (.ref 137), o1, some (.int (nI (cmp kpT (S1 7) i).2)), some (.int (nI i))] [] (st μ f' l r) ∧ Md m0 μ f' l r (k + 20) (z + 110) c1 (u1 S1 7 (cmp kpT (S1 7) i).1)) (fun o => MV o m0 (k + 20) (z + 110) (u1 c1 4 (cmp kpT (S1 7) (c 4)).2) (u1 S1 7 (cmp kpT (S1 7) (c 4)).1)) (c 4) ?_ ?_ 0 _ (Nat.zero_le _) ⟨f, _, rfl, ?_⟩
    · rintro o ⟨f', o1, rfl, h'⟩
      have L4 : f' 138 4 = nI (c 4) := by rw [h'.2.2.2.2.1 4 (by decide), h10]
      rw [B_135_71]
      simp (disch := omega) only [st_I, st_L, st_R, st_S, st_N, st_C, st_Z, st_X, st_D, st_st, st_sI, st_sIr, st_sL, st_sR, gfI_st, gfL_st, gfR_st, gfN_st, pfI_st, pfL_st, pfR_st, pfZ_st0, pfZ_st1, ldI_st, ldL_st, stoI_st, stoL_st, aln_st, cpA_st, bq_st, bq_S, oI_s, oL_s, oD_s, oV_s, oR_s, oR_n, oI_e, oL_e, oD_e, Option.bind_some, fa_lit, fa_litL, nI_add, pk_mul, nI_m1, nI_lt', nI_le', nI_eq', lc_ge, lc_le, lc_gt, lc_lt, lc_eq, isZ_0, isZ_1, bI_0, bI_z, decide_eq_true_eq, Bool.not_eq_true', Bool.not_true, Bool.not_false, decide_eq_false_iff_not, if_true, if_false, ite_true, ite_false, eq_self, not_true, not_false_eq_true, C_95, C_96, C_97, C_99, C_100, C_102, C_106, C_107, C_109, C_168, C_171, C_172, C_173, C_174, C_175, yu_ne, yu_eq, up_eq, up_ne, yur_ne, yur_eq, yu_uu, y1_eq, y1_ne, y1_y1, Nat.mul_zero, Nat.zero_mul, Nat.add_zero, Nat.zero_add, Nat.mul_one, Nat.one_mul, Nat.reduceEqDiff, Nat.reduceLT, Nat.reduceLeDiff, Nat.reduceAdd, Nat.reduceMul, decide_true, decide_false, cond_true, cond_false, reduceCtorEq, Bool.false_eq_true, Bool.true_eq_false, Bool.true_and, Bool.and_true, Bool.false_and, Bool.and_false, r137_1, r137_8, L4, Nat.le_refl]
      exact ⟨_, _, _, _, rfl, Md_f h' (fun a ha => yu_ne (by omega)) (MR_c h'.2.2.2.2)⟩
    · rintro i o hi ⟨f', o1, rfl, h'⟩
      have hi' : ¬ c 4 ≤ i := by omega
      have hi10 : i < 10 := by omega
      have L4 : f' 138 4 = nI (c 4) := by rw [h'.2.2.2.2.1 4 (by decide), h10]
      have hcm := cmp_le (kp := kpT) (T := S1 7) i
      have hsucc : cmp kpT (S1 7) (i + 1) = (bif kpT ((cmp kpT (S1 7) i).1 i) then (u1 (cmp kpT (S1 7) i).1 (cmp kpT (S1 7) i).2 ((cmp kpT (S1 7) i).1 i), (cmp kpT (S1 7) i).2 + 1) else cmp kpT (S1 7) i) := rfl
      rw [hsucc]
      clear hsucc
      generalize cmp kpT (S1 7) i = q at h' hcm ⊢
      obtain ⟨T, lf⟩ := q
      simp only at h' hcm ⊢
      have L75 : f' 145 (38 * i + 5) = T i 5 := by
        rw [h'.2.2.2.2.2.2.2.2.2.2.2.1 i 5 hi10 (by decide), y1_eq]
      have h7 : MRr (f' 145) 10 38 T := by
        have := h'.2.2.2.2.2.2.2.2.2.2.2.1
        rw [y1_eq] at this
        exact this
      right
      rw [B_135_71]
      simp (disch := omega) only [st_I, st_L, st_R, st_S, st_N, st_C, st_Z, st_X, st_D, st_st, st_sI, st_sIr, st_sL, st_sR, gfI_st, gfL_st, gfR_st, gfN_st, pfI_st, pfL_st, pfR_st, pfZ_st0, pfZ_st1, ldI_st, ldL_st, stoI_st, stoL_st, aln_st, cpA_st, bq_st, bq_S, oI_s, oL_s, oD_s, oV_s, oR_s, oR_n, oI_e, oL_e, oD_e, Option.bind_some, fa_lit, fa_litL, nI_add, pk_mul, nI_m1, nI_lt', nI_le', nI_eq', lc_ge, lc_le, lc_gt, lc_lt, lc_eq, isZ_0, isZ_1, bI_0, bI_z, decide_eq_true_eq, Bool.not_eq_true', Bool.not_true, Bool.not_false, decide_eq_false_iff_not, if_true, if_false, ite_true, ite_false, eq_self, not_true, not_false_eq_true, C_95, C_96, C_97, C_99, C_100, C_102, C_106, C_107, C_109, C_168, C_171, C_172, C_173, C_174, C_175, yu_ne, yu_eq, up_eq, up_ne, yur_ne, yur_eq, yu_uu, y1_eq, y1_ne, y1_y1, Nat.mul_zero, Nat.zero_mul, Nat.add_zero, Nat.zero_add, Nat.mul_one, Nat.one_mul, Nat.reduceEqDiff, Nat.reduceLT, Nat.reduceLeDiff, Nat.reduceAdd, Nat.reduceMul, decide_true, decide_false, cond_true, cond_false, reduceCtorEq, Bool.false_eq_true, Bool.true_eq_false, Bool.true_and, Bool.and_true, Bool.false_and, Bool.and_false, r137_1, r137_8, L4, hi', C_124r hs hr hi10, L75]
      unfold kpT
      by_cases q3 : T i 5 = nI 3
      · simp (disch := omega) only [st_I, st_L, st_R, st_S, st_N, st_C, st_Z, st_X, st_D, st_st, st_sI, st_sIr, st_sL, st_sR, gfI_st, gfL_st, gfR_st, gfN_st, pfI_st, pfL_st, pfR_st, pfZ_st0, pfZ_st1, ldI_st, ldL_st, stoI_st, stoL_st, aln_st, cpA_st, bq_st, bq_S, oI_s, oL_s, oD_s, oV_s, oR_s, oR_n, oI_e, oL_e, oD_e, Option.bind_some, fa_lit, fa_litL, nI_add, pk_mul, nI_m1, nI_lt', nI_le', nI_eq', lc_ge, lc_le, lc_gt, lc_lt, lc_eq, isZ_0, isZ_1, bI_0, bI_z, decide_eq_true_eq, Bool.not_eq_true', Bool.not_true, Bool.not_false, decide_eq_false_iff_not, if_true, if_false, ite_true, ite_false, eq_self, not_true, not_false_eq_true, C_95, C_96, C_97, C_99, C_100, C_102, C_106, C_107, C_109, C_168, C_171, C_172, C_173, C_174, C_175, yu_ne, yu_eq, up_eq, up_ne, yur_ne, yur_eq, yu_uu, y1_eq, y1_ne, y1_y1, Nat.mul_zero, Nat.zero_mul, Nat.add_zero, Nat.zero_add, Nat.mul_one, Nat.one_mul, Nat.reduceEqDiff, Nat.reduceLT, Nat.reduceLeDiff, Nat.reduceAdd, Nat.reduceMul, decide_true, decide_false, cond_true, cond_false, reduceCtorEq, Bool.false_eq_true, Bool.true_eq_false, Bool.true_and, Bool.and_true, Bool.false_and, Bool.and_false, r137_1, r137_8, q3]
        exact ⟨_, _, rfl, h'⟩
      · simp (disch := omega) only [st_I, st_L, st_R, st_S, st_N, st_C, st_Z, st_X, st_D, st_st, st_sI, st_sIr, st_sL, st_sR, gfI_st, gfL_st, gfR_st, gfN_st, pfI_st, pfL_st, pfR_st, pfZ_st0, pfZ_st1, ldI_st, ldL_st, stoI_st, stoL_st, aln_st, cpA_st, bq_st, bq_S, oI_s, oL_s, oD_s, oV_s, oR_s, oR_n, oI_e, oL_e, oD_e, Option.bind_some, fa_lit, fa_litL, nI_add, pk_mul, nI_m1, nI_lt', nI_le', nI_eq', lc_ge, lc_le, lc_gt, lc_lt, lc_eq, isZ_0, isZ_1, bI_0, bI_z, decide_eq_true_eq, Bool.not_eq_true', Bool.not_true, Bool.not_false, decide_eq_false_iff_not, if_true, if_false, ite_true, ite_false, eq_self, not_true, not_false_eq_true, C_95, C_96, C_97, C_99, C_100, C_102, C_106, C_107, C_109, C_168, C_171, C_172, C_173, C_174, C_175, yu_ne, yu_eq, up_eq, up_ne, yur_ne, yur_eq, yu_uu, y1_eq, y1_ne, y1_y1, Nat.mul_zero, Nat.zero_mul, Nat.add_zero, Nat.zero_add, Nat.mul_one, Nat.one_mul, Nat.reduceEqDiff, Nat.reduceLT, Nat.reduceLeDiff, Nat.reduceAdd, Nat.reduceMul, decide_true, decide_false, cond_true, cond_false, reduceCtorEq, Bool.false_eq_true, Bool.true_eq_false, Bool.true_and, Bool.and_true, Bool.false_and, Bool.and_false, r137_1, r137_8, q3]
        have h9 := MRr_7 h'.2.2.2.2 (MRr_mv (i := i) (d := lf) h7 hi10)
        rw [y1_y1] at h9
        exact ⟨_, _, rfl, Md_f h' (fun a ha => yur_ne (by omega)) h9⟩
    · have e : (cmp kpT (S1 7) 0).1 = S1 7 := rfl
      rw [e, y1_id]
      exact Md_le h (by omega) (by omega)
  · rintro i o hi ⟨μ, f, l, r, o3, rfl, h⟩
    have hs := h.1
    have hr := h.2.1
    have h137a : (mS μ 137).1 = 9 := by rw [hs 137 (by decide)]; rfl
    have h138a : (mS μ 138).1 = 20 := by rw [hs 138 (by decide)]; rfl
    have h138b : (mS μ 138).2 = 15 := by rw [hs 138 (by decide)]; rfl
    have h145a : (mS μ 145).1 = 20 := by rw [hs 145 (by decide)]; rfl
    have h145b : (mS μ 145).2 = 380 := by rw [hs 145 (by decide)]; rfl
    have r137_1 : r 137 1 = some 138 := hr 137 1 138 rfl
    have r137_8 : r 137 8 = some 145 := hr 137 8 145 rfl
    obtain ⟨g1, g2, g3, g4⟩ := mvs_c (dt := dt) (s := (c, S)) i
    have hLi := hL i (by omega)
    have hbi := hb i hi
    rw [show S 7 i = (itr (mv1 dt) i (c, S)).2 7 i from (g4 i (Nat.le_refl i)).symm] at hbi
    have hi' : ¬ c 4 ≤ i := by omega
    have hi10 : i < 10 := by omega
    have e4 : (itr (mv1 dt) i (c, S)).1 4 = c 4 := g1 4 (by decide) (by decide)
    have hci : CB (itr (mv1 dt) i (c, S)).1 := CB_of hc' g1 (by omega) (by have : (c, S).1 8 = c 8 := rfl; omega)
    rw [itr_s']
    generalize itr (mv1 dt) i (c, S) = s at h hLi hbi e4 hci ⊢
    obtain ⟨c1, S1⟩ := s
    simp only at h hLi hbi e4 hci ⊢
    have L4 : f 138 4 = nI (c 4) := by rw [h.2.2.2.2.1 4 (by decide), e4]
    have h0 := Md_foc i h
    obtain ⟨f1, q1, h1⟩ := sR_e (w := 12) (v := nI 0) h0 hi10 (by decide)
    obtain ⟨f2, q2, h2⟩ := sR_e (w := 8) (v := S1 7 i 8 + nI 1) h1 hi10 (by decide)
    have h3 : Md m0 μ f2 l r (k + 2 * i) (z + 11 * i) c1 (u1 S1 7 (u1 (S1 7) i (aged (S1 7 i)))) := h2
    right
    rw [B_135_2]
    simp (disch := omega) only [st_I, st_L, st_R, st_S, st_N, st_C, st_Z, st_X, st_D, st_st, st_sI, st_sIr, st_sL, st_sR, gfI_st, gfL_st, gfR_st, gfN_st, pfI_st, pfL_st, pfR_st, pfZ_st0, pfZ_st1, ldI_st, ldL_st, stoI_st, stoL_st, aln_st, cpA_st, bq_st, bq_S, oI_s, oL_s, oD_s, oV_s, oR_s, oR_n, oI_e, oL_e, oD_e, Option.bind_some, fa_lit, fa_litL, nI_add, pk_mul, nI_m1, nI_lt', nI_le', nI_eq', lc_ge, lc_le, lc_gt, lc_lt, lc_eq, isZ_0, isZ_1, bI_0, bI_z, decide_eq_true_eq, Bool.not_eq_true', Bool.not_true, Bool.not_false, decide_eq_false_iff_not, if_true, if_false, ite_true, ite_false, eq_self, not_true, not_false_eq_true, C_95, C_96, C_97, C_99, C_100, C_102, C_106, C_107, C_109, C_168, C_171, C_172, C_173, C_174, C_175, yu_ne, yu_eq, up_eq, up_ne, yur_ne, yur_eq, yu_uu, y1_eq, y1_ne, y1_y1, Nat.mul_zero, Nat.zero_mul, Nat.add_zero, Nat.zero_add, Nat.mul_one, Nat.one_mul, Nat.reduceEqDiff, Nat.reduceLT, Nat.reduceLeDiff, Nat.reduceAdd, Nat.reduceMul, decide_true, decide_false, cond_true, cond_false, reduceCtorEq, Bool.false_eq_true, Bool.true_eq_false, Bool.true_and, Bool.and_true, Bool.false_and, Bool.and_false, r137_1, r137_8, r137_1, r137_8, L4, hi', q1, gR h1 hi10, q2, gR h3 hi10]
    have ea : aged (S1 7 i) 13 = S1 7 i 13 := by unfold aged; simp (disch := omega) only [st_I, st_L, st_R, st_S, st_N, st_C, st_Z, st_X, st_D, st_st, st_sI, st_sIr, st_sL, st_sR, gfI_st, gfL_st, gfR_st, gfN_st, pfI_st, pfL_st, pfR_st, pfZ_st0, pfZ_st1, ldI_st, ldL_st, stoI_st, stoL_st, aln_st, cpA_st, bq_st, bq_S, oI_s, oL_s, oD_s, oV_s, oR_s, oR_n, oI_e, oL_e, oD_e, Option.bind_some, fa_lit, fa_litL, nI_add, pk_mul, nI_m1, nI_lt', nI_le', nI_eq', lc_ge, lc_le, lc_gt, lc_lt, lc_eq, isZ_0, isZ_1, bI_0, bI_z, decide_eq_true_eq, Bool.not_eq_true', Bool.not_true, Bool.not_false, decide_eq_false_iff_not, if_true, if_false, ite_true, ite_false, eq_self, not_true, not_false_eq_true, C_95, C_96, C_97, C_99, C_100, C_102, C_106, C_107, C_109, C_168, C_171, C_172, C_173, C_174, C_175, yu_ne, yu_eq, up_eq, up_ne, yur_ne, yur_eq, yu_uu, y1_eq, y1_ne, y1_y1, Nat.mul_zero, Nat.zero_mul, Nat.add_zero, Nat.zero_add, Nat.mul_one, Nat.one_mul, Nat.reduceEqDiff, Nat.reduceLT, Nat.reduceLeDiff, Nat.reduceAdd, Nat.reduceMul, decide_true, decide_false, cond_true, cond_false, reduceCtorEq, Bool.false_eq_true, Bool.true_eq_false, Bool.true_and, Bool.and_true, Bool.false_and, Bool.and_false, r137_1, r137_8, r137_1, r137_8]
    unfold mv1
    simp (disch := omega) only [st_I, st_L, st_R, st_S, st_N, st_C, st_Z, st_X, st_D, st_st, st_sI, st_sIr, st_sL, st_sR, gfI_st, gfL_st, gfR_st, gfN_st, pfI_st, pfL_st, pfR_st, pfZ_st0, pfZ_st1, ldI_st, ldL_st, stoI_st, stoL_st, aln_st, cpA_st, bq_st, bq_S, oI_s, oL_s, oD_s, oV_s, oR_s, oR_n, oI_e, oL_e, oD_e, Option.bind_some, fa_lit, fa_litL, nI_add, pk_mul, nI_m1, nI_lt', nI_le', nI_eq', lc_ge, lc_le, lc_gt, lc_lt, lc_eq, isZ_0, isZ_1, bI_0, bI_z, decide_eq_true_eq, Bool.not_eq_true', Bool.not_true, Bool.not_false, decide_eq_false_iff_not, if_true, if_false, ite_true, ite_false, eq_self, not_true, not_false_eq_true, C_95, C_96, C_97, C_99, C_100, C_102, C_106, C_107, C_109, C_168, C_171, C_172, C_173, C_174, C_175, yu_ne, yu_eq, up_eq, up_ne, yur_ne, yur_eq, yu_uu, y1_eq, y1_ne, y1_y1, Nat.mul_zero, Nat.zero_mul, Nat.add_zero, Nat.zero_add, Nat.mul_one, Nat.one_mul, Nat.reduceEqDiff, Nat.reduceLT, Nat.reduceLeDiff, Nat.reduceAdd, Nat.reduceMul, decide_true, decide_false, cond_true, cond_false, reduceCtorEq, Bool.false_eq_true, Bool.true_eq_false, Bool.true_and, Bool.and_true, Bool.false_and, Bool.and_false, r137_1, r137_8, r137_1, r137_8, ea]
    by_cases hq : S1 7 i 13 = -nI 1
    · obtain ⟨μ4, f4, l4, r4, q4, h4⟩ := C_134 h3 hci hi10 (fun _ => by omega)
      simp (disch := omega) only [st_I, st_L, st_R, st_S, st_N, st_C, st_Z, st_X, st_D, st_st, st_sI, st_sIr, st_sL, st_sR, gfI_st, gfL_st, gfR_st, gfN_st, pfI_st, pfL_st, pfR_st, pfZ_st0, pfZ_st1, ldI_st, ldL_st, stoI_st, stoL_st, aln_st, cpA_st, bq_st, bq_S, oI_s, oL_s, oD_s, oV_s, oR_s, oR_n, oI_e, oL_e, oD_e, Option.bind_some, fa_lit, fa_litL, nI_add, pk_mul, nI_m1, nI_lt', nI_le', nI_eq', lc_ge, lc_le, lc_gt, lc_lt, lc_eq, isZ_0, isZ_1, bI_0, bI_z, decide_eq_true_eq, Bool.not_eq_true', Bool.not_true, Bool.not_false, decide_eq_false_iff_not, if_true, if_false, ite_true, ite_false, eq_self, not_true, not_false_eq_true, C_95, C_96, C_97, C_99, C_100, C_102, C_106, C_107, C_109, C_168, C_171, C_172, C_173, C_174, C_175, yu_ne, yu_eq, up_eq, up_ne, yur_ne, yur_eq, yu_uu, y1_eq, y1_ne, y1_y1, Nat.mul_zero, Nat.zero_mul, Nat.add_zero, Nat.zero_add, Nat.mul_one, Nat.one_mul, Nat.reduceEqDiff, Nat.reduceLT, Nat.reduceLeDiff, Nat.reduceAdd, Nat.reduceMul, decide_true, decide_false, cond_true, cond_false, reduceCtorEq, Bool.false_eq_true, Bool.true_eq_false, Bool.true_and, Bool.and_true, Bool.false_and, Bool.and_false, r137_1, r137_8, r137_1, r137_8, hq, q4]
      exact ⟨_, _, _, _, _, rfl, Md_le h4 (by omega) (by omega)⟩
    · obtain ⟨b, hb10, hbe⟩ := hbi hq
      obtain ⟨μ4, f4, l4, r4, q4, h4⟩ := C_133 h3 hci hi10 hb10 (by rw [ea, hbe]) hd
      simp (disch := omega) only [st_I, st_L, st_R, st_S, st_N, st_C, st_Z, st_X, st_D, st_st, st_sI, st_sIr, st_sL, st_sR, gfI_st, gfL_st, gfR_st, gfN_st, pfI_st, pfL_st, pfR_st, pfZ_st0, pfZ_st1, ldI_st, ldL_st, stoI_st, stoL_st, aln_st, cpA_st, bq_st, bq_S, oI_s, oL_s, oD_s, oV_s, oR_s, oR_n, oI_e, oL_e, oD_e, Option.bind_some, fa_lit, fa_litL, nI_add, pk_mul, nI_m1, nI_lt', nI_le', nI_eq', lc_ge, lc_le, lc_gt, lc_lt, lc_eq, isZ_0, isZ_1, bI_0, bI_z, decide_eq_true_eq, Bool.not_eq_true', Bool.not_true, Bool.not_false, decide_eq_false_iff_not, if_true, if_false, ite_true, ite_false, eq_self, not_true, not_false_eq_true, C_95, C_96, C_97, C_99, C_100, C_102, C_106, C_107, C_109, C_168, C_171, C_172, C_173, C_174, C_175, yu_ne, yu_eq, up_eq, up_ne, yur_ne, yur_eq, yu_uu, y1_eq, y1_ne, y1_y1, Nat.mul_zero, Nat.zero_mul, Nat.add_zero, Nat.zero_add, Nat.mul_one, Nat.one_mul, Nat.reduceEqDiff, Nat.reduceLT, Nat.reduceLeDiff, Nat.reduceAdd, Nat.reduceMul, decide_true, decide_false, cond_true, cond_false, reduceCtorEq, Bool.false_eq_true, Bool.true_eq_false, Bool.true_and, Bool.and_true, Bool.false_and, Bool.and_false, r137_1, r137_8, r137_1, r137_8, hq, q4]
      exact ⟨_, _, _, _, _, rfl, Md_le h4 (by omega) (by omega)⟩
/-! fields -/
def clt (k : Nat) (S : Nat → Nat → Nat → Int32) : Nat → Nat → Nat → Int32 := u1 S 4 (u2 (S 4) (fxn (S 5 k 0)) (fxn (S 5 k 1)) (p_mx (nI 0) (p_mn (nI 60) (S 4 (fxn (S 5 k 0)) (fxn (S 5 k 1)) + (if S 5 k 4 = -nI 1 then nI 3 else -nI 1)))))
theorem clt_r {S : Nat → Nat → Nat → Int32} {r : Nat} (h : r ≠ 4) : ∀ n, itr clt n S r = S r
  | 0 => rfl
  | n + 1 => by rw [itr_s']; unfold clt; rw [y1_ne h]; exact clt_r h n
theorem J_clt {m0 μ : mMu} {f : Nat → Nat → Int32} {l : Nat → Nat → Int64} {r : Nat → Nat → Option Nat} {k z : Nat} {c : Nat → Nat} {S : Nat → Nat → Nat → Int32} {o2 o3 o4 : Option Value} {Q : mOut → Prop} (h : Md m0 μ f l r k z c S) (hc : CB c) (hp : ∀ k, k < c 3 → plc (S 5 k 0) (S 5 k 1) = true)
    (hQ : ∀ f' o2 o3 o4, Md m0 μ f' l r k z c (itr clt (c 3) S) → Q (RUN 136 81 [some (.ref 137), some (.int (nI 0)), o2, o3, o4] [] (st μ f' l r))) : Q (RUN 136 2 [some (.ref 137), some (.int (nI 0)), o2, o3, o4] [] (st μ f l r)) := by
  have hs := h.1
  have hr := h.2.1
  have h137a : (mS μ 137).1 = 9 := by rw [hs 137 (by decide)]; rfl
  have h138a : (mS μ 138).1 = 20 := by rw [hs 138 (by decide)]; rfl
  have h138b : (mS μ 138).2 = 15 := by rw [hs 138 (by decide)]; rfl
  have h142a : (mS μ 142).1 = 20 := by rw [hs 142 (by decide)]; rfl
  have h142b : (mS μ 142).2 = 400 := by rw [hs 142 (by decide)]; rfl
  have h143a : (mS μ 143).1 = 20 := by rw [hs 143 (by decide)]; rfl
  have h143b : (mS μ 143).2 = 50 := by rw [hs 143 (by decide)]; rfl
  have r137_1 : r 137 1 = some 138 := hr 137 1 138 rfl
  have r137_5 : r 137 5 = some 142 := hr 137 5 142 rfl
  have r137_6 : r 137 6 = some 143 := hr 137 6 143 rfl
  have hc' := hc
  obtain ⟨c0, c1, c2, c3, c4, c5, c6, c7, c8, c9, c10, c11, c12, c13, c14⟩ := hc
  refine loopP (fun i o => ∃ f' o2 o3 o4, o = RUN 136 2 [some (.ref 137), some (.int (nI i)), o2, o3, o4] [] (st μ f' l r) ∧ Md m0 μ f' l r k z c (itr clt i S)) Q (c 3) ?_ ?_ 0 _ (Nat.zero_le _) ⟨f, _, _, _, rfl, h⟩
  · rintro o ⟨f', o2, o3, o4, rfl, h'⟩
    have L3 : f' 138 3 = nI (c 3) := h'.2.2.2.2.1 3 (by decide)
    rw [B_136_2]
    simp (disch := omega) only [st_I, st_L, st_R, st_S, st_N, st_C, st_Z, st_X, st_D, st_st, st_sI, st_sIr, st_sL, st_sR, gfI_st, gfL_st, gfR_st, gfN_st, pfI_st, pfL_st, pfR_st, pfZ_st0, pfZ_st1, ldI_st, ldL_st, stoI_st, stoL_st, aln_st, cpA_st, bq_st, bq_S, oI_s, oL_s, oD_s, oV_s, oR_s, oR_n, oI_e, oL_e, oD_e, Option.bind_some, fa_lit, fa_litL, nI_add, pk_mul, nI_m1, nI_lt', nI_le', nI_eq', lc_ge, lc_le, lc_gt, lc_lt, lc_eq, isZ_0, isZ_1, bI_0, bI_z, decide_eq_true_eq, Bool.not_eq_true', Bool.not_true, Bool.not_false, decide_eq_false_iff_not, if_true, if_false, ite_true, ite_false, eq_self, not_true, not_false_eq_true, C_95, C_96, C_97, C_99, C_100, C_102, C_106, C_107, C_109, C_168, C_171, C_172, C_173, C_174, C_175, yu_ne, yu_eq, up_eq, up_ne, yur_ne, yur_eq, yu_uu, y1_eq, y1_ne, y1_y1, Nat.mul_zero, Nat.zero_mul, Nat.add_zero, Nat.zero_add, Nat.mul_one, Nat.one_mul, Nat.reduceEqDiff, Nat.reduceLT, Nat.reduceLeDiff, Nat.reduceAdd, Nat.reduceMul, decide_true, decide_false, cond_true, cond_false, reduceCtorEq, Bool.false_eq_true, Bool.true_eq_false, Bool.true_and, Bool.and_true, Bool.false_and, Bool.and_false, r137_1, r137_5, r137_6, L3, Nat.le_refl]
    exact hQ _ _ _ _ h'
  · rintro i o hi ⟨f', o2, o3, o4, rfl, h'⟩
    have hi' : ¬ c 3 ≤ i := by omega
    have hi10 : i < 10 := by omega
    have L3 : f' 138 3 = nI (c 3) := h'.2.2.2.2.1 3 (by decide)
    have hpi := hp i hi
    have e5 : itr clt i S 5 = S 5 := clt_r (by decide) i
    rw [← e5] at hpi
    rw [itr_s']
    generalize itr clt i S = S1 at h' hpi ⊢
    obtain ⟨hf1, hf2, hf3⟩ := fld_ix hpi
    have L5 : ∀ w, w < 5 → f' 143 (5 * i + w) = S1 5 i w := fun w hw => h'.2.2.2.2.2.2.2.2.2.1 i w hi10 hw
    have L50 : f' 143 (5 * i) = S1 5 i 0 := L5 0 (by decide)
    have L4 : f' 142 (20 * fxn (S1 5 i 0) + fxn (S1 5 i 1)) = S1 4 (fxn (S1 5 i 0)) (fxn (S1 5 i 1)) := h'.2.2.2.2.2.2.2.2.1 _ _ hf1 hf2
    right
    rw [B_136_2]
    simp (disch := omega) only [st_I, st_L, st_R, st_S, st_N, st_C, st_Z, st_X, st_D, st_st, st_sI, st_sIr, st_sL, st_sR, gfI_st, gfL_st, gfR_st, gfN_st, pfI_st, pfL_st, pfR_st, pfZ_st0, pfZ_st1, ldI_st, ldL_st, stoI_st, stoL_st, aln_st, cpA_st, bq_st, bq_S, oI_s, oL_s, oD_s, oV_s, oR_s, oR_n, oI_e, oL_e, oD_e, Option.bind_some, fa_lit, fa_litL, nI_add, pk_mul, nI_m1, nI_lt', nI_le', nI_eq', lc_ge, lc_le, lc_gt, lc_lt, lc_eq, isZ_0, isZ_1, bI_0, bI_z, decide_eq_true_eq, Bool.not_eq_true', Bool.not_true, Bool.not_false, decide_eq_false_iff_not, if_true, if_false, ite_true, ite_false, eq_self, not_true, not_false_eq_true, C_95, C_96, C_97, C_99, C_100, C_102, C_106, C_107, C_109, C_168, C_171, C_172, C_173, C_174, C_175, yu_ne, yu_eq, up_eq, up_ne, yur_ne, yur_eq, yu_uu, y1_eq, y1_ne, y1_y1, Nat.mul_zero, Nat.zero_mul, Nat.add_zero, Nat.zero_add, Nat.mul_one, Nat.one_mul, Nat.reduceEqDiff, Nat.reduceLT, Nat.reduceLeDiff, Nat.reduceAdd, Nat.reduceMul, decide_true, decide_false, cond_true, cond_false, reduceCtorEq, Bool.false_eq_true, Bool.true_eq_false, Bool.true_and, Bool.and_true, Bool.false_and, Bool.and_false, r137_1, r137_5, r137_6, L3, hi', L5, L50, C_117, hf3, L4]
    unfold clt
    by_cases hq : S1 5 i 4 = -nI 1
    · simp (disch := omega) only [st_I, st_L, st_R, st_S, st_N, st_C, st_Z, st_X, st_D, st_st, st_sI, st_sIr, st_sL, st_sR, gfI_st, gfL_st, gfR_st, gfN_st, pfI_st, pfL_st, pfR_st, pfZ_st0, pfZ_st1, ldI_st, ldL_st, stoI_st, stoL_st, aln_st, cpA_st, bq_st, bq_S, oI_s, oL_s, oD_s, oV_s, oR_s, oR_n, oI_e, oL_e, oD_e, Option.bind_some, fa_lit, fa_litL, nI_add, pk_mul, nI_m1, nI_lt', nI_le', nI_eq', lc_ge, lc_le, lc_gt, lc_lt, lc_eq, isZ_0, isZ_1, bI_0, bI_z, decide_eq_true_eq, Bool.not_eq_true', Bool.not_true, Bool.not_false, decide_eq_false_iff_not, if_true, if_false, ite_true, ite_false, eq_self, not_true, not_false_eq_true, C_95, C_96, C_97, C_99, C_100, C_102, C_106, C_107, C_109, C_168, C_171, C_172, C_173, C_174, C_175, yu_ne, yu_eq, up_eq, up_ne, yur_ne, yur_eq, yu_uu, y1_eq, y1_ne, y1_y1, Nat.mul_zero, Nat.zero_mul, Nat.add_zero, Nat.zero_add, Nat.mul_one, Nat.one_mul, Nat.reduceEqDiff, Nat.reduceLT, Nat.reduceLeDiff, Nat.reduceAdd, Nat.reduceMul, decide_true, decide_false, cond_true, cond_false, reduceCtorEq, Bool.false_eq_true, Bool.true_eq_false, Bool.true_and, Bool.and_true, Bool.false_and, Bool.and_false, r137_1, r137_5, r137_6, hq]
      refine ⟨_, _, _, _, rfl, Md_f h' (fun a ha => yu_ne (by omega)) (MRs_4 h'.2.2.2.2 hf2)⟩
    · simp (disch := omega) only [st_I, st_L, st_R, st_S, st_N, st_C, st_Z, st_X, st_D, st_st, st_sI, st_sIr, st_sL, st_sR, gfI_st, gfL_st, gfR_st, gfN_st, pfI_st, pfL_st, pfR_st, pfZ_st0, pfZ_st1, ldI_st, ldL_st, stoI_st, stoL_st, aln_st, cpA_st, bq_st, bq_S, oI_s, oL_s, oD_s, oV_s, oR_s, oR_n, oI_e, oL_e, oD_e, Option.bind_some, fa_lit, fa_litL, nI_add, pk_mul, nI_m1, nI_lt', nI_le', nI_eq', lc_ge, lc_le, lc_gt, lc_lt, lc_eq, isZ_0, isZ_1, bI_0, bI_z, decide_eq_true_eq, Bool.not_eq_true', Bool.not_true, Bool.not_false, decide_eq_false_iff_not, if_true, if_false, ite_true, ite_false, eq_self, not_true, not_false_eq_true, C_95, C_96, C_97, C_99, C_100, C_102, C_106, C_107, C_109, C_168, C_171, C_172, C_173, C_174, C_175, yu_ne, yu_eq, up_eq, up_ne, yur_ne, yur_eq, yu_uu, y1_eq, y1_ne, y1_y1, Nat.mul_zero, Nat.zero_mul, Nat.add_zero, Nat.zero_add, Nat.mul_one, Nat.one_mul, Nat.reduceEqDiff, Nat.reduceLT, Nat.reduceLeDiff, Nat.reduceAdd, Nat.reduceMul, decide_true, decide_false, cond_true, cond_false, reduceCtorEq, Bool.false_eq_true, Bool.true_eq_false, Bool.true_and, Bool.and_true, Bool.false_and, Bool.and_false, r137_1, r137_5, r137_6, hq]
      refine ⟨_, _, _, _, rfl, Md_f h' (fun a ha => yu_ne (by omega)) (MRs_4 h'.2.2.2.2 hf2)⟩
/-! new tracks -/
def nrc (nm x y : Int32) (b : Nat) : Nat → Int32 := up (up (up (up (up (fun w => if w = 38 then nI b else nI 0) 0 nm) 1 x) 2 y) 6 (nI 1)) 8 (nI 1)
def beg1 (k : Nat) (s : CS) : CS := if s.2 5 k 4 = -nI 1 ∧ s.1 4 ≠ 10 then
    (u1 (u1 (noteC s.1) 9 (s.1 9 + 1)) 4 (s.1 4 + 1), noteS s.1 (u1 (u1 s.2 7 (u1 (s.2 7) (s.1 4) (nrc (nI (s.1 9)) (nI 16 * s.2 5 k 0) (nI 16 * s.2 5 k 1) k))) 5 (u1 (s.2 5) k (up (s.2 5 k) 4 (nI (s.1 9))))) (nI 0) (nI (s.1 9)) (-nI 1))
  else s
theorem beg1_c {k : Nat} {s : CS} : (∀ j, j ≠ 4 → j ≠ 8 → j ≠ 9 → (beg1 k s).1 j = s.1 j) ∧ s.1 4 ≤ (beg1 k s).1 4 ∧ (beg1 k s).1 4 ≤ s.1 4 + 1 ∧ ((beg1 k s).1 4 ≤ 10 ∨ (beg1 k s).1 4 = s.1 4 ∨ 10 < s.1 4) ∧ (beg1 k s).1 8 ≤ s.1 8 + 1 ∧ (beg1 k s).1 9 ≤ s.1 9 + 1 := by
  unfold beg1
  by_cases h : s.2 5 k 4 = -nI 1 ∧ s.1 4 ≠ 10
  · rw [if_pos h]
    refine ⟨fun j h4 h8 h9 => ?_, ?_, ?_, ?_, ?_, ?_⟩
    · show u1 (u1 (noteC s.1) 9 (s.1 9 + 1)) 4 (s.1 4 + 1) j = s.1 j
      rw [y1_ne h4, y1_ne h9, noteC_j h8]
    all_goals simp only [y1_eq, y1_ne (show (8 : Nat) ≠ 4 by decide), y1_ne (show (8 : Nat) ≠ 9 by decide), y1_ne (show (9 : Nat) ≠ 4 by decide), noteC_8]
    all_goals omega
  · rw [if_neg h]
    exact ⟨fun _ _ _ _ => rfl, Nat.le_refl _, by omega, Or.inr (Or.inl rfl), by omega, by omega⟩
theorem begs_c {s : CS} (h4 : s.1 4 ≤ 10) : ∀ n, (∀ j, j ≠ 4 → j ≠ 8 → j ≠ 9 → (itr beg1 n s).1 j = s.1 j) ∧ s.1 4 ≤ (itr beg1 n s).1 4 ∧ (itr beg1 n s).1 4 ≤ 10 ∧ (itr beg1 n s).1 8 ≤ s.1 8 + n ∧ (itr beg1 n s).1 9 ≤ s.1 9 + n
  | 0 => ⟨fun _ _ _ _ => rfl, Nat.le_refl _, h4, Nat.le_refl _, Nat.le_refl _⟩
  | n + 1 => by
    obtain ⟨a1, a2, a3, a4, a5⟩ := begs_c h4 n
    obtain ⟨b1, b2, b3, b4, b5, b6⟩ := beg1_c (k := n) (s := itr beg1 n s)
    rw [itr_s']
    exact ⟨fun j h4 h8 h9 => (b1 j h4 h8 h9).trans (a1 j h4 h8 h9), by omega, by omega, by omega, by omega⟩
theorem CB_of2 {c c' : Nat → Nat} (hc : CB c) (h : ∀ j, j ≠ 4 → j ≠ 8 → j ≠ 9 → c' j = c j) (h4 : c' 4 ≤ 10) (h8 : c' 8 ≤ 1000000) (h9 : c' 9 ≤ 1000000) : CB c' := by
  unfold CB at hc ⊢
  rw [h 0 (by decide) (by decide) (by decide), h 1 (by decide) (by decide) (by decide), h 2 (by decide) (by decide) (by decide), h 3 (by decide) (by decide) (by decide), h 5 (by decide) (by decide) (by decide), h 6 (by decide) (by decide) (by decide), h 7 (by decide) (by decide) (by decide), h 10 (by decide) (by decide) (by decide), h 11 (by decide) (by decide) (by decide), h 12 (by decide) (by decide) (by decide), h 13 (by decide) (by decide) (by decide), h 14 (by decide) (by decide) (by decide)]
  obtain ⟨c0, c1, c2, c3, c4, c5, c6, c7, c8, c9, c10, c11, c12, c13, c14⟩ := hc
  exact ⟨c0, c1, c2, c3, h4, c5, c6, c7, h8, h9, c10, c11, c12, c13, c14⟩
theorem J_beg {m0 μ : mMu} {f : Nat → Nat → Int32} {l : Nat → Nat → Int64} {r : Nat → Nat → Option Nat} {k z : Nat} {c : Nat → Nat} {S : Nat → Nat → Nat → Int32} {o2 o3 o4 : Option Value} (h : Md m0 μ f l r k z c S) (hc : CB c) (h8 : c 8 + 10 ≤ 1000000) (h9 : c 9 + 10 ≤ 1000000) :
    MV (RUN 136 81 [some (.ref 137), some (.int (nI 0)), o2, o3, o4] [] (st μ f l r)) m0 (k + 10) (z + 40) (itr beg1 (c 3) (c, S)).1 (itr beg1 (c 3) (c, S)).2 := by
  have hc' := hc
  obtain ⟨c0, c1, c2, c3, c4, c5, c6, c7, c8, c9, c10, c11, c12, c13, c14⟩ := hc
  refine loopP (fun i o => ∃ μ f l r o2 o3 o4, o = RUN 136 81 [some (.ref 137), some (.int (nI i)), o2, o3, o4] [] (st μ f l r) ∧ Md m0 μ f l r (k + i) (z + 4 * i) (itr beg1 i (c, S)).1 (itr beg1 i (c, S)).2) (fun o => MV o m0 (k + 10) (z + 40) (itr beg1 (c 3) (c, S)).1 (itr beg1 (c 3) (c, S)).2) (c 3) ?_ ?_ 0 _ (Nat.zero_le _) ⟨μ, f, l, r, _, _, _, rfl, h⟩
  · rintro o ⟨μ, f, l, r, o2, o3, o4, rfl, h⟩
    have hs := h.1
    have hr := h.2.1
    have h137a : (mS μ 137).1 = 9 := by rw [hs 137 (by decide)]; rfl
    have h138a : (mS μ 138).1 = 20 := by rw [hs 138 (by decide)]; rfl
    have h138b : (mS μ 138).2 = 15 := by rw [hs 138 (by decide)]; rfl
    have r137_1 : r 137 1 = some 138 := hr 137 1 138 rfl
    obtain ⟨a1, a2, a3, a4, a5⟩ := begs_c (s := (c, S)) c4 (c 3)
    have L3 : f 138 3 = nI (c 3) := by rw [h.2.2.2.2.1 3 (by decide), a1 3 (by decide) (by decide) (by decide)]
    rw [B_136_81]
    simp (disch := omega) only [st_I, st_L, st_R, st_S, st_N, st_C, st_Z, st_X, st_D, st_st, st_sI, st_sIr, st_sL, st_sR, gfI_st, gfL_st, gfR_st, gfN_st, pfI_st, pfL_st, pfR_st, pfZ_st0, pfZ_st1, ldI_st, ldL_st, stoI_st, stoL_st, aln_st, cpA_st, bq_st, bq_S, oI_s, oL_s, oD_s, oV_s, oR_s, oR_n, oI_e, oL_e, oD_e, Option.bind_some, fa_lit, fa_litL, nI_add, pk_mul, nI_m1, nI_lt', nI_le', nI_eq', lc_ge, lc_le, lc_gt, lc_lt, lc_eq, isZ_0, isZ_1, bI_0, bI_z, decide_eq_true_eq, Bool.not_eq_true', Bool.not_true, Bool.not_false, decide_eq_false_iff_not, if_true, if_false, ite_true, ite_false, eq_self, not_true, not_false_eq_true, C_95, C_96, C_97, C_99, C_100, C_102, C_106, C_107, C_109, C_168, C_171, C_172, C_173, C_174, C_175, yu_ne, yu_eq, up_eq, up_ne, yur_ne, yur_eq, yu_uu, y1_eq, y1_ne, y1_y1, Nat.mul_zero, Nat.zero_mul, Nat.add_zero, Nat.zero_add, Nat.mul_one, Nat.one_mul, Nat.reduceEqDiff, Nat.reduceLT, Nat.reduceLeDiff, Nat.reduceAdd, Nat.reduceMul, decide_true, decide_false, cond_true, cond_false, reduceCtorEq, Bool.false_eq_true, Bool.true_eq_false, Bool.true_and, Bool.and_true, Bool.false_and, Bool.and_false, r137_1, L3, Nat.le_refl]
    exact ⟨_, _, _, _, rfl, Md_le h (by omega) (by omega)⟩
  · rintro i o hi ⟨μ, f, l, r, o2, o3, o4, rfl, h⟩
    have hs := h.1
    have hr := h.2.1
    have h137a : (mS μ 137).1 = 9 := by rw [hs 137 (by decide)]; rfl
    have h138a : (mS μ 138).1 = 20 := by rw [hs 138 (by decide)]; rfl
    have h138b : (mS μ 138).2 = 15 := by rw [hs 138 (by decide)]; rfl
    have h143a : (mS μ 143).1 = 20 := by rw [hs 143 (by decide)]; rfl
    have h143b : (mS μ 143).2 = 50 := by rw [hs 143 (by decide)]; rfl
    have r137_1 : r 137 1 = some 138 := hr 137 1 138 rfl
    have r137_6 : r 137 6 = some 143 := hr 137 6 143 rfl
    obtain ⟨a1, a2, a3, a4, a5⟩ := begs_c (s := (c, S)) c4 i
    have hi' : ¬ c 3 ≤ i := by omega
    have hi10 : i < 10 := by omega
    have e8 : (c, S).1 8 = c 8 := rfl
    have e9 : (c, S).1 9 = c 9 := rfl
    have hci : CB (itr beg1 i (c, S)).1 := CB_of2 hc' a1 a3 (by omega) (by omega)
    have e3 : (itr beg1 i (c, S)).1 3 = c 3 := a1 3 (by decide) (by decide) (by decide)
    rw [itr_s']
    generalize itr beg1 i (c, S) = s at h hci e3 a3 a4 a5 ⊢
    obtain ⟨c1, S1⟩ := s
    simp only at h hci e3 a3 a4 a5 ⊢
    have L3 : f 138 3 = nI (c 3) := by rw [h.2.2.2.2.1 3 (by decide), e3]
    have L4 : f 138 4 = nI (c1 4) := h.2.2.2.2.1 4 (by decide)
    have L9 : f 138 9 = nI (c1 9) := h.2.2.2.2.1 9 (by decide)
    have L5 : ∀ w, w < 5 → f 143 (5 * i + w) = S1 5 i w := fun w hw => h.2.2.2.2.2.2.2.2.2.1 i w hi10 hw
    right
    rw [B_136_81]
    simp (disch := omega) only [st_I, st_L, st_R, st_S, st_N, st_C, st_Z, st_X, st_D, st_st, st_sI, st_sIr, st_sL, st_sR, gfI_st, gfL_st, gfR_st, gfN_st, pfI_st, pfL_st, pfR_st, pfZ_st0, pfZ_st1, ldI_st, ldL_st, stoI_st, stoL_st, aln_st, cpA_st, bq_st, bq_S, oI_s, oL_s, oD_s, oV_s, oR_s, oR_n, oI_e, oL_e, oD_e, Option.bind_some, fa_lit, fa_litL, nI_add, pk_mul, nI_m1, nI_lt', nI_le', nI_eq', lc_ge, lc_le, lc_gt, lc_lt, lc_eq, isZ_0, isZ_1, bI_0, bI_z, decide_eq_true_eq, Bool.not_eq_true', Bool.not_true, Bool.not_false, decide_eq_false_iff_not, if_true, if_false, ite_true, ite_false, eq_self, not_true, not_false_eq_true, C_95, C_96, C_97, C_99, C_100, C_102, C_106, C_107, C_109, C_168, C_171, C_172, C_173, C_174, C_175, yu_ne, yu_eq, up_eq, up_ne, yur_ne, yur_eq, yu_uu, y1_eq, y1_ne, y1_y1, Nat.mul_zero, Nat.zero_mul, Nat.add_zero, Nat.zero_add, Nat.mul_one, Nat.one_mul, Nat.reduceEqDiff, Nat.reduceLT, Nat.reduceLeDiff, Nat.reduceAdd, Nat.reduceMul, decide_true, decide_false, cond_true, cond_false, reduceCtorEq, Bool.false_eq_true, Bool.true_eq_false, Bool.true_and, Bool.and_true, Bool.false_and, Bool.and_false, r137_1, r137_1, r137_6, L3, hi', L5]
    unfold beg1
    simp only
    by_cases hq : S1 5 i 4 = -nI 1
    · by_cases hq2 : c1 4 = 10
      · simp (disch := omega) only [st_I, st_L, st_R, st_S, st_N, st_C, st_Z, st_X, st_D, st_st, st_sI, st_sIr, st_sL, st_sR, gfI_st, gfL_st, gfR_st, gfN_st, pfI_st, pfL_st, pfR_st, pfZ_st0, pfZ_st1, ldI_st, ldL_st, stoI_st, stoL_st, aln_st, cpA_st, bq_st, bq_S, oI_s, oL_s, oD_s, oV_s, oR_s, oR_n, oI_e, oL_e, oD_e, Option.bind_some, fa_lit, fa_litL, nI_add, pk_mul, nI_m1, nI_lt', nI_le', nI_eq', lc_ge, lc_le, lc_gt, lc_lt, lc_eq, isZ_0, isZ_1, bI_0, bI_z, decide_eq_true_eq, Bool.not_eq_true', Bool.not_true, Bool.not_false, decide_eq_false_iff_not, if_true, if_false, ite_true, ite_false, eq_self, not_true, not_false_eq_true, C_95, C_96, C_97, C_99, C_100, C_102, C_106, C_107, C_109, C_168, C_171, C_172, C_173, C_174, C_175, yu_ne, yu_eq, up_eq, up_ne, yur_ne, yur_eq, yu_uu, y1_eq, y1_ne, y1_y1, Nat.mul_zero, Nat.zero_mul, Nat.add_zero, Nat.zero_add, Nat.mul_one, Nat.one_mul, Nat.reduceEqDiff, Nat.reduceLT, Nat.reduceLeDiff, Nat.reduceAdd, Nat.reduceMul, decide_true, decide_false, cond_true, cond_false, reduceCtorEq, Bool.false_eq_true, Bool.true_eq_false, Bool.true_and, Bool.and_true, Bool.false_and, Bool.and_false, r137_1, r137_1, r137_6, hq, hq2, L4, ne_eq, and_false]
        exact ⟨_, _, _, _, _, _, _, rfl, Md_le h (by omega) (by omega)⟩
      · have ht : c1 4 < 10 := by omega
        simp (disch := omega) only [st_I, st_L, st_R, st_S, st_N, st_C, st_Z, st_X, st_D, st_st, st_sI, st_sIr, st_sL, st_sR, gfI_st, gfL_st, gfR_st, gfN_st, pfI_st, pfL_st, pfR_st, pfZ_st0, pfZ_st1, ldI_st, ldL_st, stoI_st, stoL_st, aln_st, cpA_st, bq_st, bq_S, oI_s, oL_s, oD_s, oV_s, oR_s, oR_n, oI_e, oL_e, oD_e, Option.bind_some, fa_lit, fa_litL, nI_add, pk_mul, nI_m1, nI_lt', nI_le', nI_eq', lc_ge, lc_le, lc_gt, lc_lt, lc_eq, isZ_0, isZ_1, bI_0, bI_z, decide_eq_true_eq, Bool.not_eq_true', Bool.not_true, Bool.not_false, decide_eq_false_iff_not, if_true, if_false, ite_true, ite_false, eq_self, not_true, not_false_eq_true, C_95, C_96, C_97, C_99, C_100, C_102, C_106, C_107, C_109, C_168, C_171, C_172, C_173, C_174, C_175, yu_ne, yu_eq, up_eq, up_ne, yur_ne, yur_eq, yu_uu, y1_eq, y1_ne, y1_y1, Nat.mul_zero, Nat.zero_mul, Nat.add_zero, Nat.zero_add, Nat.mul_one, Nat.one_mul, Nat.reduceEqDiff, Nat.reduceLT, Nat.reduceLeDiff, Nat.reduceAdd, Nat.reduceMul, decide_true, decide_false, cond_true, cond_false, reduceCtorEq, Bool.false_eq_true, Bool.true_eq_false, Bool.true_and, Bool.and_true, Bool.false_and, Bool.and_false, r137_1, r137_1, r137_6, hq, hq2, L4, ne_eq, and_true]
        refine loopP (fun w o => ∃ f', o = RUN 136 131 [some (.ref 137), some (.int (nI i)), some (.int (nI (5 * i))), some (.int (nI (c1 4))), some (.int (nI w))] [] (st μ f' l r) ∧ Md m0 μ f' l r (k + i) (z + 4 * i) c1 (u1 S1 7 (u1 (S1 7) (c1 4) (fun v => if v < w then nI 0 else S1 7 (c1 4) v)))) (fun o => ∃ μ' f' l' r' o2 o3 o4, o = RUN 136 81 [some (.ref 137), some (.int (nI (i + 1))), o2, o3, o4] [] (st μ' f' l' r') ∧ Md m0 μ' f' l' r' (k + (i + 1)) (z + 4 * (i + 1)) (u1 (u1 (noteC c1) 9 (c1 9 + 1)) 4 (c1 4 + 1)) (noteS c1 (u1 (u1 S1 7 (u1 (S1 7) (c1 4) (nrc (nI (c1 9)) (nI 16 * S1 5 i 0) (nI 16 * S1 5 i 1) i))) 5 (u1 (S1 5) i (up (S1 5 i) 4 (nI (c1 9))))) (nI 0) (nI (c1 9)) (-nI 1))) 38 ?_ ?_ 0 _ (Nat.zero_le _) ⟨f, rfl, Md_ext (Md_foc (c1 4) h) (fun w hw => by simp)⟩
        · rintro o ⟨f', rfl, h'⟩
          have h38 : ∀ w, w < 38 → (if w < 38 then nI 0 else S1 7 (c1 4) w) = (if w = 38 then nI i else nI 0) := fun w hw => by
            rw [if_pos hw, if_neg (by omega)]
          have h0 := Md_ext (R' := fun w => if w = 38 then nI i else nI 0) h' h38
          have L9 : f' 138 9 = nI (c1 9) := h0.2.2.2.2.1 9 (by decide)
          rw [B_136_131]
          obtain ⟨f1, q1, h1⟩ := sR_e (w := 0) (v := nI (c1 9)) h0 ht (by decide)
          have L5a : f1 143 (5 * i) = S1 5 i 0 := by
            have := h1.2.2.2.2.2.2.2.2.2.1 i 0 hi10 (by decide)
            rw [y1_ne (by decide)] at this
            exact this
          obtain ⟨f2, q2, h2⟩ := sR_e (w := 1) (v := nI 16 * S1 5 i 0) h1 ht (by decide)
          have L5b : f2 143 (5 * i + 1) = S1 5 i 1 := by rw [h2.2.2.2.2.2.2.2.2.2.1 i 1 hi10 (by decide), y1_ne (by decide)]
          obtain ⟨f3, q3, h3⟩ := sR_e (w := 2) (v := nI 16 * S1 5 i 1) h2 ht (by decide)
          obtain ⟨f4, q4, h4⟩ := sR_e (w := 6) (v := nI 1) h3 ht (by decide)
          obtain ⟨f5, q5, h5⟩ := sR_e (w := 8) (v := nI 1) h4 ht (by decide)
          have L9b : f5 138 9 = nI (c1 9) := h5.2.2.2.2.1 9 (by decide)
          have h6 : Md m0 μ (u2 f5 143 (5 * i + 4) (nI (c1 9))) l r (k + i) (z + 4 * i) c1 (u1 (u1 S1 7 (u1 (S1 7) (c1 4) (nrc (nI (c1 9)) (nI 16 * S1 5 i 0) (nI 16 * S1 5 i 1) i))) 5 (u1 (S1 5) i (up (S1 5 i) 4 (nI (c1 9))))) := by
            have := MRu_5 (i := i) (j := 4) (v := nI (c1 9)) h5.2.2.2.2 (by decide)
            rw [y1_ne (show 5 ≠ 7 by decide)] at this
            exact Md_f h5 (fun a ha => yu_ne (by omega)) this
          obtain ⟨μ7, f7, l7, r7, q7, h7⟩ := Md_note h6 hci (kd := nI 0) (nm := nI (c1 9)) (ot := -nI 1)
          simp (disch := omega) only [st_I, st_L, st_R, st_S, st_N, st_C, st_Z, st_X, st_D, st_st, st_sI, st_sIr, st_sL, st_sR, gfI_st, gfL_st, gfR_st, gfN_st, pfI_st, pfL_st, pfR_st, pfZ_st0, pfZ_st1, ldI_st, ldL_st, stoI_st, stoL_st, aln_st, cpA_st, bq_st, bq_S, oI_s, oL_s, oD_s, oV_s, oR_s, oR_n, oI_e, oL_e, oD_e, Option.bind_some, fa_lit, fa_litL, nI_add, pk_mul, nI_m1, nI_lt', nI_le', nI_eq', lc_ge, lc_le, lc_gt, lc_lt, lc_eq, isZ_0, isZ_1, bI_0, bI_z, decide_eq_true_eq, Bool.not_eq_true', Bool.not_true, Bool.not_false, decide_eq_false_iff_not, if_true, if_false, ite_true, ite_false, eq_self, not_true, not_false_eq_true, C_95, C_96, C_97, C_99, C_100, C_102, C_106, C_107, C_109, C_168, C_171, C_172, C_173, C_174, C_175, yu_ne, yu_eq, up_eq, up_ne, yur_ne, yur_eq, yu_uu, y1_eq, y1_ne, y1_y1, Nat.mul_zero, Nat.zero_mul, Nat.add_zero, Nat.zero_add, Nat.mul_one, Nat.one_mul, Nat.reduceEqDiff, Nat.reduceLT, Nat.reduceLeDiff, Nat.reduceAdd, Nat.reduceMul, decide_true, decide_false, cond_true, cond_false, reduceCtorEq, Bool.false_eq_true, Bool.true_eq_false, Bool.true_and, Bool.and_true, Bool.false_and, Bool.and_false, r137_1, r137_1, r137_6, L9, q1, L5a, q2, L5b, q3, q4, q5, L9b, q7]
          have h137na : (mS μ7 137).1 = 9 := by rw [h7.1 137 (by decide)]; rfl
          have h138na : (mS μ7 138).1 = 20 := by rw [h7.1 138 (by decide)]; rfl
          have h138nb : (mS μ7 138).2 = 15 := by rw [h7.1 138 (by decide)]; rfl
          have r1 : r7 137 1 = some 138 := h7.2.1 137 1 138 rfl
          have L9c : f7 138 9 = nI (c1 9) := h7.2.2.2.2.1 9 (by decide)
          have L4c : f7 138 4 = nI (c1 4) := h7.2.2.2.2.1 4 (by decide)
          simp (disch := omega) only [st_I, st_L, st_R, st_S, st_N, st_C, st_Z, st_X, st_D, st_st, st_sI, st_sIr, st_sL, st_sR, gfI_st, gfL_st, gfR_st, gfN_st, pfI_st, pfL_st, pfR_st, pfZ_st0, pfZ_st1, ldI_st, ldL_st, stoI_st, stoL_st, aln_st, cpA_st, bq_st, bq_S, oI_s, oL_s, oD_s, oV_s, oR_s, oR_n, oI_e, oL_e, oD_e, Option.bind_some, fa_lit, fa_litL, nI_add, pk_mul, nI_m1, nI_lt', nI_le', nI_eq', lc_ge, lc_le, lc_gt, lc_lt, lc_eq, isZ_0, isZ_1, bI_0, bI_z, decide_eq_true_eq, Bool.not_eq_true', Bool.not_true, Bool.not_false, decide_eq_false_iff_not, if_true, if_false, ite_true, ite_false, eq_self, not_true, not_false_eq_true, C_95, C_96, C_97, C_99, C_100, C_102, C_106, C_107, C_109, C_168, C_171, C_172, C_173, C_174, C_175, yu_ne, yu_eq, up_eq, up_ne, yur_ne, yur_eq, yu_uu, y1_eq, y1_ne, y1_y1, Nat.mul_zero, Nat.zero_mul, Nat.add_zero, Nat.zero_add, Nat.mul_one, Nat.one_mul, Nat.reduceEqDiff, Nat.reduceLT, Nat.reduceLeDiff, Nat.reduceAdd, Nat.reduceMul, decide_true, decide_false, cond_true, cond_false, reduceCtorEq, Bool.false_eq_true, Bool.true_eq_false, Bool.true_and, Bool.and_true, Bool.false_and, Bool.and_false, r137_1, r137_1, r137_6, r1, L9c, L4c]
          exact ⟨_, _, _, _, _, _, _, rfl, Md_f (Md_le h7 (by omega) (by omega)) (fun a ha => by simp (disch := omega) only [st_I, st_L, st_R, st_S, st_N, st_C, st_Z, st_X, st_D, st_st, st_sI, st_sIr, st_sL, st_sR, gfI_st, gfL_st, gfR_st, gfN_st, pfI_st, pfL_st, pfR_st, pfZ_st0, pfZ_st1, ldI_st, ldL_st, stoI_st, stoL_st, aln_st, cpA_st, bq_st, bq_S, oI_s, oL_s, oD_s, oV_s, oR_s, oR_n, oI_e, oL_e, oD_e, Option.bind_some, fa_lit, fa_litL, nI_add, pk_mul, nI_m1, nI_lt', nI_le', nI_eq', lc_ge, lc_le, lc_gt, lc_lt, lc_eq, isZ_0, isZ_1, bI_0, bI_z, decide_eq_true_eq, Bool.not_eq_true', Bool.not_true, Bool.not_false, decide_eq_false_iff_not, if_true, if_false, ite_true, ite_false, eq_self, not_true, not_false_eq_true, C_95, C_96, C_97, C_99, C_100, C_102, C_106, C_107, C_109, C_168, C_171, C_172, C_173, C_174, C_175, yu_ne, yu_eq, up_eq, up_ne, yur_ne, yur_eq, yu_uu, y1_eq, y1_ne, y1_y1, Nat.mul_zero, Nat.zero_mul, Nat.add_zero, Nat.zero_add, Nat.mul_one, Nat.one_mul, Nat.reduceEqDiff, Nat.reduceLT, Nat.reduceLeDiff, Nat.reduceAdd, Nat.reduceMul, decide_true, decide_false, cond_true, cond_false, reduceCtorEq, Bool.false_eq_true, Bool.true_eq_false, Bool.true_and, Bool.and_true, Bool.false_and, Bool.and_false, r137_1, r137_1, r137_6]) (MR_c (MR_c h7.2.2.2.2))⟩
        · rintro w o hw ⟨f', rfl, h'⟩
          have hw' : ¬ 38 ≤ w := by omega
          obtain ⟨f1, q1, h1⟩ := sR_e (w := w) (v := nI 0) h' ht hw
          right
          rw [B_136_131]
          simp (disch := omega) only [st_I, st_L, st_R, st_S, st_N, st_C, st_Z, st_X, st_D, st_st, st_sI, st_sIr, st_sL, st_sR, gfI_st, gfL_st, gfR_st, gfN_st, pfI_st, pfL_st, pfR_st, pfZ_st0, pfZ_st1, ldI_st, ldL_st, stoI_st, stoL_st, aln_st, cpA_st, bq_st, bq_S, oI_s, oL_s, oD_s, oV_s, oR_s, oR_n, oI_e, oL_e, oD_e, Option.bind_some, fa_lit, fa_litL, nI_add, pk_mul, nI_m1, nI_lt', nI_le', nI_eq', lc_ge, lc_le, lc_gt, lc_lt, lc_eq, isZ_0, isZ_1, bI_0, bI_z, decide_eq_true_eq, Bool.not_eq_true', Bool.not_true, Bool.not_false, decide_eq_false_iff_not, if_true, if_false, ite_true, ite_false, eq_self, not_true, not_false_eq_true, C_95, C_96, C_97, C_99, C_100, C_102, C_106, C_107, C_109, C_168, C_171, C_172, C_173, C_174, C_175, yu_ne, yu_eq, up_eq, up_ne, yur_ne, yur_eq, yu_uu, y1_eq, y1_ne, y1_y1, Nat.mul_zero, Nat.zero_mul, Nat.add_zero, Nat.zero_add, Nat.mul_one, Nat.one_mul, Nat.reduceEqDiff, Nat.reduceLT, Nat.reduceLeDiff, Nat.reduceAdd, Nat.reduceMul, decide_true, decide_false, cond_true, cond_false, reduceCtorEq, Bool.false_eq_true, Bool.true_eq_false, Bool.true_and, Bool.and_true, Bool.false_and, Bool.and_false, r137_1, r137_1, r137_6, hw', q1]
          refine ⟨_, rfl, Md_ext h1 fun v hv => ?_⟩
          unfold up
          by_cases e : v = w
          · subst e; simp
          · by_cases e2 : v < w
            · have : v < w + 1 := by omega
              simp [e, e2, this]
            · have : ¬ v < w + 1 := by omega
              simp [e, e2, this]
    · simp (disch := omega) only [st_I, st_L, st_R, st_S, st_N, st_C, st_Z, st_X, st_D, st_st, st_sI, st_sIr, st_sL, st_sR, gfI_st, gfL_st, gfR_st, gfN_st, pfI_st, pfL_st, pfR_st, pfZ_st0, pfZ_st1, ldI_st, ldL_st, stoI_st, stoL_st, aln_st, cpA_st, bq_st, bq_S, oI_s, oL_s, oD_s, oV_s, oR_s, oR_n, oI_e, oL_e, oD_e, Option.bind_some, fa_lit, fa_litL, nI_add, pk_mul, nI_m1, nI_lt', nI_le', nI_eq', lc_ge, lc_le, lc_gt, lc_lt, lc_eq, isZ_0, isZ_1, bI_0, bI_z, decide_eq_true_eq, Bool.not_eq_true', Bool.not_true, Bool.not_false, decide_eq_false_iff_not, if_true, if_false, ite_true, ite_false, eq_self, not_true, not_false_eq_true, C_95, C_96, C_97, C_99, C_100, C_102, C_106, C_107, C_109, C_168, C_171, C_172, C_173, C_174, C_175, yu_ne, yu_eq, up_eq, up_ne, yur_ne, yur_eq, yu_uu, y1_eq, y1_ne, y1_y1, Nat.mul_zero, Nat.zero_mul, Nat.add_zero, Nat.zero_add, Nat.mul_one, Nat.one_mul, Nat.reduceEqDiff, Nat.reduceLT, Nat.reduceLeDiff, Nat.reduceAdd, Nat.reduceMul, decide_true, decide_false, cond_true, cond_false, reduceCtorEq, Bool.false_eq_true, Bool.true_eq_false, Bool.true_and, Bool.and_true, Bool.false_and, Bool.and_false, r137_1, r137_1, r137_6, hq, ne_eq, false_and]
      exact ⟨_, _, _, _, _, _, _, rfl, Md_le h (by omega) (by omega)⟩
def begin' (s : CS) : CS := itr beg1 (s.1 3) (s.1, itr clt (s.1 3) s.2)
theorem C_136 {m0 μ : mMu} {f : Nat → Nat → Int32} {l : Nat → Nat → Int64} {r : Nat → Nat → Option Nat} {k z : Nat} {c : Nat → Nat} {S : Nat → Nat → Nat → Int32} (h : Md m0 μ f l r k z c S) (hc : CB c) (h8 : c 8 + 10 ≤ 1000000) (h9 : c 9 + 10 ≤ 1000000) (hp : ∀ k, k < c 3 → plc (S 5 k 0) (S 5 k 1) = true) : MV (CALL 136 [.ref 137] (st μ f l r)) m0 (k + 10) (z + 40) (begin' (c, S)).1 (begin' (c, S)).2 := by
  rw [B_136_0]
  simp (disch := omega) only [st_I, st_L, st_R, st_S, st_N, st_C, st_Z, st_X, st_D, st_st, st_sI, st_sIr, st_sL, st_sR, gfI_st, gfL_st, gfR_st, gfN_st, pfI_st, pfL_st, pfR_st, pfZ_st0, pfZ_st1, ldI_st, ldL_st, stoI_st, stoL_st, aln_st, cpA_st, bq_st, bq_S, oI_s, oL_s, oD_s, oV_s, oR_s, oR_n, oI_e, oL_e, oD_e, Option.bind_some, fa_lit, fa_litL, nI_add, pk_mul, nI_m1, nI_lt', nI_le', nI_eq', lc_ge, lc_le, lc_gt, lc_lt, lc_eq, isZ_0, isZ_1, bI_0, bI_z, decide_eq_true_eq, Bool.not_eq_true', Bool.not_true, Bool.not_false, decide_eq_false_iff_not, if_true, if_false, ite_true, ite_false, eq_self, not_true, not_false_eq_true, C_95, C_96, C_97, C_99, C_100, C_102, C_106, C_107, C_109, C_168, C_171, C_172, C_173, C_174, C_175, yu_ne, yu_eq, up_eq, up_ne, yur_ne, yur_eq, yu_uu, y1_eq, y1_ne, y1_y1, Nat.mul_zero, Nat.zero_mul, Nat.add_zero, Nat.zero_add, Nat.mul_one, Nat.one_mul, Nat.reduceEqDiff, Nat.reduceLT, Nat.reduceLeDiff, Nat.reduceAdd, Nat.reduceMul, decide_true, decide_false, cond_true, cond_false, reduceCtorEq, Bool.false_eq_true, Bool.true_eq_false, Bool.true_and, Bool.and_true, Bool.false_and, Bool.and_false]
  exact J_clt h hc (Q := fun o => MV o m0 (k + 10) (z + 40) (begin' (c, S)).1 (begin' (c, S)).2) hp fun f' o2 o3 o4 h' => J_beg h' hc h8 h9
