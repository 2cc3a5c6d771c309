/-! ===== the reference's sweep: frame, expectation ===== -/
def Md (m0 : mMu) (μ : mMu) (f : Nat → Nat → Int32) (l : Nat → Nat → Int64) (r : Nat → Nat → Option Nat) (k z : Nat) (c : Nat → Nat) (S : Nat → Nat → Nat → Int32) : Prop := Sh μ ∧ Rf r ∧ 154 ≤ mN μ ∧ Al m0 (st μ f l r) k z ∧ MR f c S
def MV (o : mOut) (m0 : mMu) (k z : Nat) (c : Nat → Nat) (S : Nat → Nat → Nat → Int32) : Prop := ∃ μ f l r, o = some (.inl none, st μ f l r) ∧ Md m0 μ f l r k z c S
def MI (o : mOut) (m0 : mMu) (k z : Nat) (v : Int32) (c : Nat → Nat) (S : Nat → Nat → Nat → Int32) : Prop := ∃ μ f l r, o = some (.inl (some (.int v)), st μ f l r) ∧ Md m0 μ f l r k z c S
theorem Md_upd {m0 μ : mMu} {f f' : Nat → Nat → Int32} {l l' : Nat → Nat → Int64} {r : Nat → Nat → Option Nat} {k z : Nat} {c c' : Nat → Nat} {S S' : Nat → Nat → Nat → Int32} (h : Md m0 μ f l r k z c S) (hf : ∀ a, ¬ (138 ≤ a ∧ a ≤ 151) → f' a = f a) (hl : ∀ a, ¬ (137 ≤ a ∧ a ≤ 151) → l' a = l a) (hm : MR f' c' S') : Md m0 μ f' l' r k z c' S' :=
  ⟨h.1, h.2.1, h.2.2.1, Al_le (Al_trans h.2.2.2.1 (Al_own h.1 h.2.1 hf hl)) (by omega) (by omega), hm⟩
theorem Md_f {m0 μ : mMu} {f f' : Nat → Nat → Int32} {l : Nat → Nat → Int64} {r : Nat → Nat → Option Nat} {k z : Nat} {c c' : Nat → Nat} {S S' : Nat → Nat → Nat → Int32} (h : Md m0 μ f l r k z c S) (hf : ∀ a, ¬ (138 ≤ a ∧ a ≤ 151) → f' a = f a) (hm : MR f' c' S') : Md m0 μ f' l r k z c' S' := Md_upd h hf (fun _ _ => rfl) hm
theorem Md_le {m0 μ : mMu} {f : Nat → Nat → Int32} {l : Nat → Nat → Int64} {r : Nat → Nat → Option Nat} {k z k' z' : Nat} {c : Nat → Nat} {S : Nat → Nat → Nat → Int32} (h : Md m0 μ f l r k z c S) (hk : k ≤ k') (hz : z ≤ z') : Md m0 μ f l r k' z' c S := ⟨h.1, h.2.1, h.2.2.1, Al_le h.2.2.2.1 hk hz, h.2.2.2.2⟩
theorem Md_note {m0 μ : mMu} {f : Nat → Nat → Int32} {l : Nat → Nat → Int64} {r : Nat → Nat → Option Nat} {k z : Nat} {c : Nat → Nat} {S : Nat → Nat → Nat → Int32} (h : Md m0 μ f l r k z c S) (hc : CB c) {kd nm ot : Int32} : MV (CALL 126 [.ref 137, .int kd, .int nm, .int ot] (st μ f l r)) m0 (k + 1) (z + 4) (noteC c) (noteS c S kd nm ot) := by
  obtain ⟨μ', f', l', r', h1, h2, h3⟩ := C_126 h.1 h.2.1 h.2.2.2.2 hc h.2.2.1 (l := l) (kd := kd) (nm := nm) (ot := ot)
  exact ⟨μ', f', l', r', h1, Al_Sh (m := st μ f l r) (m' := st μ' f' l' r') h2 h.2.2.1 h.1, Al_Rf (m := st μ f l r) (m' := st μ' f' l' r') h2 h.2.2.1 h.2.1, by have := h2.1; have h4 := h.2.2.1; show 154 ≤ mN (st μ' f' l' r'); exact Nat.le_trans h4 this, Al_trans h.2.2.2.1 h2, h3⟩
theorem C_124r {μ : mMu} {f : Nat → Nat → Int32} {l : Nat → Nat → Int64} {r : Nat → Nat → Option Nat} (hs : Sh μ) (hr : Rf r) {t w : Nat} (ht : t < 10) (hw : w < 38) : CALL 124 [.ref 137, .int (nI t), .int (nI w)] (st μ f l r) = some (.inl (some (.int (f 145 (38 * t + w)))), st μ f l r) := by
  have h137a : (mS μ 137).1 = 9 := by rw [hs 137 (by decide)]; rfl
  have h145a : (mS μ 145).1 = 20 := by rw [hs 145 (by decide)]; rfl
  have h145b : (mS μ 145).2 = 380 := by rw [hs 145 (by decide)]; rfl
  have r137_8 : r 137 8 = some 145 := hr 137 8 145 rfl
  rw [B_124_0]
  simp (disch := omega) only [st_I, st_L, st_R, st_S, st_N, st_C, st_Z, st_X, st_D, st_st, st_sI, st_sIr, st_sL, st_sR, gfI_st, gfL_st, gfR_st, gfN_st, pfI_st, pfL_st, pfR_st, pfZ_st0, pfZ_st1, ldI_st, ldL_st, stoI_st, stoL_st, aln_st, cpA_st, bq_st, bq_S, oI_s, oL_s, oD_s, oV_s, oR_s, oR_n, oI_e, oL_e, oD_e, Option.bind_some, fa_lit, fa_litL, nI_add, pk_mul, nI_m1, nI_lt', nI_le', nI_eq', lc_ge, lc_le, lc_gt, lc_lt, lc_eq, isZ_0, isZ_1, bI_0, bI_z, decide_eq_true_eq, Bool.not_eq_true', Bool.not_true, Bool.not_false, decide_eq_false_iff_not, if_true, if_false, ite_true, ite_false, eq_self, not_true, not_false_eq_true, C_95, C_96, C_97, C_99, C_100, C_102, C_106, C_107, C_109, C_168, C_171, C_172, C_173, C_174, C_175, yu_ne, yu_eq, up_eq, up_ne, yur_ne, yur_eq, yu_uu, y1_eq, y1_ne, y1_y1, Nat.mul_zero, Nat.zero_mul, Nat.add_zero, Nat.zero_add, Nat.mul_one, Nat.one_mul, Nat.reduceEqDiff, Nat.reduceLT, Nat.reduceLeDiff, Nat.reduceAdd, Nat.reduceMul, decide_true, decide_false, cond_true, cond_false, reduceCtorEq, Bool.false_eq_true, Bool.true_eq_false, Bool.true_and, Bool.and_true, Bool.false_and, Bool.and_false, r137_8]
theorem u2_u1 {α : Type} {f : Nat → Nat → α} {a j : Nat} {v : α} : u2 f a j v = u1 f a (up (f a) j v) := by
  funext x y
  unfold u2 u1 up
  by_cases h : x = a
  · subst h; simp
  · simp [h]
theorem MRu_5 {f : Nat → Nat → Int32} {c : Nat → Nat} {S : Nat → Nat → Nat → Int32} {i j : Nat} {v : Int32} (hm : MR f c S) (hj : j < 5) : MR (u2 f 143 (5 * i + j) v) c (u1 S 5 (u1 (S 5) i (up (S 5 i) j v))) := by
  have h := MRs_5 (i := i) (j := j) (v := v) hm hj
  rw [u2_u1 (f := S 5)] at h
  exact h
theorem MRu_7 {f : Nat → Nat → Int32} {c : Nat → Nat} {S : Nat → Nat → Nat → Int32} {i j : Nat} {v : Int32} (hm : MR f c S) (hj : j < 38) : MR (u2 f 145 (38 * i + j) v) c (u1 S 7 (u1 (S 7) i (up (S 7 i) j v))) := by
  have h := MRs_7 (i := i) (j := j) (v := v) hm hj
  rw [u2_u1 (f := S 7)] at h
  exact h
/-- the first n by a rule -/
def upn {α : Type} (n : Nat) (F : Nat → α → α) (T : Nat → α) : Nat → α := fun t => if t < n then F t (T t) else T t
theorem upn_0 {α : Type} {F : Nat → α → α} {T : Nat → α} : upn 0 F T = T := by funext t; unfold upn; rw [if_neg (Nat.not_lt_zero t)]
theorem upn_s {α : Type} {n : Nat} {F : Nat → α → α} {T : Nat → α} : upn (n + 1) F T = u1 (upn n F T) n (F n (T n)) := by
  funext t
  show (if t < n + 1 then F t (T t) else T t) = (if t = n then F n (T n) else (if t < n then F t (T t) else T t))
  by_cases h : t = n
  · subst h; simp
  · by_cases h2 : t < n
    · rw [if_neg h, if_pos h2, if_pos (by omega)]
    · rw [if_neg h, if_neg h2, if_neg (by omega)]
theorem upn_at {α : Type} {n t : Nat} {F : Nat → α → α} {T : Nat → α} (h : n ≤ t) : upn n F T t = T t := by unfold upn; rw [if_neg (by omega)]
theorem upn_lt {α : Type} {n t : Nat} {F : Nat → α → α} {T : Nat → α} (h : t < n) : upn n F T t = F t (T t) := by unfold upn; rw [if_pos h]
/-- 1. a track where it is expected -/
def e1 (dt : Int32) (R : Nat → Int32) : Nat → Int32 := up (up (up (up R 10 (R 1)) 11 (R 2)) 1 (R 1 + p_wy (R 3) dt)) 2 (R 2 + p_wy (R 4) dt)
theorem C_127 {m0 μ : mMu} {f : Nat → Nat → Int32} {l : Nat → Nat → Int64} {r : Nat → Nat → Option Nat} {k z : Nat} {c : Nat → Nat} {S : Nat → Nat → Nat → Int32} (h : Md m0 μ f l r k z c S) (hc : CB c) {dt : Int32} : MV (CALL 127 [.ref 137, .int dt] (st μ f l r)) m0 k z c (u1 S 7 (upn (c 4) (fun _ => e1 dt) (S 7))) := by
  have hs := h.1
  have hr := h.2.1
  have h137a : (mS μ 137).1 = 9 := by rw [hs 137 (by decide)]; rfl
  have h138a : (mS μ 138).1 = 20 := by rw [hs 138 (by decide)]; rfl
  have h138b : (mS μ 138).2 = 15 := by rw [hs 138 (by decide)]; rfl
  have h145a : (mS μ 145).1 = 20 := by rw [hs 145 (by decide)]; rfl
  have h145b : (mS μ 145).2 = 380 := by rw [hs 145 (by decide)]; rfl
  have r137_1 : r 137 1 = some 138 := hr 137 1 138 rfl
  have r137_8 : r 137 8 = some 145 := hr 137 8 145 rfl
  have hc' := hc
  obtain ⟨c0, c1, c2, c3, c4, c5, c6, c7, c8, c9, c10, c11, c12, c13, c14⟩ := hc
  rw [B_127_0]
  refine loopP (fun i o => ∃ f', o = RUN 127 2 [some (.ref 137), some (.int dt), some (.int (nI i))] [] (st μ f' l r) ∧ Md m0 μ f' l r k z c (u1 S 7 (upn i (fun _ => e1 dt) (S 7)))) (fun o => MV o m0 k z c (u1 S 7 (upn (c 4) (fun _ => e1 dt) (S 7)))) (c 4) ?_ ?_ 0 _ (Nat.zero_le _) ⟨f, rfl, ?_⟩
  · rintro o ⟨f', rfl, h'⟩
    have L0_4 : f' 138 4 = nI (c 4) := h'.2.2.2.2.1 4 (by decide)
    rw [B_127_2]
    simp (disch := omega) only [st_I, st_L, st_R, st_S, st_N, st_C, st_Z, st_X, st_D, st_st, st_sI, st_sIr, st_sL, st_sR, gfI_st, gfL_st, gfR_st, gfN_st, pfI_st, pfL_st, pfR_st, pfZ_st0, pfZ_st1, ldI_st, ldL_st, stoI_st, stoL_st, aln_st, cpA_st, bq_st, bq_S, oI_s, oL_s, oD_s, oV_s, oR_s, oR_n, oI_e, oL_e, oD_e, Option.bind_some, fa_lit, fa_litL, nI_add, pk_mul, nI_m1, nI_lt', nI_le', nI_eq', lc_ge, lc_le, lc_gt, lc_lt, lc_eq, isZ_0, isZ_1, bI_0, bI_z, decide_eq_true_eq, Bool.not_eq_true', Bool.not_true, Bool.not_false, decide_eq_false_iff_not, if_true, if_false, ite_true, ite_false, eq_self, not_true, not_false_eq_true, C_95, C_96, C_97, C_99, C_100, C_102, C_106, C_107, C_109, C_168, C_171, C_172, C_173, C_174, C_175, yu_ne, yu_eq, up_eq, up_ne, yur_ne, yur_eq, yu_uu, y1_eq, y1_ne, y1_y1, Nat.mul_zero, Nat.zero_mul, Nat.add_zero, Nat.zero_add, Nat.mul_one, Nat.one_mul, Nat.reduceEqDiff, Nat.reduceLT, Nat.reduceLeDiff, Nat.reduceAdd, Nat.reduceMul, decide_true, decide_false, cond_true, cond_false, reduceCtorEq, Bool.false_eq_true, Bool.true_eq_false, Bool.true_and, Bool.and_true, Bool.false_and, Bool.and_false, r137_1, r137_8, Nat.le_refl, L0_4]
    exact ⟨_, _, _, _, rfl, h'⟩
  · rintro i o hi ⟨f', rfl, h'⟩
    have hi' : ¬ c 4 ≤ i := by omega
    have hi10 : i < 10 := by omega
    have L0_4 : f' 138 4 = nI (c 4) := h'.2.2.2.2.1 4 (by decide)
    have L7 : ∀ w, w < 38 → f' 145 (38 * i + w) = S 7 i w := fun w hw => by
      rw [h'.2.2.2.2.2.2.2.2.2.2.2.1 i w hi10 hw, y1_eq, upn_at (Nat.le_refl i)]
    right
    rw [B_127_2]
    simp (disch := omega) only [st_I, st_L, st_R, st_S, st_N, st_C, st_Z, st_X, st_D, st_st, st_sI, st_sIr, st_sL, st_sR, gfI_st, gfL_st, gfR_st, gfN_st, pfI_st, pfL_st, pfR_st, pfZ_st0, pfZ_st1, ldI_st, ldL_st, stoI_st, stoL_st, aln_st, cpA_st, bq_st, bq_S, oI_s, oL_s, oD_s, oV_s, oR_s, oR_n, oI_e, oL_e, oD_e, Option.bind_some, fa_lit, fa_litL, nI_add, pk_mul, nI_m1, nI_lt', nI_le', nI_eq', lc_ge, lc_le, lc_gt, lc_lt, lc_eq, isZ_0, isZ_1, bI_0, bI_z, decide_eq_true_eq, Bool.not_eq_true', Bool.not_true, Bool.not_false, decide_eq_false_iff_not, if_true, if_false, ite_true, ite_false, eq_self, not_true, not_false_eq_true, C_95, C_96, C_97, C_99, C_100, C_102, C_106, C_107, C_109, C_168, C_171, C_172, C_173, C_174, C_175, yu_ne, yu_eq, up_eq, up_ne, yur_ne, yur_eq, yu_uu, y1_eq, y1_ne, y1_y1, Nat.mul_zero, Nat.zero_mul, Nat.add_zero, Nat.zero_add, Nat.mul_one, Nat.one_mul, Nat.reduceEqDiff, Nat.reduceLT, Nat.reduceLeDiff, Nat.reduceAdd, Nat.reduceMul, decide_true, decide_false, cond_true, cond_false, reduceCtorEq, Bool.false_eq_true, Bool.true_eq_false, Bool.true_and, Bool.and_true, Bool.false_and, Bool.and_false, r137_1, r137_8, L0_4, hi', C_124r hs hr hi10, C_125 hs hr hi10, C_108 h16, L7]
    refine ⟨_, rfl, Md_f h' (fun a ha => ?_) ?_⟩
    · simp (disch := omega) only [st_I, st_L, st_R, st_S, st_N, st_C, st_Z, st_X, st_D, st_st, st_sI, st_sIr, st_sL, st_sR, gfI_st, gfL_st, gfR_st, gfN_st, pfI_st, pfL_st, pfR_st, pfZ_st0, pfZ_st1, ldI_st, ldL_st, stoI_st, stoL_st, aln_st, cpA_st, bq_st, bq_S, oI_s, oL_s, oD_s, oV_s, oR_s, oR_n, oI_e, oL_e, oD_e, Option.bind_some, fa_lit, fa_litL, nI_add, pk_mul, nI_m1, nI_lt', nI_le', nI_eq', lc_ge, lc_le, lc_gt, lc_lt, lc_eq, isZ_0, isZ_1, bI_0, bI_z, decide_eq_true_eq, Bool.not_eq_true', Bool.not_true, Bool.not_false, decide_eq_false_iff_not, if_true, if_false, ite_true, ite_false, eq_self, not_true, not_false_eq_true, C_95, C_96, C_97, C_99, C_100, C_102, C_106, C_107, C_109, C_168, C_171, C_172, C_173, C_174, C_175, yu_ne, yu_eq, up_eq, up_ne, yur_ne, yur_eq, yu_uu, y1_eq, y1_ne, y1_y1, Nat.mul_zero, Nat.zero_mul, Nat.add_zero, Nat.zero_add, Nat.mul_one, Nat.one_mul, Nat.reduceEqDiff, Nat.reduceLT, Nat.reduceLeDiff, Nat.reduceAdd, Nat.reduceMul, decide_true, decide_false, cond_true, cond_false, reduceCtorEq, Bool.false_eq_true, Bool.true_eq_false, Bool.true_and, Bool.and_true, Bool.false_and, Bool.and_false, r137_1, r137_8]
    · have h2 := MRs_7 (i := i) (j := 2) (v := S 7 i 2 + p_wy (S 7 i 4) dt) (MRs_7 (i := i) (j := 1) (v := S 7 i 1 + p_wy (S 7 i 3) dt) (MRs_7 (i := i) (j := 11) (v := S 7 i 2) (MRs_7 (i := i) (j := 10) (v := S 7 i 1) h'.2.2.2.2 (by decide)) (by decide)) (by decide)) (by decide)
      simp only [u2_u1, y1_y1, y1_eq, upn_at (Nat.le_refl i)] at h2
      rw [upn_s]
      simp only [u2_u1]
      exact h2
  · rw [upn_0]
    have e : u1 S 7 (S 7) = S := by
      funext x; unfold u1; split
      · rename_i q; rw [q]
      · rfl
    rw [e]; exact h
