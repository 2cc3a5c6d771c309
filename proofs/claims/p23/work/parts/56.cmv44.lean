def LMs (μ : mMu) (l : Nat → Nat → Int64) (f0 : Nat → Nat → Int32) (r0 : Nat → Nat → Option Nat) (n : Nat) (S7 : Nat → Nat → Int32) (dt i : Nat) (s : CS) (o : mOut) : Prop := ∃ f r σ o4 o5, o = RUN 39 4 [some (.ref 1), some (.int (nI dt)), some (.int (nI (cmp kpT (s.2 7) i).2)), some (.int (nI i)), o4, o5] [] (st μ f l r) ∧ (∀ a, (a = 0 ∨ 66 < a) → f a = f0 a) ∧ (∀ a, a ≠ 36 → r a = r0 a) ∧ Rf r ∧ CPm r 1 σ ∧ CRa f s.1 s.2 ∧ (∀ u, u < 10 → isZ (f (37 + 3 * u) 11) = true) ∧ (∀ u, u < (cmp kpT (s.2 7) i).2 → TM f (37 + 3 * σ u) ((cmp kpT (s.2 7) i).1 u)) ∧ ∀ u, i ≤ u → u < n → TM f (37 + 3 * σ u) (aged (S7 u))
theorem swp_o {σ : Nat → Nat} {j i u : Nat} (h1 : u ≠ j) (h2 : u ≠ i) : swp σ j i u = σ u := by
  unfold swp
  rw [y1_ne h1, y1_ne h2]
theorem swp_j {σ : Nat → Nat} {j i : Nat} : swp σ j i j = σ i := by
  unfold swp
  rw [y1_eq]
theorem swr_o {r : Nat → Nat → Option Nat} {σ : Nat → Nat} {j i a : Nat} (h : a ≠ 36) : swr r σ j i a = r a := by
  unfold swr
  rw [yu_ne h, yu_ne h]
theorem LM_s {μ : mMu} {l : Nat → Nat → Int64} (hs : Sh μ) {f0 : Nat → Nat → Int32} {r0 : Nat → Nat → Option Nat} {n dt i : Nat} {S7 : Nat → Nat → Int32} {s : CS} {o : mOut} (hn : n ≤ 10) (hi : i < n) (hk : s.1 3 ≤ 10 ∧ s.1 13 ≤ 16 ∧ s.1 14 ≤ 16) (h5 : s.1 5 < 130) (h8 : s.1 8 < 2000000000) (h4 : s.1 4 = n) (hB : IB (s.2 7 i)) (hI : IS (s.2 7 i)) (hJ : JB s.1 (s.2 7 i)) (hP : ∀ b, b < s.1 3 → IP (s.2 5 b)) (h1 : 1 ≤ dt) (h2 : dt ≤ 60) (h7 : s.2 7 i = S7 i) (h : LMs μ l f0 r0 n S7 dt i s o) : LMs μ l f0 r0 n S7 dt (i + 1) (mv1 (nI dt) i s) o := by
  obtain ⟨f, r, σ, o4, o5, rfl, gf, gr, hr, hp, hA, hz, t1, t2⟩ := h
  have hj : (cmp kpT (s.2 7) i).2 ≤ i := cmp_le i
  have ha := (hp.1 i (by omega)).1
  obtain ⟨f1, K, Q, q, g, hT1, hO, hZ⟩ := C_40o hs hr (l := l) hk hA ha (by rw [h7]; exact t2 i (Nat.le_refl _) hi) hB hI hJ hP h1 h2
  have k5 : f 1 5 = nI n := by rw [← h4]; exact hA.1.1
  have hu : ∀ u, u ≠ i → (mv1 (nI dt) i s).2 7 u = s.2 7 u := mv1_c.2.2.2.2
  have A1 : CRa f1 s.1 s.2 := CRa_k hA (fun a _ _ => g a (by omega) (by omega) (by omega)) (fun _ _ => rfl)
  have sne : ∀ u, u < 10 → u ≠ i → σ u ≠ σ i := fun u hu hne e => hne (hp.2 u i hu (by omega) e)
  have z1 : ∀ u, u < 10 → isZ (f1 (37 + 3 * u) 11) = true := fun u hu => by
    by_cases qu : u = σ i
    · rw [qu, hT1.2.2.2.2.1]; exact hZ
    · rw [g _ (by omega) (by omega) (by omega)]; exact hz u hu
  have y1 : ∀ u, u < (cmp kpT (s.2 7) i).2 → TM f1 (37 + 3 * σ u) ((cmp kpT (s.2 7) i).1 u) := fun u hu => by
    have := sne u (by omega) (by omega)
    exact TM_k (t1 u hu) (g _ (by omega) (by omega) (by omega)) (g _ (by omega) (by omega) (by omega)) (g _ (by omega) (by omega) (by omega))
  have y2 : ∀ u, i + 1 ≤ u → u < n → TM f1 (37 + 3 * σ u) (aged (S7 u)) := fun u hu hun => by
    have := sne u (by omega) (by omega)
    exact TM_k (t2 u (by omega) hun) (g _ (by omega) (by omega) (by omega)) (g _ (by omega) (by omega) (by omega)) (g _ (by omega) (by omega) (by omega))
  have gf1 : ∀ a, (a = 0 ∨ 66 < a) → f1 a = f0 a := fun a h => by rw [g a (by omega) (by omega) (by omega)]; exact gf a h
  have k4 : f1 31 4 = nI (s.1 8) := A1.2.2.2.2.1
  have k10 : f1 1 10 = nI (s.1 6) := A1.1.2.2.2.2.2.1
  have k11 : f1 1 11 = nI (s.1 7) := A1.1.2.2.2.2.2.2.1
  rcases hO with ⟨rfl, e, k, m⟩ | ⟨K0, K3, e, k, m⟩ | ⟨rfl, e, Q2, k, m⟩ | ⟨rfl, e, Q2, k, m⟩
  · have hQ : (mv1 (nI dt) i s).2 7 i = Q := by rw [m]; show u1 s.2 7 (u1 (s.2 7) i Q) 7 i = Q; rw [y1_eq, y1_eq]
    obtain ⟨b1, b2, b3⟩ := cmp_y (T := s.2 7) (T' := (mv1 (nI dt) i s).2 7) hu (by rw [hQ]; exact k)
    refine ⟨f1, swr r σ (cmp kpT (s.2 7) i).2 i, swp σ (cmp kpT (s.2 7) i).2 i, _, _, by rw [X44_k hs hr hp hn hi hj k5 q hT1 e, b1], gf1, fun a h => (swr_o h).trans (gr a h), Rf_sw hr, CPm_sw hp (by omega) (by omega), ?_, z1, fun u hu2 => ?_, fun u hu2 hun => ?_⟩
    · rw [m]; exact CRa_k A1 (fun _ _ _ => rfl) (fun r h => y1_ne h)
    · rw [b1] at hu2
      by_cases qu : u = (cmp kpT (s.2 7) i).2
      · rw [qu, b3, hQ, swp_j]; exact hT1
      · rw [b2 u (by omega), swp_o qu (by omega)]; exact y1 u (by omega)
    · rw [swp_o (by omega) (by omega)]; exact y2 u hu2 hun
  · have hQ : (mv1 (nI dt) i s).2 7 i = Q := by rw [m]; show u1 (noteS s.1 s.2 K (Q 0) (-nI 1)) 7 (u1 (s.2 7) i Q) 7 i = Q; rw [y1_eq, y1_eq]
    obtain ⟨b1, b2, b3⟩ := cmp_y (T := s.2 7) (T' := (mv1 (nI dt) i s).2 7) hu (by rw [hQ]; exact k)
    have A2 : CRa (cnote f1 (s.1 8) (nI (s.1 6)) K (Q 0) (-nI 1)) (noteC s.1) (noteS s.1 s.2 K (Q 0) (-nI 1)) := CRa_e A1
    have co : ∀ a, 36 < a → cnote f1 (s.1 8) (nI (s.1 6)) K (Q 0) (-nI 1) a = f1 a := fun a h => cnote_o (by omega)
    refine ⟨cnote f1 (s.1 8) (nI (s.1 6)) K (Q 0) (-nI 1), swr r σ (cmp kpT (s.2 7) i).2 i, swp σ (cmp kpT (s.2 7) i).2 i, _, _, by rw [X44_e hs hr hp hn hi hj k5 q hT1 K0 K3 k4 h8 k10 e, b1], fun a h => (cnote_o (by omega)).trans (gf1 a h), fun a h => (swr_o h).trans (gr a h), Rf_sw hr, CPm_sw hp (by omega) (by omega), ?_, fun u hu => by rw [co _ (by omega)]; exact z1 u hu, fun u hu2 => ?_, fun u hu2 hun => ?_⟩
    · rw [m]; exact CRa_k A2 (fun _ _ _ => rfl) (fun r h => y1_ne h)
    · rw [b1] at hu2
      by_cases qu : u = (cmp kpT (s.2 7) i).2
      · rw [qu, b3, hQ, swp_j]; exact TM_k hT1 (co _ (by omega)) (co _ (by omega)) (co _ (by omega))
      · rw [b2 u (by omega), swp_o qu (by omega)]; exact TM_k (y1 u (by omega)) (co _ (by omega)) (co _ (by omega)) (co _ (by omega))
    · rw [swp_o (by omega) (by omega)]; exact TM_k (y2 u hu2 hun) (co _ (by omega)) (co _ (by omega)) (co _ (by omega))
  · have hQ : (mv1 (nI dt) i s).2 7 i = Q2 := by rw [m]; show u1 s.2 7 (u1 (s.2 7) i Q2) 7 i = Q2; rw [y1_eq, y1_eq]
    obtain ⟨b1, b2⟩ := cmp_n (T := s.2 7) (T' := (mv1 (nI dt) i s).2 7) hu (by rw [hQ]; exact k)
    refine ⟨f1, r, σ, _, _, by rw [X44_d hs hr hp hn hi hj k5 q hT1 e, b1], gf1, gr, hr, hp, ?_, z1, fun u hu2 => ?_, fun u hu2 hun => y2 u hu2 hun⟩
    · rw [m]; exact CRa_k A1 (fun _ _ _ => rfl) (fun r h => y1_ne h)
    · rw [b1] at hu2
      rw [b2 u hu2]; exact y1 u hu2
  · have hQ : (mv1 (nI dt) i s).2 7 i = Q2 := by rw [m]; simp only [y1_eq]
    obtain ⟨b1, b2⟩ := cmp_n (T := s.2 7) (T' := (mv1 (nI dt) i s).2 7) hu (by rw [hQ]; exact k)
    have A2 : CRa (cnote f1 (s.1 8) (nI (s.1 6)) (nI 3) (Q 0) (-nI 1)) (noteC s.1) (noteS s.1 s.2 (nI 3) (Q 0) (-nI 1)) := CRa_e A1
    have co : ∀ a, 36 < a → cnote f1 (s.1 8) (nI (s.1 6)) (nI 3) (Q 0) (-nI 1) a = f1 a := fun a h => cnote_o (by omega)
    obtain ⟨f3, q3, g3, L3⟩ := C_30 hs hr (l := l) (x := nI (s.1 6)) (y := nI (s.1 7)) ha A2.2.2.2.1 (by rw [noteC_j (by decide)]; exact h5) (TM_k hT1 (co _ (by omega)) (co _ (by omega)) (co _ (by omega)))
    have A3 := CRa_l A2 g3 L3
    rw [noteC_j (c := s.1) (j := 5) (by decide), noteS_r (r := 8) (by decide)] at A3
    have c3 : ∀ a, 36 < a → f3 a = f1 a := fun a h => (g3 a (by omega)).trans (co a h)
    refine ⟨f3, r, σ, _, _, by rw [X44_l hs hr hp hn hi hj k5 q hT1 k4 h8 k10 k11 q3 g3 e, b1], fun a h => (g3 a (by omega)).trans ((cnote_o (by omega)).trans (gf1 a h)), gr, hr, hp, ?_, fun u hu => by rw [c3 _ (by omega)]; exact z1 u hu, fun u hu2 => ?_, fun u hu2 hun => TM_k (y2 u hu2 hun) (c3 _ (by omega)) (c3 _ (by omega)) (c3 _ (by omega))⟩
    · rw [m]; exact CRa_k A3 (fun _ _ _ => rfl) (fun r h => y1_ne h)
    · rw [b1] at hu2
      rw [b2 u hu2]; exact TM_k (y1 u hu2) (c3 _ (by omega)) (c3 _ (by omega)) (c3 _ (by omega))
theorem CRa_4 {f : Nat → Nat → Int32} {c : Nat → Nat} {S : Nat → Nat → Nat → Int32} {n : Nat} {X : Nat → Nat → Int32} (h : CRa f c S) : CRa (u2 f 1 5 (nI n)) (u1 c 4 n) (u1 S 7 X) := by
  obtain ⟨d1, d2, d3, d4, d5⟩ := h
  have hf : ∀ a, a ≠ 1 → u2 f 1 5 (nI n) a = f a := fun a h => yu_ne h
  refine ⟨?_, CCo_k d2 (fun a _ _ => hf a (by omega)) (y1_ne (by decide)) (y1_ne (by decide)) (y1_ne (by decide)) (fun r _ _ => y1_ne (by omega)), MB_k d3 (fun a _ _ => hf a (by omega)) (y1_ne (by decide)) (y1_ne (by decide)), CLo_k d4 (fun a _ _ => hf a (by omega)) (y1_ne (by decide)) (y1_ne (by decide)), CEv_k d5 (fun a _ _ => hf a (by omega)) (y1_ne (by decide)) (y1_ne (by decide))⟩
  obtain ⟨e1, e2, e3, e4, e5, e6, e7, e8⟩ := d1
  unfold CSc
  simp (disch := omega) only [st_I, st_L, st_R, st_S, st_N, st_C, st_Z, st_X, st_D, st_st, st_sI, st_sIr, st_sL, st_sR, gfI_st, gfL_st, gfR_st, gfN_st, pfI_st, pfL_st, pfR_st, pfZ_st0, pfZ_st1, ldI_st, ldL_st, stoI_st, stoL_st, aln_st, cpA_st, bq_st, bq_S, oI_s, oL_s, oD_s, oV_s, oR_s, oR_n, oI_e, oL_e, oD_e, Option.bind_some, fa_lit, fa_litL, nI_add, pk_mul, nI_m1, nI_lt', nI_le', nI_eq', lc_ge, lc_le, lc_gt, lc_lt, lc_eq, isZ_0, isZ_1, bI_0, bI_z, decide_eq_true_eq, Bool.not_eq_true', Bool.not_true, Bool.not_false, decide_eq_false_iff_not, if_true, if_false, ite_true, ite_false, eq_self, not_true, not_false_eq_true, C_80, C_81, C_82, C_84, C_85, C_86, C_94, C_95, C_96, C_97, yu_ne, yu_eq, up_eq, up_ne, yur_ne, yur_eq, yu_uu, y1_eq, y1_ne, y1_y1, Nat.mul_zero, Nat.zero_mul, Nat.add_zero, Nat.zero_add, Nat.mul_one, Nat.one_mul, Nat.reduceEqDiff, Nat.reduceLT, Nat.reduceLeDiff, Nat.reduceAdd, Nat.reduceMul, decide_true, decide_false, cond_true, cond_false, reduceCtorEq, Bool.false_eq_true, Bool.true_eq_false, Bool.true_and, Bool.and_true, Bool.false_and, Bool.and_false, e2, e3, e4, e5, e6, e7, e8, and_self]
theorem C_39 {μ : mMu} {f : Nat → Nat → Int32} {l : Nat → Nat → Int64} {r : Nat → Nat → Option Nat} (hs : Sh μ) (hr : Rf r) {σ : Nat → Nat} {c : Nat → Nat} {S : Nat → Nat → Nat → Int32} {dt : Nat} (hc : CB c) (hA : CRa f c S) (hp : CPm r 1 σ) (hz : ∀ u, u < 10 → isZ (f (37 + 3 * u) 11) = true) (hT : ∀ u, u < c 4 → TM f (37 + 3 * σ u) (aged (S 7 u))) (hB : ∀ u, u < c 4 → IB (S 7 u)) (hI : ∀ u, u < c 4 → IS (S 7 u)) (hJ : ∀ u, u < c 4 → JB c (S 7 u)) (hP : ∀ b, b < c 3 → IP (S 5 b)) (h1 : 1 ≤ dt) (h2 : dt ≤ 60) : ∃ f' r' σ', CALL 39 [.ref 1, .int (nI dt)] (st μ f l r) = some (.inl none, st μ f' l r') ∧ (∀ a, (a = 0 ∨ 66 < a) → f' a = f a) ∧ (∀ a, a ≠ 36 → r' a = r a) ∧ Rf r' ∧ CPm r' 1 σ' ∧ CRa f' (move (nI dt) (c, S)).1 (move (nI dt) (c, S)).2 ∧ (∀ u, u < 10 → isZ (f' (37 + 3 * u) 11) = true) ∧ ∀ u, u < (move (nI dt) (c, S)).1 4 → TM f' (37 + 3 * σ' u) ((move (nI dt) (c, S)).2 7 u) := by
  have h1a : (mS μ 1).1 = 6 := by rw [hs 1 (by decide)]; rfl
  have hc' := hc
  obtain ⟨c0, c1, c2, c3, c4, c5, c6, c7, c8, c9, c10, c11, c12, c13, c14⟩ := hc
  rw [B_39_0]
  refine loopP (fun i o => LMs μ l f r (c 4) (S 7) dt i (itr (mv1 (nI dt)) i (c, S)) o) (fun o => ∃ f' r' σ', o = some (.inl none, st μ f' l r') ∧ (∀ a, (a = 0 ∨ 66 < a) → f' a = f a) ∧ (∀ a, a ≠ 36 → r' a = r a) ∧ Rf r' ∧ CPm r' 1 σ' ∧ CRa f' (move (nI dt) (c, S)).1 (move (nI dt) (c, S)).2 ∧ (∀ u, u < 10 → isZ (f' (37 + 3 * u) 11) = true) ∧ ∀ u, u < (move (nI dt) (c, S)).1 4 → TM f' (37 + 3 * σ' u) ((move (nI dt) (c, S)).2 7 u)) (c 4) ?_ ?_ 0 _ (Nat.zero_le _) ⟨f, r, σ, none, none, rfl, fun _ _ => rfl, fun _ _ => rfl, hr, hp, hA, hz, fun u hu => absurd hu (Nat.not_lt_zero u), fun u _ hu => hT u hu⟩
  · rintro o ⟨f', r', σ', o4, o5, rfl, gf, gr, hr', hp', hA', hz', t1, -⟩
    obtain ⟨m1, m2, m3, m4⟩ := mvs_c (dt := nI dt) (s := (c, S)) (c 4)
    have k5 : f' 1 5 = nI (c 4) := by rw [hA'.1.1, m1 4 (by decide) (by decide)]
    rw [B_39_4]
    simp (disch := omega) only [st_I, st_L, st_R, st_S, st_N, st_C, st_Z, st_X, st_D, st_st, st_sI, st_sIr, st_sL, st_sR, gfI_st, gfL_st, gfR_st, gfN_st, pfI_st, pfL_st, pfR_st, pfZ_st0, pfZ_st1, ldI_st, ldL_st, stoI_st, stoL_st, aln_st, cpA_st, bq_st, bq_S, oI_s, oL_s, oD_s, oV_s, oR_s, oR_n, oI_e, oL_e, oD_e, Option.bind_some, fa_lit, fa_litL, nI_add, pk_mul, nI_m1, nI_lt', nI_le', nI_eq', lc_ge, lc_le, lc_gt, lc_lt, lc_eq, isZ_0, isZ_1, bI_0, bI_z, decide_eq_true_eq, Bool.not_eq_true', Bool.not_true, Bool.not_false, decide_eq_false_iff_not, if_true, if_false, ite_true, ite_false, eq_self, not_true, not_false_eq_true, C_80, C_81, C_82, C_84, C_85, C_86, C_94, C_95, C_96, C_97, yu_ne, yu_eq, up_eq, up_ne, yur_ne, yur_eq, yu_uu, y1_eq, y1_ne, y1_y1, Nat.mul_zero, Nat.zero_mul, Nat.add_zero, Nat.zero_add, Nat.mul_one, Nat.one_mul, Nat.reduceEqDiff, Nat.reduceLT, Nat.reduceLeDiff, Nat.reduceAdd, Nat.reduceMul, decide_true, decide_false, cond_true, cond_false, reduceCtorEq, Bool.false_eq_true, Bool.true_eq_false, Bool.true_and, Bool.and_true, Bool.false_and, Bool.and_false, k5, Nat.le_refl]
    have of : ∀ a, a ≠ 1 → u2 f' 1 5 (nI (cmp kpT ((itr (mv1 (nI dt)) (c 4) (c, S)).2 7) (c 4)).2) a = f' a := fun a h => yu_ne h
    refine ⟨_, r', σ', rfl, fun a h => by rw [of a (by omega)]; exact gf a h, gr, hr', hp', CRa_4 hA', fun u hu => by rw [of _ (by omega)]; exact hz' u hu, fun u hu => ?_⟩
    have hu' : u < (cmp kpT ((itr (mv1 (nI dt)) (c 4) (c, S)).2 7) (c 4)).2 := by
      unfold move at hu
      simp only [y1_eq] at hu
      exact hu
    have := TM_k (t1 u hu') (of _ (by omega)) (of _ (by omega)) (of _ (by omega))
    unfold move
    simp only [y1_eq]
    exact this
  · intro i o hi h
    obtain ⟨m1, m2, m3, m4⟩ := mvs_c (dt := nI dt) (s := (c, S)) i
    have m5 := mvs_5 (dt := nI dt) (s := (c, S)) i
    right
    have e7 := m4 i (Nat.le_refl _)
    rw [itr_s']
    refine LM_s hs c4 hi ?_ ?_ ?_ (m1 4 (by decide) (by decide)) ?_ ?_ ?_ ?_ h1 h2 e7 h
    · rw [m1 3 (by decide) (by decide), m1 13 (by decide) (by decide), m1 14 (by decide) (by decide)]; exact ⟨c3, c13, c14⟩
    · simp only at m5; omega
    · simp only at m2; omega
    · rw [e7]; exact hB i hi
    · rw [e7]; exact hI i hi
    · rw [e7]; unfold JB; rw [m1 3 (by decide) (by decide)]; exact hJ i hi
    · rw [m1 3 (by decide) (by decide), m3 5 (by decide) (by decide) (by decide)]; exact hP
