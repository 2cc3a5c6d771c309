/-! ===== the class' sweep, whole ===== -/
theorem S1_r {dt : Int32} {c : Nat → Nat} {S : Nat → Nat → Nat → Int32} {q : Nat} (h : q ≠ 7) : S1 dt c S q = S q := y1_ne h
theorem begin_c {M : CS} (hc : CB M.1) : (∀ j, j ≠ 4 → j ≠ 8 → j ≠ 9 → (begin' M).1 j = M.1 j) ∧ M.1 4 ≤ (begin' M).1 4 ∧ (begin' M).1 4 ≤ 10 ∧ (begin' M).1 8 ≤ M.1 8 + 10 ∧ (begin' M).1 9 ≤ M.1 9 + 10 := by
  obtain ⟨h1, h2, h3, h4, h5⟩ := begs_c (s := (M.1, itr clt (M.1 3) M.2)) hc.2.2.2.2.1 (M.1 3)
  have := hc.2.2.2.1
  exact ⟨h1, h2, h3, Nat.le_trans h4 (Nat.add_le_add_left this _), Nat.le_trans h5 (Nat.add_le_add_left this _)⟩
theorem begin_r {M : CS} {q : Nat} (h4 : q ≠ 4) (h5 : q ≠ 5) (h7 : q ≠ 7) (h9 : q ≠ 9) : (begin' M).2 q = M.2 q := by
  unfold begin'
  rw [beg_r h5 h7 h9]
  exact clt_r h4 _
theorem C_38 {μ : mMu} {f : Nat → Nat → Int32} {l : Nat → Nat → Int64} {r : Nat → Nat → Option Nat} (hs : Sh μ) (hr : Rf r) {σ : Nat → Nat} {c : Nat → Nat} {S : Nat → Nat → Nat → Int32} {dt : Nat} {J : JS} {M B K T L : CS} (hc : CB c) (hC : CAll f r 1 σ c S) (h1 : 1 ≤ dt) (h2 : dt ≤ 60) (h7 : c 7 + 60 ≤ 30000) (h8 : c 8 + 300 ≤ 1000000) (h9 : c 9 + 10 ≤ 1000000) (h6 : c 6 < 500)
    (eJ : J = join (u1 c 7 (c 7 + dt)) (S1 (nI dt) c S)) (eM : M = move (nI dt) (u1 c 7 (c 7 + dt), J.1)) (eB : B = begin' M) (eK : K = itr knw (B.1 4) B) (eT : T = (K.1, u1 K.2 7 (sortT (K.1 4) (K.2 7)))) (eL : L = look T)
    (hR : ∀ u, u < c 4 → IB (S 7 u) ∧ IG (S 7 u) ∧ S 7 u 14 = S 7 u 1 ∧ S 7 u 15 = S 7 u 2) (hE : ∀ u, u < c 4 → IB (S1 (nI dt) c S 7 u) ∧ IS (S1 (nI dt) c S 7 u)) (hP : ∀ k, k < c 3 → IP (S 5 k) ∧ S 5 k 4 = -nI 1) (hA : ∀ a, a < c 2 → IA (S 3 a))
    (hJ : ∀ u, u < c 4 → IB (J.1 7 u) ∧ IS (J.1 7 u) ∧ JB c (J.1 7 u)) (hb : ∀ k, k < c 3 → p_bit (nI J.2) (nI k) = !decide (J.1 5 k 4 = -nI 1))
    (h5 : (itr (mv1 (nI dt)) (c 4) (u1 c 7 (c 7 + dt), J.1)).1 5 ≤ 59) (hBB : ∀ u, u < B.1 4 → IB (B.2 7 u)) (hLB : LB B.1 (B.2 8)) (hX : CRP (T.2 7) (K.1 4)) (hN : NB L.1 L.2) (hF : ∀ i, i < L.1 5 → kpC (nI (L.1 6 + 1) - nI 12) (L.2 8 i) = kpF (L.1 6 + 1) (L.2 8 i)) :
    ∃ f' l' r' σ', CALL 38 [.ref 1, .int (nI dt), .ref 133] (st μ f l r) = some (.inl (some (.int (nI (pop J.2)))), st μ f' l' r') ∧ (∀ a, (a = 0 ∨ 66 < a) → a ≠ 134 → f' a = f a) ∧ (∀ a, a ≠ 135 → a ≠ 136 → l' a = l a) ∧ (∀ a, a ≠ 36 → r' a = r a) ∧ Rf r' ∧ CAll f' r' 1 σ' (sw3 L).1 (sw3 L).2 := by
  have h1a : (mS μ 1).1 = 6 := by rw [hs 1 (by decide)]; rfl
  have h2a : (mS μ 2).1 = 2 := by rw [hs 2 (by decide)]; rfl
  have h11a : (mS μ 11).1 = 1 := by rw [hs 11 (by decide)]; rfl
  have h17a : (mS μ 17).1 = 0 := by rw [hs 17 (by decide)]; rfl
  have h23a : (mS μ 23).1 = 5 := by rw [hs 23 (by decide)]; rfl
  have h133a : (mS μ 133).1 = 4 := by rw [hs 133 (by decide)]; rfl
  have r1_0 : r 1 0 = some 2 := hr 1 0 2 rfl
  have r1_1 : r 1 1 = some 17 := hr 1 1 17 rfl
  have r1_2 : r 1 2 = some 23 := hr 1 2 23 rfl
  have r1_4 : r 1 4 = some 36 := hr 1 4 36 rfl
  have r2_5 : r 2 5 = some 11 := hr 2 5 11 rfl
  have hc' := hc
  obtain ⟨c0, c1, c2, c3, c4, c5, c6, c7, c8, c9, c10, c11, c12, c13, c14⟩ := hc
  have hc1 : CB (u1 c 7 (c 7 + dt)) := CB_7 hc' (by omega)
  obtain ⟨f1, x6, g1, k15, k16⟩ := C_6 hs hr (l := l) hC hc'
  obtain ⟨d1, d2, d3, d4, d5, hp, hT, hz⟩ := hC
  have k11 : f1 1 11 = nI (c 7) := by rw [g1 1 (by decide)]; exact d1.2.2.2.2.2.2.1
  have g2 : ∀ a, a ≠ 1 → a ≠ 17 → u2 f1 1 11 (nI (c 7 + dt)) a = f a := fun a h h' => (yu_ne h).trans (g1 a h')
  have k5 : u2 f1 1 11 (nI (c 7 + dt)) 1 5 = nI (c 4) := by rw [yu_eq, up_ne (by decide), g1 1 (by decide)]; exact d1.1
  rw [B_38_0]
  simp (disch := omega) only [st_I, st_L, st_R, st_S, st_N, st_C, st_Z, st_X, st_D, st_st, st_sI, st_sIr, st_sL, st_sR, gfI_st, gfL_st, gfR_st, gfN_st, pfI_st, pfL_st, pfR_st, pfZ_st0, pfZ_st1, ldI_st, ldL_st, stoI_st, stoL_st, aln_st, cpA_st, bq_st, bq_S, oI_s, oL_s, oD_s, oV_s, oR_s, oR_n, oI_e, oL_e, oD_e, Option.bind_some, fa_lit, fa_litL, nI_add, pk_mul, nI_m1, nI_lt', nI_le', nI_eq', lc_ge, lc_le, lc_gt, lc_lt, lc_eq, isZ_0, isZ_1, bI_0, bI_z, decide_eq_true_eq, Bool.not_eq_true', Bool.not_true, Bool.not_false, decide_eq_false_iff_not, if_true, if_false, ite_true, ite_false, eq_self, not_true, not_false_eq_true, C_80, C_81, C_82, C_84, C_85, C_86, C_94, C_95, C_96, C_97, yu_ne, yu_eq, up_eq, up_ne, yur_ne, yur_eq, yu_uu, y1_eq, y1_ne, y1_y1, Nat.mul_zero, Nat.zero_mul, Nat.add_zero, Nat.zero_add, Nat.mul_one, Nat.one_mul, Nat.reduceEqDiff, Nat.reduceLT, Nat.reduceLeDiff, Nat.reduceAdd, Nat.reduceMul, decide_true, decide_false, cond_true, cond_false, reduceCtorEq, Bool.false_eq_true, Bool.true_eq_false, Bool.true_and, Bool.and_true, Bool.false_and, Bool.and_false, r1_0, r1_1, r1_2, r1_4, r2_5, x6, k11]
  refine J_62 hs hr (σ := σ) (n := c 4) (dt := dt) (T := S 7) (Q := fun o => ∃ f' l' r' σ', o = some (.inl (some (.int (nI (pop J.2)))), st μ f' l' r') ∧ (∀ a, (a = 0 ∨ 66 < a) → a ≠ 134 → f' a = f a) ∧ (∀ a, a ≠ 135 → a ≠ 136 → l' a = l a) ∧ (∀ a, a ≠ 36 → r' a = r a) ∧ Rf r' ∧ CAll f' r' 1 σ' (sw3 L).1 (sw3 L).2) h2 c4 k5 hp (fun u hu => by rw [g2 _ (by omega) (by omega)]; exact hz u hu) (fun u hu => by
    have hσ := (hp.1 u (by omega)).1
    exact TE_k (hT u hu) (g2 _ (by omega) (by omega)) (g2 _ (by omega) (by omega)) (g2 _ (by omega) (by omega))) (fun u hu => (hR u hu).1) (fun u hu => (hR u hu).2.1) (fun u hu => (hR u hu).2.2) ?_
  intro f3 o4 g3 t3 z3
  have g4 : ∀ a, a ≠ 1 → a ≠ 17 → (a ≤ 36 ∨ 66 < a) → f3 a = f a := fun a h h' h'' => (g3 a h'').trans (g2 a h h')
  have r31 : f3 1 = up (f 1) 11 (nI (c 7 + dt)) := by rw [g3 1 (by omega), yu_eq, g1 1 (by decide)]
  have f17 : f3 17 = f1 17 := by rw [g3 17 (by omega), yu_ne (by decide)]
  -- after the expectation
  have A3 : CRa f3 (u1 c 7 (c 7 + dt)) (S1 (nI dt) c S) := by
    refine ⟨?_, CCo_k d2 (fun a _ _ => g4 a (by omega) (by omega) (by omega)) (y1_ne (by decide)) (y1_ne (by decide)) (y1_ne (by decide)) (fun q _ _ => S1_r (by omega)), ⟨?_, ?_, fun k hk => ?_⟩, CLo_k d4 (fun a _ _ => g4 a (by omega) (by omega) (by omega)) (y1_ne (by decide)) (S1_r (by decide)), CEv_k d5 (fun a _ _ => g4 a (by omega) (by omega) (by omega)) (y1_ne (by decide)) (S1_r (by decide))⟩
    · obtain ⟨e5, e6, e7, e8, e9, e10, e11, e12⟩ := d1
      unfold CSc
      rw [r31]
      simp only [up_eq, up_ne (show (5 : Nat) ≠ 11 by decide), up_ne (show (6 : Nat) ≠ 11 by decide), up_ne (show (7 : Nat) ≠ 11 by decide), up_ne (show (8 : Nat) ≠ 11 by decide), up_ne (show (9 : Nat) ≠ 11 by decide), up_ne (show (10 : Nat) ≠ 11 by decide), up_ne (show (12 : Nat) ≠ 11 by decide), y1_eq, y1_ne (show (4 : Nat) ≠ 7 by decide), y1_ne (show (11 : Nat) ≠ 7 by decide), y1_ne (show (12 : Nat) ≠ 7 by decide), y1_ne (show (13 : Nat) ≠ 7 by decide), y1_ne (show (14 : Nat) ≠ 7 by decide), y1_ne (show (6 : Nat) ≠ 7 by decide), y1_ne (show (9 : Nat) ≠ 7 by decide)]
      exact ⟨e5, e6, e7, e8, e9, e10, trivial, e12⟩
    · rw [f17, y1_ne (by decide)]; exact k15
    · rw [f17]; exact k16
    · rw [y1_ne (show (3 : Nat) ≠ 7 by decide)] at hk
      rcases d3 with ⟨-, -, -, b4⟩ | ⟨-, b0, -, -⟩
      · refine ⟨fun w hw => ?_, ?_⟩
        · rw [g4 _ (by omega) (by omega) (by omega), S1_r (by decide)]
          exact b4 k w hk (by omega)
        · rw [g4 22 (by decide) (by decide) (by omega)]
          have := b4 k 4 hk (by decide)
          rw [(hP k hk).2] at this
          exact this
      · omega
  -- joined
  have e12 : u1 c 7 (c 7 + dt) 12 = c 12 := y1_ne (by decide)
  have e04 : u1 c 7 (c 7 + dt) 4 = c 4 := y1_ne (by decide)
  have e03 : u1 c 7 (c 7 + dt) 3 = c 3 := y1_ne (by decide)
  have e02 : u1 c 7 (c 7 + dt) 2 = c 2 := y1_ne (by decide)
  obtain ⟨f4, l4, x27, p1, p2, p3, p4⟩ := C_23 hs hr (f := f3) (l := l) (σ := σ) (c := u1 c 7 (c 7 + dt)) (S := S1 (nI dt) c S) hc1 A3.2.2.1 hp (by
    rw [e04]
    intro u hu
    have e : S1 (nI dt) c S 7 u = e1 (nI dt) (S 7 u) := by unfold S1; rw [y1_eq, upn_lt hu]
    show TM f3 (37 + 3 * σ u) (prep (S1 (nI dt) c S 7 u))
    rw [e]
    exact t3 u hu) (fun u hu => (hE u (by rw [e04] at hu; exact hu)).1) (fun u hu => (hE u (by rw [e04] at hu; exact hu)).2) (fun k hk => by rw [S1_r (by decide)]; exact (hP k (by rw [e03] at hk; exact hk)).1)
  rw [← eJ] at x27 p4
  rw [e12, e04] at x27
  rw [e04] at p4
  have k5' : f3 1 5 = nI (c 4) := by rw [r31, up_ne (by decide)]; exact d1.1
  have k7' : f3 1 7 = nI (c 12) := by rw [r31, up_ne (by decide)]; exact d1.2.2.1
  have j5 : ∀ a, a ≠ 5 → a ≠ 7 → J.1 a = S1 (nI dt) c S a := fun a h h' => by
    rw [eJ]
    exact (jst_c (sl := jsl (u1 c 7 (c 7 + dt)) (S1 (nI dt) c S)) jsl_lt (S := S1 (nI dt) c S) (u1 c 7 (c 7 + dt) 4)).1 a h h'
  have j5w : ∀ k w, w ≠ 4 → J.1 5 k w = S 5 k w := fun k w h => by
    rw [eJ]
    have := (jst_c (sl := jsl (u1 c 7 (c 7 + dt)) (S1 (nI dt) c S)) jsl_lt (S := S1 (nI dt) c S) (u1 c 7 (c 7 + dt) 4)).2.1 k w h
    rw [S1_r (show (5 : Nat) ≠ 7 by decide)] at this
    exact this
  have A4 : CRa f4 (u1 c 7 (c 7 + dt)) J.1 := CRa_kb A3 (fun a _ _ => p1 a (by omega) (fun u hu => by omega)) (fun q h7 h5 => j5 q h5 h7) (fun k w hw => by rw [j5w k w (by omega), S1_r (by decide)])
  have z4 : ∀ u, u < 10 → isZ (f4 (37 + 3 * u) 11) = true := fun u hu => by rw [p3 u hu]; exact z3 u hu
  have hPJ : ∀ k, k < c 3 → IP (J.1 5 k) := fun k hk => by
    unfold IP
    rw [j5w k 0 (by decide), j5w k 1 (by decide)]
    exact (hP k hk).1
  -- moved on
  obtain ⟨f5, r5, σ5, x44, q1, q2, q3, q4, q5, q6, q7⟩ := C_39 hs hr (f := f4) (l := l4) (σ := σ) (c := u1 c 7 (c 7 + dt)) (S := J.1) (dt := dt) hc1 A4 hp z4 (by rw [e04]; exact p4) (by rw [e04]; exact fun u hu => (hJ u hu).1) (by rw [e04]; exact fun u hu => (hJ u hu).2.1) (by
    rw [e04]
    intro u hu
    unfold JB
    rw [e03]
    exact (hJ u hu).2.2) (by rw [e03]; exact hPJ) h1 h2
  obtain ⟨m1, m2, m3, m4, m5, m6⟩ := CB_mv (dt := nI dt) (c := u1 c 7 (c 7 + dt)) (S := J.1) hc1 (by rw [y1_ne (by decide)]; omega) (by rw [e04]; exact h5)
  have m2' : M.1 2 = c 2 := by
    rw [eM]
    obtain ⟨n1, -, -, -⟩ := mvs_c (dt := nI dt) (s := (u1 c 7 (c 7 + dt), J.1)) (u1 c 7 (c 7 + dt) 4)
    have e : (move (nI dt) (u1 c 7 (c 7 + dt), J.1)).1 2 = (itr (mv1 (nI dt)) (u1 c 7 (c 7 + dt) 4) (u1 c 7 (c 7 + dt), J.1)).1 2 := by
      unfold move
      simp only [y1_ne (show (2 : Nat) ≠ 4 by decide)]
    rw [e, n1 2 (by decide) (by decide)]
    exact e02
  rw [← eM] at q5 q7 m1 m2 m3 m4 m5 m6
  rw [e03] at m4
  rw [y1_ne (show (8 : Nat) ≠ 7 by decide)] at m2
  rw [y1_ne (show (9 : Nat) ≠ 7 by decide)] at m3
  rw [y1_ne (show (6 : Nat) ≠ 7 by decide)] at m5
  have M5 : M.2 5 = J.1 5 := m6 5 (by decide) (by decide) (by decide)
  -- fields
  obtain ⟨f6, x46, s1, s2⟩ := C_41 hs q3 (f := f5) (l := l4) (c := M.1) (S := M.2) (tk := nI J.2) m1 q5 (by rw [m4, M5]; exact hb) (by rw [m4, M5]; exact hPJ)
  have C5 : itr clt (M.1 3) M.2 5 = M.2 5 := clt_r (by decide) _
  have C7 : itr clt (M.1 3) M.2 7 = M.2 7 := clt_r (by decide) _
  -- new tracks
  obtain ⟨f7, x47, u1', u2', u3', u4'⟩ := C_42 hs q3 (f := f6) (l := l4) (σ := σ5) (c := M.1) (S := itr clt (M.1 3) M.2) (tk := nI J.2) m1 (by omega) s2 q4 (fun u hu => by rw [s1 _ (by omega)]; exact q6 u hu) (fun u hu => by
    rw [C7]
    have hσ := (q4.1 u (by have := m1.2.2.2.2.1; omega)).1
    exact TM_k (q7 u hu) (s1 _ (by omega)) (s1 _ (by omega)) (s1 _ (by omega))) (by rw [C5, M5, m4]; exact hb)
  have eB' : itr beg1 (M.1 3) (M.1, itr clt (M.1 3) M.2) = B := eB.symm
  rw [eB'] at u2' u4'
  obtain ⟨b1, b2, b3, b4, b5⟩ := begin_c m1
  rw [← eB] at b1 b2 b3 b4 b5
  have cB : CB B.1 := CB_of2 m1 b1 b3 (by omega) (by omega)
  -- known again
  obtain ⟨f8, r8, σ8, x48, v1, v2, v3, v4, v5, v6, v7⟩ := C_43 hs q3 (f := f7) (l := l4) (σ := σ5) (c := B.1) (S := B.2) cB u2' q4 u4' u3' hBB hLB
  have eK' : itr knw (B.1 4) (B.1, B.2) = K := eK.symm
  rw [eK'] at v5 v7
  obtain ⟨w1, w2, w3⟩ := knws_c (s := B) (B.1 4)
  obtain ⟨y1, y2, y3, y4, y5⟩ := knws_k (s := B) hLB (B.1 4)
  rw [← eK] at w1 w2 w3 y1 y2 y3 y4 y5
  have K4 : K.1 4 = B.1 4 := w1 4 (by decide) (by decide)
  have K2 : K.1 2 = c 2 := by rw [w1 2 (by decide) (by decide), b1 2 (by decide) (by decide) (by decide), m2']
  have K3 : K.1 3 = c 3 := by rw [w1 3 (by decide) (by decide), b1 3 (by decide) (by decide) (by decide), m4]
  have K6 : K.1 6 = c 6 := by rw [w1 6 (by decide) (by decide), b1 6 (by decide) (by decide) (by decide), m5]
  have cK : CB K.1 := CB_of cB w1 (by have := cB.2.2.2.2.2.1; omega) (by omega)
  have eT1 : T.1 = K.1 := by rw [eT]
  have eT2 : T.2 = u1 K.2 7 (sortT (K.1 4) (K.2 7)) := by rw [eT]
  rw [← K4, ← eT2] at v5
  rw [← K4] at v7
  have T7 : T.2 7 = sortT (K.1 4) (K.2 7) := by rw [eT2, y1_eq]
  rw [← T7] at v7
  -- crossings
  obtain ⟨f9, x50, a1, a2⟩ := C_45 hs v3 (f := f8) (l := l4) (σ := σ8) (c := K.1) (S := T.2) (by omega) (by omega) v5 v4 v7 hX
  have eTT : (K.1, T.2) = T := by rw [eT]
  rw [eTT] at a1
  obtain ⟨c1', c2'⟩ := crs_bd (n := K.1 4) (s := T)
  have nn : K.1 4 * K.1 4 ≤ 10 * 10 := Nat.mul_le_mul (by omega) (by omega)
  have z9 : ∀ u, u < 10 → isZ (f9 (37 + 3 * u) 11) = true := fun u hu => by rw [a2 _ (by omega)]; exact v6 u hu
  have t9 : TMs f9 σ8 (K.1 4) ((crs (K.1 4) T).2 7) := by
    rw [crs_r (by decide)]
    intro u hu
    have hσ := (v4.1 u (by omega)).1
    exact TM_k (v7 u hu) (a2 _ (by omega)) (a2 _ (by omega)) (a2 _ (by omega))
  have S3 : (crs (K.1 4) T).2 3 = S 3 := by
    rw [crs_r (by decide), eT2, y1_ne (by decide), y4 3 (by decide) (by decide) (by decide) (by decide), eB, begin_r (by decide) (by decide) (by decide) (by decide), m6 3 (by decide) (by decide) (by decide), j5 3 (by decide) (by decide), S1_r (by decide)]
  have eL' : L = ars (c 2) (K.1 4) (crs (K.1 4) T) := by
    rw [eL]
    unfold look
    rw [eT1, K2]
  have C4 : (crs (K.1 4) T).1 4 = K.1 4 := by rw [c1' 4 (by decide), eT1]
  have C2 : (crs (K.1 4) T).1 2 = c 2 := by rw [c1' 2 (by decide), eT1, K2]
  have C8 : (crs (K.1 4) T).1 8 ≤ c 8 + 130 := by rw [eT1] at c2'; omega
  have q80 : r8 1 0 = some 2 := v3 1 0 2 rfl
  have q82 : r8 1 2 = some 23 := v3 1 2 23 rfl
  have q25 : r8 2 5 = some 11 := v3 2 5 11 rfl
  have J2 : J.2 < 1024 := by
    rw [eJ]
    exact Nat.lt_of_lt_of_le (jst_lt (sl := jsl (u1 c 7 (c 7 + dt)) (S1 (nI dt) c S)) jsl_lt) (pow_le10 (by rw [e03]; exact c3))
  have x167 := fun m => C_90 (n := J.2) (μ := m) J2
  rw [B_38_19]
  simp (disch := omega) only [st_I, st_L, st_R, st_S, st_N, st_C, st_Z, st_X, st_D, st_st, st_sI, st_sIr, st_sL, st_sR, gfI_st, gfL_st, gfR_st, gfN_st, pfI_st, pfL_st, pfR_st, pfZ_st0, pfZ_st1, ldI_st, ldL_st, stoI_st, stoL_st, aln_st, cpA_st, bq_st, bq_S, oI_s, oL_s, oD_s, oV_s, oR_s, oR_n, oI_e, oL_e, oD_e, Option.bind_some, fa_lit, fa_litL, nI_add, pk_mul, nI_m1, nI_lt', nI_le', nI_eq', lc_ge, lc_le, lc_gt, lc_lt, lc_eq, isZ_0, isZ_1, bI_0, bI_z, decide_eq_true_eq, Bool.not_eq_true', Bool.not_true, Bool.not_false, decide_eq_false_iff_not, if_true, if_false, ite_true, ite_false, eq_self, not_true, not_false_eq_true, C_80, C_81, C_82, C_84, C_85, C_86, C_94, C_95, C_96, C_97, yu_ne, yu_eq, up_eq, up_ne, yur_ne, yur_eq, yu_uu, y1_eq, y1_ne, y1_y1, Nat.mul_zero, Nat.zero_mul, Nat.add_zero, Nat.zero_add, Nat.mul_one, Nat.one_mul, Nat.reduceEqDiff, Nat.reduceLT, Nat.reduceLeDiff, Nat.reduceAdd, Nat.reduceMul, decide_true, decide_false, cond_true, cond_false, reduceCtorEq, Bool.false_eq_true, Bool.true_eq_false, Bool.true_and, Bool.and_true, Bool.false_and, Bool.and_false, r1_0, r1_1, r1_2, r1_4, r2_5, k5', k7', Nat.le_refl, x27, x44, x46, x47, x48, x50]
  refine loopP (fun i o => ∃ f' o1 o2, o = RUN 38 90 [some (.ref 1), o1, o2, some (.int (nI J.2)), some (.int (nI i))] [] (st μ f' l4 r8) ∧ CRa f' (ars i (K.1 4) (crs (K.1 4) T)).1 (ars i (K.1 4) (crs (K.1 4) T)).2 ∧ TMs f' σ8 (K.1 4) ((ars i (K.1 4) (crs (K.1 4) T)).2 7) ∧ (∀ u, u < 10 → isZ (f' (37 + 3 * u) 11) = true) ∧ ∀ a, (a = 0 ∨ 66 < a) → f' a = f9 a) (fun o => ∃ f' l' r' σ', o = some (.inl (some (.int (nI (pop J.2)))), st μ f' l' r') ∧ (∀ a, (a = 0 ∨ 66 < a) → a ≠ 134 → f' a = f a) ∧ (∀ a, a ≠ 135 → a ≠ 136 → l' a = l a) ∧ (∀ a, a ≠ 36 → r' a = r a) ∧ Rf r' ∧ CAll f' r' 1 σ' (sw3 L).1 (sw3 L).2) (c 2) ?_ ?_ 0 _ (Nat.zero_le _) ⟨f9, _, _, rfl, a1, t9, z9, fun _ _ => rfl⟩
  · rintro o ⟨fa, o1, o2, rfl, n1, n2, n3, n4⟩
    obtain ⟨e71, e72, e73, e74⟩ := ars_7 (n := K.1 4) (s := crs (K.1 4) T) (c 2)
    rw [← eL'] at n1 n2 e71 e72 e73 e74
    have ka : fa 11 4 = nI (c 2) := by
      have := n1.2.1.2.2.2.2.1
      rw [e73 2 (by decide), C2] at this
      exact this
    have L4 : L.1 4 = K.1 4 := by rw [e73 4 (by decide), C4]
    have L6 : L.1 6 = c 6 := by rw [e73 6 (by decide), c1' 6 (by decide), eT1, K6]
    have nm : K.1 4 * c 2 ≤ 10 * 6 := Nat.mul_le_mul (by omega) (by omega)
    have cL : CB L.1 := CB_8 cK (fun q hq => by rw [e73 q hq, c1' q hq, eT1]) (by omega)
    obtain ⟨fb, x54, h11, h12⟩ := C_49 hs v3 (f := fa) (l := l4) (σ := σ8) cL n1 v4 (by rw [L4]; exact n2) hN
    have kb10 : fb 1 10 = nI (L.1 6) := by rw [h11 1 (by decide)]; exact n1.1.2.2.2.2.2.1
    have kb7 : u2 fb 1 10 (nI (L.1 6 + 1)) 23 7 = nI (L.1 5) := by rw [yu_ne (by decide), h11 23 (by decide)]; exact n1.2.2.2.1.1
    obtain ⟨fc, x37, i1, i2, i3⟩ := C_33 hs v3 (f := u2 fb 1 10 (nI (L.1 6 + 1))) (l := l4) (n := L.1 5) (x := nI (L.1 6 + 1) - nI 12) (by have := cL.2.2.2.2.2.1; omega) kb7
    have hcT : cT (u2 fb 1 10 (nI (L.1 6 + 1))) = cT fa := by
      funext e w
      show u2 fb 1 10 (nI (L.1 6 + 1)) (24 + w) e = fa (24 + w) e
      rw [yu_ne (by omega), h11 _ (by omega)]
    have gL : CLo fc 1 (u1 L.1 5 (cmp (kpF (L.1 6 + 1)) (L.2 8) (L.1 5)).2) (u1 L.2 8 (cmp (kpF (L.1 6 + 1)) (L.2 8) (L.1 5)).1) := CLo_for n1.2.2.2.1 hF (by rw [i2, hcT]) (fun e w hw => by rw [i3 e w hw, hcT])
    rw [B_38_90]
    simp (disch := omega) only [st_I, st_L, st_R, st_S, st_N, st_C, st_Z, st_X, st_D, st_st, st_sI, st_sIr, st_sL, st_sR, gfI_st, gfL_st, gfR_st, gfN_st, pfI_st, pfL_st, pfR_st, pfZ_st0, pfZ_st1, ldI_st, ldL_st, stoI_st, stoL_st, aln_st, cpA_st, bq_st, bq_S, oI_s, oL_s, oD_s, oV_s, oR_s, oR_n, oI_e, oL_e, oD_e, Option.bind_some, fa_lit, fa_litL, nI_add, pk_mul, nI_m1, nI_lt', nI_le', nI_eq', lc_ge, lc_le, lc_gt, lc_lt, lc_eq, isZ_0, isZ_1, bI_0, bI_z, decide_eq_true_eq, Bool.not_eq_true', Bool.not_true, Bool.not_false, decide_eq_false_iff_not, if_true, if_false, ite_true, ite_false, eq_self, not_true, not_false_eq_true, C_80, C_81, C_82, C_84, C_85, C_86, C_94, C_95, C_96, C_97, yu_ne, yu_eq, up_eq, up_ne, yur_ne, yur_eq, yu_uu, y1_eq, y1_ne, y1_y1, Nat.mul_zero, Nat.zero_mul, Nat.add_zero, Nat.zero_add, Nat.mul_one, Nat.one_mul, Nat.reduceEqDiff, Nat.reduceLT, Nat.reduceLeDiff, Nat.reduceAdd, Nat.reduceMul, decide_true, decide_false, cond_true, cond_false, reduceCtorEq, Bool.false_eq_true, Bool.true_eq_false, Bool.true_and, Bool.and_true, Bool.false_and, Bool.and_false, r1_0, r1_1, r1_2, r1_4, r2_5, q80, q25, ka, Nat.le_refl, x54, kb10, q82, x37, x167]
    refine ⟨fc, l4, r8, σ8, rfl, fun a ha hne => ?_, fun a h h' => p2 a h h', fun a h => (v2 a h).trans (q2 a h), v3, CRa_end cL n1 v4 (by rw [L4]; exact n2) n3 ?_ ?_ gL ?_⟩
    · have e1 := i1 a (by omega)
      rw [yu_ne (by omega), h11 a (by omega), n4 a ha, a2 a (by omega), v1 a ha, u1' a ha, s1 a (by omega), q1 a ha, p1 a hne (fun u hu => by omega), g4 a (by omega) (by omega) (by omega)] at e1
      exact e1
    · rw [i1 1 (by omega), yu_eq, h11 1 (by decide)]
    · intro k hk
      rw [i1 22 (by omega), yu_ne (by decide)]
      exact h12 k hk
    · intro a h h' h''
      rw [i1 a h'', yu_ne h, h11 a h']
  · rintro i o hi ⟨fa, o1, o2, rfl, n1, n2, n3, n4⟩
    right
    have hi' : ¬ c 2 ≤ i := by omega
    obtain ⟨e71, e72, e73, e74⟩ := ars_7 (n := K.1 4) (s := crs (K.1 4) T) i
    have A2 : (ars i (K.1 4) (crs (K.1 4) T)).1 2 = c 2 := by rw [e73 2 (by decide), C2]
    have A4 : (ars i (K.1 4) (crs (K.1 4) T)).1 4 = K.1 4 := by rw [e73 4 (by decide), C4]
    have A3 : (ars i (K.1 4) (crs (K.1 4) T)).2 3 = S 3 := by rw [e71 3 (by decide) (by decide), S3]
    have nm : K.1 4 * i ≤ 10 * 6 := Nat.mul_le_mul (by omega) (by omega)
    have ka : fa 11 4 = nI (c 2) := by
      have := n1.2.1.2.2.2.2.1
      rw [A2] at this
      exact this
    obtain ⟨fb, x52, h11, h12, h13, h14⟩ := C_47 hs v3 (f := fa) (l := l4) (σ := σ8) (c := (ars i (K.1 4) (crs (K.1 4) T)).1) (S := (ars i (K.1 4) (crs (K.1 4) T)).2) (a := i) (by rw [A4]; omega) (by rw [A2]; omega) (by omega) (by rw [A2]; exact hi) (by rw [A3]; exact hA i hi) n1 v4 (by rw [A4]; exact n2) n3
    rw [A4] at h11 h12
    rw [B_38_90]
    simp (disch := omega) only [st_I, st_L, st_R, st_S, st_N, st_C, st_Z, st_X, st_D, st_st, st_sI, st_sIr, st_sL, st_sR, gfI_st, gfL_st, gfR_st, gfN_st, pfI_st, pfL_st, pfR_st, pfZ_st0, pfZ_st1, ldI_st, ldL_st, stoI_st, stoL_st, aln_st, cpA_st, bq_st, bq_S, oI_s, oL_s, oD_s, oV_s, oR_s, oR_n, oI_e, oL_e, oD_e, Option.bind_some, fa_lit, fa_litL, nI_add, pk_mul, nI_m1, nI_lt', nI_le', nI_eq', lc_ge, lc_le, lc_gt, lc_lt, lc_eq, isZ_0, isZ_1, bI_0, bI_z, decide_eq_true_eq, Bool.not_eq_true', Bool.not_true, Bool.not_false, decide_eq_false_iff_not, if_true, if_false, ite_true, ite_false, eq_self, not_true, not_false_eq_true, C_80, C_81, C_82, C_84, C_85, C_86, C_94, C_95, C_96, C_97, yu_ne, yu_eq, up_eq, up_ne, yur_ne, yur_eq, yu_uu, y1_eq, y1_ne, y1_y1, Nat.mul_zero, Nat.zero_mul, Nat.add_zero, Nat.zero_add, Nat.mul_one, Nat.one_mul, Nat.reduceEqDiff, Nat.reduceLT, Nat.reduceLeDiff, Nat.reduceAdd, Nat.reduceMul, decide_true, decide_false, cond_true, cond_false, reduceCtorEq, Bool.false_eq_true, Bool.true_eq_false, Bool.true_and, Bool.and_true, Bool.false_and, Bool.and_false, r1_0, r1_1, r1_2, r1_4, r2_5, q80, q25, ka, hi', x52]
    exact ⟨fb, _, _, rfl, h11, h12, h13, fun a ha => (h14 a ha).trans (n4 a ha)⟩
