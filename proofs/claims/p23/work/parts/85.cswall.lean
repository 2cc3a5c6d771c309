/-! ===== the sweep: all that it asks for holds, and it keeps what holds ===== -/
theorem sw_facts {c : Nat → Nat} {S : Nat → Nat → Nat → Int32} {dt : Nat} {J : JS} {M B K T L : CS} (h : INV c S) (h2 : dt ≤ 60) (h6 : c 6 < 500)
    (eJ : J = join (u1 c 7 (c 7 + dt)) (S1 (nI dt) c S)) (eM : M = move (nI dt) (u1 c 7 (c 7 + dt), J.1)) (eB : B = begin' M) (eK : K = itr knw (B.1 4) B) (eT : T = (K.1, u1 K.2 7 (sortT (K.1 4) (K.2 7)))) (eL : L = look T) :
    (c 7 + 60 ≤ 30000 ∧ c 8 + 300 ≤ 1000000 ∧ c 9 + 10 ≤ 1000000) ∧ (∀ u, u < c 4 → IB (S 7 u) ∧ IG (S 7 u) ∧ S 7 u 14 = S 7 u 1 ∧ S 7 u 15 = S 7 u 2) ∧ (∀ u, u < c 4 → IB (S1 (nI dt) c S 7 u) ∧ IS (S1 (nI dt) c S 7 u)) ∧
    (∀ u, u < c 4 → IB (J.1 7 u) ∧ IS (J.1 7 u) ∧ JB c (J.1 7 u)) ∧ (∀ k, k < c 3 → p_bit (nI J.2) (nI k) = !decide (J.1 5 k 4 = -nI 1)) ∧
    (∀ i, i ≤ c 4 → (itr (mv1 (nI dt)) i (u1 c 7 (c 7 + dt), J.1)).1 5 ≤ 59) ∧ (∀ u, u < B.1 4 → IB (B.2 7 u)) ∧ LB B.1 (B.2 8) ∧ CRP (T.2 7) (K.1 4) ∧ NB L.1 L.2 ∧ (∀ i, i < L.1 5 → kpC (nI (L.1 6 + 1) - nI 12) (L.2 8 i) = kpF (L.1 6 + 1) (L.2 8 i)) ∧ INV (sw3 L).1 (sw3 L).2 := by
  have h' := h
  have h5 := INV_5 h
  obtain ⟨hc, ⟨i7, i8, i9⟩, iS, iL, iA, iW, iT, iO, iD, iC⟩ := h'
  have hc' := hc
  obtain ⟨c0, c1, c2, c3, c4, c5, c6, c7, c8, c9, c10, c11, c12, c13, c14⟩ := hc
  have e04 : u1 c 7 (c 7 + dt) 4 = c 4 := y1_ne (by decide)
  have e03 : u1 c 7 (c 7 + dt) 3 = c 3 := y1_ne (by decide)
  have e05 : u1 c 7 (c 7 + dt) 5 = c 5 := y1_ne (by decide)
  have e06 : u1 c 7 (c 7 + dt) 6 = c 6 := y1_ne (by decide)
  have e09 : u1 c 7 (c 7 + dt) 9 = c 9 := y1_ne (by decide)
  have e013 : u1 c 7 (c 7 + dt) 13 = c 13 := y1_ne (by decide)
  have e07 : u1 c 7 (c 7 + dt) 7 = c 7 + dt := y1_eq
  have hc1 : CB (u1 c 7 (c 7 + dt)) := CB_7 hc' (by omega)
  have row1 : ∀ u, u < c 4 → S1 (nI dt) c S 7 u = e1 (nI dt) (S 7 u) := fun u hu => by unfold S1; rw [y1_eq, upn_lt hu]
  have pj1 : ∀ u, u < c 4 → PJ (c 6) (c 9) (S1 (nI dt) c S 7 u) := fun u hu => by rw [row1 u hu]; exact PR_PJ (by omega) h2 (iT u hu)
  have s50 : S1 (nI dt) c S 5 = S 5 := S1_r (by decide)
  have nm1 : ∀ u, u < c 4 → S1 (nI dt) c S 7 u 0 = S 7 u 0 := fun u hu => by rw [row1 u hu]; exact ex1_w (by decide) (by decide) (by decide) (by decide)
  -- joined
  obtain ⟨j1, j2, j3⟩ := jn_all (c := u1 c 7 (c 7 + dt)) (S := S1 (nI dt) c S) (by rw [e03, s50]; exact fun k hk => (iW k hk).2) (c 4) (fun t ht => by rw [nm1 t ht]; exact (nmd_ne (by omega) (iT t ht).2.2.2.1).2)
  have jc := jst_c (sl := jsl (u1 c 7 (c 7 + dt)) (S1 (nI dt) c S)) jsl_lt (S := S1 (nI dt) c S) (c 4)
  have eJ' : J = itr (jst (jsl (u1 c 7 (c 7 + dt)) (S1 (nI dt) c S))) (c 4) (S1 (nI dt) c S, 0) := by
    rw [eJ]
    unfold join
    rw [e04]
  have J2 : J.2 < 1024 := by
    rw [eJ']
    exact Nat.lt_of_lt_of_le (jst_lt (sl := jsl (u1 c 7 (c 7 + dt)) (S1 (nI dt) c S)) jsl_lt) (pow_le10 (by rw [e03]; exact c3))
  rw [← eJ'] at j1 j2 j3 jc
  rw [e03] at j1 j2 j3 jc
  obtain ⟨jr, j5w, -, -, -⟩ := jc
  have rowJ : ∀ u, u < c 4 → PJ (c 6) (c 9) (J.1 7 u) ∧ J.1 7 u 38 = J.1 7 u 13 ∧ J.1 7 u 0 = S 7 u 0 ∧ J.1 7 u 8 = S 7 u 8 ∧ (J.1 7 u 13 = -nI 1 ∨ ∃ b, b < c 3 ∧ J.1 7 u 13 = nI b ∧ J.1 5 b 4 = J.1 7 u 0) := fun u hu => by
    obtain ⟨v, hv, hcase⟩ := j1 u hu
    have w : ∀ q, q ≠ 13 → q ≠ 38 → J.1 7 u q = S1 (nI dt) c S 7 u q := fun q h h' => by rw [hv, up_ne h, up_ne h']
    have w0 : J.1 7 u 0 = S 7 u 0 := by rw [w 0 (by decide) (by decide)]; exact nm1 u hu
    have v13 : J.1 7 u 13 = v := by rw [hv, up_eq]
    refine ⟨PJ_e (pj1 u hu) w, by rw [v13, hv, up_ne (by decide), up_eq], w0, ?_, ?_⟩
    · rw [w 8 (by decide) (by decide), row1 u hu]
      exact ex1_w (by decide) (by decide) (by decide) (by decide)
    · rw [v13, w0]
      rcases hcase with hh | ⟨b, q1, q2, q3, -⟩
      · exact Or.inl hh
      · exact Or.inr ⟨b, q1, q2, by rw [q3]; exact nm1 u hu⟩
  have J8 : J.1 8 = S 8 := by rw [jr 8 (by decide) (by decide)]; exact S1_r (by decide)
  have IPJ : ∀ k, k < c 3 → IP (J.1 5 k) := fun k hk => by
    unfold IP
    rw [j5w k 0 (by decide), j5w k 1 (by decide), s50]
    exact (iW k hk).1
  have c5s : ∀ i, i ≤ c 4 → (itr (mv1 (nI dt)) i (u1 c 7 (c 7 + dt), J.1)).1 5 ≤ 59 := fun i hi => by
    have := mvs_5 (dt := nI dt) (s := (u1 c 7 (c 7 + dt), J.1)) i
    simp only at this
    rw [e05] at this
    omega
  -- moved on
  have SMm : SM (c 6) M := by
    rw [eM]
    refine move_SM (k := c 6) (by omega) e06 (by rw [e013]; exact c13) (by rw [e03]; exact c3) (fun u hu => ?_) (by rw [e03]; exact IPJ) (fun k' hk' => ?_) (fun e he => ?_) ⟨fun t u ht hu he => ?_, fun e e' he he' hh => ?_, fun t e ht he => ?_⟩ (fun j hj => ?_)
    · rw [e04] at hu
      rw [e09, e03]
      obtain ⟨q1, q2, -, -, q5⟩ := rowJ u hu
      exact ⟨q1, q2, q5⟩
    · rw [e03] at hk'
      rw [e04]
      exact j2 k' hk'
    · rw [e05] at he
      rw [e09, e07, J8]
      obtain ⟨⟨m1, m2, ⟨t, ht, m3⟩, m4⟩, -⟩ := iO e he
      exact ⟨mvb_le (Nat.le_succ _) m1, m2, ⟨t, by omega, m3⟩, m4⟩
    · rw [e04] at ht hu
      rw [(rowJ t ht).2.2.1, (rowJ u hu).2.2.1] at he
      exact iD.1 t u ht hu he
    · rw [e05] at he he'
      rw [J8] at hh
      exact iD.2.1 e e' he he' hh
    · rw [e04] at ht
      rw [e05] at he
      rw [(rowJ t ht).2.2.1, J8]
      exact iD.2.2 t e ht he
    · rw [e04, e05, J8, cn_congr (p := fun t => tp (j % 5) (J.1 7 t)) (q := fun t => tp (j % 5) (S 7 t)) (fun t ht => by
        show decide _ = decide _
        rw [(rowJ t ht).2.2.2.1])]
      exact iC j (by omega)
  obtain ⟨m1, m2, m3, m4, m5, m6⟩ := CB_mv (dt := nI dt) (c := u1 c 7 (c 7 + dt)) (S := J.1) hc1 (by rw [y1_ne (by decide)]; omega) (by rw [e04]; exact c5s _ (Nat.le_refl _))
  have mq : ∀ q, q ≠ 4 → q ≠ 5 → q ≠ 8 → M.1 q = u1 c 7 (c 7 + dt) q := fun q h4 h5 h8 => by
    rw [eM]
    obtain ⟨n1, -, -, -⟩ := mvs_c (dt := nI dt) (s := (u1 c 7 (c 7 + dt), J.1)) (u1 c 7 (c 7 + dt) 4)
    unfold move
    simp only
    rw [y1_ne h4]
    exact n1 q h5 h8
  rw [← eM] at m1 m2 m3 m4 m5 m6
  rw [y1_ne (show (8 : Nat) ≠ 7 by decide)] at m2
  rw [e09] at m3
  rw [e03] at m4
  rw [e06] at m5
  have M5 : M.2 5 = J.1 5 := m6 5 (by decide) (by decide) (by decide)
  -- new tracks
  obtain ⟨b1, b2, b3, b4, b5⟩ := begin_c m1
  have SMb : SM (c 6) B := by
    rw [eB]
    exact begin_SM SMm m1 (by omega) (by rw [m4, M5]; exact IPJ)
  rw [← eB] at b1 b2 b3 b4 b5
  have cB : CB B.1 := CB_of2 m1 b1 b3 (by omega) (by omega)
  have B6 : B.1 6 = c 6 := by rw [b1 6 (by decide) (by decide) (by decide), m5]
  have B7 : B.1 7 = c 7 + dt := by rw [b1 7 (by decide) (by decide) (by decide), mq 7 (by decide) (by decide) (by decide), e07]
  have hLB : LB B.1 (B.2 8) := by
    refine ⟨fun i hi => ?_, fun i j hi hj he => SMb.2.2.1.2.1 i j hi hj ((fa_eq _ _).mpr he)⟩
    obtain ⟨q1, ⟨s, s1, s2, s3⟩, ⟨t, t1, t2⟩, -⟩ := SMb.2.1 i hi
    refine ⟨?_, mvb_IB (by omega) q1, c 7 + dt - t, by omega, ?_⟩
    · unfold kw
      rw [B6, s3, pk_sub s1, nI_leI (by omega) (by omega)]
      omega
    · rw [B7, t2, pk_sub (by omega)]
  have hBB : ∀ u, u < B.1 4 → IB (B.2 7 u) := fun u hu => mvb_IB (by omega) (SMb.1 u hu).1
  -- known again, sorted, looked
  obtain ⟨w1, w2, w3⟩ := knws_c (s := B) (B.1 4)
  obtain ⟨y1, y2, y3, y4, y5⟩ := knws_k (s := B) hLB (B.1 4)
  have SMk : SM (c 6) K := by
    rw [eK]
    exact knws_SM SMb (by omega) _ (Nat.le_refl _)
  rw [← eK] at w1 w2 w3 y1 y2 y3 y4 y5
  have cK : CB K.1 := CB_of cB w1 (by have := cB.2.2.2.2.2.1; omega) (by omega)
  have SMt : SM (c 6) T := by
    rw [eT]
    exact sort_SM SMk
  have SMl : SM (c 6) L := by
    rw [eL]
    exact look_SM SMt
  have eT1 : T.1 = K.1 := by rw [eT]
  have eT2 : ∀ q, q ≠ 7 → T.2 q = K.2 q := fun q hq => by rw [eT]; exact y1_ne hq
  have Lx : (∀ q, q ≠ 7 → q ≠ 9 → L.2 q = T.2 q) ∧ (∀ q, q ≠ 8 → L.1 q = K.1 q) ∧ L.1 8 ≤ K.1 8 + 160 := by
    have cK4 := cK.2.2.2.2.1
    have cK2 := cK.2.2.1
    obtain ⟨g1, g2, g3, g4⟩ := ars_7 (n := K.1 4) (s := crs (K.1 4) T) (K.1 2)
    obtain ⟨d1, d2⟩ := crs_bd (n := K.1 4) (s := T)
    have nn : K.1 4 * K.1 4 ≤ 10 * 10 := Nat.mul_le_mul cK4 cK4
    have nm : K.1 4 * K.1 2 ≤ 10 * 6 := Nat.mul_le_mul cK4 cK2
    have eL' : L = ars (K.1 2) (K.1 4) (crs (K.1 4) T) := by
      rw [eL]
      unfold look
      rw [eT1]
    rw [← eL'] at g1 g2 g3 g4
    rw [eT1] at d1 d2
    exact ⟨fun q h7 h9 => (g1 q h7 h9).trans (crs_r h9), fun q hq => (g3 q hq).trans (d1 q hq), by omega⟩
  obtain ⟨L2, L1, L8⟩ := Lx
  have L6 : L.1 6 = c 6 := by rw [L1 6 (by decide), w1 6 (by decide) (by decide), B6]
  have Lq : ∀ q, q ≠ 4 → q ≠ 5 → q ≠ 8 → q ≠ 9 → L.1 q = u1 c 7 (c 7 + dt) q := fun q h4 h5 h8 h9 => by rw [L1 q h8, w1 q h5 h8, b1 q h4 h8 h9, mq q h4 h5 h8]
  have Lr : ∀ q, q ≠ 4 → q ≠ 5 → q ≠ 7 → q ≠ 8 → q ≠ 9 → L.2 q = S q := fun q h4 h5 h7 h8 h9 => by
    rw [L2 q h7 h9, eT2 q h7, y4 q h5 h7 h8 h9, eB, begin_r h4 h5 h7 h9, m6 q h7 h8 h9, jr q h5 h7, S1_r h7]
  have L9 : L.1 9 ≤ c 9 + 10 := by
    have := w1 9 (by decide) (by decide)
    rw [L1 9 (by decide)]
    omega
  have L7 : L.1 7 = c 7 + dt := by rw [Lq 7 (by decide) (by decide) (by decide) (by decide), e07]
  have cL : CB L.1 := CB_8 cK L1 (by omega)
  refine ⟨⟨by omega, by omega, by omega⟩, fun u hu => ?_, fun u hu => ?_, fun u hu => ?_, fun k hk => ?_, c5s, hBB, hLB, ?_, SMl.2.2.2.2, fun i hi => ?_, ?_⟩
  · obtain ⟨q1, q2, ⟨g, m, g8, -, gm, gk, -⟩, -, q14, q15⟩ := iT u hu
    exact ⟨mvb_IB (by omega) q1, ⟨g, by omega, by omega, g8⟩, q14, q15⟩
  · obtain ⟨q1, q2, -⟩ := pj1 u hu
    exact ⟨mvb_IB (by omega) q1, q2⟩
  · obtain ⟨⟨q1, q2, -⟩, q3, -, -, q5⟩ := rowJ u hu
    refine ⟨mvb_IB (by omega) q1, q2, q3, ?_⟩
    rcases q5 with hh | ⟨b, g1, g2, -⟩
    · exact Or.inl hh
    · exact Or.inr ⟨b, g1, g2⟩
  · rw [bit_nI (by omega) (by omega)]
    exact j3 k hk
  · rw [← eT1]
    have iq : ∀ a, a < T.1 4 → IQ (T.2 7 a 1) ∧ IQ (T.2 7 a 2) ∧ IQ (T.2 7 a 10) ∧ IQ (T.2 7 a 11) := fun a ha => by
      obtain ⟨q1, -, -, -, ⟨o1, o2, -, -⟩, -⟩ := SMt.1 a ha
      obtain ⟨x1, x2, -, -⟩ := mvb_IB (by omega) q1
      exact ⟨x1, x2, o1, o2⟩
    refine ⟨fun a ha hf => ?_, fun a b ha hb _ _ => cr_eq (iq a ha) (iq b hb)⟩
    obtain ⟨-, -, -, -, ⟨-, -, o3, o4⟩, hfi⟩ := SMt.1 a ha
    exact ⟨hfi (of_decide_eq_true hf), o3, o4⟩
  · obtain ⟨-, ⟨s, s1, s2, s3⟩, -, -⟩ := SMl.2.1 i hi
    rw [L6]
    exact (kp_eq s3 (by omega) (by omega)).1
  · refine end_INV (k := c 6) (by omega) SMl L6 cL (by omega) (by omega) (by omega) ?_ ?_ ?_
    · rw [Lq 0 (by decide) (by decide) (by decide) (by decide), Lr 1 (by decide) (by decide) (by decide) (by decide) (by decide), y1_ne (by decide)]
      exact iS
    · rw [Lq 1 (by decide) (by decide) (by decide) (by decide), Lr 2 (by decide) (by decide) (by decide) (by decide) (by decide), y1_ne (by decide)]
      exact iL
    · rw [Lq 2 (by decide) (by decide) (by decide) (by decide), Lr 3 (by decide) (by decide) (by decide) (by decide) (by decide), y1_ne (by decide)]
      exact iA
/-! the call -/
theorem C_73 {μ : mMu} {f : Nat → Nat → Int32} {l : Nat → Nat → Int64} {r : Nat → Nat → Option Nat} (hs : Sh μ) (hr : Rf r) {σ : Nat → Nat} {c : Nat → Nat} {S : Nat → Nat → Nat → Int32} (hC : CAll f r 1 σ c S) (h : INV c S) {dt : Int32} : ((s_sweep dt c S).2.1 = nI 0 ∧ INV (s_sweep dt c S).2.2.1 (s_sweep dt c S).2.2.2 ∧ ∃ f' l' r' σ', CALL 73 [.ref 0, .int dt] (st μ f l r) = some (.inl (some (.int (s_sweep dt c S).1)), st μ f' l' r') ∧ (∀ a, (a = 0 ∨ 66 < a) → a ≠ 134 → f' a = f a) ∧ (∀ a, a ≠ 135 → a ≠ 136 → l' a = l a) ∧ (∀ a, a ≠ 36 → r' a = r a) ∧ Rf r' ∧ CAll f' r' 1 σ' (s_sweep dt c S).2.2.1 (s_sweep dt c S).2.2.2) ∨ ((s_sweep dt c S).2 = (nI 1, c, S) ∧ CALL 73 [.ref 0, .int dt] (st μ f l r) = some (.inr 0, mBurn (st μ f l r) 6)) ∨ ((s_sweep dt c S).2 = (nI 2, c, S) ∧ CALL 73 [.ref 0, .int dt] (st μ f l r) = some (.inr 1, mBurn (st μ f l r) 6)) := by
  have h0a : (mS μ 0).1 = 8 := by rw [hs 0 (by decide)]; rfl
  have h1a : (mS μ 1).1 = 6 := by rw [hs 1 (by decide)]; rfl
  have r0_0 : r 0 0 = some 1 := hr 0 0 1 rfl
  have r0_2 : r 0 2 = some 133 := hr 0 2 133 rfl
  have hc := h.1
  have c6 := hc.2.2.2.2.2.2.1
  have k10 : f 1 10 = nI (c 6) := hC.1.2.2.2.2.2.1
  unfold s_sweep
  rw [B_73_0]
  cases hw : wi dt (nI 1) (nI 60) with
  | false =>
    right; left
    refine ⟨rfl, ?_⟩
    simp (disch := omega) only [st_I, st_L, st_R, st_S, st_N, st_C, st_Z, st_X, st_D, st_st, st_sI, st_sIr, st_sL, st_sR, gfI_st, gfL_st, gfR_st, gfN_st, pfI_st, pfL_st, pfR_st, pfZ_st0, pfZ_st1, ldI_st, ldL_st, stoI_st, stoL_st, aln_st, cpA_st, bq_st, bq_S, oI_s, oL_s, oD_s, oV_s, oR_s, oR_n, oI_e, oL_e, oD_e, Option.bind_some, fa_lit, fa_litL, nI_add, pk_mul, nI_m1, nI_lt', nI_le', nI_eq', lc_ge, lc_le, lc_gt, lc_lt, lc_eq, isZ_0, isZ_1, bI_0, bI_z, decide_eq_true_eq, Bool.not_eq_true', Bool.not_true, Bool.not_false, decide_eq_false_iff_not, if_true, if_false, ite_true, ite_false, eq_self, not_true, not_false_eq_true, C_80, C_81, C_82, C_84, C_85, C_86, C_94, C_95, C_96, C_97, yu_ne, yu_eq, up_eq, up_ne, yur_ne, yur_eq, yu_uu, y1_eq, y1_ne, y1_y1, Nat.mul_zero, Nat.zero_mul, Nat.add_zero, Nat.zero_add, Nat.mul_one, Nat.one_mul, Nat.reduceEqDiff, Nat.reduceLT, Nat.reduceLeDiff, Nat.reduceAdd, Nat.reduceMul, decide_true, decide_false, cond_true, cond_false, reduceCtorEq, Bool.false_eq_true, Bool.true_eq_false, Bool.true_and, Bool.and_true, Bool.false_and, Bool.and_false, r0_0, r0_2, hw]
  | true =>
    obtain ⟨n, n1, n2, rfl⟩ := wi_pos (by decide) hw
    simp only [cond_true]
    by_cases q : c 6 = 500
    · right; right
      have hlt : ¬ c 6 < 500 := by omega
      rw [if_pos q]
      refine ⟨rfl, ?_⟩
      simp (disch := omega) only [st_I, st_L, st_R, st_S, st_N, st_C, st_Z, st_X, st_D, st_st, st_sI, st_sIr, st_sL, st_sR, gfI_st, gfL_st, gfR_st, gfN_st, pfI_st, pfL_st, pfR_st, pfZ_st0, pfZ_st1, ldI_st, ldL_st, stoI_st, stoL_st, aln_st, cpA_st, bq_st, bq_S, oI_s, oL_s, oD_s, oV_s, oR_s, oR_n, oI_e, oL_e, oD_e, Option.bind_some, fa_lit, fa_litL, nI_add, pk_mul, nI_m1, nI_lt', nI_le', nI_eq', lc_ge, lc_le, lc_gt, lc_lt, lc_eq, isZ_0, isZ_1, bI_0, bI_z, decide_eq_true_eq, Bool.not_eq_true', Bool.not_true, Bool.not_false, decide_eq_false_iff_not, if_true, if_false, ite_true, ite_false, eq_self, not_true, not_false_eq_true, C_80, C_81, C_82, C_84, C_85, C_86, C_94, C_95, C_96, C_97, yu_ne, yu_eq, up_eq, up_ne, yur_ne, yur_eq, yu_uu, y1_eq, y1_ne, y1_y1, Nat.mul_zero, Nat.zero_mul, Nat.add_zero, Nat.zero_add, Nat.mul_one, Nat.one_mul, Nat.reduceEqDiff, Nat.reduceLT, Nat.reduceLeDiff, Nat.reduceAdd, Nat.reduceMul, decide_true, decide_false, cond_true, cond_false, reduceCtorEq, Bool.false_eq_true, Bool.true_eq_false, Bool.true_and, Bool.and_true, Bool.false_and, Bool.and_false, r0_0, r0_2, hw, k10, hlt]
    · left
      have hlt : c 6 < 500 := by omega
      rw [if_neg q]
      have esw : (swS (nI n) c S) = (join (u1 c 7 (c 7 + n)) (S1 (nI n) c S), move (nI n) (u1 c 7 (c 7 + n), (join (u1 c 7 (c 7 + n)) (S1 (nI n) c S)).1)) := by
        unfold swS S1
        rw [ix_nI (by omega)]
      obtain ⟨⟨x1, x2, x3⟩, x4, x5, x6, x7, x8, x9, x10, x11, x12, x13, x14⟩ := sw_facts (dt := n) h n2 hlt rfl rfl rfl rfl rfl rfl
      obtain ⟨f', l', r', σ', e, g1, g2, g3, g4, g5⟩ := C_38 hs hr (l := l) (dt := n) hc hC n1 n2 x1 x2 x3 hlt rfl rfl rfl rfl rfl rfl x4 x5 h.2.2.2.2.2.1 h.2.2.2.2.1 x6 x7 (x8 _ (Nat.le_refl _)) x9 x10 x11 x12 x13
      have es2 : ∀ s : CS, sw2 s = look ((itr knw ((begin' s).1 4) (begin' s)).1, u1 (itr knw ((begin' s).1 4) (begin' s)).2 7 (sortT ((itr knw ((begin' s).1 4) (begin' s)).1 4) ((itr knw ((begin' s).1 4) (begin' s)).2 7))) := fun _ => rfl
      simp only
      rw [esw]
      simp only
      rw [es2]
      refine ⟨trivial, x14, f', l', r', σ', ?_, g1, g2, g3, g4, g5⟩
      simp (disch := omega) only [st_I, st_L, st_R, st_S, st_N, st_C, st_Z, st_X, st_D, st_st, st_sI, st_sIr, st_sL, st_sR, gfI_st, gfL_st, gfR_st, gfN_st, pfI_st, pfL_st, pfR_st, pfZ_st0, pfZ_st1, ldI_st, ldL_st, stoI_st, stoL_st, aln_st, cpA_st, bq_st, bq_S, oI_s, oL_s, oD_s, oV_s, oR_s, oR_n, oI_e, oL_e, oD_e, Option.bind_some, fa_lit, fa_litL, nI_add, pk_mul, nI_m1, nI_lt', nI_le', nI_eq', lc_ge, lc_le, lc_gt, lc_lt, lc_eq, isZ_0, isZ_1, bI_0, bI_z, decide_eq_true_eq, Bool.not_eq_true', Bool.not_true, Bool.not_false, decide_eq_false_iff_not, if_true, if_false, ite_true, ite_false, eq_self, not_true, not_false_eq_true, C_80, C_81, C_82, C_84, C_85, C_86, C_94, C_95, C_96, C_97, yu_ne, yu_eq, up_eq, up_ne, yur_ne, yur_eq, yu_uu, y1_eq, y1_ne, y1_y1, Nat.mul_zero, Nat.zero_mul, Nat.add_zero, Nat.zero_add, Nat.mul_one, Nat.one_mul, Nat.reduceEqDiff, Nat.reduceLT, Nat.reduceLeDiff, Nat.reduceAdd, Nat.reduceMul, decide_true, decide_false, cond_true, cond_false, reduceCtorEq, Bool.false_eq_true, Bool.true_eq_false, Bool.true_and, Bool.and_true, Bool.false_and, Bool.and_false, r0_0, r0_2, hw, k10, hlt, e]
