/-! ===== a sweep and the property ===== -/
theorem sw_sm {c : Nat → Nat} {S : Nat → Nat → Nat → Int32} {dt : Nat} {J : JS} {M B K T L : CS} (h : INV c S) (h2 : dt ≤ 60) (h6 : c 6 < 500)
    (eJ : J = join (u1 c 7 (c 7 + dt)) (S1 (nI dt) c S)) (eM : M = move (nI dt) (u1 c 7 (c 7 + dt), J.1)) (eB : B = begin' M) (eK : K = itr knw (B.1 4) B) (eT : T = (K.1, u1 K.2 7 (sortT (K.1 4) (K.2 7)))) (eL : L = look T) :
    (SM (c 6) M ∧ SM (c 6) B ∧ SM (c 6) K ∧ SM (c 6) T ∧ SM (c 6) L) ∧ (CB M.1 ∧ CB B.1 ∧ CB K.1 ∧ CB L.1) ∧ (∀ u, u < c 4 → J.1 7 u 38 = J.1 7 u 13 ∧ ∀ w, w ≠ 13 → w ≠ 38 → J.1 7 u w = S1 (nI dt) c S 7 u w) ∧ ((∀ k, k < c 3 → J.2.testBit k = !decide (J.1 5 k 4 = -nI 1)) ∧ J.2 < 2 ^ c 3) ∧
    (M.1 3 = c 3 ∧ M.2 5 = J.1 5 ∧ M.1 6 = c 6 ∧ M.1 9 + 10 ≤ 1000000) ∧ (∀ q, q ≠ 4 → q ≠ 8 → q ≠ 9 → B.1 q = M.1 q) ∧ ((∀ q, q ≠ 5 → q ≠ 8 → K.1 q = B.1 q) ∧ ∀ u w, w ≠ 0 → K.2 7 u w = B.2 7 u w) ∧ ((∀ q, q ≠ 8 → L.1 q = K.1 q) ∧ (∀ u w, w ≠ 9 → L.2 7 u w = T.2 7 u w) ∧ (∀ q, q ≠ 7 → q ≠ 9 → L.2 q = T.2 q)) ∧ (∀ q, q ≠ 4 → q ≠ 5 → q ≠ 8 → q ≠ 9 → L.1 q = u1 c 7 (c 7 + dt) q) ∧ (∀ q, q ≠ 4 → q ≠ 5 → q ≠ 7 → q ≠ 8 → q ≠ 9 → L.2 q = S q) := by
  have h' := h
  have h5 := INV_5 h
  obtain ⟨hc, ⟨i7, i8, i9⟩, iS, iL, iA, iW, iT, iO, iD, iC⟩ := h'
  have hc' := hc
  obtain ⟨c0, c1, c2, c3, c4, c5, c6, c7, c8, c9, c10, c11, c12, c13, c14⟩ := hc
  have e04 : u1 c 7 (c 7 + dt) 4 = c 4 := y1_ne (by decide)
  have e03 : u1 c 7 (c 7 + dt) 3 = c 3 := y1_ne (by decide)
  have e05 : u1 c 7 (c 7 + dt) 5 = c 5 := y1_ne (by decide)
  have e06 : u1 c 7 (c 7 + dt) 6 = c 6 := y1_ne (by decide)
  have e09 : u1 c 7 (c 7 + dt) 9 = c 9 := y1_ne (by decide)
  have e013 : u1 c 7 (c 7 + dt) 13 = c 13 := y1_ne (by decide)
  have e07 : u1 c 7 (c 7 + dt) 7 = c 7 + dt := y1_eq
  have hc1 : CB (u1 c 7 (c 7 + dt)) := CB_7 hc' (by omega)
  have row1 : ∀ u, u < c 4 → S1 (nI dt) c S 7 u = e1 (nI dt) (S 7 u) := fun u hu => by unfold S1; rw [y1_eq, upn_lt hu]
  have pj1 : ∀ u, u < c 4 → PJ (c 6) (c 9) (S1 (nI dt) c S 7 u) := fun u hu => by rw [row1 u hu]; exact PR_PJ (by omega) h2 (iT u hu)
  have s50 : S1 (nI dt) c S 5 = S 5 := S1_r (by decide)
  have nm1 : ∀ u, u < c 4 → S1 (nI dt) c S 7 u 0 = S 7 u 0 := fun u hu => by rw [row1 u hu]; exact ex1_w (by decide) (by decide) (by decide) (by decide)
  -- joined
  obtain ⟨j1, j2, j3⟩ := jn_all (c := u1 c 7 (c 7 + dt)) (S := S1 (nI dt) c S) (by rw [e03, s50]; exact fun k hk => (iW k hk).2) (c 4) (fun t ht => by rw [nm1 t ht]; exact (nmd_ne (by omega) (iT t ht).2.2.2.1).2)
  have jc := jst_c (sl := jsl (u1 c 7 (c 7 + dt)) (S1 (nI dt) c S)) jsl_lt (S := S1 (nI dt) c S) (c 4)
  have eJ' : J = itr (jst (jsl (u1 c 7 (c 7 + dt)) (S1 (nI dt) c S))) (c 4) (S1 (nI dt) c S, 0) := by
    rw [eJ]
    unfold join
    rw [e04]
  have J2 : J.2 < 1024 := by
    rw [eJ']
    exact Nat.lt_of_lt_of_le (jst_lt (sl := jsl (u1 c 7 (c 7 + dt)) (S1 (nI dt) c S)) jsl_lt) (pow_le10 (by rw [e03]; exact c3))
  rw [← eJ'] at j1 j2 j3 jc
  rw [e03] at j1 j2 j3 jc
  obtain ⟨jr, j5w, -, -, -⟩ := jc
  have rowJ : ∀ u, u < c 4 → PJ (c 6) (c 9) (J.1 7 u) ∧ J.1 7 u 38 = J.1 7 u 13 ∧ J.1 7 u 0 = S 7 u 0 ∧ J.1 7 u 8 = S 7 u 8 ∧ (J.1 7 u 13 = -nI 1 ∨ ∃ b, b < c 3 ∧ J.1 7 u 13 = nI b ∧ J.1 5 b 4 = J.1 7 u 0) := fun u hu => by
    obtain ⟨v, hv, hcase⟩ := j1 u hu
    have w : ∀ q, q ≠ 13 → q ≠ 38 → J.1 7 u q = S1 (nI dt) c S 7 u q := fun q h h' => by rw [hv, up_ne h, up_ne h']
    have w0 : J.1 7 u 0 = S 7 u 0 := by rw [w 0 (by decide) (by decide)]; exact nm1 u hu
    have v13 : J.1 7 u 13 = v := by rw [hv, up_eq]
    refine ⟨PJ_e (pj1 u hu) w, by rw [v13, hv, up_ne (by decide), up_eq], w0, ?_, ?_⟩
    · rw [w 8 (by decide) (by decide), row1 u hu]
      exact ex1_w (by decide) (by decide) (by decide) (by decide)
    · rw [v13, w0]
      rcases hcase with hh | ⟨b, q1, q2, q3, -⟩
      · exact Or.inl hh
      · exact Or.inr ⟨b, q1, q2, by rw [q3]; exact nm1 u hu⟩
  have J8 : J.1 8 = S 8 := by rw [jr 8 (by decide) (by decide)]; exact S1_r (by decide)
  have IPJ : ∀ k, k < c 3 → IP (J.1 5 k) := fun k hk => by
    unfold IP
    rw [j5w k 0 (by decide), j5w k 1 (by decide), s50]
    exact (iW k hk).1
  have c5s : ∀ i, i ≤ c 4 → (itr (mv1 (nI dt)) i (u1 c 7 (c 7 + dt), J.1)).1 5 ≤ 59 := fun i hi => by
    have := mvs_5 (dt := nI dt) (s := (u1 c 7 (c 7 + dt), J.1)) i
    simp only at this
    rw [e05] at this
    omega
  -- moved on
  have SMm : SM (c 6) M := by
    rw [eM]
    refine move_SM (k := c 6) (by omega) e06 (by rw [e013]; exact c13) (by rw [e03]; exact c3) (fun u hu => ?_) (by rw [e03]; exact IPJ) (fun k' hk' => ?_) (fun e he => ?_) ⟨fun t u ht hu he => ?_, fun e e' he he' hh => ?_, fun t e ht he => ?_⟩ (fun j hj => ?_)
    · rw [e04] at hu
      rw [e09, e03]
      obtain ⟨q1, q2, -, -, q5⟩ := rowJ u hu
      exact ⟨q1, q2, q5⟩
    · rw [e03] at hk'
      rw [e04]
      exact j2 k' hk'
    · rw [e05] at he
      rw [e09, e07, J8]
      obtain ⟨⟨m1, m2, ⟨t, ht, m3⟩, m4⟩, -⟩ := iO e he
      exact ⟨mvb_le (Nat.le_succ _) m1, m2, ⟨t, by omega, m3⟩, m4⟩
    · rw [e04] at ht hu
      rw [(rowJ t ht).2.2.1, (rowJ u hu).2.2.1] at he
      exact iD.1 t u ht hu he
    · rw [e05] at he he'
      rw [J8] at hh
      exact iD.2.1 e e' he he' hh
    · rw [e04] at ht
      rw [e05] at he
      rw [(rowJ t ht).2.2.1, J8]
      exact iD.2.2 t e ht he
    · rw [e04, e05, J8, cn_congr (p := fun t => tp (j % 5) (J.1 7 t)) (q := fun t => tp (j % 5) (S 7 t)) (fun t ht => by
        show decide _ = decide _
        rw [(rowJ t ht).2.2.2.1])]
      exact iC j (by omega)
  obtain ⟨m1, m2, m3, m4, m5, m6⟩ := CB_mv (dt := nI dt) (c := u1 c 7 (c 7 + dt)) (S := J.1) hc1 (by rw [y1_ne (by decide)]; omega) (by rw [e04]; exact c5s _ (Nat.le_refl _))
  have mq : ∀ q, q ≠ 4 → q ≠ 5 → q ≠ 8 → M.1 q = u1 c 7 (c 7 + dt) q := fun q h4 h5 h8 => by
    rw [eM]
    obtain ⟨n1, -, -, -⟩ := mvs_c (dt := nI dt) (s := (u1 c 7 (c 7 + dt), J.1)) (u1 c 7 (c 7 + dt) 4)
    unfold move
    simp only
    rw [y1_ne h4]
    exact n1 q h5 h8
  rw [← eM] at m1 m2 m3 m4 m5 m6
  rw [y1_ne (show (8 : Nat) ≠ 7 by decide)] at m2
  rw [e09] at m3
  rw [e03] at m4
  rw [e06] at m5
  have M5 : M.2 5 = J.1 5 := m6 5 (by decide) (by decide) (by decide)
  -- new tracks
  obtain ⟨b1, b2, b3, b4, b5⟩ := begin_c m1
  have SMb : SM (c 6) B := by
    rw [eB]
    exact begin_SM SMm m1 (by omega) (by rw [m4, M5]; exact IPJ)
  rw [← eB] at b1 b2 b3 b4 b5
  have cB : CB B.1 := CB_of2 m1 b1 b3 (by omega) (by omega)
  have B6 : B.1 6 = c 6 := by rw [b1 6 (by decide) (by decide) (by decide), m5]
  have B7 : B.1 7 = c 7 + dt := by rw [b1 7 (by decide) (by decide) (by decide), mq 7 (by decide) (by decide) (by decide), e07]
  have hLB : LB B.1 (B.2 8) := by
    refine ⟨fun i hi => ?_, fun i j hi hj he => SMb.2.2.1.2.1 i j hi hj ((fa_eq _ _).mpr he)⟩
    obtain ⟨q1, ⟨s, s1, s2, s3⟩, ⟨t, t1, t2⟩, -⟩ := SMb.2.1 i hi
    refine ⟨?_, mvb_IB (by omega) q1, c 7 + dt - t, by omega, ?_⟩
    · unfold kw
      rw [B6, s3, pk_sub s1, nI_leI (by omega) (by omega)]
      omega
    · rw [B7, t2, pk_sub (by omega)]
  have hBB : ∀ u, u < B.1 4 → IB (B.2 7 u) := fun u hu => mvb_IB (by omega) (SMb.1 u hu).1
  -- known again, sorted, looked
  obtain ⟨w1, w2, w3⟩ := knws_c (s := B) (B.1 4)
  obtain ⟨y1, y2, y3, y4, y5⟩ := knws_k (s := B) hLB (B.1 4)
  have SMk : SM (c 6) K := by
    rw [eK]
    exact knws_SM SMb (by omega) _ (Nat.le_refl _)
  rw [← eK] at w1 w2 w3 y1 y2 y3 y4 y5
  have cK : CB K.1 := CB_of cB w1 (by have := cB.2.2.2.2.2.1; omega) (by omega)
  have SMt : SM (c 6) T := by
    rw [eT]
    exact sort_SM SMk
  have SMl : SM (c 6) L := by
    rw [eL]
    exact look_SM SMt
  have eT1 : T.1 = K.1 := by rw [eT]
  have eT2 : ∀ q, q ≠ 7 → T.2 q = K.2 q := fun q hq => by rw [eT]; exact y1_ne hq
  have Lx : (∀ q, q ≠ 7 → q ≠ 9 → L.2 q = T.2 q) ∧ (∀ q, q ≠ 8 → L.1 q = K.1 q) ∧ L.1 8 ≤ K.1 8 + 160 := by
    have cK4 := cK.2.2.2.2.1
    have cK2 := cK.2.2.1
    obtain ⟨g1, g2, g3, g4⟩ := ars_7 (n := K.1 4) (s := crs (K.1 4) T) (K.1 2)
    obtain ⟨d1, d2⟩ := crs_bd (n := K.1 4) (s := T)
    have nn : K.1 4 * K.1 4 ≤ 10 * 10 := Nat.mul_le_mul cK4 cK4
    have nm : K.1 4 * K.1 2 ≤ 10 * 6 := Nat.mul_le_mul cK4 cK2
    have eL' : L = ars (K.1 2) (K.1 4) (crs (K.1 4) T) := by
      rw [eL]
      unfold look
      rw [eT1]
    rw [← eL'] at g1 g2 g3 g4
    rw [eT1] at d1 d2
    exact ⟨fun q h7 h9 => (g1 q h7 h9).trans (crs_r h9), fun q hq => (g3 q hq).trans (d1 q hq), by omega⟩
  obtain ⟨L2, L1, L8⟩ := Lx
  have L6 : L.1 6 = c 6 := by rw [L1 6 (by decide), w1 6 (by decide) (by decide), B6]
  have Lq : ∀ q, q ≠ 4 → q ≠ 5 → q ≠ 8 → q ≠ 9 → L.1 q = u1 c 7 (c 7 + dt) q := fun q h4 h5 h8 h9 => by rw [L1 q h8, w1 q h5 h8, b1 q h4 h8 h9, mq q h4 h5 h8]
  have Lr : ∀ q, q ≠ 4 → q ≠ 5 → q ≠ 7 → q ≠ 8 → q ≠ 9 → L.2 q = S q := fun q h4 h5 h7 h8 h9 => by
    rw [L2 q h7 h9, eT2 q h7, y4 q h5 h7 h8 h9, eB, begin_r h4 h5 h7 h9, m6 q h7 h8 h9, jr q h5 h7, S1_r h7]
  have L9 : L.1 9 ≤ c 9 + 10 := by
    have := w1 9 (by decide) (by decide)
    rw [L1 9 (by decide)]
    omega
  have L7 : L.1 7 = c 7 + dt := by rw [Lq 7 (by decide) (by decide) (by decide) (by decide), e07]
  have cL : CB L.1 := CB_8 cK L1 (by omega)
  have rowJw : ∀ u, u < c 4 → J.1 7 u 38 = J.1 7 u 13 ∧ ∀ w, w ≠ 13 → w ≠ 38 → J.1 7 u w = S1 (nI dt) c S 7 u w := fun u hu => by
    obtain ⟨v, hv, -⟩ := j1 u hu
    refine ⟨?_, fun q h h' => by rw [hv, up_ne h, up_ne h']⟩
    rw [hv, up_eq, up_ne (show (38 : Nat) ≠ 13 by decide), up_eq]
  have J2' : J.2 < 2 ^ c 3 := by
    have := jst_lt (sl := jsl (u1 c 7 (c 7 + dt)) (S1 (nI dt) c S)) jsl_lt (n := c 4) (S := S1 (nI dt) c S)
    rw [← eJ', e03] at this
    exact this
  have L7w : ∀ u w, w ≠ 9 → L.2 7 u w = T.2 7 u w := fun u w hw => by
    rw [eL]
    unfold look
    rw [(ars_7 (n := T.1 4) (s := crs (T.1 4) T) (T.1 2)).2.1 u w hw, crs_r (by decide)]
  exact ⟨⟨SMm, SMb, SMk, SMt, SMl⟩, ⟨m1, cB, cK, cL⟩, rowJw, ⟨j3, J2'⟩, ⟨m4, M5, m5, by omega⟩, b1, ⟨w1, y2⟩, ⟨L1, L7w, L2⟩, Lq, Lr⟩
theorem mvs_tv {k : Nat} {dt : Int32} {c : Nat → Nat} {S : Nat → Nat → Nat → Int32} (hk : k ≤ 499) (hR : ∀ u, u < c 4 → TV k (S 7 u) ∧ S 7 u 38 = S 7 u 13) : ∀ i, i ≤ c 4 → ∀ u, u < i → kpT ((itr (mv1 dt) i (c, S)).2 7 u) = true → TV (k + 1) ((itr (mv1 dt) i (c, S)).2 7 u) ∧ GH ((itr (mv1 dt) i (c, S)).2 7 u) ∧ ¬ (itr (mv1 dt) i (c, S)).2 7 u 8 = nI 1
  | 0, _, u, hu, _ => absurd hu (Nat.not_lt_zero u)
  | i + 1, hi, u, hu, hkp => by
    have ih := mvs_tv (dt := dt) hk hR i (by omega)
    obtain ⟨-, -, -, m4⟩ := mvs_c (dt := dt) (s := (c, S)) i
    have row : (itr (mv1 dt) i (c, S)).2 7 i = S 7 i := m4 i (Nat.le_refl _)
    rw [itr_s'] at hkp ⊢
    generalize itr (mv1 dt) i (c, S) = s at *
    by_cases q : u = i
    · rw [q] at hkp ⊢
      exact mv_tv hk (by rw [row]; exact (hR i (by omega)).1) (by rw [row]; exact (hR i (by omega)).2) hkp
    · rw [mv1_c.2.2.2.2 u q] at hkp ⊢
      exact ih u (by omega) hkp
theorem move_tv {k : Nat} {dt : Int32} {c : Nat → Nat} {S : Nat → Nat → Nat → Int32} (hk : k ≤ 499) (hR : ∀ u, u < c 4 → TV k (S 7 u) ∧ S 7 u 38 = S 7 u 13) : ∀ t, t < (move dt (c, S)).1 4 → TV (k + 1) ((move dt (c, S)).2 7 t) ∧ GH ((move dt (c, S)).2 7 t) ∧ ¬ (move dt (c, S)).2 7 t 8 = nI 1 := by
  have b1 := mvs_tv (dt := dt) hk hR (c 4) (Nat.le_refl _)
  obtain ⟨π, p1, -, -⟩ := cmp_pi (kp := kpT) (T := (itr (mv1 dt) (c 4) (c, S)).2 7) (c 4)
  have em : move dt (c, S) = (u1 (itr (mv1 dt) (c 4) (c, S)).1 4 (cmp kpT ((itr (mv1 dt) (c 4) (c, S)).2 7) (c 4)).2, u1 (itr (mv1 dt) (c 4) (c, S)).2 7 (cmp kpT ((itr (mv1 dt) (c 4) (c, S)).2 7) (c 4)).1) := rfl
  rw [em]
  simp only [y1_eq]
  intro t ht
  obtain ⟨x1, x2, x3⟩ := p1 t ht
  rw [x3]
  exact b1 _ x1 x2
/-- joined, and not begun in this sweep -/
def odj (R : Nat → Int32) : Bool := ms0 R && !decide (R 8 = nI 1)
theorem begs_x {k : Nat} {s : CS} (hk : 1 ≤ k) (h4 : s.1 4 ≤ 10) (h9 : s.1 9 + 10 ≤ 1000000) (h : ∀ t, t < s.1 4 → TV k (s.2 7 t) ∧ GH (s.2 7 t)) : ∀ n, n ≤ 10 → (∀ t, t < (itr beg1 n s).1 4 → TV k ((itr beg1 n s).2 7 t) ∧ GH ((itr beg1 n s).2 7 t)) ∧ cn (fun t => odj ((itr beg1 n s).2 7 t)) ((itr beg1 n s).1 4) = cn (fun t => odj (s.2 7 t)) (s.1 4) ∧ ∀ b, b < n → (itr beg1 n s).2 5 b 4 = -nI 1 → (itr beg1 n s).1 4 = 10
  | 0, _ => ⟨h, rfl, fun b hb => absurd hb (Nat.not_lt_zero b)⟩
  | n + 1, hn => by
    obtain ⟨i1, i2, i3⟩ := begs_x hk h4 h9 h n (by omega)
    obtain ⟨-, -, -, -, g9⟩ := begs_c (s := s) h4 n
    rw [itr_s', ← i2]
    generalize itr beg1 n s = x at i1 i3 g9 ⊢
    unfold beg1
    split
    · rename_i hc
      obtain ⟨hc4, hc10⟩ := hc
      simp only [noteS_r (show (7 : Nat) ≠ 9 by decide), noteS_r (show (5 : Nat) ≠ 9 by decide), y1_eq, y1_ne (show (7 : Nat) ≠ 5 by decide)]
      have ro : ∀ u, u ≠ x.1 4 → u1 (x.2 7) (x.1 4) (nrc (nI (x.1 9)) (nI 16 * x.2 5 n 0) (nI 16 * x.2 5 n 1) n) u = x.2 7 u := fun u hu => y1_ne hu
      refine ⟨fun t ht => ?_, ?_, fun b hb e => ?_⟩
      · by_cases q : t = x.1 4
        · rw [q, y1_eq]
          refine ⟨⟨1, 1, 0, ⟨rfl, nrc_8, nrc_w (by decide) (by decide) (by decide) (by decide) (by decide) (by decide)⟩, ⟨by omega, by omega, by omega⟩, Or.inl ⟨nrc_w (by decide) (by decide) (by decide) (by decide) (by decide) (by decide), by omega, by omega⟩⟩, ?_⟩
          unfold GH
          rw [nrc_38, nrc_w (by decide) (by decide) (by decide) (by decide) (by decide) (by decide)]
          exact ⟨fun e => absurd e (nI_nm (by omega)), fun e => absurd rfl e⟩
        · rw [ro t q]
          exact i1 t (by omega)
      · have es : cn (fun t => odj (u1 (x.2 7) (x.1 4) (nrc (nI (x.1 9)) (nI 16 * x.2 5 n 0) (nI 16 * x.2 5 n 1) n) t)) (x.1 4 + 1) = cn (fun t => odj (u1 (x.2 7) (x.1 4) (nrc (nI (x.1 9)) (nI 16 * x.2 5 n 0) (nI 16 * x.2 5 n 1) n) t)) (x.1 4) + (bif odj (u1 (x.2 7) (x.1 4) (nrc (nI (x.1 9)) (nI 16 * x.2 5 n 0) (nI 16 * x.2 5 n 1) n) (x.1 4)) then 1 else 0) := rfl
        have e2 : odj (nrc (nI (x.1 9)) (nI 16 * x.2 5 n 0) (nI 16 * x.2 5 n 1) n) = false := by
          unfold odj
          rw [nrc_8, decide_eq_true rfl, Bool.not_true, Bool.and_false]
        rw [es, y1_eq, e2, cond_false]
        exact cn_congr (fun u hu => by
          show odj (u1 (x.2 7) (x.1 4) _ u) = _
          rw [ro u (by omega)])
      · exfalso
        by_cases q : b = n
        · rw [q, y1_eq, up_eq] at e
          exact m1_ne (by omega) e
        · rw [y1_ne q] at e
          exact hc10 (i3 b (by omega) e)
    · rename_i hc
      refine ⟨i1, rfl, fun b hb e => ?_⟩
      by_cases q : b = n
      · rw [q] at e
        by_cases q4 : x.1 4 = 10
        · exact q4
        · exact absurd ⟨e, q4⟩ hc
      · exact i3 b (by omega) e
theorem cn_ex {p : Nat → Bool} : ∀ n, cn p n < n → ∃ b, b < n ∧ p b = false
  | 0, h => absurd h (Nat.not_lt_zero _)
  | n + 1, h => by
    cases hp : p n with
    | false => exact ⟨n, Nat.lt_succ_self n, hp⟩
    | true =>
      have es : cn p (n + 1) = cn p n + (bif p n then 1 else 0) := rfl
      rw [es, hp, cond_true] at h
      obtain ⟨b, h1, h2⟩ := cn_ex (p := p) n (by omega)
      exact ⟨b, by omega, h2⟩
theorem cn_lt {p : Nat → Bool} : ∀ {n b : Nat}, b < n → p b = false → cn p n < n
  | 0, b, h, _ => absurd h (Nat.not_lt_zero b)
  | n + 1, b, h, hp => by
    have es : cn p (n + 1) = cn p n + (bif p n then 1 else 0) := rfl
    rw [es]
    by_cases q : b = n
    · subst q
      rw [hp]
      have := cn_le p b
      show cn p b + 0 < b + 1
      omega
    · have := cn_lt (n := n) (b := b) (by omega) hp
      cases p n <;> simp <;> omega
theorem cn_cut {p q : Nat → Bool} {m : Nat} (h1 : ∀ i, i < m → p i = q i) (h2 : ∀ i, m ≤ i → p i = false) : ∀ n, m ≤ n → cn p n = cn q m
  | 0, h => by
    have : m = 0 := by omega
    rw [this]
    rfl
  | n + 1, h => by
    by_cases e : m = n + 1
    · rw [e] at h1 ⊢
      exact cn_congr h1
    · have es : cn p (n + 1) = cn p n + (bif p n then 1 else 0) := rfl
      rw [es, h2 n (by omega), cn_cut h1 h2 n (by omega)]
      rfl
/-- what holds between two calls, of the property -/
def XI (c : Nat → Nat) (S : Nat → Nat → Nat → Int32) : Prop := EV (c 6) c (S 9) ∧ (∀ t, t < c 4 → TV (c 6) (S 7 t)) ∧ SO (c 4) (S 7)
theorem sw_law {c : Nat → Nat} {S : Nat → Nat → Nat → Int32} {dt : Nat} (h : INV c S) (hX : XI c S) (h1 : 1 ≤ dt) (h2 : dt ≤ 60) (h6 : c 6 < 500) : ∃ j c' S', s_sweep (nI dt) c S = (nI j, nI 0, c', S') ∧ INV c' S' ∧ XI c' S' ∧ (c' 3 = 0 ∧ c' 6 = c 6 + 1 ∧ c' 7 = c 7 + dt ∧ c' 10 = c 3) ∧ (∀ q, q = 0 ∨ q = 1 ∨ q = 2 ∨ 11 ≤ q → c' q = c q) ∧ (∀ q, q = 1 ∨ q = 2 ∨ q = 3 → S' q = S q) ∧ (∀ b, b < c 3 → S' 6 b 4 = -nI 1 ∨ ∃ m, m < 2000000 ∧ S' 6 b 4 = nI m) ∧ (∀ t, t < c' 4 → cn (fun b => decide (S' 6 b 4 = S' 7 t 0)) (c 3) = bif ms0 (S' 7 t) then 1 else 0) ∧ j + cn (fun t => ms0 (S' 7 t) && decide (S' 7 t 8 = nI 1)) (c' 4) + cn (fun b => decide (S' 6 b 4 = -nI 1)) (c 3) = c 3 ∧ ∀ b, b < c 3 → S' 6 b 4 = -nI 1 → c' 4 = 10 := by
  obtain ⟨x1, x2, x3⟩ := hX
  obtain ⟨J, eJ⟩ : ∃ J, J = join (u1 c 7 (c 7 + dt)) (S1 (nI dt) c S) := ⟨_, rfl⟩
  obtain ⟨M, eM⟩ : ∃ M, M = move (nI dt) (u1 c 7 (c 7 + dt), J.1) := ⟨_, rfl⟩
  obtain ⟨B, eB⟩ : ∃ B, B = begin' M := ⟨_, rfl⟩
  obtain ⟨K, eK⟩ : ∃ K, K = itr knw (B.1 4) B := ⟨_, rfl⟩
  obtain ⟨T, eT⟩ : ∃ T : CS, T = (K.1, u1 K.2 7 (sortT (K.1 4) (K.2 7))) := ⟨_, rfl⟩
  obtain ⟨L, eL⟩ : ∃ L, L = look T := ⟨_, rfl⟩
  obtain ⟨⟨SMm, SMb, SMk, SMt, SMl⟩, ⟨cM, cB, cK, cL⟩, rJ, ⟨j3, J2⟩, ⟨m3, m5, m6, m9⟩, b1, ⟨k1, k2⟩, ⟨l1, l7, l2⟩, lq, lr⟩ := sw_sm h h2 h6 eJ eM eB eK eT eL
  have hinv := (sw_facts h h2 h6 eJ eM eB eK eT eL).2.2.2.2.2.2.2.2.2.2.2
  have c3 : c 3 ≤ 10 := h.1.2.2.2.1
  have esw : s_sweep (nI dt) c S = (nI (pop J.2), nI 0, sw3 L) := by
    unfold s_sweep
    have hw : wi (nI dt) (nI 1) (nI 60) = true := by
      rw [wi_iff, nI_toInt (n := dt) (by omega), nI_toInt (n := 1) (by decide), nI_toInt (n := 60) (by decide)]
      omega
    have e1 : (swS (nI dt) c S) = (join (u1 c 7 (c 7 + dt)) (S1 (nI dt) c S), move (nI dt) (u1 c 7 (c 7 + dt), (join (u1 c 7 (c 7 + dt)) (S1 (nI dt) c S)).1)) := by
      unfold swS S1
      rw [ix_nI (by omega)]
    have es2 : ∀ s : CS, sw2 s = look ((itr knw ((begin' s).1 4) (begin' s)).1, u1 (itr knw ((begin' s).1 4) (begin' s)).2 7 (sortT ((itr knw ((begin' s).1 4) (begin' s)).1 4) ((itr knw ((begin' s).1 4) (begin' s)).2 7))) := fun _ => rfl
    rw [hw, cond_true, if_neg (by omega), e1]
    simp only
    rw [es2, ← eJ, ← eM, ← eB, ← eK, ← eT, ← eL]
  -- rows
  have tvM : ∀ t, t < M.1 4 → TV (c 6 + 1) (M.2 7 t) ∧ GH (M.2 7 t) ∧ ¬ M.2 7 t 8 = nI 1 := by
    rw [eM]
    refine move_tv (by omega) (fun u hu => ?_)
    rw [y1_ne (show (4 : Nat) ≠ 7 by decide)] at hu
    obtain ⟨r1, r2⟩ := rJ u hu
    have s1 : ∀ w, w ≠ 1 → w ≠ 2 → w ≠ 10 → w ≠ 11 → S1 (nI dt) c S 7 u w = S 7 u w := fun w h1 h2 h3 h4 => by
      unfold S1
      rw [y1_eq, upn_lt hu]
      exact ex1_w h1 h2 h3 h4
    exact ⟨TV_e (x2 u hu) (by rw [r2 5 (by decide) (by decide), s1 5 (by decide) (by decide) (by decide) (by decide)]) (by rw [r2 6 (by decide) (by decide), s1 6 (by decide) (by decide) (by decide) (by decide)]) (by rw [r2 7 (by decide) (by decide), s1 7 (by decide) (by decide) (by decide) (by decide)]) (by rw [r2 8 (by decide) (by decide), s1 8 (by decide) (by decide) (by decide) (by decide)]), r1⟩
  have oM : cn (fun t => odj (M.2 7 t)) (M.1 4) = pop J.2 := by
    have e1 : cn (fun t => odj (M.2 7 t)) (M.1 4) = cn (fun t => ms0 (M.2 7 t)) (M.1 4) := cn_congr (fun t ht => by
      unfold odj
      rw [decide_eq_false (tvM t ht).2.2, Bool.not_false, Bool.and_true])
    rw [e1, cn_nm SMm (by rw [m3]; exact c3) (by omega) (fun t ht => (tvM t ht).2.1), m3, m5]
    refine (cn_cut (p := fun i => J.2.testBit i) (q := nmb (J.1 5)) (m := c 3) (fun i hi => j3 i hi) (fun i hi => ?_) 10 c3).symm
    exact Nat.testBit_lt_two_pow (Nat.lt_of_lt_of_le J2 (Nat.pow_le_pow_right (by decide) hi))
  have bx := begs_x (k := c 6 + 1) (s := (M.1, itr clt (M.1 3) M.2)) (by omega) cM.2.2.2.2.1 m9 (fun t ht => by
    show TV (c 6 + 1) (itr clt (M.1 3) M.2 7 t) ∧ GH (itr clt (M.1 3) M.2 7 t)
    rw [clt_r (by decide)]
    exact ⟨(tvM t ht).1, (tvM t ht).2.1⟩) (M.1 3) (by rw [m3]; exact c3)
  have eB2 : itr beg1 (M.1 3) (M.1, itr clt (M.1 3) M.2) = B := by rw [eB]; rfl
  rw [eB2] at bx
  obtain ⟨bx1, bx2, bx3⟩ := bx
  have bx2' : cn (fun t => odj (B.2 7 t)) (B.1 4) = pop J.2 := by
    rw [bx2, ← oM]
    show cn (fun t => odj (itr clt (M.1 3) M.2 7 t)) (M.1 4) = _
    rw [clt_r (by decide)]
  have B3 : B.1 3 = c 3 := by rw [b1 3 (by decide) (by decide) (by decide), m3]
  have K4 : K.1 4 = B.1 4 := k1 4 (by decide) (by decide)
  have K3 : K.1 3 = c 3 := by rw [k1 3 (by decide) (by decide), B3]
  have L4 : L.1 4 = B.1 4 := by rw [l1 4 (by decide), K4]
  have L3 : L.1 3 = c 3 := by rw [l1 3 (by decide), K3]
  have c9 : ∀ x : CS, CB x.1 → x.1 9 ≤ 2000000 := fun x hx => by have := hx.2.2.2.2.2.2.2.2.2.1; omega
  obtain ⟨⟨π, ρ, p1, p2⟩, pc⟩ := PRM_sort (n := K.1 4) (T := K.2 7)
  have T7 : ∀ t, T.2 7 t = sortT (K.1 4) (K.2 7) t := fun t => by
    rw [eT]
    show u1 K.2 7 (sortT (K.1 4) (K.2 7)) 7 t = _
    rw [y1_eq]
  have Lw : ∀ t w, t < L.1 4 → w ≠ 0 → w ≠ 9 → L.2 7 t w = B.2 7 (π t) w := fun t w ht h0 h9 => by
    rw [l7 t w h9, T7 t, p2 t (by rw [K4, ← L4]; exact ht), k2 _ w h0]
  have πl : ∀ t, t < L.1 4 → π t < B.1 4 := fun t ht => by
    have := (p1 t (by rw [K4, ← L4]; exact ht)).1
    rw [K4] at this
    exact this
  have tvL : ∀ t, t < L.1 4 → TV (c 6 + 1) (L.2 7 t) ∧ GH (L.2 7 t) := fun t ht => by
    obtain ⟨q1, q2⟩ := bx1 _ (πl t ht)
    exact ⟨TV_e q1 (Lw t 5 ht (by decide) (by decide)) (Lw t 6 ht (by decide) (by decide)) (Lw t 7 ht (by decide) (by decide)) (Lw t 8 ht (by decide) (by decide)), GH_e q2 (Lw t 7 ht (by decide) (by decide)) (Lw t 38 ht (by decide) (by decide))⟩
  have cnL : ∀ p : (Nat → Int32) → Bool, (∀ R R' : Nat → Int32, (∀ w, w ≠ 0 → w ≠ 9 → R' w = R w) → p R' = p R) → cn (fun t => p (L.2 7 t)) (L.1 4) = cn (fun t => p (B.2 7 t)) (B.1 4) := fun p hp => by
    have e1 : cn (fun t => p (L.2 7 t)) (L.1 4) = cn (fun t => p (sortT (K.1 4) (K.2 7) t)) (K.1 4) := by
      rw [L4, K4]
      exact cn_congr (fun t _ => hp _ _ (fun w _ h9 => by rw [l7 t w h9, T7 t, K4]))
    rw [e1, pc, K4]
    exact cn_congr (fun t _ => hp _ _ (fun w h0 _ => k2 t w h0))
  have odL : cn (fun t => odj (L.2 7 t)) (L.1 4) = pop J.2 := by
    rw [cnL odj (fun R R' e => by unfold odj ms0; rw [e 7 (by decide) (by decide), e 8 (by decide) (by decide)])]
    exact bx2'
  have msL : cn (fun t => ms0 (L.2 7 t)) (L.1 4) = cn (fun t => ms0 (B.2 7 t)) (B.1 4) := cnL ms0 (fun R R' e => by unfold ms0; rw [e 7 (by decide) (by decide)])
  have nmL := cn_nm SMl (by rw [L3]; exact c3) (c9 L cL) (fun t ht => (tvL t ht).2)
  have nmB := cn_nm SMb (by rw [B3]; exact c3) (c9 B cB) (fun t ht => (bx1 t ht).2)
  -- the end
  have z6 : (sw3 L).1 6 = c 6 + 1 := by
    rw [sw3_1, y1_ne (by decide), y1_ne (by decide), y1_ne (by decide), y1_eq, lq 6 (by decide) (by decide) (by decide) (by decide), y1_ne (by decide)]
  have z4 : (sw3 L).1 4 = L.1 4 := by
    rw [sw3_1, y1_ne (by decide), y1_ne (by decide), y1_ne (by decide), y1_ne (by decide)]
  have z7 : ∀ t, t < L.1 4 → (sw3 L).2 7 t = pe (L.2 7 t) := fun t ht => by
    rw [sw3_2, y1_ne (show (7 : Nat) ≠ 6 by decide), y1_ne (show (7 : Nat) ≠ 8 by decide), y1_eq]
    exact upn_lt ht
  have zb : ∀ b, b < c 3 → (sw3 L).2 6 b = L.2 5 b := fun b hb => by
    rw [sw3_2, y1_eq]
    exact if_pos (by rw [L3]; exact hb)
  have soT : SO (T.1 4) (T.2 7) := by
    have hd := SMt.2.2.1.1
    rw [eT] at hd ⊢
    simp only [y1_eq] at hd ⊢
    exact sort_SO (fun a b ha hb e => hd a b ha hb e)
  have eT1 : T.1 = K.1 := by rw [eT]
  have evL : EV (c 6 + 1) L.1 (L.2 9) := by
    have hk : c 6 + 1 ≤ 1000 := by omega
    have eJ9 : J.1 9 = S 9 := by
      have := (jst_c (sl := jsl (u1 c 7 (c 7 + dt)) (S1 (nI dt) c S)) jsl_lt (S := S1 (nI dt) c S) (u1 c 7 (c 7 + dt) 4)).1 9 (by decide) (by decide)
      rw [eJ]
      unfold join
      rw [this]
      exact S1_r (by decide)
    have e0 : EV (c 6 + 1) (u1 c 7 (c 7 + dt)) (J.1 9) := EV_same (EV_le x1 (Nat.le_succ _)) (y1_ne (by decide)) (y1_ne (by decide)) eJ9
    have eM' : EV (c 6 + 1) M.1 (M.2 9) := by
      rw [eM]
      exact EV_move (s := (u1 c 7 (c 7 + dt), J.1)) e0 (by show u1 c 7 (c 7 + dt) 6 + 1 = _; rw [y1_ne (by decide)]) hk
    have eB' : EV (c 6 + 1) B.1 (B.2 9) := by
      rw [eB]
      exact EV_begin eM' (by rw [m6]) hk
    have eK' : EV (c 6 + 1) K.1 (K.2 9) := by
      rw [eK]
      exact EV_knws SMb eB' (by rw [b1 6 (by decide) (by decide) (by decide), m6]) hk cB.2.2.2.2.2.2.2.2.2.1
    have eT' : EV (c 6 + 1) T.1 (T.2 9) := by
      rw [eT]
      exact EV_same eK' rfl rfl (by simp (disch := decide) only [y1_ne])
    rw [eL]
    refine EV_look eT' ?_ hk (by rw [eT1]; exact cK.2.2.1) soT (fun b hb => (nmd_ne ?_ (PM_n (SMt.1 b hb))).2)
    · rw [eT1, k1 6 (by decide) (by decide), b1 6 (by decide) (by decide) (by decide), m6]
    · rw [eT1]; exact c9 K cK
  have nm0 : ∀ b, b < c 3 → L.2 5 b 4 = -nI 1 ∨ ∃ m, m < 2000000 ∧ L.2 5 b 4 = nI m := fun b hb => by
    obtain ⟨a1, -, -, -, a7, a8⟩ := SMl
    rcases a8 b (by rw [L3]; exact hb) with e | ⟨t, ht, e⟩
    · exact Or.inl e
    · rcases a7 t ht with e2 | ⟨b', h1, h2, h4⟩
      · rw [e] at e2
        exact absurd e2 (nI_nm (by omega))
      · rw [e, nI_eq' (by omega) (by rw [L3] at h1; omega)] at h2
        obtain ⟨m, hm, em⟩ := PM_n (a1 t ht)
        have := c9 L cL
        exact Or.inr ⟨m, by omega, by rw [h2, h4]; exact em⟩
  refine ⟨pop J.2, (sw3 L).1, (sw3 L).2, esw, hinv, ⟨?_, fun t ht => ?_, ?_⟩, ⟨?_, z6, ?_, ?_⟩, fun q hq => ?_, fun q hq => ?_, fun b hb => ?_, fun t ht => ?_, ?_, fun b hb e => ?_⟩
  · rw [z6]
    refine EV_same evL ?_ ?_ ?_
    · rw [sw3_1, y1_ne (by decide), y1_ne (by decide), y1_ne (by decide), y1_ne (by decide)]
    · rw [sw3_1, y1_ne (by decide), y1_ne (by decide), y1_ne (by decide), y1_ne (by decide)]
    · rw [sw3_2, y1_ne (by decide), y1_ne (by decide), y1_ne (by decide)]
  · rw [z4] at ht
    rw [z6, z7 t ht]
    exact TV_e (tvL t ht).1 (pe_w (by decide)) (pe_w (by decide)) (pe_w (by decide)) (pe_w (by decide))
  · rw [z4]
    intro a b hab hb
    rw [z7 a (by omega), z7 b hb, pe_w (by decide), pe_w (by decide), l7 a 0 (by decide), l7 b 0 (by decide)]
    exact soT a b hab (by rw [eT1, K4, ← L4]; exact hb)
  · rw [sw3_1, y1_eq]
  · rw [sw3_1, y1_ne (by decide), y1_ne (by decide), y1_ne (by decide), y1_ne (by decide), lq 7 (by decide) (by decide) (by decide) (by decide), y1_eq]
  · rw [sw3_1, y1_ne (by decide), y1_eq, L3]
  · rw [sw3_1, y1_ne (by omega)]
    by_cases q10 : q = 10
    · omega
    · rw [y1_ne q10, y1_ne (by omega), y1_ne (by omega), lq q (by omega) (by omega) (by omega) (by omega), y1_ne (by omega)]
  · rw [sw3_2, y1_ne (by omega), y1_ne (by omega), y1_ne (by omega)]
    exact lr q (by omega) (by omega) (by omega) (by omega) (by omega)
  · rw [zb b hb]
    exact nm0 b hb
  · rw [z4] at ht
    rw [z7 t ht]
    have e1 : ms0 (pe (L.2 7 t)) = ms0 (L.2 7 t) := by unfold ms0; rw [pe_w (by decide)]
    have e0 : pe (L.2 7 t) 0 = L.2 7 t 0 := pe_w (by decide)
    rw [e1, e0, ← nm_one SMl (by rw [L3]; exact c3) (c9 L cL) (fun t ht => (tvL t ht).2) ht, L3]
    exact cn_congr (fun b hb => by rw [zb b hb])
  · have e1 : cn (fun t => ms0 ((sw3 L).2 7 t) && decide ((sw3 L).2 7 t 8 = nI 1)) ((sw3 L).1 4) = cn (fun t => ms0 (L.2 7 t) && decide (L.2 7 t 8 = nI 1)) (L.1 4) := by
      rw [z4]
      exact cn_congr (fun t ht => by
        rw [z7 t ht]
        unfold ms0
        rw [pe_w (by decide), pe_w (by decide)])
    have e2 : cn (fun b => decide ((sw3 L).2 6 b 4 = -nI 1)) (c 3) = cn (fun b => !nmb (L.2 5) b) (c 3) := cn_congr (fun b hb => by
      rw [zb b hb]
      unfold nmb
      rw [Bool.not_not])
    have e3 := cn_not (p := nmb (L.2 5)) (c 3)
    have e4 := cn_and (p := fun t => ms0 (L.2 7 t)) (q := fun t => decide (L.2 7 t 8 = nI 1)) (L.1 4)
    have e5 : cn (fun t => ms0 (L.2 7 t) && !decide (L.2 7 t 8 = nI 1)) (L.1 4) = pop J.2 := odL
    rw [L3] at nmL
    rw [e1, e2]
    omega
  · rw [zb b hb] at e
    rw [z4, L4]
    have q1 : cn (nmb (L.2 5)) (c 3) < c 3 := cn_lt hb (by unfold nmb; rw [decide_eq_true e]; rfl)
    rw [L3] at nmL
    rw [B3] at nmB
    obtain ⟨b', hb', e'⟩ := cn_ex (p := nmb (B.2 5)) (c 3) (by omega)
    refine bx3 b' (by rw [m3]; exact hb') ?_
    unfold nmb at e'
    simpa using e'
