/-! ===== the class knows a track again: a step, the loop ===== -/
theorem isZ_or {x : Int32} (h : isZ x = true) : x = nI 0 ∨ x = nI 1 := by
  unfold isZ at h
  rw [Bool.or_eq_true, decide_eq_true_eq, decide_eq_true_eq] at h
  exact h
theorem v7_k {R R' : Nat → Int32} (h : ∀ w, w < 7 → R w = R' w) : v7 R = v7 R' := by
  unfold v7
  rw [h 0 (by decide), h 1 (by decide), h 2 (by decide), h 3 (by decide), h 4 (by decide), h 5 (by decide), h 6 (by decide)]
theorem rnm_w {n : Nat} {T : Nat → Nat → Int32} {a b : Int32} {k w : Nat} (h : w ≠ 4) : rnm n T a b k w = T k w := by
  unfold rnm upn
  split
  · show (if T k 4 = a then up (T k) 4 b else T k) w = T k w
    split
    · rw [up_ne h]
    · rfl
  · rfl
theorem S48 {μ : mMu} {f : Nat → Nat → Int32} {l : Nat → Nat → Int64} {r : Nat → Nat → Option Nat} (hs : Sh μ) (hr : Rf r) {σ : Nat → Nat} {c : Nat → Nat} {S : Nat → Nat → Nat → Int32} {n i : Nat} {o4 o5 o6 : Option Value} (hn : n ≤ 10) (h4 : c 4 = n) (h5 : c 5 ≤ 60) (h8 : c 8 < 2000000000) (hi : i < n) (hA : CRa f c S) (hp : CPm r 1 σ) (ht : TMs f σ n (S 7)) (hz : ∀ u, u < 10 → isZ (f (37 + 3 * u) 11) = true) (hB : IB (S 7 i)) (hL : LB c (S 8)) : ∃ f' o4' o5' o6', RUN 43 15 [some (.ref 1), some (.long (krch c)), none, some (.int (nI i)), o4, o5, o6] [] (st μ f l r) = RUN 43 15 [some (.ref 1), some (.long (krch c)), none, some (.int (nI (i + 1))), o4', o5', o6'] [] (st μ f' l r) ∧ CRa f' (knw i (c, S)).1 (knw i (c, S)).2 ∧ TMs f' σ n ((knw i (c, S)).2 7) ∧ (∀ u, u < 10 → isZ (f' (37 + 3 * u) 11) = true) ∧ ∀ q, (q = 0 ∨ 66 < q) → f' q = f q := by
  have h1a : (mS μ 1).1 = 6 := by rw [hs 1 (by decide)]; rfl
  have h23a : (mS μ 23).1 = 5 := by rw [hs 23 (by decide)]; rfl
  have h24a : (mS μ 24).1 = 20 := by rw [hs 24 (by decide)]; rfl
  have h24b : (mS μ 24).2 = 130 := by rw [hs 24 (by decide)]; rfl
  have h31a : (mS μ 31).1 = 3 := by rw [hs 31 (by decide)]; rfl
  have r1_2 : r 1 2 = some 23 := hr 1 2 23 rfl
  have r1_3 : r 1 3 = some 31 := hr 1 3 31 rfl
  have r1_4 : r 1 4 = some 36 := hr 1 4 36 rfl
  have r23_0 : r 23 0 = some 24 := hr 23 0 24 rfl
  have hσ := (hp.1 i (by omega)).1
  obtain ⟨s1, s2, s3⟩ := trk_sh hs hσ
  obtain ⟨rx, ry⟩ := trk_rf hr hσ
  have s1a : (mS μ (37 + 3 * σ i)).1 = 7 := by rw [s1]
  have s2a : (mS μ (37 + 3 * σ i + 1)).1 = 20 := by rw [s2]
  have s2b : (mS μ (37 + 3 * σ i + 1)).2 = 12 := by rw [s2]
  have s3a : (mS μ (37 + 3 * σ i + 2)).1 = 20 := by rw [s3]
  have s3b : (mS μ (37 + 3 * σ i + 2)).2 = 12 := by rw [s3]
  have k5 : f 1 5 = nI n := by rw [← h4]; exact hA.1.1
  have hi' : ¬ n ≤ i := by omega
  have x1 := ldT hs hr (f := f) (l := l) hp (t := i) (by omega)
  have hT := ht i hi
  have hT' := hT
  obtain ⟨t0, -, -, -, t11, t1, t2, -⟩ := hT'
  have k31 : f 31 4 = nI (c 8) := hA.2.2.2.2.1
  have k10 : f 1 10 = nI (c 6) := hA.1.2.2.2.2.2.1
  have k11 : f 1 11 = nI (c 7) := hA.1.2.2.2.2.2.2.1
  have zi := hz (σ i) hσ
  rw [t11] at zi
  have m0 : -nI 1 < nI 0 := by decide
  rcases isZ_or zi with q | q
  · have e : knw i (c, S) = (c, S) := by
      unfold knw
      rw [if_neg (show ¬ S 7 i 12 = nI 1 by rw [q]; exact q01)]
    rw [e]
    have main : RUN 43 15 [some (.ref 1), some (.long (krch c)), none, some (.int (nI i)), o4, o5, o6] [] (st μ f l r) = RUN 43 15 [some (.ref 1), some (.long (krch c)), none, some (.int (nI (i + 1))), some (.ref (37 + 3 * σ i)), some (.int (-nI 1)), o6] [] (st μ f l r) := by
      rw [B_43_15]
      simp (disch := omega) only [st_I, st_L, st_R, st_S, st_N, st_C, st_Z, st_X, st_D, st_st, st_sI, st_sIr, st_sL, st_sR, gfI_st, gfL_st, gfR_st, gfN_st, pfI_st, pfL_st, pfR_st, pfZ_st0, pfZ_st1, ldI_st, ldL_st, stoI_st, stoL_st, aln_st, cpA_st, bq_st, bq_S, oI_s, oL_s, oD_s, oV_s, oR_s, oR_n, oI_e, oL_e, oD_e, Option.bind_some, fa_lit, fa_litL, nI_add, pk_mul, nI_m1, nI_lt', nI_le', nI_eq', lc_ge, lc_le, lc_gt, lc_lt, lc_eq, isZ_0, isZ_1, bI_0, bI_z, decide_eq_true_eq, Bool.not_eq_true', Bool.not_true, Bool.not_false, decide_eq_false_iff_not, if_true, if_false, ite_true, ite_false, eq_self, not_true, not_false_eq_true, C_80, C_81, C_82, C_84, C_85, C_86, C_94, C_95, C_96, C_97, yu_ne, yu_eq, up_eq, up_ne, yur_ne, yur_eq, yu_uu, y1_eq, y1_ne, y1_y1, Nat.mul_zero, Nat.zero_mul, Nat.add_zero, Nat.zero_add, Nat.mul_one, Nat.one_mul, Nat.reduceEqDiff, Nat.reduceLT, Nat.reduceLeDiff, Nat.reduceAdd, Nat.reduceMul, decide_true, decide_false, cond_true, cond_false, reduceCtorEq, Bool.false_eq_true, Bool.true_eq_false, Bool.true_and, Bool.and_true, Bool.false_and, Bool.and_false, r1_2, r1_3, r1_4, r23_0, k5, hi', x1, s1a, t11, q, m0]
    exact ⟨f, _, _, _, main, hA, ht, hz, fun _ _ => rfl⟩
  · have e : knw i (c, S) = kns i (c, S) := if_pos q
    rw [e]
    have hp' : (lv (cT f) (c 5)).Perm (lv (S 8) (c 5)) := hA.2.2.2.1.2
    have hv := LB_v hL hp'
    have x35 := C_31 hs hr (l := l) (c := c) (R := S 7 i) (K := krch c) (f := f) (by omega) hA.2.2.2.1.1 (fun j hj => (hv j hj).1) (fun j hj => by
      obtain ⟨-, b, t, hlt, e⟩ := hv j hj
      exact lsq_c hB b hlt e)
    have nr := near_p (c := c) (R := S 7 i) (K := krch c) hp' hL.2
    have ek : kfnd c (S 7 i) (S 8) = (itr (kst c (S 7 i) (S 8)) (c 5) (none, krch c)).1 := rfl
    generalize itr (kst c (S 7 i) (cT f)) (c 5) (none, krch c) = xA at x35 nr
    generalize itr (kst c (S 7 i) (S 8)) (c 5) (none, krch c) = xB at nr ek
    obtain ⟨oA, vA⟩ := xA
    obtain ⟨oB, vB⟩ := xB
    simp only at ek
    cases oA with
    | none =>
      cases oB with
      | some u0 => exact nr.elim
      | none =>
        have e2 : kns i (c, S) = (c, S) := by
          unfold kns
          simp only [ek]
        rw [e2]
        simp only [fix] at x35
        have main : RUN 43 15 [some (.ref 1), some (.long (krch c)), none, some (.int (nI i)), o4, o5, o6] [] (st μ f l r) = RUN 43 15 [some (.ref 1), some (.long (krch c)), none, some (.int (nI (i + 1))), some (.ref (37 + 3 * σ i)), some (.int (-nI 1)), o6] [] (st μ f l r) := by
          rw [B_43_15]
          simp (disch := omega) only [st_I, st_L, st_R, st_S, st_N, st_C, st_Z, st_X, st_D, st_st, st_sI, st_sIr, st_sL, st_sR, gfI_st, gfL_st, gfR_st, gfN_st, pfI_st, pfL_st, pfR_st, pfZ_st0, pfZ_st1, ldI_st, ldL_st, stoI_st, stoL_st, aln_st, cpA_st, bq_st, bq_S, oI_s, oL_s, oD_s, oV_s, oR_s, oR_n, oI_e, oL_e, oD_e, Option.bind_some, fa_lit, fa_litL, nI_add, pk_mul, nI_m1, nI_lt', nI_le', nI_eq', lc_ge, lc_le, lc_gt, lc_lt, lc_eq, isZ_0, isZ_1, bI_0, bI_z, decide_eq_true_eq, Bool.not_eq_true', Bool.not_true, Bool.not_false, decide_eq_false_iff_not, if_true, if_false, ite_true, ite_false, eq_self, not_true, not_false_eq_true, C_80, C_81, C_82, C_84, C_85, C_86, C_94, C_95, C_96, C_97, yu_ne, yu_eq, up_eq, up_ne, yur_ne, yur_eq, yu_uu, y1_eq, y1_ne, y1_y1, Nat.mul_zero, Nat.zero_mul, Nat.add_zero, Nat.zero_add, Nat.mul_one, Nat.one_mul, Nat.reduceEqDiff, Nat.reduceLT, Nat.reduceLeDiff, Nat.reduceAdd, Nat.reduceMul, decide_true, decide_false, cond_true, cond_false, reduceCtorEq, Bool.false_eq_true, Bool.true_eq_false, Bool.true_and, Bool.and_true, Bool.false_and, Bool.and_false, r1_2, r1_3, r1_4, r23_0, k5, hi', x1, s1a, t11, q, q10, m0, rx, ry, s2a, s2b, s3a, s3b, t1, t2, k11, x35]
        exact ⟨f, _, _, _, main, hA, ht, hz, fun _ _ => rfl⟩
    | some u =>
      cases oB with
      | none => exact nr.elim
      | some u0 =>
        obtain ⟨n1, n2, n3⟩ := nr
        simp only [fix] at x35
        have m1 : ¬ nI u < nI 0 := by rw [nI_ltI (by omega) (by omega)]; omega
        have t24 : f 24 u = S 8 u0 0 := congrArg (fun v : V7 => v.1) n3
        have A1 : CRa (u2 f (37 + 3 * σ i) 0 (S 8 u0 0)) c S := CRa_k hA (fun a _ _ => yu_ne (by omega)) (fun _ _ => rfl)
        obtain ⟨f2, x36, g2, L2⟩ := C_32 hs hr (l := l) (i := u) (i0 := u0) A1.2.2.2.1 (by omega) n1 n2 (by
          rw [← n3]
          exact v7_k fun w hw => by
            show u2 f (37 + 3 * σ i) 0 (S 8 u0 0) (24 + w) u = f (24 + w) u
            rw [yu_ne (by omega)])
        have A2 := CRa_l A1 g2 L2
        have k31' : f2 31 4 = nI (c 8) := by rw [g2 31 (by omega), yu_ne (by omega)]; exact k31
        have k10' : f2 1 10 = nI (c 6) := by rw [g2 1 (by omega), yu_ne (by omega)]; exact k10
        have tn : f2 (37 + 3 * σ i) 0 = S 8 u0 0 := by rw [g2 _ (by omega), yu_eq, up_eq]
        have x22 := C_19 hs hr (f := f2) (l := l) (a := nI (c 6)) (b := nI 5) (c := S 8 u0 0) (d := S 7 i 0) k31' h8
        have A3 : CRa (cnote f2 (c 8) (nI (c 6)) (nI 5) (S 8 u0 0) (S 7 i 0)) (noteC (u1 c 5 (c 5 - 1))) (noteS (u1 c 5 (c 5 - 1)) (u1 S 8 (shl (S 8) u0 (c 5 - 1))) (nI 5) (S 8 u0 0) (S 7 i 0)) := CRa_e (kd := nI 5) (nm := S 8 u0 0) (ot := S 7 i 0) A2
        have ekn : kns i (c, S) = (u1 (noteC c) 5 (c 5 - 1), u1 (u1 (noteS c (u1 S 5 (rnm (c 3) (S 5) (S 7 i 0) (S 8 u0 0))) (nI 5) (S 8 u0 0) (S 7 i 0)) 7 (u1 (S 7) i (up (S 7 i) 0 (S 8 u0 0)))) 8 (shl (S 8) u0 (c 5 - 1))) := by
          unfold kns
          simp only [ek]
        rw [ekn]
        have main : RUN 43 15 [some (.ref 1), some (.long (krch c)), none, some (.int (nI i)), o4, o5, o6] [] (st μ f l r) = RUN 43 15 [some (.ref 1), some (.long (krch c)), none, some (.int (nI (i + 1))), some (.ref (37 + 3 * σ i)), some (.int (nI u)), some (.int (S 7 i 0))] [] (st μ (cnote f2 (c 8) (nI (c 6)) (nI 5) (S 8 u0 0) (S 7 i 0)) l r) := by
          rw [B_43_15]
          simp (disch := omega) only [st_I, st_L, st_R, st_S, st_N, st_C, st_Z, st_X, st_D, st_st, st_sI, st_sIr, st_sL, st_sR, gfI_st, gfL_st, gfR_st, gfN_st, pfI_st, pfL_st, pfR_st, pfZ_st0, pfZ_st1, ldI_st, ldL_st, stoI_st, stoL_st, aln_st, cpA_st, bq_st, bq_S, oI_s, oL_s, oD_s, oV_s, oR_s, oR_n, oI_e, oL_e, oD_e, Option.bind_some, fa_lit, fa_litL, nI_add, pk_mul, nI_m1, nI_lt', nI_le', nI_eq', lc_ge, lc_le, lc_gt, lc_lt, lc_eq, isZ_0, isZ_1, bI_0, bI_z, decide_eq_true_eq, Bool.not_eq_true', Bool.not_true, Bool.not_false, decide_eq_false_iff_not, if_true, if_false, ite_true, ite_false, eq_self, not_true, not_false_eq_true, C_80, C_81, C_82, C_84, C_85, C_86, C_94, C_95, C_96, C_97, yu_ne, yu_eq, up_eq, up_ne, yur_ne, yur_eq, yu_uu, y1_eq, y1_ne, y1_y1, Nat.mul_zero, Nat.zero_mul, Nat.add_zero, Nat.zero_add, Nat.mul_one, Nat.one_mul, Nat.reduceEqDiff, Nat.reduceLT, Nat.reduceLeDiff, Nat.reduceAdd, Nat.reduceMul, decide_true, decide_false, cond_true, cond_false, reduceCtorEq, Bool.false_eq_true, Bool.true_eq_false, Bool.true_and, Bool.and_true, Bool.false_and, Bool.and_false, r1_2, r1_3, r1_4, r23_0, k5, hi', x1, s1a, t11, q, q10, m1, rx, ry, s2a, s2b, s3a, s3b, t0, t1, t2, k11, x35, t24, x36, k10', tn, x22]
        have co : ∀ a, 36 < a → cnote f2 (c 8) (nI (c 6)) (nI 5) (S 8 u0 0) (S 7 i 0) a = u2 f (37 + 3 * σ i) 0 (S 8 u0 0) a := fun a h => (cnote_o (by omega)).trans (g2 a (by omega))
        have ec : u1 (noteC c) 5 (c 5 - 1) = noteC (u1 c 5 (c 5 - 1)) := by
          unfold noteC
          rw [y1_ne (f := c) (v := c 5 - 1) (show (8 : Nat) ≠ 5 by decide)]
          exact y1_cm (by decide)
        refine ⟨_, _, _, _, main, ?_, fun u' hu' => ?_, fun u' hu' => ?_, fun q' h => ?_⟩
        · simp only
          rw [ec]
          refine CRa_kb A3 (fun _ _ _ => rfl) (fun r' h7 h5' => ?_) (fun k w hw => ?_)
          · by_cases h8' : r' = 8
            · subst h8'
              rw [y1_eq, noteS_r (by decide), y1_eq]
            · by_cases h9 : r' = 9
              · subst h9
                rw [y1_ne (by decide), y1_ne (by decide)]
                unfold noteS evT
                simp only [y1_eq, y1_ne (show (9 : Nat) ≠ 5 by decide), y1_ne (show (9 : Nat) ≠ 8 by decide), y1_ne (show (8 : Nat) ≠ 5 by decide), y1_ne (show (6 : Nat) ≠ 5 by decide)]
              · rw [y1_ne h8', y1_ne h7, noteS_r h9, y1_ne h5', noteS_r h9, y1_ne h8']
          · rw [y1_ne (by decide), y1_ne (by decide), noteS_r (by decide), y1_eq, noteS_r (by decide), y1_ne (by decide)]
            exact rnm_w (by omega)
        · simp only
          rw [y1_ne (show (7 : Nat) ≠ 8 by decide), y1_eq]
          by_cases qu : u' = i
          · rw [qu, y1_eq]
            exact TM_k (TM_u0 hT) (co _ (by omega)) (co _ (by omega)) (co _ (by omega))
          · have : σ u' ≠ σ i := fun e => qu (hp.2 u' i (by omega) (by omega) e)
            rw [y1_ne qu]
            exact TM_k (ht u' hu') ((co _ (by omega)).trans (yu_ne (by omega))) ((co _ (by omega)).trans (yu_ne (by omega))) ((co _ (by omega)).trans (yu_ne (by omega)))
        · rw [co _ (by omega)]
          by_cases qu : u' = σ i
          · rw [qu, yu_eq, up_ne (by decide)]; exact hz _ hσ
          · rw [yu_ne (by omega)]; exact hz u' hu'
        · rw [cnote_o (by omega), g2 q' (by omega), yu_ne (by omega)]
/-! what a step keeps -/
theorem shl_at {T : Nat → Nat → Int32} {i n e : Nat} : shl T i n e = if i ≤ e ∧ e < n then T (e + 1) else T e := rfl
theorem LB_shl {c c' : Nat → Nat} {L : Nat → Nat → Int32} {i : Nat} (h : LB c L) (hi : i < c 5) (h5 : c' 5 = c 5 - 1) (h6 : c' 6 = c 6) (h7 : c' 7 = c 7) : LB c' (shl L i (c 5 - 1)) := by
  have key : ∀ e, e < c 5 - 1 → ∃ e', e' < c 5 ∧ shl L i (c 5 - 1) e = L e' ∧ (e' = if i ≤ e then e + 1 else e) := by
    intro e he
    by_cases q : i ≤ e
    · exact ⟨e + 1, by omega, by rw [shl_at, if_pos ⟨q, he⟩], by rw [if_pos q]⟩
    · exact ⟨e, by omega, by rw [shl_at, if_neg (by omega)], by rw [if_neg q]⟩
  refine ⟨fun e he => ?_, fun e e2 he he2 hq => ?_⟩
  · obtain ⟨e', q1, q2, -⟩ := key e (by omega)
    rw [q2]
    obtain ⟨g1, g2, g3⟩ := h.1 e' q1
    unfold kw at g1 ⊢
    rw [h6, h7]
    exact ⟨g1, g2, g3⟩
  · obtain ⟨e', q1, q2, q3⟩ := key e (by omega)
    obtain ⟨e2', p1, p2, p3⟩ := key e2 (by omega)
    rw [q2, p2] at hq
    have := h.2 e' e2' q1 p1 hq
    split at q3 <;> split at p3 <;> omega
theorem kns_k {t : Nat} {s : CS} (hL : LB s.1 (s.2 8)) : LB (kns t s).1 ((kns t s).2 8) ∧ (∀ u w, w ≠ 0 → (kns t s).2 7 u w = s.2 7 u w) ∧ (∀ u, u ≠ t → (kns t s).2 7 u = s.2 7 u) ∧ (∀ r, r ≠ 5 → r ≠ 7 → r ≠ 8 → r ≠ 9 → (kns t s).2 r = s.2 r) ∧ (∀ k w, w ≠ 4 → (kns t s).2 5 k w = s.2 5 k w) := by
  cases hk : kfnd s.1 (s.2 7 t) (s.2 8) with
  | none =>
    have e2 : kns t s = s := by
      unfold kns
      simp only [hk]
    rw [e2]
    exact ⟨hL, fun _ _ _ => rfl, fun _ _ => rfl, fun _ _ _ _ _ => rfl, fun _ _ _ => rfl⟩
  | some i =>
    have hi : i < s.1 5 := kst_lt (c := s.1) (R := s.2 7 t) (L := s.2 8) (v := krch s.1) (s.1 5) i hk
    have e2 : kns t s = (u1 (noteC s.1) 5 (s.1 5 - 1), u1 (u1 (noteS s.1 (u1 s.2 5 (rnm (s.1 3) (s.2 5) (s.2 7 t 0) (s.2 8 i 0))) (nI 5) (s.2 8 i 0) (s.2 7 t 0)) 7 (u1 (s.2 7) t (up (s.2 7 t) 0 (s.2 8 i 0)))) 8 (shl (s.2 8) i (s.1 5 - 1))) := by
      unfold kns
      simp only [hk]
    rw [e2]
    refine ⟨?_, fun u w hw => ?_, fun u hu => ?_, fun r h5 h7 h8 h9 => ?_, fun k w hw => ?_⟩
    · simp only
      rw [y1_eq]
      exact LB_shl hL hi y1_eq ((y1_ne (by decide)).trans (noteC_j (by decide))) ((y1_ne (by decide)).trans (noteC_j (by decide)))
    · simp only
      rw [y1_ne (show (7 : Nat) ≠ 8 by decide), y1_eq]
      by_cases q : u = t
      · rw [q, y1_eq, up_ne hw]
      · rw [y1_ne q]
    · simp only
      rw [y1_ne (show (7 : Nat) ≠ 8 by decide), y1_eq, y1_ne hu]
    · simp only
      rw [y1_ne h8, y1_ne h7, noteS_r h9, y1_ne h5]
    · simp only
      rw [y1_ne (by decide), y1_ne (by decide), noteS_r (by decide), y1_eq]
      exact rnm_w hw
theorem knw_k {t : Nat} {s : CS} (hL : LB s.1 (s.2 8)) : LB (knw t s).1 ((knw t s).2 8) ∧ (∀ u w, w ≠ 0 → (knw t s).2 7 u w = s.2 7 u w) ∧ (∀ u, u ≠ t → (knw t s).2 7 u = s.2 7 u) ∧ (∀ r, r ≠ 5 → r ≠ 7 → r ≠ 8 → r ≠ 9 → (knw t s).2 r = s.2 r) ∧ (∀ k w, w ≠ 4 → (knw t s).2 5 k w = s.2 5 k w) := by
  unfold knw
  split
  · exact kns_k hL
  · exact ⟨hL, fun _ _ _ => rfl, fun _ _ => rfl, fun _ _ _ _ _ => rfl, fun _ _ _ => rfl⟩
theorem knws_k {s : CS} (hL : LB s.1 (s.2 8)) : ∀ n, LB (itr knw n s).1 ((itr knw n s).2 8) ∧ (∀ u w, w ≠ 0 → (itr knw n s).2 7 u w = s.2 7 u w) ∧ (∀ u, n ≤ u → (itr knw n s).2 7 u = s.2 7 u) ∧ (∀ r, r ≠ 5 → r ≠ 7 → r ≠ 8 → r ≠ 9 → (itr knw n s).2 r = s.2 r) ∧ (∀ k w, w ≠ 4 → (itr knw n s).2 5 k w = s.2 5 k w)
  | 0 => ⟨hL, fun _ _ _ => rfl, fun _ _ => rfl, fun _ _ _ _ _ => rfl, fun _ _ _ => rfl⟩
  | n + 1 => by
    obtain ⟨a1, a2, a3, a4, a5⟩ := knws_k hL n
    obtain ⟨b1, b2, b3, b4, b5⟩ := knw_k (t := n) a1
    rw [itr_s']
    exact ⟨b1, fun u w hw => (b2 u w hw).trans (a2 u w hw), fun u hu => (b3 u (by omega)).trans (a3 u (by omega)), fun r h5 h7 h8 h9 => (b4 r h5 h7 h8 h9).trans (a4 r h5 h7 h8 h9), fun k w hw => (b5 k w hw).trans (a5 k w hw)⟩
theorem IB_w {R R' : Nat → Int32} (h : IB R) (e : ∀ w, 1 ≤ w → w ≤ 4 → R' w = R w) : IB R' := by
  unfold IB at h ⊢
  rw [e 1 (by decide) (by decide), e 2 (by decide) (by decide), e 3 (by decide) (by decide), e 4 (by decide) (by decide)]
  exact h
theorem krch_c {c c' : Nat → Nat} (h : c' 12 = c 12) : krch c' = krch c := by unfold krch; rw [h]
theorem C_43 {μ : mMu} {f : Nat → Nat → Int32} {l : Nat → Nat → Int64} {r : Nat → Nat → Option Nat} (hs : Sh μ) (hr : Rf r) {σ : Nat → Nat} {c : Nat → Nat} {S : Nat → Nat → Nat → Int32} (hc : CB c) (hA : CRa f c S) (hp : CPm r 1 σ) (ht : TMs f σ (c 4) (S 7)) (hz : ∀ u, u < 10 → isZ (f (37 + 3 * u) 11) = true) (hB : ∀ u, u < c 4 → IB (S 7 u)) (hL : LB c (S 8)) : ∃ f' r' σ', CALL 43 [.ref 1] (st μ f l r) = some (.inl none, st μ f' l r') ∧ (∀ a, (a = 0 ∨ 66 < a) → f' a = f a) ∧ (∀ a, a ≠ 36 → r' a = r a) ∧ Rf r' ∧ CPm r' 1 σ' ∧ CRa f' (itr knw (c 4) (c, S)).1 (u1 (itr knw (c 4) (c, S)).2 7 (sortT (c 4) ((itr knw (c 4) (c, S)).2 7))) ∧ (∀ u, u < 10 → isZ (f' (37 + 3 * u) 11) = true) ∧ TMs f' σ' (c 4) (sortT (c 4) ((itr knw (c 4) (c, S)).2 7)) := by
  have h1a : (mS μ 1).1 = 6 := by rw [hs 1 (by decide)]; rfl
  have hc' := hc
  obtain ⟨c0, c1, c2, c3, c4, c5, c6, c7, c8, c9, c10, c11, c12, c13, c14⟩ := hc
  have k7 : f 1 7 = nI (c 12) := hA.1.2.2.1
  have rk : sq (nI (64 * c 12)).toInt64 (lN 0) = krch c := by
    rw [← pk_mul]
    exact reach_c c12
  rw [B_43_0]
  simp (disch := omega) only [st_I, st_L, st_R, st_S, st_N, st_C, st_Z, st_X, st_D, st_st, st_sI, st_sIr, st_sL, st_sR, gfI_st, gfL_st, gfR_st, gfN_st, pfI_st, pfL_st, pfR_st, pfZ_st0, pfZ_st1, ldI_st, ldL_st, stoI_st, stoL_st, aln_st, cpA_st, bq_st, bq_S, oI_s, oL_s, oD_s, oV_s, oR_s, oR_n, oI_e, oL_e, oD_e, Option.bind_some, fa_lit, fa_litL, nI_add, pk_mul, nI_m1, nI_lt', nI_le', nI_eq', lc_ge, lc_le, lc_gt, lc_lt, lc_eq, isZ_0, isZ_1, bI_0, bI_z, decide_eq_true_eq, Bool.not_eq_true', Bool.not_true, Bool.not_false, decide_eq_false_iff_not, if_true, if_false, ite_true, ite_false, eq_self, not_true, not_false_eq_true, C_80, C_81, C_82, C_84, C_85, C_86, C_94, C_95, C_96, C_97, yu_ne, yu_eq, up_eq, up_ne, yur_ne, yur_eq, yu_uu, y1_eq, y1_ne, y1_y1, Nat.mul_zero, Nat.zero_mul, Nat.add_zero, Nat.zero_add, Nat.mul_one, Nat.one_mul, Nat.reduceEqDiff, Nat.reduceLT, Nat.reduceLeDiff, Nat.reduceAdd, Nat.reduceMul, decide_true, decide_false, cond_true, cond_false, reduceCtorEq, Bool.false_eq_true, Bool.true_eq_false, Bool.true_and, Bool.and_true, Bool.false_and, Bool.and_false, k7, rk]
  refine loopP (fun i o => ∃ f' o4 o5 o6, o = RUN 43 15 [some (.ref 1), some (.long (krch c)), none, some (.int (nI i)), o4, o5, o6] [] (st μ f' l r) ∧ CRa f' (itr knw i (c, S)).1 (itr knw i (c, S)).2 ∧ TMs f' σ (c 4) ((itr knw i (c, S)).2 7) ∧ (∀ u, u < 10 → isZ (f' (37 + 3 * u) 11) = true) ∧ ∀ q, (q = 0 ∨ 66 < q) → f' q = f q) (fun o => ∃ f' r' σ', o = some (.inl none, st μ f' l r') ∧ (∀ a, (a = 0 ∨ 66 < a) → f' a = f a) ∧ (∀ a, a ≠ 36 → r' a = r a) ∧ Rf r' ∧ CPm r' 1 σ' ∧ CRa f' (itr knw (c 4) (c, S)).1 (u1 (itr knw (c 4) (c, S)).2 7 (sortT (c 4) ((itr knw (c 4) (c, S)).2 7))) ∧ (∀ u, u < 10 → isZ (f' (37 + 3 * u) 11) = true) ∧ TMs f' σ' (c 4) (sortT (c 4) ((itr knw (c 4) (c, S)).2 7))) (c 4) ?_ ?_ 0 _ (Nat.zero_le _) ⟨f, _, _, _, rfl, hA, ht, hz, fun _ _ => rfl⟩
  · rintro o ⟨f', o4, o5, o6, rfl, g1, g2, g3, g4⟩
    obtain ⟨m1, m2, m3⟩ := knws_c (s := (c, S)) (c 4)
    have k5 : f' 1 5 = nI (c 4) := by rw [g1.1.1, m1 4 (by decide) (by decide)]
    obtain ⟨r', σ', e, p1, p2, p3, p4⟩ := C_44 hs hr (l := l) c4 k5 hp g2
    rw [B_43_15]
    simp (disch := omega) only [st_I, st_L, st_R, st_S, st_N, st_C, st_Z, st_X, st_D, st_st, st_sI, st_sIr, st_sL, st_sR, gfI_st, gfL_st, gfR_st, gfN_st, pfI_st, pfL_st, pfR_st, pfZ_st0, pfZ_st1, ldI_st, ldL_st, stoI_st, stoL_st, aln_st, cpA_st, bq_st, bq_S, oI_s, oL_s, oD_s, oV_s, oR_s, oR_n, oI_e, oL_e, oD_e, Option.bind_some, fa_lit, fa_litL, nI_add, pk_mul, nI_m1, nI_lt', nI_le', nI_eq', lc_ge, lc_le, lc_gt, lc_lt, lc_eq, isZ_0, isZ_1, bI_0, bI_z, decide_eq_true_eq, Bool.not_eq_true', Bool.not_true, Bool.not_false, decide_eq_false_iff_not, if_true, if_false, ite_true, ite_false, eq_self, not_true, not_false_eq_true, C_80, C_81, C_82, C_84, C_85, C_86, C_94, C_95, C_96, C_97, yu_ne, yu_eq, up_eq, up_ne, yur_ne, yur_eq, yu_uu, y1_eq, y1_ne, y1_y1, Nat.mul_zero, Nat.zero_mul, Nat.add_zero, Nat.zero_add, Nat.mul_one, Nat.one_mul, Nat.reduceEqDiff, Nat.reduceLT, Nat.reduceLeDiff, Nat.reduceAdd, Nat.reduceMul, decide_true, decide_false, cond_true, cond_false, reduceCtorEq, Bool.false_eq_true, Bool.true_eq_false, Bool.true_and, Bool.and_true, Bool.false_and, Bool.and_false, k5, Nat.le_refl, e]
    exact ⟨f', r', σ', rfl, g4, p1, p2, p3, CRa_k g1 (fun _ _ _ => rfl) (fun r h => y1_ne h), g3, p4⟩
  · rintro i o hi ⟨f', o4, o5, o6, rfl, g1, g2, g3, g4⟩
    right
    obtain ⟨m1, m2, m3⟩ := knws_c (s := (c, S)) i
    obtain ⟨n1, n2, n3, n4, n5⟩ := knws_k (s := (c, S)) hL i
    simp only at m1 m2 m3
    obtain ⟨f2, p3, p4, p5, q1, q2, q3, q4, q5⟩ := S48 hs hr (l := l) (o4 := o4) (o5 := o5) (o6 := o6) c4 (m1 4 (by decide) (by decide)) (by omega) (by omega) hi g1 hp g2 g3 (IB_w (hB i hi) (fun w h1 h2 => n2 i w (by omega))) n1
    rw [itr_s']
    rw [krch_c (m1 12 (by decide) (by decide))] at q1
    exact ⟨f2, p3, p4, p5, q1, q2, q3, q4, fun q h => (q5 q h).trans (g4 q h)⟩
