/-! ===== the class joins ===== -/
theorem TM_u9 {f : Nat → Nat → Int32} {A : Nat} {R : Nat → Int32} {v : Int32} (h : TM f A R) : TM (u2 f A 9 v) A (up R 38 v) := by
  obtain ⟨t0, tw, t9, t10, t11, t1, t2, tp⟩ := h
  refine ⟨?_, fun w' h3 h8 => ?_, ?_, ?_, ?_, ?_, ?_, fun b hb hlt => ?_⟩
  · rw [yu_eq, up_ne (by omega), up_ne (by omega), t0]
  · rw [yu_eq, up_ne (by omega), up_ne (by omega), tw w' h3 h8]
  · rw [yu_eq, up_eq, up_eq]
  · rw [yu_eq, up_ne (by omega), up_ne (by omega), t10]
  · rw [yu_eq, up_ne (by omega), up_ne (by omega), t11]
  · rw [yu_ne (by omega), up_ne (by omega), t1]
  · rw [yu_ne (by omega), up_ne (by omega), t2]
  · rw [up_ne (by omega)] at hlt
    rw [yu_ne (by omega), yu_ne (by omega), up_ne (by omega), up_ne (by omega)]
    exact tp b hb hlt
theorem TM_w {f : Nat → Nat → Int32} {A : Nat} {R R' : Nat → Int32} (h : TM f A R) (e : ∀ w, w ≠ 13 → R' w = R w) : TM f A R' := by
  obtain ⟨t0, tw, t9, t10, t11, t1, t2, tp⟩ := h
  refine ⟨?_, fun w' h3 h8 => ?_, ?_, ?_, ?_, ?_, ?_, fun b hb hlt => ?_⟩
  · rw [e 0 (by decide)]; exact t0
  · rw [e w' (by omega)]; exact tw w' h3 h8
  · rw [e 38 (by decide)]; exact t9
  · rw [e 9 (by decide)]; exact t10
  · rw [e 12 (by decide)]; exact t11
  · rw [e 1 (by decide)]; exact t1
  · rw [e 2 (by decide)]; exact t2
  · rw [e 8 (by decide)] at hlt
    rw [e _ (by omega), e _ (by omega)]
    exact tp b hb hlt
theorem prep_w {R : Nat → Int32} {w : Nat} (h : w ≠ 38) (h2 : w ≠ 8) (h3 : w ≠ 12) : prep R w = R w := by
  unfold prep
  rw [up_ne h, aged_w h2 h3]
theorem aged_j {R : Nat → Int32} {v : Int32} {w : Nat} (h : w ≠ 13) : aged (up (up R 38 v) 13 v) w = up (prep R) 38 v w := by
  unfold aged prep aged
  by_cases h8 : w = 8
  · subst h8; rw [up_eq, up_ne (by decide), up_ne (by decide), up_ne (by decide), up_ne (by decide), up_eq]
  · rw [up_ne h8]
    by_cases h12 : w = 12
    · subst h12; rw [up_eq, up_ne (by decide), up_ne (by decide), up_ne (by decide), up_eq]
    · rw [up_ne h12, up_ne h]
      by_cases h38 : w = 38
      · subst h38; rw [up_eq, up_eq]
      · rw [up_ne h38, up_ne h38, up_ne h38, up_ne h8, up_ne h12]
theorem jst_7 {sl : Nat → Nat → Option Nat} {t : Nat} {s : JS} : (jst sl t s).1 7 = u1 (s.1 7) t (up (up (s.1 7 t) 38 (fI (sl t s.2))) 13 (fI (sl t s.2))) := by
  unfold jst
  cases sl t s.2 with
  | none => show u1 s.1 7 _ 7 = _; rw [y1_eq]; rfl
  | some k =>
    show (u1 (u1 s.1 7 (u1 (s.1 7) t (up (up (s.1 7 t) 38 (nI k)) 13 (nI k)))) 5 (u1 (s.1 5) k (up (s.1 5 k) 4 (s.1 7 t 0)))) 7 = _
    rw [y1_ne (by decide), y1_eq]; rfl
theorem jst_2 {sl : Nat → Nat → Option Nat} {t : Nat} {s : JS} : (jst sl t s).2 = match sl t s.2 with
    | some k => s.2 ||| 2 ^ k
    | none => s.2 := by
  unfold jst
  cases sl t s.2 <;> rfl
theorem jst_pop {sl : Nat → Nat → Option Nat} {S : Nat → Nat → Nat → Int32} : ∀ n, pop (itr (jst sl) n (S, 0)).2 ≤ n
  | 0 => Nat.le_of_eq pop_0
  | n + 1 => by
    have ih := jst_pop (sl := sl) (S := S) n
    rw [itr_s', jst_2]
    cases sl n (itr (jst sl) n (S, 0)).2 with
    | none => show pop (itr (jst sl) n (S, 0)).2 ≤ _; omega
    | some k => exact Nat.le_trans pop_or (by omega)
/-- the numbers of a join: the class', the reference's -/
theorem jq_c {c : Nat → Nat} {S : Nat → Nat → Nat → Int32} {t k : Nat} (hg : c 12 ≤ 2000) (hB : IB (S 7 t)) (hI : IS (S 7 t)) (hP : IP (S 5 k)) : (!decide (jq c S t k < lN 0)) = cwin (c 12) S (prep (S 7 t)) k ∧ (¬ jq c S t k < lN 0 → jq c S t k = cdq S (prep (S 7 t)) k ∧ 0 ≤ (jq c S t k).toInt ∧ (jq c S t k).toInt ≤ 1200000000) := by
  obtain ⟨⟨x1, x2⟩, ⟨y1, y2⟩, -, -⟩ := hB
  obtain ⟨⟨p1, p2⟩, p3, p4⟩ := plc_iff.mp hP
  have e16 : (nI 16).toInt = 16 := by decide
  have l16 : (lN 16).toInt = 16 := by decide
  have l40 : (lN 40).toInt = 40 := by decide
  have n40 : (nI 40).toInt = 40 := by decide
  have z0 : (lN 0).toInt = 0 := by decide
  obtain ⟨m, hm, e7⟩ : ∃ m, m ≤ 4 ∧ S 7 t 7 = nI m := by
    rcases hI with ⟨-, h | h⟩ | ⟨-, h⟩ | ⟨-, m, h1, h2⟩
    · exact ⟨0, by omega, h⟩
    · exact ⟨1, by omega, h⟩
    · exact ⟨0, by omega, h⟩
    · exact ⟨m, h1, h2⟩
  have d1 : (nI 16 * S 5 k 0 - S 7 t 1).toInt = 16 * (S 5 k 0).toInt - (S 7 t 1).toInt := by
    have e : (nI 16 * S 5 k 0).toInt = 16 * (S 5 k 0).toInt := by rw [i_mul (by rw [e16]; omega) (by rw [e16]; omega), e16]
    rw [i_sub (by rw [e]; omega) (by rw [e]; omega), e]
  have d2 : (nI 16 * S 5 k 1 - S 7 t 2).toInt = 16 * (S 5 k 1).toInt - (S 7 t 2).toInt := by
    have e : (nI 16 * S 5 k 1).toInt = 16 * (S 5 k 1).toInt := by rw [i_mul (by rw [e16]; omega) (by rw [e16]; omega), e16]
    rw [i_sub (by rw [e]; omega) (by rw [e]; omega), e]
  have d3 : (lN 16 * (S 5 k 0).toInt64 - (S 7 t 1).toInt64).toInt = 16 * (S 5 k 0).toInt - (S 7 t 1).toInt := by
    have e : (lN 16 * (S 5 k 0).toInt64).toInt = 16 * (S 5 k 0).toInt := by rw [l_mul (by rw [l16, i2l]; omega) (by rw [l16, i2l]; omega), l16, i2l]
    rw [l_sub (by rw [e, i2l]; omega) (by rw [e, i2l]; omega), e, i2l]
  have d4 : (lN 16 * (S 5 k 1).toInt64 - (S 7 t 2).toInt64).toInt = 16 * (S 5 k 1).toInt - (S 7 t 2).toInt := by
    have e : (lN 16 * (S 5 k 1).toInt64).toInt = 16 * (S 5 k 1).toInt := by rw [l_mul (by rw [l16, i2l]; omega) (by rw [l16, i2l]; omega), l16, i2l]
    rw [l_sub (by rw [e, i2l]; omega) (by rw [e, i2l]; omega), e, i2l]
  have ed : cdq S (prep (S 7 t)) k = dst S t k := by
    unfold cdq dst
    rw [prep_w (by decide) (by decide) (by decide), prep_w (by decide) (by decide) (by decide)]
    rw [show (nI 16 * S 5 k 0 - S 7 t 1).toInt64 = lN 16 * (S 5 k 0).toInt64 - (S 7 t 1).toInt64 by rw [fa_eq64, i2l, d1, d3], show (nI 16 * S 5 k 1 - S 7 t 2).toInt64 = lN 16 * (S 5 k 1).toInt64 - (S 7 t 2).toInt64 by rw [fa_eq64, i2l, d2, d4]]
  have em : (nI m).toInt = (m : Int) := nI_toInt (by omega)
  have eg : (nI (c 12)).toInt = (c 12 : Int) := nI_toInt (by omega)
  have g1 : (nI 16 * (nI (c 12) + nI 40 * nI m)).toInt = 16 * ((c 12 : Int) + 40 * m) := by
    have e1 : (nI 40 * nI m).toInt = 40 * (m : Int) := by rw [i_mul (by rw [n40, em]; omega) (by rw [n40, em]; omega), n40, em]
    have e2 : (nI (c 12) + nI 40 * nI m).toInt = (c 12 : Int) + 40 * m := by rw [i_add (by rw [e1, eg]; omega) (by rw [e1, eg]; omega), e1, eg]
    rw [i_mul (by rw [e16, e2]; omega) (by rw [e16, e2]; omega), e16, e2]
  have g2 : (rch c S t).toInt = 16 * ((c 12 : Int) + 40 * m) := by
    unfold rch
    rw [e7]
    have e1 : (lN 40 * (nI m).toInt64).toInt = 40 * (m : Int) := by rw [l_mul (by rw [l40, i2l, em]; omega) (by rw [l40, i2l, em]; omega), l40, i2l, em]
    have e2 : ((nI (c 12)).toInt64 + lN 40 * (nI m).toInt64).toInt = (c 12 : Int) + 40 * m := by rw [l_add (by rw [e1, i2l, eg]; omega) (by rw [e1, i2l, eg]; omega), e1, i2l, eg]
    rw [l_mul (by rw [l16, e2]; omega) (by rw [l16, e2]; omega), l16, e2]
  have sqb := sqr_bd (a := 16 * ((c 12 : Int) + 40 * m)) (A := 34560) (by omega) (by omega)
  have er : clim (c 12) (prep (S 7 t)) = rch c S t * rch c S t := by
    unfold clim
    rw [prep_w (by decide) (by decide) (by decide), e7, fa_eq64, sq_i (by rw [i2l, g1]; omega) (by rw [i2l, g1]; omega) (by rw [z0]; omega) (by rw [z0]; omega), l_mul (by rw [g2]; omega) (by rw [g2]; omega), i2l, g1, g2, z0]
    omega
  have er2 : (rch c S t * rch c S t).toInt ≤ 1200000000 := by
    rw [l_mul (by rw [g2]; omega) (by rw [g2]; omega), g2]
    omega
  have s1 := sqr_bd (a := 16 * (S 5 k 0).toInt - (S 7 t 1).toInt) (A := 41000000) (by omega) (by omega)
  have s2 := sqr_bd (a := 16 * (S 5 k 1).toInt - (S 7 t 2).toInt) (A := 41000000) (by omega) (by omega)
  have nn : 0 ≤ (dst S t k).toInt := by
    unfold dst
    rw [sq_i (by rw [d3]; omega) (by rw [d3]; omega) (by rw [d4]; omega) (by rw [d4]; omega), d3, d4]
    omega
  unfold cwin jq
  rw [ed, er]
  by_cases q : rch c S t * rch c S t < dst S t k
  · have n1 : -lN 1 < lN 0 := by decide
    rw [if_pos q, decide_eq_true q, decide_eq_true n1]
    exact ⟨rfl, fun h => absurd n1 h⟩
  · have n1 : ¬ dst S t k < lN 0 := by rw [fa_lt64, z0]; omega
    have q2 := q
    rw [fa_lt64] at q2
    rw [if_neg q, decide_eq_false q, decide_eq_false n1]
    exact ⟨rfl, fun _ => ⟨rfl, nn, by omega⟩⟩
theorem C_23 {μ : mMu} {f : Nat → Nat → Int32} {l : Nat → Nat → Int64} {r : Nat → Nat → Option Nat} (hs : Sh μ) (hr : Rf r) {σ : Nat → Nat} {c : Nat → Nat} {S : Nat → Nat → Nat → Int32} (hc : CB c) (hM : MB f c S) (hp : CPm r 1 σ) (ht : TMs f σ (c 4) (fun u => prep (S 7 u))) (hB : ∀ u, u < c 4 → IB (S 7 u)) (hI : ∀ u, u < c 4 → IS (S 7 u)) (hP : ∀ k, k < c 3 → IP (S 5 k)) : ∃ f' l', CALL 23 [.ref 133, .ref 36, .int (nI (c 4)), .ref 17, .int (nI (c 12))] (st μ f l r) = some (.inl (some (.int (nI (join c S).2))), st μ f' l' r) ∧ (∀ x, x ≠ 134 → (∀ u, u < 10 → x ≠ 37 + 3 * u) → f' x = f x) ∧ (∀ x, x ≠ 135 → x ≠ 136 → l' x = l x) ∧ (∀ u, u < 10 → f' (37 + 3 * u) 11 = f (37 + 3 * u) 11) ∧ TMs f' σ (c 4) (fun u => aged ((join c S).1 7 u)) := by
  have h17a : (mS μ 17).1 = 0 := by rw [hs 17 (by decide)]; rfl
  have h36a : (mS μ 36).1 = 23 := by rw [hs 36 (by decide)]; rfl
  have h36b : (mS μ 36).2 = 10 := by rw [hs 36 (by decide)]; rfl
  have h133a : (mS μ 133).1 = 4 := by rw [hs 133 (by decide)]; rfl
  have hc' := hc
  obtain ⟨c0, c1, c2, c3, c4, c5, c6, c7, c8, c9, c10, c11, c12, c13, c14⟩ := hc
  have hp2 := pow_le10 c3
  have k5 : f 17 5 = nI (c 3) := hM.1
  have q133 : ∀ u, u < 10 → (133 : Nat) ≠ 37 + 3 * u := fun u hu => by omega
  have jc : ∀ t k, t < c 4 → k < c 3 → _ := fun t k ht hk => jq_c (k := k) c12 (hB t ht) (hI t ht) (hP k hk)
  rw [B_23_0]
  refine loopP (fun i o => ∃ f' l', o = RUN 23 3 [some (.ref 133), some (.ref 36), some (.int (nI (c 4))), some (.ref 17), some (.int (nI (c 12))), some (.int (nI i)), none, none] [] (st μ f' l' r) ∧ (∀ x, x ≠ 134 → f' x = f x) ∧ (∀ x, x ≠ 135 → l' x = l x) ∧ ∀ t, t < i → f' 134 t = nI (msk (cwin (c 12) S (prep (S 7 t))) (c 3)) ∧ ∀ k, k < c 3 → l' 135 (t * 10 + k) = cdq S (prep (S 7 t)) k) (fun o => ∃ f' l', o = some (.inl (some (.int (nI (join c S).2))), st μ f' l' r) ∧ (∀ x, x ≠ 134 → (∀ u, u < 10 → x ≠ 37 + 3 * u) → f' x = f x) ∧ (∀ x, x ≠ 135 → x ≠ 136 → l' x = l x) ∧ (∀ u, u < 10 → f' (37 + 3 * u) 11 = f (37 + 3 * u) 11) ∧ TMs f' σ (c 4) (fun u => aged ((join c S).1 7 u))) (c 4) ?_ ?_ 0 _ (Nat.zero_le _) ⟨f, l, rfl, fun _ _ => rfl, fun _ _ => rfl, fun t h => absurd h (Nat.not_lt_zero t)⟩
  · rintro o ⟨f1, l1, rfl, g1, g2, g3⟩
    have k5' : f1 17 5 = nI (c 3) := by rw [g1 17 (by decide)]; exact k5
    have hJ : JH f1 l1 (c 4) (c 3) (jq c S) := fun t h => by
      refine ⟨msk (cwin (c 12) S (prep (S 7 t))) (c 3), Nat.lt_of_lt_of_le (msk_lt _ _) hp2, (g3 t h).1, fun k hk => ?_, fun k hk hn => ?_⟩
      · rw [msk_bit]
        rcases Nat.lt_or_ge k (c 3) with q | q
        · rw [(jc t k h q).1]
        · rw [decide_eq_false (show ¬ k < c 3 by omega), Bool.false_and, Bool.false_and]
      · obtain ⟨v1, v2, v3⟩ := (jc t k h hk).2 hn
        exact ⟨by rw [(g3 t h).2 k hk, v1], v2, v3⟩
    obtain ⟨l2, x29, p1, p2⟩ := C_25 hs hr (l := l1) (r := r) c4 c3 hJ
    have hJ2 : JH f1 l2 (c 4) (c 3) (jq c S) := JH_l hJ (p1 135 (by decide))
    have T1 : TMs f1 σ (c 4) (fun u => prep (S 7 u)) := fun u hu => TM_k (ht u hu) (g1 _ (by have := (hp.1 u (by omega)).1; omega)) (g1 _ (by have := (hp.1 u (by omega)).1; omega)) (g1 _ (by have := (hp.1 u (by omega)).1; omega))
    have hlt : ∀ n, (itr (jst (jsl c S)) n (S, 0)).2 < 2 ^ c 3 := fun n => jst_lt jsl_lt
    rw [B_23_3]
    simp (disch := omega) only [st_I, st_L, st_R, st_S, st_N, st_C, st_Z, st_X, st_D, st_st, st_sI, st_sIr, st_sL, st_sR, gfI_st, gfL_st, gfR_st, gfN_st, pfI_st, pfL_st, pfR_st, pfZ_st0, pfZ_st1, ldI_st, ldL_st, stoI_st, stoL_st, aln_st, cpA_st, bq_st, bq_S, oI_s, oL_s, oD_s, oV_s, oR_s, oR_n, oI_e, oL_e, oD_e, Option.bind_some, fa_lit, fa_litL, nI_add, pk_mul, nI_m1, nI_lt', nI_le', nI_eq', lc_ge, lc_le, lc_gt, lc_lt, lc_eq, isZ_0, isZ_1, bI_0, bI_z, decide_eq_true_eq, Bool.not_eq_true', Bool.not_true, Bool.not_false, decide_eq_false_iff_not, if_true, if_false, ite_true, ite_false, eq_self, not_true, not_false_eq_true, C_80, C_81, C_82, C_84, C_85, C_86, C_94, C_95, C_96, C_97, yu_ne, yu_eq, up_eq, up_ne, yur_ne, yur_eq, yu_uu, y1_eq, y1_ne, y1_y1, Nat.mul_zero, Nat.zero_mul, Nat.add_zero, Nat.zero_add, Nat.mul_one, Nat.one_mul, Nat.reduceEqDiff, Nat.reduceLT, Nat.reduceLeDiff, Nat.reduceAdd, Nat.reduceMul, decide_true, decide_false, cond_true, cond_false, reduceCtorEq, Bool.false_eq_true, Bool.true_eq_false, Bool.true_and, Bool.and_true, Bool.false_and, Bool.and_false, Nat.le_refl, k5', shl1, x29]
    refine loopP (fun i o => ∃ f' o3 o4 o7, o = RUN 23 45 [some (.ref 133), some (.ref 36), some (.int (nI (c 4))), o3, o4, some (.int (nI (itr (jst (jsl c S)) i (S, 0)).2)), some (.int (nI i)), o7] [] (st μ f' l2 r) ∧ (∀ x, (∀ u, u < 10 → x ≠ 37 + 3 * u) → f' x = f1 x) ∧ (∀ u, u < 10 → f' (37 + 3 * u) 11 = f1 (37 + 3 * u) 11) ∧ (∀ u, u < c 4 → u < i → TM f' (37 + 3 * σ u) (aged ((itr (jst (jsl c S)) i (S, 0)).1 7 u))) ∧ ∀ u, u < c 4 → i ≤ u → TM f' (37 + 3 * σ u) (prep (S 7 u))) (fun o => ∃ f' l', o = some (.inl (some (.int (nI (join c S).2))), st μ f' l' r) ∧ (∀ x, x ≠ 134 → (∀ u, u < 10 → x ≠ 37 + 3 * u) → f' x = f x) ∧ (∀ x, x ≠ 135 → x ≠ 136 → l' x = l x) ∧ (∀ u, u < 10 → f' (37 + 3 * u) 11 = f (37 + 3 * u) 11) ∧ TMs f' σ (c 4) (fun u => aged ((join c S).1 7 u))) (c 4) ?_ ?_ 0 _ (Nat.zero_le _) ⟨f1, _, _, _, rfl, fun _ _ => rfl, fun _ _ => rfl, fun u _ hu => absurd hu (Nat.not_lt_zero u), fun u hu _ => T1 u hu⟩
    · rintro o ⟨f', o3, o4, o7, rfl, q1, q2, q3, q4⟩
      rw [B_23_45]
      simp (disch := omega) only [st_I, st_L, st_R, st_S, st_N, st_C, st_Z, st_X, st_D, st_st, st_sI, st_sIr, st_sL, st_sR, gfI_st, gfL_st, gfR_st, gfN_st, pfI_st, pfL_st, pfR_st, pfZ_st0, pfZ_st1, ldI_st, ldL_st, stoI_st, stoL_st, aln_st, cpA_st, bq_st, bq_S, oI_s, oL_s, oD_s, oV_s, oR_s, oR_n, oI_e, oL_e, oD_e, Option.bind_some, fa_lit, fa_litL, nI_add, pk_mul, nI_m1, nI_lt', nI_le', nI_eq', lc_ge, lc_le, lc_gt, lc_lt, lc_eq, isZ_0, isZ_1, bI_0, bI_z, decide_eq_true_eq, Bool.not_eq_true', Bool.not_true, Bool.not_false, decide_eq_false_iff_not, if_true, if_false, ite_true, ite_false, eq_self, not_true, not_false_eq_true, C_80, C_81, C_82, C_84, C_85, C_86, C_94, C_95, C_96, C_97, yu_ne, yu_eq, up_eq, up_ne, yur_ne, yur_eq, yu_uu, y1_eq, y1_ne, y1_y1, Nat.mul_zero, Nat.zero_mul, Nat.add_zero, Nat.zero_add, Nat.mul_one, Nat.one_mul, Nat.reduceEqDiff, Nat.reduceLT, Nat.reduceLeDiff, Nat.reduceAdd, Nat.reduceMul, decide_true, decide_false, cond_true, cond_false, reduceCtorEq, Bool.false_eq_true, Bool.true_eq_false, Bool.true_and, Bool.and_true, Bool.false_and, Bool.and_false, Nat.le_refl]
      exact ⟨f', l2, rfl, fun x h1 h2 => (q1 x h2).trans (g1 x h1), fun x h1 h2 => (p1 x h2).trans (g2 x h1), fun u hu => (q2 u hu).trans (by rw [g1 _ (by omega)]), fun u hu => q3 u hu hu⟩
    · rintro i o hi ⟨f', o3, o4, o7, rfl, q1, q2, q3, q4⟩
      right
      have hi' : ¬ c 4 ≤ i := by omega
      have hσ := (hp.1 i (by omega)).1
      have s1a : (mS μ (37 + 3 * σ i)).1 = 7 := by rw [(trk_sh hs hσ).1]
      have x1 := ldT hs hr (f := f') (l := l2) hp (t := i) (by omega)
      have hJ3 : JH f' l2 (c 4) (c 3) (jq c S) := fun t h => by
        rw [q1 134 (fun u hu => by omega)]; exact hJ2 t h
      have x32 := C_28 hs hr (f := f') (l := l2) (r := r) c4 c3 hi (hlt i) (jst_pop i) hJ3 (p2 (i + 1) (by omega)) (p2 i (by omega))
      have esl : sel mny (jq c S) (c 3) (c 4) i (itr (jst (jsl c S)) i (S, 0)).2 = jsl c S i (itr (jst (jsl c S)) i (S, 0)).2 := rfl
      rw [esl] at x32
      have row : (itr (jst (jsl c S)) i (S, 0)).1 7 i = S 7 i := (jst_c (sl := jsl c S) jsl_lt (S := S) i).2.2.2.2 i (Nat.le_refl _)
      have r7 := jst_7 (sl := jsl c S) (t := i) (s := itr (jst (jsl c S)) i (S, 0))
      have r2 := jst_2 (sl := jsl c S) (t := i) (s := itr (jst (jsl c S)) i (S, 0))
      rw [row] at r7
      have kb : ∀ k, jsl c S i (itr (jst (jsl c S)) i (S, 0)).2 = some k → k < 10 := fun k h => by have := jsl_lt (c := c) (S := S) _ _ _ h; omega
      rw [itr_s', B_23_45]
      generalize itr (jst (jsl c S)) i (S, 0) = sk at *
      generalize jsl c S i sk.2 = ch at *
      have done : ∀ u, u < 10 → u2 f' (37 + 3 * σ i) 9 (fI ch) (37 + 3 * u) 11 = f1 (37 + 3 * u) 11 := fun u hu => by
        by_cases e : u = σ i
        · rw [e, yu_eq, up_ne (by decide)]; exact q2 _ hσ
        · rw [yu_ne (by omega)]; exact q2 u hu
      have dnf : ∀ x, (∀ u, u < 10 → x ≠ 37 + 3 * u) → u2 f' (37 + 3 * σ i) 9 (fI ch) x = f1 x := fun x hx => (yu_ne (hx _ hσ)).trans (q1 x hx)
      have oth : ∀ u, u < c 4 → u ≠ i → σ u ≠ σ i := fun u hu hne e => hne (hp.2 u i (by omega) (by omega) e)
      have T2 : ∀ u, u < c 4 → u < i + 1 → TM (u2 f' (37 + 3 * σ i) 9 (fI ch)) (37 + 3 * σ u) (aged ((jst (jsl c S) i sk).1 7 u)) := fun u hu hui => by
        rw [r7]
        by_cases e : u = i
        · subst e
          rw [y1_eq]
          exact TM_w (TM_u9 (q4 u hu (Nat.le_refl _))) (fun w hw => aged_j hw)
        · have := oth u hu e
          rw [y1_ne e]
          exact TM_k (q3 u hu (by omega)) (yu_ne (by omega)) (yu_ne (by omega)) (yu_ne (by omega))
      have T3 : ∀ u, u < c 4 → i + 1 ≤ u → TM (u2 f' (37 + 3 * σ i) 9 (fI ch)) (37 + 3 * σ u) (prep (S 7 u)) := fun u hu hui => by
        have := oth u hu (by omega)
        exact TM_k (q4 u hu (by omega)) (yu_ne (by omega)) (yu_ne (by omega)) (yu_ne (by omega))
      cases ch with
      | none =>
        have m0 : fI none < nI 0 := by decide
        simp only at r2
        rw [r2]
        simp (disch := omega) only [st_I, st_L, st_R, st_S, st_N, st_C, st_Z, st_X, st_D, st_st, st_sI, st_sIr, st_sL, st_sR, gfI_st, gfL_st, gfR_st, gfN_st, pfI_st, pfL_st, pfR_st, pfZ_st0, pfZ_st1, ldI_st, ldL_st, stoI_st, stoL_st, aln_st, cpA_st, bq_st, bq_S, oI_s, oL_s, oD_s, oV_s, oR_s, oR_n, oI_e, oL_e, oD_e, Option.bind_some, fa_lit, fa_litL, nI_add, pk_mul, nI_m1, nI_lt', nI_le', nI_eq', lc_ge, lc_le, lc_gt, lc_lt, lc_eq, isZ_0, isZ_1, bI_0, bI_z, decide_eq_true_eq, Bool.not_eq_true', Bool.not_true, Bool.not_false, decide_eq_false_iff_not, if_true, if_false, ite_true, ite_false, eq_self, not_true, not_false_eq_true, C_80, C_81, C_82, C_84, C_85, C_86, C_94, C_95, C_96, C_97, yu_ne, yu_eq, up_eq, up_ne, yur_ne, yur_eq, yu_uu, y1_eq, y1_ne, y1_y1, Nat.mul_zero, Nat.zero_mul, Nat.add_zero, Nat.zero_add, Nat.mul_one, Nat.one_mul, Nat.reduceEqDiff, Nat.reduceLT, Nat.reduceLeDiff, Nat.reduceAdd, Nat.reduceMul, decide_true, decide_false, cond_true, cond_false, reduceCtorEq, Bool.false_eq_true, Bool.true_eq_false, Bool.true_and, Bool.and_true, Bool.false_and, Bool.and_false, hi', x32, x1, s1a, m0]
        exact ⟨_, _, _, _, rfl, dnf, done, T2, T3⟩
      | some k =>
        have hk := kb k rfl
        have m0 : ¬ fI (some k) < nI 0 := by
          show ¬ nI k < nI 0
          rw [nI_ltI (by omega) (by omega)]; omega
        have fk : fI (some k) = nI k := rfl
        simp only at r2
        rw [r2]
        rw [fk] at x32 m0 dnf done T2 T3
        simp (disch := omega) only [st_I, st_L, st_R, st_S, st_N, st_C, st_Z, st_X, st_D, st_st, st_sI, st_sIr, st_sL, st_sR, gfI_st, gfL_st, gfR_st, gfN_st, pfI_st, pfL_st, pfR_st, pfZ_st0, pfZ_st1, ldI_st, ldL_st, stoI_st, stoL_st, aln_st, cpA_st, bq_st, bq_S, oI_s, oL_s, oD_s, oV_s, oR_s, oR_n, oI_e, oL_e, oD_e, Option.bind_some, fa_lit, fa_litL, nI_add, pk_mul, nI_m1, nI_lt', nI_le', nI_eq', lc_ge, lc_le, lc_gt, lc_lt, lc_eq, isZ_0, isZ_1, bI_0, bI_z, decide_eq_true_eq, Bool.not_eq_true', Bool.not_true, Bool.not_false, decide_eq_false_iff_not, if_true, if_false, ite_true, ite_false, eq_self, not_true, not_false_eq_true, C_80, C_81, C_82, C_84, C_85, C_86, C_94, C_95, C_96, C_97, yu_ne, yu_eq, up_eq, up_ne, yur_ne, yur_eq, yu_uu, y1_eq, y1_ne, y1_y1, Nat.mul_zero, Nat.zero_mul, Nat.add_zero, Nat.zero_add, Nat.mul_one, Nat.one_mul, Nat.reduceEqDiff, Nat.reduceLT, Nat.reduceLeDiff, Nat.reduceAdd, Nat.reduceMul, decide_true, decide_false, cond_true, cond_false, reduceCtorEq, Bool.false_eq_true, Bool.true_eq_false, Bool.true_and, Bool.and_true, Bool.false_and, Bool.and_false, hi', x32, x1, s1a, m0, shl1, fa_or]
        exact ⟨_, _, _, _, rfl, dnf, done, T2, T3⟩
  · rintro i o hi ⟨f1, l1, rfl, g1, g2, g3⟩
    right
    have hi' : ¬ c 4 ≤ i := by omega
    have hσ := (hp.1 i (by omega)).1
    have x1 := ldT hs hr (f := f1) (l := l1) hp (t := i) (by omega)
    obtain ⟨f2, l2, x28, p1, p2, p3, p4, p5, p6⟩ := C_24 hs hr (f := f1) (l := l1) (r := r) (t := i) (g := c 12) (by omega) hσ (TM_k (ht i hi) (g1 _ (by omega)) (g1 _ (by omega)) (g1 _ (by omega))) (MB_k hM (fun a h1 h2 => g1 a (by omega)) rfl rfl) c3
    rw [B_23_3]
    simp (disch := omega) only [st_I, st_L, st_R, st_S, st_N, st_C, st_Z, st_X, st_D, st_st, st_sI, st_sIr, st_sL, st_sR, gfI_st, gfL_st, gfR_st, gfN_st, pfI_st, pfL_st, pfR_st, pfZ_st0, pfZ_st1, ldI_st, ldL_st, stoI_st, stoL_st, aln_st, cpA_st, bq_st, bq_S, oI_s, oL_s, oD_s, oV_s, oR_s, oR_n, oI_e, oL_e, oD_e, Option.bind_some, fa_lit, fa_litL, nI_add, pk_mul, nI_m1, nI_lt', nI_le', nI_eq', lc_ge, lc_le, lc_gt, lc_lt, lc_eq, isZ_0, isZ_1, bI_0, bI_z, decide_eq_true_eq, Bool.not_eq_true', Bool.not_true, Bool.not_false, decide_eq_false_iff_not, if_true, if_false, ite_true, ite_false, eq_self, not_true, not_false_eq_true, C_80, C_81, C_82, C_84, C_85, C_86, C_94, C_95, C_96, C_97, yu_ne, yu_eq, up_eq, up_ne, yur_ne, yur_eq, yu_uu, y1_eq, y1_ne, y1_y1, Nat.mul_zero, Nat.zero_mul, Nat.add_zero, Nat.zero_add, Nat.mul_one, Nat.one_mul, Nat.reduceEqDiff, Nat.reduceLT, Nat.reduceLeDiff, Nat.reduceAdd, Nat.reduceMul, decide_true, decide_false, cond_true, cond_false, reduceCtorEq, Bool.false_eq_true, Bool.true_eq_false, Bool.true_and, Bool.and_true, Bool.false_and, Bool.and_false, hi', x1, x28]
    refine ⟨f2, l2, rfl, fun x hx => (p1 x hx).trans (g1 x hx), fun x hx => (p2 x hx).trans (g2 x hx), fun t h => ?_⟩
    by_cases e : t = i
    · subst e; exact ⟨p4, p5⟩
    · refine ⟨by rw [p3 t e]; exact (g3 t (by omega)).1, fun k hk => ?_⟩
      rw [p6 _ (by omega)]
      exact (g3 t (by omega)).2 k hk
