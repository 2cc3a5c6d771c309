/-! ===== the law's sweep ===== -/
theorem sweep_ok {Cb Zb : Nat} {X : Nat × (Nat → Int32)} {μ : mMu} {f : Nat → Nat → Int32} {l : Nat → Nat → Int64} {r : Nat → Nat → Option Nat} {σ : Nat → Nat} {c : Nat → Nat} {S : Nat → Nat → Nat → Int32} (h : LW Cb Zb X μ f r σ c S) {tk t dt n : Nat} (h1 : 1 ≤ dt) (h2 : dt ≤ 8) (h6 : c 6 = t) (ht : t < 24) (h7 : c 7 = tk) (hn : n ≤ 100) {o8 o9 o10 o11 o12 o13 o14 o15 o16 o17 o18 : Option Value} : ∃ f' l' r' σ' c' S' j, RUN 0 120 [some (.retAddr 0), some (.ref 0), some (.ref 137), some (.int (nI tk)), some (.int (nI t)), some (.int (nI dt)), some (.int (nI n)), some (.int (nI n)), o8, o9, o10, o11, o12, o13, o14, o15, o16, o17, o18] [] (st μ f l r) = RUN 0 445 [some (.retAddr 0), some (.ref 0), some (.ref 137), some (.int (nI (tk + dt))), some (.int (nI t)), some (.int (nI dt)), some (.int (nI n)), some (.int (nI (c 3))), some (.int (nI j)), some (.int (nI 0)), some (.int (nI 0)), some (.int (nI 0)), some (.int (nI 0)), o13, o14, o15, o16, o17, o18] [] (st μ f' l' r') ∧ LW Cb Zb X μ f' r' σ' c' S' ∧ s_sweep (nI dt) c S = (nI j, nI 0, c', S') := by
  obtain ⟨⟨hs, hr, hN, hXe, hCb, hZb⟩, hC, hI, hXI, hH⟩ := h
  have h0o : (mS μ 0).1 = 8 := by rw [hs 0 (by decide)]; rfl
  obtain ⟨j, c', S', e, hI', hX', ⟨g3, g6, g7, g10⟩, gc, gS, -, -, gsum, -⟩ := sw_law hI hXI h1 (by omega) (by omega : c 6 < 500)
  have c73 := C_73 hs hr (l := l) hC hI (dt := nI dt)
  rw [e] at c73
  simp only at c73
  rcases c73 with ⟨-, -, f', l', r', σ', e73, hf', hl', hr', hrf, hC'⟩ | ⟨q, -⟩ | ⟨q, -⟩
  · have hlw : LW Cb Zb X μ f' r' σ' c' S' := by
      refine ⟨⟨hs, hrf, hN, hXe, hCb, hZb⟩, hC', hI', hX', ?_⟩
      rw [gc 0 (by omega), gc 1 (by omega), gc 2 (by omega), gS 3 (by omega)]
      exact HS_e hH (by omega) (Nat.le_refl _) (fun _ _ _ => rfl) (fun a h1 _ => hr' a (by omega)) (fun a h1 _ => hf' a (Or.inr (by omega)) (by omega))
    have c3 := hI.1.2.2.2.1
    have hj : ¬ c 3 < j := by omega
    have hj2 : j ≤ 10 := by omega
    have k3 := K_cnt hs hr (l := l) hC hI (w := 3) (by decide)
    have k33 : qcnt c (S 7) 3 = nI (c 3) := rfl
    rw [k33] at k3
    have q3 := K_cnt hs hrf (l := l') hC' hI' (w := 3) (by decide)
    have q33 : qcnt c' (S' 7) 3 = nI (c' 3) := rfl
    rw [q33, g3] at q3
    have q4 := K_cnt hs hrf (l := l') hC' hI' (w := 4) (by decide)
    have q44 : qcnt c' (S' 7) 4 = nI (c' 4) := rfl
    rw [q44] at q4
    have q7 := K_cnt hs hrf (l := l') hC' hI' (w := 7) (by decide)
    have q77 : qcnt c' (S' 7) 7 = nI (c' 6) := rfl
    rw [q77, g6, h6] at q7
    have q8 := K_cnt hs hrf (l := l') hC' hI' (w := 8) (by decide)
    have q88 : qcnt c' (S' 7) 8 = nI (c' 7) := rfl
    rw [q88, g7, h7] at q8
    have c4 := hI'.1.2.2.2.2.1
    have c7 := hI'.1.2.2.2.2.2.2.2.1
    refine ⟨f', l', r', σ', c', S', j, ?_, hlw, e⟩
    rw [B_0_120]
    simp (disch := omega) only [st_I, st_L, st_R, st_S, st_N, st_C, st_Z, st_X, st_D, st_st, st_sI, st_sIr, st_sL, st_sR, gfI_st, gfL_st, gfR_st, gfN_st, pfI_st, pfL_st, pfR_st, pfZ_st0, pfZ_st1, ldI_st, ldL_st, stoI_st, stoL_st, aln_st, cpA_st, bq_st, bq_S, oI_s, oL_s, oD_s, oV_s, oR_s, oR_n, oI_e, oL_e, oD_e, Option.bind_some, fa_lit, fa_litL, nI_add, pk_mul, nI_m1, nI_lt', nI_le', nI_eq', lc_ge, lc_le, lc_gt, lc_lt, lc_eq, isZ_0, isZ_1, bI_0, bI_z, decide_eq_true_eq, Bool.not_eq_true', Bool.not_true, Bool.not_false, decide_eq_false_iff_not, if_true, if_false, ite_true, ite_false, eq_self, not_true, not_false_eq_true, C_80, C_81, C_82, C_84, C_85, C_86, C_94, C_95, C_96, C_97, yu_ne, yu_eq, up_eq, up_ne, yur_ne, yur_eq, yu_uu, y1_eq, y1_ne, y1_y1, Nat.mul_zero, Nat.zero_mul, Nat.add_zero, Nat.zero_add, Nat.mul_one, Nat.one_mul, Nat.reduceEqDiff, Nat.reduceLT, Nat.reduceLeDiff, Nat.reduceAdd, Nat.reduceMul, decide_true, decide_false, cond_true, cond_false, reduceCtorEq, Bool.false_eq_true, Bool.true_eq_false, Bool.true_and, Bool.and_true, Bool.false_and, Bool.and_false, Nat.le_refl, k3, e73, hj, q7, q8, q3, q4, c4]
  · exact absurd (show nI 0 = nI 1 from congrArg Prod.fst q) (by decide)
  · exact absurd (show nI 0 = nI 2 from congrArg Prod.fst q) (by decide)
/-! ===== the area of the law's own ===== -/
theorem p_mnl_le {a b : Int64} (h : a ≤ b) : p_mnl a b = a := by
  unfold p_mnl
  rw [if_neg (by rw [fa_lt64]; rw [fa_le64] at h; omega)]
theorem p_mxl_le {a b : Int64} (h : a ≤ b) : p_mxl a b = b := by
  unfold p_mxl
  split
  · rfl
  · rename_i q
    rw [fa_lt64] at q
    rw [fa_le64] at h
    exact (fa_eq64 _ _).mpr (by omega)
theorem ia_l {a b : Int32} (ha : -9999 ≤ a.toInt ∧ a.toInt ≤ 9999) (hb : -9999 ≤ b.toInt ∧ b.toInt ≤ 9999) (h : a.toInt < b.toInt) : lN 16 * a.toInt64 ≤ lN 16 * b.toInt64 := by
  have l16 : (lN 16).toInt = 16 := by decide
  have e : ∀ x : Int32, -9999 ≤ x.toInt → x.toInt ≤ 9999 → (lN 16 * x.toInt64).toInt = 16 * x.toInt := fun x h1 h2 => by rw [l_mul (by rw [l16, i2l]; omega) (by rw [l16, i2l]; omega), l16, i2l]
  rw [fa_le64, e a ha.1 ha.2, e b hb.1 hb.2]
  omega
theorem C_89 {μ : mMu} {f : Nat → Nat → Int32} {l : Nat → Nat → Int64} {r : Nat → Nat → Option Nat} {N a0 : Nat} {A : Nat → Int32} {x y : Int32} (hN : mS μ N = (21, 3)) (h0 : mS μ a0 = (20, 4)) (l1 : l N 1 = x.toInt64) (l2 : l N 2 = y.toInt64) (hf : ∀ k, k < 4 → f a0 k = A k) (hA : IA A) : CALL 89 [.ref 137, .ref N, .ref a0] (st μ f l r) = some (.inl (some (.int (bI (p_in x y A)))), st μ f l r) := by
  have s1 : (mS μ N).1 = 21 := by rw [hN]
  have s2 : (mS μ N).2 = 3 := by rw [hN]
  have s3 : (mS μ a0).1 = 20 := by rw [h0]
  have s4 : (mS μ a0).2 = 4 := by rw [h0]
  have f0 := hf 0 (by omega)
  have f1 := hf 1 (by omega)
  have f2 := hf 2 (by omega)
  have f3 := hf 3 (by omega)
  obtain ⟨p1, p2, q1, q2⟩ := hA
  obtain ⟨⟨a1, a2⟩, a3, a4⟩ := plc_iff.mp p1
  obtain ⟨⟨b1, b2⟩, b3, b4⟩ := plc_iff.mp p2
  have ex := ia_l ⟨a1, a2⟩ ⟨b1, b2⟩ q1
  have ey := ia_l ⟨a3, a4⟩ ⟨b3, b4⟩ q2
  rw [B_89_0]
  unfold p_in p_bt
  rw [p_mnl_le ex, p_mxl_le ex, p_mnl_le ey, p_mxl_le ey]
  simp (disch := omega) only [st_I, st_L, st_R, st_S, st_N, st_C, st_Z, st_X, st_D, st_st, st_sI, st_sIr, st_sL, st_sR, gfI_st, gfL_st, gfR_st, gfN_st, pfI_st, pfL_st, pfR_st, pfZ_st0, pfZ_st1, ldI_st, ldL_st, stoI_st, stoL_st, aln_st, cpA_st, bq_st, bq_S, oI_s, oL_s, oD_s, oV_s, oR_s, oR_n, oI_e, oL_e, oD_e, Option.bind_some, fa_lit, fa_litL, nI_add, pk_mul, nI_m1, nI_lt', nI_le', nI_eq', lc_ge, lc_le, lc_gt, lc_lt, lc_eq, isZ_0, isZ_1, bI_0, bI_z, decide_eq_true_eq, Bool.not_eq_true', Bool.not_true, Bool.not_false, decide_eq_false_iff_not, if_true, if_false, ite_true, ite_false, eq_self, not_true, not_false_eq_true, C_80, C_81, C_82, C_84, C_85, C_86, C_94, C_95, C_96, C_97, yu_ne, yu_eq, up_eq, up_ne, yur_ne, yur_eq, yu_uu, y1_eq, y1_ne, y1_y1, Nat.mul_zero, Nat.zero_mul, Nat.add_zero, Nat.zero_add, Nat.mul_one, Nat.one_mul, Nat.reduceEqDiff, Nat.reduceLT, Nat.reduceLeDiff, Nat.reduceAdd, Nat.reduceMul, decide_true, decide_false, cond_true, cond_false, reduceCtorEq, Bool.false_eq_true, Bool.true_eq_false, Bool.true_and, Bool.and_true, Bool.false_and, Bool.and_false, l1, l2, f0, f1, f2, f3]
  by_cases c1 : x.toInt64 < lN 16 * (A 0).toInt64
  · rw [if_pos c1, decide_eq_true c1]
    rfl
  · rw [if_neg c1, decide_eq_false c1]
    by_cases c2 : lN 16 * (A 2).toInt64 < x.toInt64
    · rw [if_pos c2, decide_eq_true c2]
      rfl
    · rw [if_neg c2, decide_eq_false c2]
      by_cases c3 : y.toInt64 < lN 16 * (A 1).toInt64
      · rw [if_pos c3, decide_eq_true c3]
        rfl
      · rw [if_neg c3, decide_eq_false c3]
        by_cases c4 : lN 16 * (A 3).toInt64 < y.toInt64
        · rw [if_pos c4, decide_eq_true c4]
          rfl
        · rw [if_neg c4, decide_eq_false c4]
          rfl
/-- the set of names: what the class puts together, the law adds -/
theorem insf_add {T : Nat → Nat → Int32} {A : Nat → Int32} {n : Nat} {g : Nat → Nat} (hg : ∀ t, t < n → T t 0 = nI (g t) ∧ g t < 2000000) (hs : ∀ t u, t < u → u < n → g t < g u) : ∀ k, k ≤ n → ∃ w : Nat, insf T A k = nI w ∧ ∀ b, b ≤ 31 → (∀ t, t < k → insb T A t = true → g t < b) → w < 2 ^ b
  | 0, _ => ⟨0, rfl, fun b _ _ => Nat.two_pow_pos b⟩
  | k + 1, hk => by
    obtain ⟨w, h1, h2⟩ := insf_add hg hs k (by omega)
    have es : insf T A (k + 1) = bif insb T A k then insf T A k ||| (nI 1 <<< (T k 0 &&& nI 31)) else insf T A k := rfl
    rw [es]
    cases hb : insb T A k with
    | false =>
      refine ⟨w, h1, fun b hb31 hh => h2 b hb31 (fun t ht => hh t (by omega))⟩
    | true =>
      obtain ⟨e0, e1⟩ := hg k (by omega)
      have p31 : g k < 31 := by
        unfold insb at hb
        rw [Bool.and_eq_true, Bool.not_eq_true', decide_eq_false_iff_not, e0, nI_leI (by omega) (by omega)] at hb
        omega
      have hw := h2 (g k) (by omega) (fun t ht _ => hs t k ht (by omega))
      rw [cond_true, h1, e0, shl1 p31, fa_or]
      refine ⟨w ||| 2 ^ g k, rfl, fun b hb31 hh => ?_⟩
      exact or_lt (Nat.lt_of_lt_of_le hw (Nat.pow_le_pow_right (by decide) (Nat.le_of_lt (hh k (Nat.lt_succ_self k) hb)))) (hh k (Nat.lt_succ_self k) hb)
theorem insf_step {T : Nat → Nat → Int32} {A : Nat → Int32} {n k : Nat} {g : Nat → Nat} (hg : ∀ t, t < n → T t 0 = nI (g t) ∧ g t < 2000000) (hs : ∀ t u, t < u → u < n → g t < g u) (hk : k < n) (h31 : g k < 31) (hb : insb T A k = true) : insf T A (k + 1) = insf T A k + (nI 1 <<< (T k 0 &&& nI 31)) := by
  obtain ⟨w, h1, h2⟩ := insf_add (A := A) hg hs k (by omega)
  have hw := h2 (g k) (by omega) (fun t ht _ => hs t k ht hk)
  have es : insf T A (k + 1) = bif insb T A k then insf T A k ||| (nI 1 <<< (T k 0 &&& nI 31)) else insf T A k := rfl
  rw [es, hb, cond_true, h1, (hg k hk).1, shl1 h31, fa_or, nI_add]
  have e := Nat.two_pow_add_eq_or_of_lt hw 1
  rw [Nat.mul_one] at e
  rw [Nat.or_comm, ← e, Nat.add_comm]
