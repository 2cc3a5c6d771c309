/-! ===== the class' sweep: the row of tracks ===== -/
def swr (r : Nat → Nat → Option Nat) (σ : Nat → Nat) (j i : Nat) : Nat → Nat → Option Nat := u2 (u2 r 36 i (some (37 + 3 * σ j))) 36 j (some (37 + 3 * σ i))
theorem RT_36 {j : Nat} : RT 36 j = none := by
  unfold RT
  rfl
theorem Rf_36 {r : Nat → Nat → Option Nat} (hr : Rf r) {j : Nat} {v : Option Nat} : Rf (u2 r 36 j v) := by
  intro a b w h
  by_cases q : a = 36
  · subst q; rw [RT_36] at h; exact absurd h (by simp)
  · rw [yu_ne q]; exact hr a b w h
theorem Rf_sw {r : Nat → Nat → Option Nat} (hr : Rf r) {σ : Nat → Nat} {j i : Nat} : Rf (swr r σ j i) := Rf_36 (Rf_36 hr)
def swp (σ : Nat → Nat) (j i : Nat) : Nat → Nat := u1 (u1 σ i (σ j)) j (σ i)
theorem CPm_sw {r : Nat → Nat → Option Nat} {σ : Nat → Nat} (h : CPm r 1 σ) {j i : Nat} (hj : j < 10) (hi : i < 10) : CPm (swr r σ j i) 1 (swp σ j i) := by
  obtain ⟨h1, h2⟩ := h
  have g1 : ∀ t, swp σ j i t = if t = j then σ i else if t = i then σ j else σ t := fun t => rfl
  have g2 : ∀ t, swr r σ j i (1 + 35) t = if t = j then some (37 + 3 * σ i) else if t = i then some (37 + 3 * σ j) else r 36 t := fun t => by
    show u2 (u2 r 36 i (some (37 + 3 * σ j))) 36 j (some (37 + 3 * σ i)) 36 t = _
    rw [yu_eq]
    by_cases q : t = j
    · rw [q, up_eq, if_pos rfl]
    · rw [up_ne q, if_neg q, yu_eq]
      by_cases q2 : t = i
      · rw [q2, up_eq, if_pos rfl]
      · rw [up_ne q2, if_neg q2]
  refine ⟨fun t ht => ?_, fun t u ht hu => ?_⟩
  · rw [g1, g2]
    split
    · exact ⟨(h1 i hi).1, rfl⟩
    · split
      · exact ⟨(h1 j hj).1, rfl⟩
      · exact h1 t ht
  · rw [g1, g1]
    intro he
    by_cases a1 : t = j
    · rw [if_pos a1] at he
      by_cases b1 : u = j
      · omega
      · rw [if_neg b1] at he
        by_cases b2 : u = i
        · rw [if_pos b2] at he
          have := h2 i j hi hj he
          omega
        · rw [if_neg b2] at he
          have := h2 i u hi hu he
          omega
    · rw [if_neg a1] at he
      by_cases a2 : t = i
      · rw [if_pos a2] at he
        by_cases b1 : u = j
        · rw [if_pos b1] at he
          have := h2 j i hj hi he
          omega
        · rw [if_neg b1] at he
          by_cases b2 : u = i
          · omega
          · rw [if_neg b2] at he
            have := h2 j u hj hu he
            omega
      · rw [if_neg a2] at he
        by_cases b1 : u = j
        · rw [if_pos b1] at he
          have := h2 t i ht hi he
          omega
        · rw [if_neg b1] at he
          by_cases b2 : u = i
          · rw [if_pos b2] at he
            have := h2 t j ht hj he
            omega
          · rw [if_neg b2] at he
            exact h2 t u ht hu he
def endd (R : Nat → Int32) : Bool := if R 5 = nI 0 then !decide (R 7 < nI 2) else !decide (R 7 < nI 5)
/-- the class' step in its row: a track that stays, without an event -/
theorem X44_k {μ : mMu} {f : Nat → Nat → Int32} {l : Nat → Nat → Int64} {r : Nat → Nat → Option Nat} (hs : Sh μ) (hr : Rf r) {σ : Nat → Nat} {i j n : Nat} {dt : Int32} {Q : Nat → Int32} {f1 : Nat → Nat → Int32} {o4 o5 : Option Value} (hp : CPm r 1 σ) (hn : n ≤ 10) (hi : i < n) (hj : j ≤ i) (k5 : f 1 5 = nI n) (q : CALL 40 [.ref 1, .ref (37 + 3 * σ i), .int dt] (st μ f l r) = some (.inl (some (.int (-nI 1))), st μ f1 l r)) (hT : TM f1 (37 + 3 * σ i) Q) (he : endd Q = false) : RUN 39 4 [some (.ref 1), some (.int dt), some (.int (nI j)), some (.int (nI i)), o4, o5] [] (st μ f l r) = RUN 39 4 [some (.ref 1), some (.int dt), some (.int (nI (j + 1))), some (.int (nI (i + 1))), some (.ref (37 + 3 * σ i)), some (.int (-nI 1))] [] (st μ f1 l (swr r σ j i)) := by
  have h1a : (mS μ 1).1 = 6 := by rw [hs 1 (by decide)]; rfl
  have h36a : (mS μ 36).1 = 23 := by rw [hs 36 (by decide)]; rfl
  have h36b : (mS μ 36).2 = 10 := by rw [hs 36 (by decide)]; rfl
  have r1_4 : r 1 4 = some 36 := hr 1 4 36 rfl
  have hi10 : σ i < 10 := (hp.1 i (by omega)).1
  have hj10 : σ j < 10 := (hp.1 j (by omega)).1
  have s1a : (mS μ (37 + 3 * σ i)).1 = 7 := by rw [(trk_sh hs hi10).1]
  have s1b : (mS μ (37 + 3 * σ j)).1 = 7 := by rw [(trk_sh hs hj10).1]
  have x1 := ldT hs hr (f := f) (l := l) hp (t := i) (by omega)
  have x2 := ldT hs hr (f := f1) (l := l) hp (t := j) (by omega)
  have x3 := C_60 hs hr (f := f1) (l := l) hi10 hT
  have he' : (if Q 5 = nI 0 then !decide (Q 7 < nI 2) else !decide (Q 7 < nI 5)) = false := he
  rw [he'] at x3
  have n3 : ¬ (-nI 1 = nI 3) := by decide
  have n0 : -nI 1 < nI 0 := by decide
  have r36 : ∀ v, u2 r 36 i v 1 4 = some 36 := fun v => by rw [yu_ne (by decide)]; exact r1_4
  have ni : ¬ n ≤ i := by omega
  rw [B_39_4]
  simp (maxSteps := 5000000) (disch := omega) only [st_I, st_L, st_R, st_S, st_N, st_C, st_Z, st_X, st_D, st_st, st_sI, st_sIr, st_sL, st_sR, gfI_st, gfL_st, gfR_st, gfN_st, pfI_st, pfL_st, pfR_st, pfZ_st0, pfZ_st1, ldI_st, ldL_st, stoI_st, stoL_st, aln_st, cpA_st, bq_st, bq_S, oI_s, oL_s, oD_s, oV_s, oR_s, oR_n, oI_e, oL_e, oD_e, Option.bind_some, fa_lit, fa_litL, nI_add, pk_mul, nI_m1, nI_lt', nI_le', nI_eq', lc_ge, lc_le, lc_gt, lc_lt, lc_eq, isZ_0, isZ_1, bI_0, bI_z, decide_eq_true_eq, Bool.not_eq_true', Bool.not_true, Bool.not_false, decide_eq_false_iff_not, if_true, if_false, ite_true, ite_false, eq_self, not_true, not_false_eq_true, C_80, C_81, C_82, C_84, C_85, C_86, C_94, C_95, C_96, C_97, yu_ne, yu_eq, up_eq, up_ne, yur_ne, yur_eq, yu_uu, y1_eq, y1_ne, y1_y1, Nat.mul_zero, Nat.zero_mul, Nat.add_zero, Nat.zero_add, Nat.mul_one, Nat.one_mul, Nat.reduceEqDiff, Nat.reduceLT, Nat.reduceLeDiff, Nat.reduceAdd, Nat.reduceMul, decide_true, decide_false, cond_true, cond_false, reduceCtorEq, Bool.false_eq_true, Bool.true_eq_false, Bool.true_and, Bool.and_true, Bool.false_and, Bool.and_false, r1_4, k5, x1, s1a, q, n3, n0, x3, x2, stoR_st, s1b, r36, ni]
  rfl
/-- the class' step in its row: a track that goes, without an event -/
theorem X44_d {μ : mMu} {f : Nat → Nat → Int32} {l : Nat → Nat → Int64} {r : Nat → Nat → Option Nat} (hs : Sh μ) (hr : Rf r) {σ : Nat → Nat} {i j n : Nat} {dt : Int32} {Q : Nat → Int32} {f1 : Nat → Nat → Int32} {o4 o5 : Option Value} (hp : CPm r 1 σ) (hn : n ≤ 10) (hi : i < n) (hj : j ≤ i) (k5 : f 1 5 = nI n) (q : CALL 40 [.ref 1, .ref (37 + 3 * σ i), .int dt] (st μ f l r) = some (.inl (some (.int (-nI 1))), st μ f1 l r)) (hT : TM f1 (37 + 3 * σ i) Q) (he : endd Q = true) : RUN 39 4 [some (.ref 1), some (.int dt), some (.int (nI j)), some (.int (nI i)), o4, o5] [] (st μ f l r) = RUN 39 4 [some (.ref 1), some (.int dt), some (.int (nI j)), some (.int (nI (i + 1))), some (.ref (37 + 3 * σ i)), some (.int (-nI 1))] [] (st μ f1 l r) := by
  have h1a : (mS μ 1).1 = 6 := by rw [hs 1 (by decide)]; rfl
  have h36a : (mS μ 36).1 = 23 := by rw [hs 36 (by decide)]; rfl
  have h36b : (mS μ 36).2 = 10 := by rw [hs 36 (by decide)]; rfl
  have r1_4 : r 1 4 = some 36 := hr 1 4 36 rfl
  have hi10 : σ i < 10 := (hp.1 i (by omega)).1
  have hj10 : σ j < 10 := (hp.1 j (by omega)).1
  have s1a : (mS μ (37 + 3 * σ i)).1 = 7 := by rw [(trk_sh hs hi10).1]
  have s1b : (mS μ (37 + 3 * σ j)).1 = 7 := by rw [(trk_sh hs hj10).1]
  have x1 := ldT hs hr (f := f) (l := l) hp (t := i) (by omega)
  have x2 := ldT hs hr (f := f1) (l := l) hp (t := j) (by omega)
  have x3 := C_60 hs hr (f := f1) (l := l) hi10 hT
  have he' : (if Q 5 = nI 0 then !decide (Q 7 < nI 2) else !decide (Q 7 < nI 5)) = true := he
  rw [he'] at x3
  have n3 : ¬ (-nI 1 = nI 3) := by decide
  have n0 : -nI 1 < nI 0 := by decide
  have r36 : ∀ v, u2 r 36 i v 1 4 = some 36 := fun v => by rw [yu_ne (by decide)]; exact r1_4
  have ni : ¬ n ≤ i := by omega
  rw [B_39_4]
  simp (maxSteps := 5000000) (disch := omega) only [st_I, st_L, st_R, st_S, st_N, st_C, st_Z, st_X, st_D, st_st, st_sI, st_sIr, st_sL, st_sR, gfI_st, gfL_st, gfR_st, gfN_st, pfI_st, pfL_st, pfR_st, pfZ_st0, pfZ_st1, ldI_st, ldL_st, stoI_st, stoL_st, aln_st, cpA_st, bq_st, bq_S, oI_s, oL_s, oD_s, oV_s, oR_s, oR_n, oI_e, oL_e, oD_e, Option.bind_some, fa_lit, fa_litL, nI_add, pk_mul, nI_m1, nI_lt', nI_le', nI_eq', lc_ge, lc_le, lc_gt, lc_lt, lc_eq, isZ_0, isZ_1, bI_0, bI_z, decide_eq_true_eq, Bool.not_eq_true', Bool.not_true, Bool.not_false, decide_eq_false_iff_not, if_true, if_false, ite_true, ite_false, eq_self, not_true, not_false_eq_true, C_80, C_81, C_82, C_84, C_85, C_86, C_94, C_95, C_96, C_97, yu_ne, yu_eq, up_eq, up_ne, yur_ne, yur_eq, yu_uu, y1_eq, y1_ne, y1_y1, Nat.mul_zero, Nat.zero_mul, Nat.add_zero, Nat.zero_add, Nat.mul_one, Nat.one_mul, Nat.reduceEqDiff, Nat.reduceLT, Nat.reduceLeDiff, Nat.reduceAdd, Nat.reduceMul, decide_true, decide_false, cond_true, cond_false, reduceCtorEq, Bool.false_eq_true, Bool.true_eq_false, Bool.true_and, Bool.and_true, Bool.false_and, Bool.and_false, r1_4, k5, x1, s1a, q, n3, n0, x3, x2, stoR_st, s1b, r36, ni]
  rfl
/-- the class' step in its row: a track that stays, with an event -/
theorem X44_e {μ : mMu} {f : Nat → Nat → Int32} {l : Nat → Nat → Int64} {r : Nat → Nat → Option Nat} (hs : Sh μ) (hr : Rf r) {σ : Nat → Nat} {i j n : Nat} {dt K x : Int32} {e : Nat} {Q : Nat → Int32} {f1 : Nat → Nat → Int32} {o4 o5 : Option Value} (hp : CPm r 1 σ) (hn : n ≤ 10) (hi : i < n) (hj : j ≤ i) (k5 : f 1 5 = nI n) (q : CALL 40 [.ref 1, .ref (37 + 3 * σ i), .int dt] (st μ f l r) = some (.inl (some (.int K)), st μ f1 l r)) (hT : TM f1 (37 + 3 * σ i) Q) (hK0 : ¬ K < nI 0) (hK3 : ¬ K = nI 3) (k4 : f1 31 4 = nI e) (kb : e < 2000000000) (k10 : f1 1 10 = x) (he : endd Q = false) : RUN 39 4 [some (.ref 1), some (.int dt), some (.int (nI j)), some (.int (nI i)), o4, o5] [] (st μ f l r) = RUN 39 4 [some (.ref 1), some (.int dt), some (.int (nI (j + 1))), some (.int (nI (i + 1))), some (.ref (37 + 3 * σ i)), some (.int K)] [] (st μ (cnote f1 e x K (Q 0) (-nI 1)) l (swr r σ j i)) := by
  have h1a : (mS μ 1).1 = 6 := by rw [hs 1 (by decide)]; rfl
  have h31a : (mS μ 31).1 = 3 := by rw [hs 31 (by decide)]; rfl
  have h36a : (mS μ 36).1 = 23 := by rw [hs 36 (by decide)]; rfl
  have h36b : (mS μ 36).2 = 10 := by rw [hs 36 (by decide)]; rfl
  have r1_3 : r 1 3 = some 31 := hr 1 3 31 rfl
  have r1_4 : r 1 4 = some 36 := hr 1 4 36 rfl
  have hi10 : σ i < 10 := (hp.1 i (by omega)).1
  have hj10 : σ j < 10 := (hp.1 j (by omega)).1
  have s1a : (mS μ (37 + 3 * σ i)).1 = 7 := by rw [(trk_sh hs hi10).1]
  have s1b : (mS μ (37 + 3 * σ j)).1 = 7 := by rw [(trk_sh hs hj10).1]
  have x1 := ldT hs hr (f := f) (l := l) hp (t := i) (by omega)
  have x2 := ldT hs hr (f := cnote f1 e x K (Q 0) (-nI 1)) (l := l) hp (t := j) (by omega)
  have t0 := hT.1
  have hT2 : TM (cnote f1 e x K (Q 0) (-nI 1)) (37 + 3 * σ i) Q := TM_k hT (cnote_o (by omega)) (cnote_o (by omega)) (cnote_o (by omega))
  have x3 := C_60 hs hr (f := cnote f1 e x K (Q 0) (-nI 1)) (l := l) hi10 hT2
  have x4 := C_19 hs hr (f := f1) (l := l) (a := x) (b := K) (c := Q 0) (d := -nI 1) k4 kb
  have he' : (if Q 5 = nI 0 then !decide (Q 7 < nI 2) else !decide (Q 7 < nI 5)) = false := he
  rw [he'] at x3
  have r36 : ∀ v, u2 r 36 i v 1 4 = some 36 := fun v => by rw [yu_ne (by decide)]; exact r1_4
  have ni : ¬ n ≤ i := by omega
  rw [B_39_4]
  simp (maxSteps := 5000000) (disch := omega) only [st_I, st_L, st_R, st_S, st_N, st_C, st_Z, st_X, st_D, st_st, st_sI, st_sIr, st_sL, st_sR, gfI_st, gfL_st, gfR_st, gfN_st, pfI_st, pfL_st, pfR_st, pfZ_st0, pfZ_st1, ldI_st, ldL_st, stoI_st, stoL_st, aln_st, cpA_st, bq_st, bq_S, oI_s, oL_s, oD_s, oV_s, oR_s, oR_n, oI_e, oL_e, oD_e, Option.bind_some, fa_lit, fa_litL, nI_add, pk_mul, nI_m1, nI_lt', nI_le', nI_eq', lc_ge, lc_le, lc_gt, lc_lt, lc_eq, isZ_0, isZ_1, bI_0, bI_z, decide_eq_true_eq, Bool.not_eq_true', Bool.not_true, Bool.not_false, decide_eq_false_iff_not, if_true, if_false, ite_true, ite_false, eq_self, not_true, not_false_eq_true, C_80, C_81, C_82, C_84, C_85, C_86, C_94, C_95, C_96, C_97, yu_ne, yu_eq, up_eq, up_ne, yur_ne, yur_eq, yu_uu, y1_eq, y1_ne, y1_y1, Nat.mul_zero, Nat.zero_mul, Nat.add_zero, Nat.zero_add, Nat.mul_one, Nat.one_mul, Nat.reduceEqDiff, Nat.reduceLT, Nat.reduceLeDiff, Nat.reduceAdd, Nat.reduceMul, decide_true, decide_false, cond_true, cond_false, reduceCtorEq, Bool.false_eq_true, Bool.true_eq_false, Bool.true_and, Bool.and_true, Bool.false_and, Bool.and_false, r1_3, r1_4, k5, x1, s1a, q, hK3, hK0, x3, x2, t0, k10, x4, stoR_st, s1b, r36, ni]
  rfl
/-- the class' step in its row: a track that is lost -/
theorem X44_l {μ : mMu} {f : Nat → Nat → Int32} {l : Nat → Nat → Int64} {r : Nat → Nat → Option Nat} (hs : Sh μ) (hr : Rf r) {σ : Nat → Nat} {i j n : Nat} {dt x y : Int32} {f2 : Nat → Nat → Int32} {e : Nat} {Q : Nat → Int32} {f1 : Nat → Nat → Int32} {o4 o5 : Option Value} (hp : CPm r 1 σ) (hn : n ≤ 10) (hi : i < n) (hj : j ≤ i) (k5 : f 1 5 = nI n) (q : CALL 40 [.ref 1, .ref (37 + 3 * σ i), .int dt] (st μ f l r) = some (.inl (some (.int (nI 3))), st μ f1 l r)) (hT : TM f1 (37 + 3 * σ i) Q) (k4 : f1 31 4 = nI e) (kb : e < 2000000000) (k10 : f1 1 10 = x) (k11 : f1 1 11 = y) (qL : CALL 30 [.ref 23, .ref (37 + 3 * σ i), .int x, .int y] (st μ (cnote f1 e x (nI 3) (Q 0) (-nI 1)) l r) = some (.inl none, st μ f2 l r)) (gL : ∀ q, (q < 23 ∨ 30 < q) → f2 q = cnote f1 e x (nI 3) (Q 0) (-nI 1) q) (he : endd Q = true) : RUN 39 4 [some (.ref 1), some (.int dt), some (.int (nI j)), some (.int (nI i)), o4, o5] [] (st μ f l r) = RUN 39 4 [some (.ref 1), some (.int dt), some (.int (nI j)), some (.int (nI (i + 1))), some (.ref (37 + 3 * σ i)), some (.int (nI 3))] [] (st μ f2 l r) := by
  have h1a : (mS μ 1).1 = 6 := by rw [hs 1 (by decide)]; rfl
  have h23a : (mS μ 23).1 = 5 := by rw [hs 23 (by decide)]; rfl
  have h31a : (mS μ 31).1 = 3 := by rw [hs 31 (by decide)]; rfl
  have h36a : (mS μ 36).1 = 23 := by rw [hs 36 (by decide)]; rfl
  have h36b : (mS μ 36).2 = 10 := by rw [hs 36 (by decide)]; rfl
  have r1_2 : r 1 2 = some 23 := hr 1 2 23 rfl
  have r1_3 : r 1 3 = some 31 := hr 1 3 31 rfl
  have r1_4 : r 1 4 = some 36 := hr 1 4 36 rfl
  have hi10 : σ i < 10 := (hp.1 i (by omega)).1
  have hj10 : σ j < 10 := (hp.1 j (by omega)).1
  have s1a : (mS μ (37 + 3 * σ i)).1 = 7 := by rw [(trk_sh hs hi10).1]
  have s1b : (mS μ (37 + 3 * σ j)).1 = 7 := by rw [(trk_sh hs hj10).1]
  have x1 := ldT hs hr (f := f) (l := l) hp (t := i) (by omega)
  have x2 := ldT hs hr (f := f2) (l := l) hp (t := j) (by omega)
  have t0 := hT.1
  have nlt : ¬ nI 3 < nI 0 := by decide
  have k10' : cnote f1 e x (nI 3) (Q 0) (-nI 1) 1 10 = x := by rw [cnote_o (by omega)]; exact k10
  have k11' : cnote f1 e x (nI 3) (Q 0) (-nI 1) 1 11 = y := by rw [cnote_o (by omega)]; exact k11
  have hT2 : TM (cnote f1 e x (nI 3) (Q 0) (-nI 1)) (37 + 3 * σ i) Q := TM_k hT (cnote_o (by omega)) (cnote_o (by omega)) (cnote_o (by omega))
  have x3 := C_60 hs hr (f := f2) (l := l) hi10 (TM_k hT2 (gL _ (by omega)) (gL _ (by omega)) (gL _ (by omega)))
  have x4 := C_19 hs hr (f := f1) (l := l) (a := x) (b := nI 3) (c := Q 0) (d := -nI 1) k4 kb
  have he' : (if Q 5 = nI 0 then !decide (Q 7 < nI 2) else !decide (Q 7 < nI 5)) = true := he
  rw [he'] at x3
  have r36 : ∀ v, u2 r 36 i v 1 4 = some 36 := fun v => by rw [yu_ne (by decide)]; exact r1_4
  have ni : ¬ n ≤ i := by omega
  rw [B_39_4]
  simp (maxSteps := 5000000) (disch := omega) only [st_I, st_L, st_R, st_S, st_N, st_C, st_Z, st_X, st_D, st_st, st_sI, st_sIr, st_sL, st_sR, gfI_st, gfL_st, gfR_st, gfN_st, pfI_st, pfL_st, pfR_st, pfZ_st0, pfZ_st1, ldI_st, ldL_st, stoI_st, stoL_st, aln_st, cpA_st, bq_st, bq_S, oI_s, oL_s, oD_s, oV_s, oR_s, oR_n, oI_e, oL_e, oD_e, Option.bind_some, fa_lit, fa_litL, nI_add, pk_mul, nI_m1, nI_lt', nI_le', nI_eq', lc_ge, lc_le, lc_gt, lc_lt, lc_eq, isZ_0, isZ_1, bI_0, bI_z, decide_eq_true_eq, Bool.not_eq_true', Bool.not_true, Bool.not_false, decide_eq_false_iff_not, if_true, if_false, ite_true, ite_false, eq_self, not_true, not_false_eq_true, C_80, C_81, C_82, C_84, C_85, C_86, C_94, C_95, C_96, C_97, yu_ne, yu_eq, up_eq, up_ne, yur_ne, yur_eq, yu_uu, y1_eq, y1_ne, y1_y1, Nat.mul_zero, Nat.zero_mul, Nat.add_zero, Nat.zero_add, Nat.mul_one, Nat.one_mul, Nat.reduceEqDiff, Nat.reduceLT, Nat.reduceLeDiff, Nat.reduceAdd, Nat.reduceMul, decide_true, decide_false, cond_true, cond_false, reduceCtorEq, Bool.false_eq_true, Bool.true_eq_false, Bool.true_and, Bool.and_true, Bool.false_and, Bool.and_false, r1_2, r1_3, r1_4, k5, x1, s1a, q, not_false_eq_true, nlt, x3, x2, t0, k10, x4, k10', k11', qL, stoR_st, s1b, r36, ni]
  rfl
