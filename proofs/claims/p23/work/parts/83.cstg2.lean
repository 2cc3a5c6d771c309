/-! ===== what holds mid-sweep, on: new tracks, known again, sorted; the join ===== -/
theorem PL_n {K k n n' τ : Nat} {L : Nat → Int32} (h : PL K k n τ L) (hn : n ≤ n') : PL K k n' τ L := ⟨h.1, h.2.1, h.2.2.1, nmd_le h.2.2.2 hn⟩
theorem nmd_ne {n : Nat} {x : Int32} (hn : n ≤ 2000000) (h : nmd n x) : x ≠ nI n ∧ x ≠ -nI 1 := by
  obtain ⟨m, h1, h2⟩ := h
  rw [h2]
  constructor
  · intro e
    rw [nI_eq' (by omega) (by omega)] at e
    omega
  · exact m1_ne (by omega)
theorem i16_p {x : Int32} (h1 : -9999 ≤ x.toInt) (h2 : x.toInt ≤ 9999) : (nI 16 * x).toInt = 16 * x.toInt := by
  have e : (nI 16).toInt = 16 := by decide
  rw [i_mul (by rw [e]; omega) (by rw [e]; omega), e]
theorem nrc_w {nm x y : Int32} {b w : Nat} (h0 : w ≠ 0) (h1 : w ≠ 1) (h2 : w ≠ 2) (h6 : w ≠ 6) (h8 : w ≠ 8) (h38 : w ≠ 38) : nrc nm x y b w = nI 0 := by
  unfold nrc
  rw [up_ne h8, up_ne h6, up_ne h2, up_ne h1, up_ne h0]
  exact if_neg h38
theorem nrc_0 {nm x y : Int32} {b : Nat} : nrc nm x y b 0 = nm := by
  unfold nrc
  rw [up_ne (by decide), up_ne (by decide), up_ne (by decide), up_ne (by decide), up_eq]
theorem nrc_1 {nm x y : Int32} {b : Nat} : nrc nm x y b 1 = x := by
  unfold nrc
  rw [up_ne (by decide), up_ne (by decide), up_ne (by decide), up_eq]
theorem nrc_2 {nm x y : Int32} {b : Nat} : nrc nm x y b 2 = y := by
  unfold nrc
  rw [up_ne (by decide), up_ne (by decide), up_eq]
theorem nrc_8 {nm x y : Int32} {b : Nat} : nrc nm x y b 8 = nI 1 := by
  unfold nrc
  rw [up_eq]
theorem nrc_38 {nm x y : Int32} {b : Nat} : nrc nm x y b 38 = nI b := by
  unfold nrc
  rw [up_ne (by decide), up_ne (by decide), up_ne (by decide), up_ne (by decide), up_ne (by decide)]
  exact if_pos rfl
theorem nrc_PM {k n b : Nat} {x y : Int32} (hx : -9999 ≤ x.toInt ∧ x.toInt ≤ 9999) (hy : -9999 ≤ y.toInt ∧ y.toInt ≤ 9999) : PM k (n + 1) (nrc (nI n) (nI 16 * x) (nI 16 * y) b) := by
  have z : (nI 0).toInt = 0 := by decide
  have q0 : IQ (nI 0) := ⟨by rw [z]; omega, by rw [z]; omega⟩
  have v0 : vb (nI 0) := ⟨by rw [z]; omega, by rw [z]; omega⟩
  refine ⟨⟨?_, ?_, ?_, ?_⟩, Or.inl ⟨?_, Or.inl ?_⟩, ⟨1, 0, nrc_8, ?_, by omega, by omega, by omega⟩, ⟨n, by omega, nrc_0⟩, ⟨?_, ?_, ?_, ?_⟩, fun h => ?_⟩
  · rw [nrc_1]; unfold pxb; rw [i16_p hx.1 hx.2]; constructor <;> omega
  · rw [nrc_2]; unfold pxb; rw [i16_p hy.1 hy.2]; constructor <;> omega
  · rw [nrc_w (by decide) (by decide) (by decide) (by decide) (by decide) (by decide)]; exact v0
  · rw [nrc_w (by decide) (by decide) (by decide) (by decide) (by decide) (by decide)]; exact v0
  · exact nrc_w (by decide) (by decide) (by decide) (by decide) (by decide) (by decide)
  · exact nrc_w (by decide) (by decide) (by decide) (by decide) (by decide) (by decide)
  · exact nrc_w (by decide) (by decide) (by decide) (by decide) (by decide) (by decide)
  · rw [nrc_w (by decide) (by decide) (by decide) (by decide) (by decide) (by decide)]; exact q0
  · rw [nrc_w (by decide) (by decide) (by decide) (by decide) (by decide) (by decide)]; exact q0
  · rw [nrc_w (by decide) (by decide) (by decide) (by decide) (by decide) (by decide), nrc_w (by decide) (by decide) (by decide) (by decide) (by decide) (by decide)]
  · rw [nrc_w (by decide) (by decide) (by decide) (by decide) (by decide) (by decide), nrc_w (by decide) (by decide) (by decide) (by decide) (by decide) (by decide)]
  · rw [nrc_w (by decide) (by decide) (by decide) (by decide) (by decide) (by decide)] at h
    exact absurd h q01
theorem beg_SM {k b : Nat} {s : CS} (h : SM k s) (hb : b < s.1 3) (h9 : s.1 9 ≤ 1000000) (hP : IP (s.2 5 b)) : SM k (beg1 b s) := by
  unfold beg1
  split
  · rename_i hc
    obtain ⟨hc4, -⟩ := hc
    obtain ⟨a1, a2, ⟨a3, a4, a5⟩, a6, a7, a8⟩ := h
    obtain ⟨⟨p1, p2⟩, p3, p4⟩ := plc_iff.mp hP
    have ro : ∀ u, u < s.1 4 → u1 (s.2 7) (s.1 4) (nrc (nI (s.1 9)) (nI 16 * s.2 5 b 0) (nI 16 * s.2 5 b 1) b) u = s.2 7 u := fun u hu => y1_ne (by omega)
    unfold SM DN NB
    simp only [noteS_r (show (7 : Nat) ≠ 9 by decide), noteS_r (show (8 : Nat) ≠ 9 by decide), noteS_r (show (5 : Nat) ≠ 9 by decide), y1_eq, y1_ne (show (9 : Nat) ≠ 4 by decide), y1_ne (show (5 : Nat) ≠ 4 by decide), y1_ne (show (7 : Nat) ≠ 4 by decide), y1_ne (show (3 : Nat) ≠ 4 by decide), y1_ne (show (5 : Nat) ≠ 9 by decide), y1_ne (show (7 : Nat) ≠ 9 by decide), y1_ne (show (3 : Nat) ≠ 9 by decide), y1_ne (show (8 : Nat) ≠ 7 by decide), y1_ne (show (8 : Nat) ≠ 5 by decide), y1_ne (show (7 : Nat) ≠ 5 by decide), noteC_j (show (5 : Nat) ≠ 8 by decide), noteC_j (show (7 : Nat) ≠ 8 by decide), noteC_j (show (3 : Nat) ≠ 8 by decide)]
    refine ⟨fun t ht => ?_, fun e he => PL_n (a2 e he) (Nat.le_succ _), ⟨fun t u ht hu he => ?_, a4, fun t e ht he => ?_⟩, fun j hj => ?_, fun t ht => ?_, fun k' hk' => ?_⟩
    · by_cases q : t = s.1 4
      · rw [q, y1_eq]; exact nrc_PM ⟨p1, p2⟩ ⟨p3, p4⟩
      · rw [ro t (by omega)]
        exact PM_e (a1 t (by omega)) (fun _ _ _ => rfl) (nmd_le (PM_n (a1 t (by omega))) (Nat.le_succ _))
    · by_cases q : t = s.1 4
      · by_cases q' : u = s.1 4
        · omega
        · rw [q, y1_eq, ro u (by omega), nrc_0] at he
          exact absurd he.symm (nmd_ne (by omega) (PM_n (a1 u (by omega)))).1
      · by_cases q' : u = s.1 4
        · rw [q', y1_eq, ro t (by omega), nrc_0] at he
          exact absurd he (nmd_ne (by omega) (PM_n (a1 t (by omega)))).1
        · rw [ro t (by omega), ro u (by omega)] at he
          exact a3 t u (by omega) (by omega) he
    · by_cases q : t = s.1 4
      · rw [q, y1_eq, nrc_0]
        exact fun hx => (nmd_ne (by omega) (a2 e he).2.2.2).1 hx.symm
      · rw [ro t (by omega)]
        exact a5 t e (by omega) he
    · have l1 : cn (fun t => tp (j % 5 + 1) (u1 (s.2 7) (s.1 4) (nrc (nI (s.1 9)) (nI 16 * s.2 5 b 0) (nI 16 * s.2 5 b 1) b) t)) (s.1 4 + 1) = cn (fun t => tp (j % 5 + 1) (u1 (s.2 7) (s.1 4) (nrc (nI (s.1 9)) (nI 16 * s.2 5 b 0) (nI 16 * s.2 5 b 1) b) t)) (s.1 4) + (bif tp (j % 5 + 1) (u1 (s.2 7) (s.1 4) (nrc (nI (s.1 9)) (nI 16 * s.2 5 b 0) (nI 16 * s.2 5 b 1) b) (s.1 4)) then 1 else 0) := rfl
      have l2 : tp (j % 5 + 1) (nrc (nI (s.1 9)) (nI 16 * s.2 5 b 0) (nI 16 * s.2 5 b 1) b) = false := by
        unfold tp
        rw [nrc_8, ix_nI (by decide)]
        exact decide_eq_false (by omega)
      rw [l1, y1_eq, l2, cond_false, cn_congr (p := fun t => tp (j % 5 + 1) (u1 (s.2 7) (s.1 4) (nrc (nI (s.1 9)) (nI 16 * s.2 5 b 0) (nI 16 * s.2 5 b 1) b) t)) (q := fun t => tp (j % 5 + 1) (s.2 7 t)) (fun u hu => by
        show tp _ (u1 (s.2 7) (s.1 4) _ u) = _
        rw [ro u hu])]
      exact a6 j hj
    · by_cases q : t = s.1 4
      · right
        rw [q, y1_eq, nrc_38, nrc_0]
        exact ⟨b, hb, rfl, by rw [y1_eq, up_eq]⟩
      · rw [ro t (by omega)]
        rcases a7 t (by omega) with h | ⟨b', h1, h2, h3⟩
        · exact Or.inl h
        · refine Or.inr ⟨b', h1, h2, ?_⟩
          have hne : b' ≠ b := fun e => by
            rw [e, hc4] at h3
            exact (nmd_ne (by omega) (PM_n (a1 t (by omega)))).2 h3.symm
          rw [y1_ne hne]
          exact h3
    · by_cases q : k' = b
      · exact Or.inr ⟨s.1 4, by omega, by rw [y1_eq, nrc_38, q]⟩
      · rw [y1_ne q]
        rcases a8 k' hk' with h | ⟨t, ht, h⟩
        · exact Or.inl h
        · exact Or.inr ⟨t, by omega, by rw [ro t ht]; exact h⟩
  · exact h
theorem begs_SM {k : Nat} {s : CS} (h : SM k s) (h4 : s.1 4 ≤ 10) (h9 : s.1 9 + 10 ≤ 1000000) (h3 : s.1 3 ≤ 10) (hP : ∀ b, b < s.1 3 → IP (s.2 5 b)) : ∀ n, n ≤ s.1 3 → SM k (itr beg1 n s)
  | 0, _ => h
  | n + 1, hn => by
    obtain ⟨c1, -, -, -, c9⟩ := begs_c (s := s) h4 n
    rw [itr_s']
    refine beg_SM (begs_SM h h4 h9 h3 hP n (by omega)) (by rw [c1 3 (by decide) (by decide) (by decide)]; omega) (by omega) ?_
    have := hP n (by omega)
    unfold IP at this ⊢
    rw [beg_5w n n 0 (by decide), beg_5w n n 1 (by decide)]
    exact this
theorem begin_SM {k : Nat} {M : CS} (h : SM k M) (hc : CB M.1) (h9 : M.1 9 + 10 ≤ 1000000) (hP : ∀ b, b < M.1 3 → IP (M.2 5 b)) : SM k (begin' M) := by
  have C5 : itr clt (M.1 3) M.2 5 = M.2 5 := clt_r (by decide) _
  refine begs_SM (s := (M.1, itr clt (M.1 3) M.2)) (SM_e h (fun _ _ => rfl) (fun u w _ => by show itr clt (M.1 3) M.2 7 u w = _; rw [clt_r (by decide)]) (clt_r (by decide) _) C5) hc.2.2.2.2.1 h9 hc.2.2.2.1 (fun b hb => by
    show IP (itr clt (M.1 3) M.2 5 b)
    rw [C5]
    exact hP b hb) (M.1 3) (Nat.le_refl _)
theorem rnm_at {n : Nat} {T : Nat → Nat → Int32} {a b : Int32} {k : Nat} (h : k < n) : rnm n T a b k 4 = if T k 4 = a then b else T k 4 := by
  unfold rnm
  rw [upn_lt h]
  split
  · rw [up_eq]
  · rfl
theorem kns_SM {k t : Nat} {s : CS} (h : SM k s) (ht : t < s.1 4) (h9 : s.1 9 ≤ 1000000) : SM k (kns t s) := by
  cases hk : kfnd s.1 (s.2 7 t) (s.2 8) with
  | none =>
    have e2 : kns t s = s := by
      unfold kns
      simp only [hk]
    rw [e2]
    exact h
  | some i =>
    have hi : i < s.1 5 := kst_lt (c := s.1) (R := s.2 7 t) (L := s.2 8) (v := krch s.1) (s.1 5) i hk
    have e2 : kns t s = (u1 (noteC s.1) 5 (s.1 5 - 1), u1 (u1 (noteS s.1 (u1 s.2 5 (rnm (s.1 3) (s.2 5) (s.2 7 t 0) (s.2 8 i 0))) (nI 5) (s.2 8 i 0) (s.2 7 t 0)) 7 (u1 (s.2 7) t (up (s.2 7 t) 0 (s.2 8 i 0)))) 8 (shl (s.2 8) i (s.1 5 - 1))) := by
      unfold kns
      simp only [hk]
    rw [e2]
    obtain ⟨a1, a2, ⟨a3, a4, a5⟩, a6, a7, a8⟩ := h
    have key : ∀ e, e < s.1 5 - 1 → ∃ e', e' < s.1 5 ∧ e' ≠ i ∧ shl (s.2 8) i (s.1 5 - 1) e = s.2 8 e' ∧ (e' = if i ≤ e then e + 1 else e) := by
      intro e he
      by_cases q : i ≤ e
      · exact ⟨e + 1, by omega, by omega, by rw [shl_at, if_pos ⟨q, he⟩], by rw [if_pos q]⟩
      · exact ⟨e, by omega, by omega, by rw [shl_at, if_neg (by omega)], by rw [if_neg q]⟩
    have n8 : ∀ u, u ≠ t → u1 (s.2 7) t (up (s.2 7 t) 0 (s.2 8 i 0)) u = s.2 7 u := fun u hu => y1_ne hu
    have rt : ∀ u w, w ≠ 0 → u1 (s.2 7) t (up (s.2 7 t) 0 (s.2 8 i 0)) u w = s.2 7 u w := fun u w hw => by
      by_cases q : u = t
      · rw [q, y1_eq, up_ne hw]
      · rw [y1_ne q]
    unfold SM DN NB
    simp only [y1_eq, y1_ne (show (7 : Nat) ≠ 8 by decide), y1_ne (show (5 : Nat) ≠ 8 by decide), y1_ne (show (5 : Nat) ≠ 7 by decide), y1_ne (show (4 : Nat) ≠ 5 by decide), y1_ne (show (9 : Nat) ≠ 5 by decide), y1_ne (show (7 : Nat) ≠ 5 by decide), y1_ne (show (3 : Nat) ≠ 5 by decide), noteS_r (show (5 : Nat) ≠ 9 by decide), noteC_j (show (4 : Nat) ≠ 8 by decide), noteC_j (show (9 : Nat) ≠ 8 by decide), noteC_j (show (7 : Nat) ≠ 8 by decide), noteC_j (show (3 : Nat) ≠ 8 by decide)]
    refine ⟨fun u hu => ?_, fun e he => ?_, ⟨fun u v hu hv he => ?_, fun e e1 he he1 hh => ?_, fun u e hu he => ?_⟩, fun j hj => ?_, fun u hu => ?_, fun k' hk' => ?_⟩
    · by_cases q : u = t
      · rw [q, y1_eq]
        exact PM_e (a1 t ht) (fun w h0 _ => up_ne h0) (by rw [up_eq]; exact (a2 i hi).2.2.2)
      · rw [n8 u q]; exact a1 u hu
    · obtain ⟨e', q1, -, q2, -⟩ := key e he
      rw [q2]; exact a2 e' q1
    · by_cases q : u = t
      · by_cases q' : v = t
        · omega
        · rw [q, y1_eq, up_eq, n8 v q'] at he
          exact absurd he.symm (a5 v i hv hi)
      · by_cases q' : v = t
        · rw [q', y1_eq, up_eq, n8 u q] at he
          exact absurd he (a5 u i hu hi)
        · rw [n8 u q, n8 v q'] at he
          exact a3 u v hu hv he
    · obtain ⟨e', q1, -, q2, q3⟩ := key e he
      obtain ⟨e1', p1, -, p2, p3⟩ := key e1 he1
      rw [q2, p2] at hh
      have := a4 e' e1' q1 p1 hh
      split at q3 <;> split at p3 <;> omega
    · obtain ⟨e', q1, q0, q2, -⟩ := key e he
      rw [q2]
      by_cases q : u = t
      · rw [q, y1_eq, up_eq]
        exact fun hx => q0 (a4 i e' hi q1 hx).symm
      · rw [n8 u q]; exact a5 u e' hu q1
    · have l1 := shl_cn (T := s.2 8) (i := i) (p := lp k j) (s.1 5 - 1 - i)
      rw [show i + (s.1 5 - 1 - i) = s.1 5 - 1 by omega, show s.1 5 - 1 + 1 = s.1 5 by omega] at l1
      rw [cn_congr (p := fun u => tp (j % 5 + 1) (u1 (s.2 7) t (up (s.2 7 t) 0 (s.2 8 i 0)) u)) (q := fun u => tp (j % 5 + 1) (s.2 7 u)) (fun u _ => by
        show decide _ = decide _
        rw [rt u 8 (by decide)])]
      have := a6 j hj
      omega
    · rw [rt u 38 (by decide)]
      rcases a7 u hu with h | ⟨b, h1, h2, h3⟩
      · exact Or.inl h
      · refine Or.inr ⟨b, h1, h2, ?_⟩
        rw [rnm_at h1]
        by_cases q : u = t
        · rw [q] at h3 ⊢
          rw [y1_eq, up_eq, if_pos h3]
        · rw [n8 u q, if_neg (by rw [h3]; exact fun hx => q (a3 u t hu ht hx))]
          exact h3
    · rcases a8 k' hk' with h | ⟨u, hu, h⟩
      · left
        rw [rnm_at hk', h, if_neg (fun hx => (nmd_ne (by omega) (PM_n (a1 t ht))).2 hx.symm)]
      · exact Or.inr ⟨u, hu, by rw [rt u 38 (by decide)]; exact h⟩
theorem knws_SM {k : Nat} {s : CS} (h : SM k s) (h9 : s.1 9 ≤ 1000000) : ∀ n, n ≤ s.1 4 → SM k (itr knw n s)
  | 0, _ => h
  | n + 1, hn => by
    obtain ⟨c1, -, -⟩ := knws_c (s := s) n
    have ih := knws_SM h h9 n (by omega)
    rw [itr_s']
    generalize itr knw n s = x at c1 ih ⊢
    unfold knw
    split
    · exact kns_SM ih (by rw [c1 4 (by decide) (by decide)]; omega) (by rw [c1 9 (by decide) (by decide)]; omega)
    · exact ih
theorem sort_SM {k : Nat} {s : CS} (h : SM k s) : SM k (s.1, u1 s.2 7 (sortT (s.1 4) (s.2 7))) := by
  obtain ⟨a1, a2, ⟨a3, a4, a5⟩, a6, a7, a8⟩ := h
  obtain ⟨⟨π, ρ, p1, p2⟩, pc⟩ := PRM_sort (n := s.1 4) (T := s.2 7)
  unfold SM DN NB
  simp only [y1_eq, y1_ne (show (8 : Nat) ≠ 7 by decide), y1_ne (show (5 : Nat) ≠ 7 by decide)]
  refine ⟨fun t ht => by rw [p2 t ht]; exact a1 _ (p1 t ht).1, a2, ⟨fun t u ht hu he => ?_, a4, fun t e ht he => by rw [p2 t ht]; exact a5 _ e (p1 t ht).1 he⟩, fun j hj => by rw [pc]; exact a6 j hj, fun t ht => by rw [p2 t ht]; exact a7 _ (p1 t ht).1, fun k' hk' => ?_⟩
  · rw [p2 t ht, p2 u hu] at he
    have := a3 _ _ (p1 t ht).1 (p1 u hu).1 he
    have e1 := (p1 t ht).2.2.2
    have e2 := (p1 u hu).2.2.2
    rw [this] at e1
    omega
  · rcases a8 k' hk' with h | ⟨t, ht, h⟩
    · exact Or.inl h
    · exact Or.inr ⟨ρ t, (p1 t ht).2.1, by rw [p2 _ (p1 t ht).2.1, (p1 t ht).2.2.1]; exact h⟩
theorem look_SM {k : Nat} {s : CS} (h : SM k s) : SM k (look s) := by
  unfold look
  obtain ⟨g1, g2, g3, -⟩ := ars_7 (n := s.1 4) (s := crs (s.1 4) s) (s.1 2)
  refine SM_e (SM_e h (s' := crs (s.1 4) s) (fun q hq => (crs_bd (n := s.1 4) (s := s)).1 q hq) (fun u w _ => by rw [crs_r (by decide)]) (crs_r (by decide)) (crs_r (by decide))) g3 g2 (g1 8 (by decide) (by decide)) (g1 5 (by decide) (by decide))
/-! the join -/
theorem jn_all {c : Nat → Nat} {S : Nat → Nat → Nat → Int32} (hb4 : ∀ k, k < c 3 → S 5 k 4 = -nI 1) : ∀ n, (∀ t, t < n → S 7 t 0 ≠ -nI 1) →
    (∀ t, t < n → ∃ v, (itr (jst (jsl c S)) n (S, 0)).1 7 t = up (up (S 7 t) 38 v) 13 v ∧ (v = -nI 1 ∨ ∃ b, b < c 3 ∧ v = nI b ∧ (itr (jst (jsl c S)) n (S, 0)).1 5 b 4 = S 7 t 0 ∧ (itr (jst (jsl c S)) n (S, 0)).2.testBit b = true)) ∧ (∀ k, k < c 3 → (itr (jst (jsl c S)) n (S, 0)).1 5 k 4 = -nI 1 ∨ ∃ t, t < n ∧ (itr (jst (jsl c S)) n (S, 0)).1 7 t 38 = nI k) ∧ ∀ k, k < c 3 → (itr (jst (jsl c S)) n (S, 0)).2.testBit k = !decide ((itr (jst (jsl c S)) n (S, 0)).1 5 k 4 = -nI 1)
  | 0, _ => ⟨fun t h => absurd h (Nat.not_lt_zero t), fun k hk => Or.inl (hb4 k hk), fun k hk => by
      show (0 : Nat).testBit k = !decide (S 5 k 4 = -nI 1)
      rw [hb4 k hk, Nat.zero_testBit, decide_eq_true rfl]
      rfl⟩
  | n + 1, hnm => by
    obtain ⟨a1, a2, a3⟩ := jn_all hb4 n (fun t ht => hnm t (by omega))
    have row : (itr (jst (jsl c S)) n (S, 0)).1 7 n = S 7 n := (jst_c (sl := jsl c S) jsl_lt (S := S) n).2.2.2.2 n (Nat.le_refl _)
    have hn := hnm n (Nat.lt_succ_self n)
    rw [itr_s']
    generalize itr (jst (jsl c S)) n (S, 0) = s at *
    have r7 := jst_7 (sl := jsl c S) (t := n) (s := s)
    have r2 := jst_2 (sl := jsl c S) (t := n) (s := s)
    rw [row] at r7
    have e5 : (jst (jsl c S) n s).1 5 = match jsl c S n s.2 with
        | some k => u1 (s.1 5) k (up (s.1 5 k) 4 (S 7 n 0))
        | none => s.1 5 := by
      unfold jst
      cases jsl c S n s.2 with
      | none =>
        simp only
        rw [y1_ne (show (5 : Nat) ≠ 7 by decide)]
      | some k =>
        simp only
        rw [y1_eq, row]
    cases hch : jsl c S n s.2 with
    | none =>
      rw [hch] at r7 r2 e5
      simp only at r2 e5
      rw [r7, r2, e5]
      refine ⟨fun t ht => ?_, fun k hk => ?_, a3⟩
      · by_cases q : t = n
        · rw [q, y1_eq]; exact ⟨_, rfl, Or.inl rfl⟩
        · rw [y1_ne q]; exact a1 t (by omega)
      · rcases a2 k hk with h | ⟨t, ht, h⟩
        · exact Or.inl h
        · exact Or.inr ⟨t, by omega, by rw [y1_ne (by omega)]; exact h⟩
    | some b =>
      have hb : b < c 3 := jsl_lt (c := c) (S := S) _ _ _ hch
      have hfree : s.2.testBit b = false := by
        have := (ff_is hch).2.1
        rw [Bool.and_eq_true] at this
        have h2 := this.1
        unfold can at h2
        rw [Bool.and_eq_true] at h2
        simpa using h2.1
      rw [hch] at r7 r2 e5
      simp only at r2 e5
      rw [r7, r2, e5]
      refine ⟨fun t ht => ?_, fun k hk => ?_, fun k hk => ?_⟩
      · by_cases q : t = n
        · rw [q, y1_eq]
          exact ⟨_, rfl, Or.inr ⟨b, hb, rfl, by rw [y1_eq, up_eq], by rw [bit_or, decide_eq_true rfl, Bool.or_true]⟩⟩
        · rw [y1_ne q]
          obtain ⟨v, h1, h2⟩ := a1 t (by omega)
          refine ⟨v, h1, ?_⟩
          rcases h2 with h | ⟨b', g1, g2, g3, g4⟩
          · exact Or.inl h
          · have hne : b' ≠ b := fun e => by rw [e, hfree] at g4; cases g4
            exact Or.inr ⟨b', g1, g2, by rw [y1_ne hne]; exact g3, by rw [bit_or, g4, Bool.true_or]⟩
      · by_cases q : k = b
        · exact Or.inr ⟨n, Nat.lt_succ_self n, by rw [y1_eq, up_ne (by decide), up_eq, q]; rfl⟩
        · rw [y1_ne q]
          rcases a2 k hk with h | ⟨t, ht, h⟩
          · exact Or.inl h
          · exact Or.inr ⟨t, by omega, by rw [y1_ne (by omega)]; exact h⟩
      · rw [bit_or]
        by_cases q : k = b
        · rw [q, y1_eq, up_eq, decide_eq_true rfl, Bool.or_true, decide_eq_false hn]
          rfl
        · rw [y1_ne q, decide_eq_false (fun e => q e.symm), Bool.or_false]
          exact a3 k hk
