/-! ===== names in order ===== -/
theorem ins_hi : ∀ k (T : Nat → Nat → Int32) a, k < a → insR k T a = T a
  | 0, _, _, _ => rfl
  | k + 1, T, a, h => by
    unfold insR
    split
    · rfl
    · show insR k (swT T k) a = T a
      rw [ins_hi k _ a (by omega), swT_o (by omega) (by omega)]
theorem ins_le {B : Int} : ∀ k (T : Nat → Nat → Int32), (∀ a, a ≤ k → (T a 0).toInt ≤ B) → ∀ a, a ≤ k → (insR k T a 0).toInt ≤ B
  | 0, _, h, a, ha => h a ha
  | k + 1, T, h, a, ha => by
    unfold insR
    split
    · exact h a ha
    · show (insR k (swT T k) a 0).toInt ≤ B
      by_cases q : a ≤ k
      · refine ins_le k _ (fun b hb => ?_) a q
        by_cases e : b = k
        · rw [e, swT_k]; exact h _ (by omega)
        · rw [swT_o e (by omega)]; exact h b (by omega)
      · have e : a = k + 1 := by omega
        rw [e, ins_hi k _ _ (by omega), swT_k1]
        exact h k (by omega)
theorem ins_so : ∀ k (T : Nat → Nat → Int32), (∀ a b, a < b → b < k → (T a 0).toInt ≤ (T b 0).toInt) → ∀ a b, a < b → b ≤ k → (insR k T a 0).toInt ≤ (insR k T b 0).toInt
  | 0, _, _, a, b, hab, hb => by omega
  | k + 1, T, h, a, b, hab, hb => by
    unfold insR
    split
    · rename_i hle
      rw [fa_le] at hle
      by_cases e : b = k + 1
      · rw [e]
        by_cases e2 : a = k
        · rw [e2]; exact hle
        · have := h a k (by omega) (by omega)
          omega
      · exact h a b hab (by omega)
    · rename_i hle
      rw [fa_le] at hle
      show (insR k (swT T k) a 0).toInt ≤ (insR k (swT T k) b 0).toInt
      by_cases e : b = k + 1
      · rw [e, ins_hi k _ (k + 1) (by omega), swT_k1]
        refine ins_le k _ (fun d hd => ?_) a (by omega)
        by_cases e2 : d = k
        · rw [e2, swT_k]; omega
        · rw [swT_o e2 (by omega)]; exact h d k (by omega) (by omega)
      · refine ins_so k _ (fun d e' hde he' => ?_) a b hab (by omega)
        rw [swT_o (by omega) (by omega), swT_o (by omega) (by omega)]
        exact h d e' hde (by omega)
theorem srt_so {T : Nat → Nat → Int32} : ∀ n, ∀ a b, a < b → b < n → (itr insR n T a 0).toInt ≤ (itr insR n T b 0).toInt
  | 0, a, b, _, h => absurd h (Nat.not_lt_zero b)
  | n + 1, a, b, hab, hb => by
    rw [itr_s']
    exact ins_so n _ (fun d e hde he => srt_so n d e hde he) a b hab (by omega)
def SO (n : Nat) (T : Nat → Nat → Int32) : Prop := ∀ a b, a < b → b < n → (T a 0).toInt < (T b 0).toInt
theorem sort_SO {n : Nat} {T : Nat → Nat → Int32} (hd : ∀ a b, a < n → b < n → sortT n T a 0 = sortT n T b 0 → a = b) : SO n (sortT n T) := by
  intro a b hab hb
  have h1 : (sortT n T a 0).toInt ≤ (sortT n T b 0).toInt := srt_so n a b hab hb
  have h2 : (sortT n T a 0).toInt ≠ (sortT n T b 0).toInt := fun e => by
    have := hd a b (by omega) hb ((fa_eq _ _).mpr e)
    omega
  omega
/-! ===== events ===== -/
def EVG (k : Nat) (R : Nat → Int32) : Prop := ∃ w d : Nat, w < k ∧ d ≤ 8 ∧ R 0 = nI w ∧ R 1 = nI d ∧ (d < 5 ↔ R 3 = -nI 1) ∧ (d = 6 → (R 2).toInt < (R 3).toInt)
def EV (k : Nat) (c : Nat → Nat) (T : Nat → Nat → Int32) : Prop := (∀ e, e < min (c 8) 120 → EVG k (T e)) ∧ (∀ e, e + 1 < min (c 8) 120 → (T e 0).toInt ≤ (T (e + 1) 0).toInt) ∧ (c 8 ≤ 120 → cn (fun e => decide (T e 1 = nI 0)) (c 8) = c 9)
theorem EV_same {k : Nat} {c c' : Nat → Nat} {T T' : Nat → Nat → Int32} (h : EV k c T) (h8 : c' 8 = c 8) (h9 : c' 9 = c 9) (hT : T' = T) : EV k c' T' := by
  unfold EV at h ⊢
  rw [h8, h9, hT]
  exact h
theorem EV_le {k k' : Nat} {c : Nat → Nat} {T : Nat → Nat → Int32} (h : EV k c T) (hk : k ≤ k') : EV k' c T := by
  obtain ⟨h1, h2⟩ := h
  refine ⟨fun e he => ?_, h2⟩
  obtain ⟨w, d, g1, g2⟩ := h1 e he
  exact ⟨w, d, by omega, g2⟩
theorem EV_note {k d : Nat} {c c' : Nat → Nat} {T T' : Nat → Nat → Int32} {nm ot : Int32} (h : EV k c T) (hk : c 6 + 1 = k) (hk2 : k ≤ 1000) (h8 : c' 8 = c 8 + 1) (h9 : c' 9 = c 9 + (if d = 0 then 1 else 0)) (hT : T' = u1 (evT c T) (min (c 8) 119) (rc4 (nI (c 6)) (nI d) nm ot)) (hd : d ≤ 8) (h5 : d < 5 ↔ ot = -nI 1) (h6 : d = 6 → nm.toInt < ot.toInt) : EV k c' T' := by
  obtain ⟨a1, a2, a3⟩ := h
  have new : EVG k (rc4 (nI (c 6)) (nI d) nm ot) := ⟨c 6, d, by omega, hd, rfl, rfl, h5, h6⟩
  have last : ∀ R, EVG k R → (R 0).toInt ≤ (rc4 (nI (c 6)) (nI d) nm ot 0).toInt := fun R hR => by
    obtain ⟨w, d', w1, -, w0, -⟩ := hR
    rw [w0]
    show (nI w).toInt ≤ (nI (c 6)).toInt
    rw [nI_toInt (by omega), nI_toInt (by omega)]
    omega
  have one : rc4 (nI (c 6)) (nI d) nm ot 1 = nI d := rfl
  unfold EV
  rw [h8, h9, hT]
  generalize rc4 (nI (c 6)) (nI d) nm ot = N at new last one ⊢
  rcases Nat.lt_or_ge (c 8) 120 with q | q
  · have e1 : evT c T = T := if_neg (by omega)
    have e2 : min (c 8) 119 = c 8 := by omega
    have e3 : min (c 8 + 1) 120 = c 8 + 1 := by omega
    have e4 : min (c 8) 120 = c 8 := by omega
    rw [e1, e2, e3]
    rw [e4] at a1 a2
    refine ⟨fun e he => ?_, fun e he => ?_, fun _ => ?_⟩
    · by_cases x : e = c 8
      · rw [x, y1_eq]; exact new
      · rw [y1_ne x]; exact a1 e (by omega)
    · rw [y1_ne (show e ≠ c 8 by omega)]
      by_cases x : e + 1 = c 8
      · rw [x, y1_eq]; exact last _ (a1 e (by omega))
      · rw [y1_ne x]; exact a2 e (by omega)
    · have ih := a3 (by omega)
      have es : cn (fun e => decide (u1 T (c 8) N e 1 = nI 0)) (c 8 + 1) = cn (fun e => decide (u1 T (c 8) N e 1 = nI 0)) (c 8) + (bif decide (u1 T (c 8) N (c 8) 1 = nI 0) then 1 else 0) := rfl
      rw [es, y1_eq, one, cn_congr (p := fun e => decide (u1 T (c 8) N e 1 = nI 0)) (q := fun e => decide (T e 1 = nI 0)) (fun e he => by
        show decide _ = decide _
        rw [y1_ne (show e ≠ c 8 by omega)]), ih]
      by_cases x : d = 0
      · rw [x, if_pos rfl, decide_eq_true rfl]
        rfl
      · rw [if_neg x, decide_eq_false (nI_n0 (by omega) x)]
        rfl
  · have e1 : evT c T = fun e => if e < 119 then T (e + 1) else T e := if_pos q
    have e2 : min (c 8) 119 = 119 := by omega
    have e3 : min (c 8 + 1) 120 = 120 := by omega
    have e4 : min (c 8) 120 = 120 := by omega
    rw [e1, e2, e3]
    rw [e4] at a1 a2
    refine ⟨fun e he => ?_, fun e he => ?_, fun hh => by omega⟩
    · by_cases x : e = 119
      · rw [x, y1_eq]; exact new
      · rw [y1_ne x]
        show EVG k (if e < 119 then T (e + 1) else T e)
        rw [if_pos (by omega)]
        exact a1 (e + 1) (by omega)
    · rw [y1_ne (show e ≠ 119 by omega)]
      show ((if e < 119 then T (e + 1) else T e) 0).toInt ≤ _
      rw [if_pos (by omega)]
      by_cases x : e + 1 = 119
      · rw [x, y1_eq]; exact last _ (a1 119 (by omega))
      · rw [y1_ne x]
        show _ ≤ ((if e + 1 < 119 then T (e + 1 + 1) else T (e + 1)) 0).toInt
        rw [if_pos (by omega)]
        exact a2 (e + 1) (by omega)
theorem noteS_9 {c : Nat → Nat} {S : Nat → Nat → Nat → Int32} {kd nm ot : Int32} : noteS c S kd nm ot 9 = u1 (evT c (S 9)) (min (c 8) 119) (rc4 (nI (c 6)) kd nm ot) := y1_eq
theorem itr_P {α : Type} {g : Nat → α → α} {P : α → Prop} {s : α} : ∀ n, (∀ j x, j < n → P x → P (g j x)) → P s → P (itr g n s)
  | 0, _, h => h
  | n + 1, hg, h => by
    rw [itr_s']
    exact hg n _ (Nat.lt_succ_self n) (itr_P n (fun j x hj => hg j x (by omega)) h)
theorem h97 : (9 : Nat) ≠ 7 := by decide
theorem h98 : (9 : Nat) ≠ 8 := by decide
theorem h95 : (9 : Nat) ≠ 5 := by decide
theorem h85 : (8 : Nat) ≠ 5 := by decide
theorem h84 : (8 : Nat) ≠ 4 := by decide
theorem h94 : (9 : Nat) ≠ 4 := by decide
theorem EV_mv1 {k t : Nat} {dt : Int32} {s : CS} (h : EV k s.1 (s.2 9)) (h6 : s.1 6 + 1 = k) (hk : k ≤ 1000) : EV k (mv1 dt t s).1 ((mv1 dt t s).2 9) := by
  unfold mv1
  split
  · unfold mssS
    split
    · exact EV_same h rfl rfl (by simp (disch := decide) only [y1_ne])
    · split
      · skip
        refine EV_note (d := 2) (nm := aged (s.2 7 t) 0) (ot := -nI 1) h h6 hk ?_ ?_ ?_ (by decide) ⟨fun _ => rfl, fun _ => by decide⟩ (fun e => absurd e (by decide))
        · first | exact noteC_8 | (simp (disch := decide) only [y1_ne]; exact noteC_8)
        · first | exact noteC_j h98 | (simp (disch := decide) only [y1_ne]; exact noteC_j h98)
        · simp (disch := decide) only [y1_ne]
          exact noteS_9
      · split
        · skip
          refine EV_note (d := 3) (nm := aged (s.2 7 t) 0) (ot := -nI 1) h h6 hk ?_ ?_ ?_ (by decide) ⟨fun _ => rfl, fun _ => by decide⟩ (fun e => absurd e (by decide))
          · first | exact noteC_8 | (simp (disch := decide) only [y1_ne]; exact noteC_8)
          · first | exact noteC_j h98 | (simp (disch := decide) only [y1_ne]; exact noteC_j h98)
          · simp (disch := decide) only [y1_ne]
            exact noteS_9
        · exact EV_same h rfl rfl (by simp (disch := decide) only [y1_ne])
  · unfold flwS
    split
    · skip
      refine EV_note (d := 4) (nm := aged (s.2 7 t) 0) (ot := -nI 1) h h6 hk ?_ ?_ ?_ (by decide) ⟨fun _ => rfl, fun _ => by decide⟩ (fun e => absurd e (by decide))
      · first | exact noteC_8 | (simp (disch := decide) only [y1_ne]; exact noteC_8)
      · first | exact noteC_j h98 | (simp (disch := decide) only [y1_ne]; exact noteC_j h98)
      · simp (disch := decide) only [y1_ne]
        exact noteS_9
    · split
      · skip
        refine EV_note (d := 1) (nm := aged (s.2 7 t) 0) (ot := -nI 1) h h6 hk ?_ ?_ ?_ (by decide) ⟨fun _ => rfl, fun _ => by decide⟩ (fun e => absurd e (by decide))
        · first | exact noteC_8 | (simp (disch := decide) only [y1_ne]; exact noteC_8)
        · first | exact noteC_j h98 | (simp (disch := decide) only [y1_ne]; exact noteC_j h98)
        · simp (disch := decide) only [y1_ne]
          exact noteS_9
      · exact EV_same h rfl rfl (by simp (disch := decide) only [y1_ne])
theorem EV_move {k : Nat} {dt : Int32} {s : CS} (h : EV k s.1 (s.2 9)) (h6 : s.1 6 + 1 = k) (hk : k ≤ 1000) : EV k (move dt s).1 ((move dt s).2 9) := by
  have := itr_P (g := mv1 dt) (P := fun x => EV k x.1 (x.2 9) ∧ x.1 6 + 1 = k) (s := s) (s.1 4) (fun j x _ hx => ⟨EV_mv1 hx.1 hx.2 hk, by rw [mv1_c.1 6 (by decide) (by decide)]; exact hx.2⟩) ⟨h, h6⟩
  exact EV_same this.1 (by unfold move; simp (disch := decide) only [y1_ne]) (by unfold move; simp (disch := decide) only [y1_ne]) (by unfold move; simp (disch := decide) only [y1_ne])
theorem EV_beg1 {k b : Nat} {s : CS} (h : EV k s.1 (s.2 9)) (h6 : s.1 6 + 1 = k) (hk : k ≤ 1000) : EV k (beg1 b s).1 ((beg1 b s).2 9) := by
  unfold beg1
  split
  · refine EV_note (d := 0) (nm := nI (s.1 9)) h h6 hk ?_ ?_ (noteS_9.trans ?_) (by decide) ⟨fun _ => rfl, fun _ => by decide⟩ (fun e => absurd e (by decide))
    · show u1 (u1 (noteC s.1) 9 (s.1 9 + 1)) 4 (s.1 4 + 1) 8 = _
      rw [y1_ne (by decide), y1_ne (by decide), noteC_8]
    · show u1 (u1 (noteC s.1) 9 (s.1 9 + 1)) 4 (s.1 4 + 1) 9 = _
      rw [y1_ne (by decide), y1_eq, if_pos rfl]
    · rw [y1_ne (show (9 : Nat) ≠ 5 by decide), y1_ne (show (9 : Nat) ≠ 7 by decide)]
  · exact h
theorem EV_begin {k : Nat} {s : CS} (h : EV k s.1 (s.2 9)) (h6 : s.1 6 + 1 = k) (hk : k ≤ 1000) : EV k (begin' s).1 ((begin' s).2 9) := by
  have := itr_P (g := beg1) (P := fun x => EV k x.1 (x.2 9) ∧ x.1 6 + 1 = k) (s := (s.1, itr clt (s.1 3) s.2)) (s.1 3) (fun j x _ hx => ⟨EV_beg1 hx.1 hx.2 hk, by rw [beg1_c.1 6 (by decide) (by decide) (by decide)]; exact hx.2⟩) ⟨EV_same h rfl rfl (clt_r (by decide) _), h6⟩
  exact this.1
theorem EV_kns {k t : Nat} {s : CS} (h : EV k s.1 (s.2 9)) (h6 : s.1 6 + 1 = k) (hk : k ≤ 1000) (hn : s.2 7 t 0 ≠ -nI 1) : EV k (kns t s).1 ((kns t s).2 9) := by
  cases hq : kfnd s.1 (s.2 7 t) (s.2 8) with
  | none =>
    have e2 : kns t s = s := by
      unfold kns
      simp only [hq]
    rw [e2]
    exact h
  | some i =>
    have e2 : kns t s = (u1 (noteC s.1) 5 (s.1 5 - 1), u1 (u1 (noteS s.1 (u1 s.2 5 (rnm (s.1 3) (s.2 5) (s.2 7 t 0) (s.2 8 i 0))) (nI 5) (s.2 8 i 0) (s.2 7 t 0)) 7 (u1 (s.2 7) t (up (s.2 7 t) 0 (s.2 8 i 0)))) 8 (shl (s.2 8) i (s.1 5 - 1))) := by
      unfold kns
      simp only [hq]
    rw [e2]
    refine EV_note (d := 5) (nm := s.2 8 i 0) (ot := s.2 7 t 0) h h6 hk ?_ ?_ ?_ (by decide) ⟨fun e => absurd e (by decide), fun e => absurd e hn⟩ (fun e => absurd e (by decide))
    · simp (disch := decide) only [y1_ne]
      exact noteC_8
    · simp (disch := decide) only [y1_ne]
      exact noteC_j h98
    · simp (disch := decide) only [y1_ne]
      rw [noteS_9, y1_ne h95]
theorem EV_knws {k : Nat} {s : CS} (hS : SM (k - 1) s) (h : EV k s.1 (s.2 9)) (h6 : s.1 6 + 1 = k) (hk : k ≤ 1000) (h9 : s.1 9 ≤ 1000000) : EV k (itr knw (s.1 4) s).1 ((itr knw (s.1 4) s).2 9) := by
  have := itr_P (g := knw) (P := fun x => EV k x.1 (x.2 9) ∧ x.1 6 + 1 = k ∧ SM (k - 1) x ∧ x.1 4 = s.1 4 ∧ x.1 9 ≤ 1000000) (s := s) (s.1 4) (fun j x hj hx => by
    obtain ⟨x1, x2, x3, x4, x5⟩ := hx
    unfold knw
    split
    · obtain ⟨g1, -, -⟩ := kns_c (t := j) (s := x)
      exact ⟨EV_kns x1 x2 hk (nmd_ne (by omega) (PM_n (x3.1 j (by omega)))).2, by rw [g1 6 (by decide) (by decide)]; exact x2, kns_SM x3 (by omega) x5, by rw [g1 4 (by decide) (by decide)]; exact x4, by rw [g1 9 (by decide) (by decide)]; exact x5⟩
    · exact ⟨x1, x2, x3, x4, x5⟩) ⟨h, h6, hS, rfl, h9⟩
  exact this.1
theorem EV_cr1 {k a b : Nat} {s : CS} (h : EV k s.1 (s.2 9)) (h6 : s.1 6 + 1 = k) (hk : k ≤ 1000) (hb : a < b → (s.2 7 a 0).toInt < (s.2 7 b 0).toInt ∧ s.2 7 b 0 ≠ -nI 1) : EV k (cr1 a b s).1 ((cr1 a b s).2 9) := by
  unfold cr1
  split
  · rename_i hab
    cases firm (s.2 7) a && (firm (s.2 7) b && p_cr (s.2 7 a) (s.2 7 b)) with
    | false => exact h
    | true => exact EV_note (d := 6) h h6 hk noteC_8 (noteC_j h98) noteS_9 (by decide) ⟨fun e => absurd e (by decide), fun e => absurd e (hb hab).2⟩ (fun _ => (hb hab).1)
  · exact h
theorem cr1_7 {a b : Nat} {s : CS} : (cr1 a b s).2 7 = s.2 7 := by
  unfold cr1
  split
  · cases firm (s.2 7) a && (firm (s.2 7) b && p_cr (s.2 7 a) (s.2 7 b)) with
    | false => rfl
    | true =>
      simp only [cond_true]
      rw [noteS_r (by decide)]
  · rfl
theorem EV_crs {k n : Nat} {s : CS} (h : EV k s.1 (s.2 9)) (h6 : s.1 6 + 1 = k) (hk : k ≤ 1000) (hs : SO n (s.2 7)) (hn : ∀ b, b < n → s.2 7 b 0 ≠ -nI 1) : EV k (crs n s).1 ((crs n s).2 9) := by
  have := itr_P (g := fun a s => itr (cr1 a) n s) (P := fun x => EV k x.1 (x.2 9) ∧ x.1 6 + 1 = k ∧ x.2 7 = s.2 7) (s := s) n (fun a x _ hx => itr_P (g := cr1 a) (P := fun x => EV k x.1 (x.2 9) ∧ x.1 6 + 1 = k ∧ x.2 7 = s.2 7) (s := x) n (fun b y hb hy => by
    obtain ⟨y1, y2, y3⟩ := hy
    exact ⟨EV_cr1 y1 y2 hk (fun hab => by rw [y3]; exact ⟨hs a b hab hb, hn b hb⟩), by rw [(cr1_bd b y).1 6 (by decide)]; exact y2, cr1_7.trans y3⟩) hx) ⟨h, h6, rfl⟩
  exact this.1
theorem EV_ar1 {k a t : Nat} {s : CS} (h : EV k s.1 (s.2 9)) (h6 : s.1 6 + 1 = k) (hk : k ≤ 1000) (ha : a < 100) : EV k (ar1 a t s).1 ((ar1 a t s).2 9) := by
  unfold ar1
  simp only
  cases (firm (s.2 7) t && p_in (s.2 7 t 1) (s.2 7 t 2) (s.2 3 a)) && !p_bit (s.2 7 t 9) (nI a) with
  | true =>
    simp only [cond_true]
    refine EV_note (d := 7) (nm := s.2 7 t 0) (ot := nI a) h h6 hk ?_ ?_ ?_ (by decide) ⟨fun e => absurd e (by decide), fun e => absurd e (nI_nm (by omega))⟩ (fun e => absurd e (by decide))
    · first | exact noteC_8 | (simp (disch := decide) only [y1_ne]; exact noteC_8)
    · first | exact noteC_j h98 | (simp (disch := decide) only [y1_ne]; exact noteC_j h98)
    · simp (disch := decide) only [y1_ne]
      exact noteS_9
  | false =>
    simp only [cond_false]
    cases p_bit (s.2 7 t 9) (nI a) && (firm (s.2 7) t && !(firm (s.2 7) t && p_in (s.2 7 t 1) (s.2 7 t 2) (s.2 3 a))) with
    | true =>
      simp only [cond_true]
      refine EV_note (d := 8) (nm := s.2 7 t 0) (ot := nI a) h h6 hk ?_ ?_ ?_ (by decide) ⟨fun e => absurd e (by decide), fun e => absurd e (nI_nm (by omega))⟩ (fun e => absurd e (by decide))
      · first | exact noteC_8 | (simp (disch := decide) only [y1_ne]; exact noteC_8)
      · first | exact noteC_j h98 | (simp (disch := decide) only [y1_ne]; exact noteC_j h98)
      · simp (disch := decide) only [y1_ne]
        exact noteS_9
    | false =>
      simp only [cond_false]
      exact EV_same h rfl rfl (by simp (disch := decide) only [y1_ne])
theorem EV_ars {k m n : Nat} {s : CS} (h : EV k s.1 (s.2 9)) (h6 : s.1 6 + 1 = k) (hk : k ≤ 1000) (hm : m < 100) : EV k (ars m n s).1 ((ars m n s).2 9) := by
  have := itr_P (g := fun area s => itr (ar1 area) n s) (P := fun x => EV k x.1 (x.2 9) ∧ x.1 6 + 1 = k) (s := s) m (fun a x ha hx => itr_P (g := ar1 a) (P := fun x => EV k x.1 (x.2 9) ∧ x.1 6 + 1 = k) (s := x) n (fun b y _ hy => ⟨EV_ar1 hy.1 hy.2 hk (by omega), by rw [(ar1_bd b y).1 6 (by decide)]; exact hy.2⟩) hx) ⟨h, h6⟩
  exact this.1
theorem EV_look {k : Nat} {s : CS} (h : EV k s.1 (s.2 9)) (h6 : s.1 6 + 1 = k) (hk : k ≤ 1000) (h2 : s.1 2 ≤ 6) (hs : SO (s.1 4) (s.2 7)) (hn : ∀ b, b < s.1 4 → s.2 7 b 0 ≠ -nI 1) : EV k (look s).1 ((look s).2 9) := by
  unfold look
  exact EV_ars (EV_crs h h6 hk hs hn) (by rw [crs_bd.1 6 (by decide)]; exact h6) hk (by omega)
