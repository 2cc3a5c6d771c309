/-! ===== the class' sweep: the loop over its tracks ===== -/
def MB (f : Nat → Nat → Int32) (c : Nat → Nat) (S : Nat → Nat → Nat → Int32) : Prop := f 17 5 = nI (c 3) ∧ f 17 6 = nI 0 ∧ ∀ k, k < c 3 → (∀ w, w < 4 → f (18 + w) k = S 5 k w) ∧ f 22 k = -nI 1
def CRa (f : Nat → Nat → Int32) (c : Nat → Nat) (S : Nat → Nat → Nat → Int32) : Prop := CSc f 1 c ∧ CCo f 1 c S ∧ MB f c S ∧ CLo f 1 c S ∧ CEv f 1 c S
theorem MB_k {f f' : Nat → Nat → Int32} {c c' : Nat → Nat} {S S' : Nat → Nat → Nat → Int32} (h : MB f c S) (hf : ∀ a, 17 ≤ a → a ≤ 22 → f' a = f a) (h3 : c' 3 = c 3) (h5 : S' 5 = S 5) : MB f' c' S' := by
  unfold MB at h ⊢
  rw [h3, h5, hf _ (by omega) (by omega), hf 22 (by omega) (by omega)]
  exact ⟨h.1, h.2.1, fun k hk => ⟨fun w hw => by rw [hf _ (by omega) (by omega)]; exact (h.2.2 k hk).1 w hw, (h.2.2 k hk).2⟩⟩
theorem CRa_k {f f' : Nat → Nat → Int32} {c : Nat → Nat} {S S' : Nat → Nat → Nat → Int32} (h : CRa f c S) (hf : ∀ a, 1 ≤ a → a ≤ 36 → f' a = f a) (hS : ∀ r, r ≠ 7 → S' r = S r) : CRa f' c S' := by
  obtain ⟨d1, d2, d3, d4, d5⟩ := h
  exact ⟨CSc_k d1 (hf _ (by omega) (by omega)) (fun _ _ _ _ _ _ _ _ => rfl), CCo_k d2 (fun a _ _ => hf a (by omega) (by omega)) rfl rfl rfl (fun r _ _ => hS r (by omega)), MB_k d3 (fun a _ _ => hf a (by omega) (by omega)) rfl (hS 5 (by decide)), CLo_k d4 (fun a _ _ => hf a (by omega) (by omega)) rfl (hS 8 (by decide)), CEv_k d5 (fun a _ _ => hf a (by omega) (by omega)) rfl (hS 9 (by decide))⟩
theorem CRa_e {f : Nat → Nat → Int32} {c : Nat → Nat} {S : Nat → Nat → Nat → Int32} {kd nm ot : Int32} (h : CRa f c S) : CRa (cnote f (c 8) (nI (c 6)) kd nm ot) (noteC c) (noteS c S kd nm ot) := by
  obtain ⟨d1, d2, d3, d4, d5⟩ := h
  exact ⟨CSc_k d1 (cnote_o (by omega)) (fun j _ _ _ _ _ h8 _ => noteC_j h8), CCo_k d2 (fun a _ _ => cnote_o (by omega)) (noteC_j (by decide)) (noteC_j (by decide)) (noteC_j (by decide)) (fun r _ _ => noteS_r (by omega)), MB_k d3 (fun a _ _ => cnote_o (by omega)) (noteC_j (by decide)) (noteS_r (by decide)), CLo_k d4 (fun a _ _ => cnote_o (by omega)) (noteC_j (by decide)) (noteS_r (by decide)), cnote_ev d5⟩
theorem CRa_l {f f' : Nat → Nat → Int32} {c : Nat → Nat} {S : Nat → Nat → Nat → Int32} {n : Nat} {X : Nat → Nat → Int32} (h : CRa f c S) (hf : ∀ q, (q < 23 ∨ 30 < q) → f' q = f q) (hL : CLo f' 1 (u1 c 5 n) (u1 S 8 X)) : CRa f' (u1 c 5 n) (u1 S 8 X) := by
  obtain ⟨d1, d2, d3, d4, d5⟩ := h
  exact ⟨CSc_k d1 (hf _ (by omega)) (fun j _ _ _ _ h5 _ _ => y1_ne h5), CCo_k d2 (fun a _ _ => hf a (by omega)) (y1_ne (by decide)) (y1_ne (by decide)) (y1_ne (by decide)) (fun r _ _ => y1_ne (by omega)), MB_k d3 (fun a _ _ => hf a (by omega)) (y1_ne (by decide)) (y1_ne (by decide)), hL, CEv_k d5 (fun a _ _ => hf a (by omega)) (y1_ne (by decide)) (y1_ne (by decide))⟩
theorem mvs_5 {dt : Int32} {s : CS} : ∀ n, (itr (mv1 dt) n s).1 5 ≤ s.1 5 + n
  | 0 => Nat.le_refl _
  | n + 1 => by
    have h1 := mvs_5 (dt := dt) (s := s) n
    rw [itr_s']
    generalize itr (mv1 dt) n s = x at h1 ⊢
    have : (mv1 dt n x).1 5 ≤ x.1 5 + 1 := by
      unfold mv1
      split
      · unfold mssS
        split
        · exact Nat.le_succ _
        · split
          · show noteC x.1 5 ≤ _; rw [noteC_j (by decide)]; exact Nat.le_succ _
          · split
            · show u1 (noteC x.1) 5 (x.1 5 + 1) 5 ≤ _; rw [y1_eq]; exact Nat.le_refl _
            · exact Nat.le_succ _
      · unfold flwS
        split
        · show noteC x.1 5 ≤ _; rw [noteC_j (by decide)]; exact Nat.le_succ _
        · split
          · show noteC x.1 5 ≤ _; rw [noteC_j (by decide)]; exact Nat.le_succ _
          · exact Nat.le_succ _
    omega
theorem cmp_y {T T' : Nat → Nat → Int32} {i : Nat} (hu : ∀ u, u ≠ i → T' u = T u) (hk : kpT (T' i) = true) : (cmp kpT T' (i + 1)).2 = (cmp kpT T i).2 + 1 ∧ (∀ u, u < (cmp kpT T i).2 → (cmp kpT T' (i + 1)).1 u = (cmp kpT T i).1 u) ∧ (cmp kpT T' (i + 1)).1 (cmp kpT T i).2 = T' i := by
  obtain ⟨h1, h2⟩ := cmp_eq (kp := kpT) (T := T) (T' := T') i (fun u h => hu u (by omega))
  rw [cmp_s, cmp_ge i i (Nat.le_refl _), hk]
  refine ⟨by show (cmp kpT T' i).2 + 1 = _; rw [h1], fun u h => ?_, ?_⟩
  · show u1 (cmp kpT T' i).1 (cmp kpT T' i).2 (T' i) u = _
    rw [h1, y1_ne (by omega)]
    exact h2 u h
  · show u1 (cmp kpT T' i).1 (cmp kpT T' i).2 (T' i) _ = _
    rw [h1, y1_eq]
theorem cmp_n {T T' : Nat → Nat → Int32} {i : Nat} (hu : ∀ u, u ≠ i → T' u = T u) (hk : kpT (T' i) = false) : (cmp kpT T' (i + 1)).2 = (cmp kpT T i).2 ∧ (∀ u, u < (cmp kpT T i).2 → (cmp kpT T' (i + 1)).1 u = (cmp kpT T i).1 u) := by
  obtain ⟨h1, h2⟩ := cmp_eq (kp := kpT) (T := T) (T' := T') i (fun u h => hu u (by omega))
  rw [cmp_s, cmp_ge i i (Nat.le_refl _), hk]
  exact ⟨h1, h2⟩
theorem IB_aged {R : Nat → Int32} (h : IB R) : IB (aged R) := by
  unfold IB at h ⊢
  rw [aged_w (by decide) (by decide), aged_w (by decide) (by decide), aged_w (by decide) (by decide), aged_w (by decide) (by decide)]
  exact h
theorem nI_nm {b : Nat} (h : b < 1000) : ¬ nI b = -nI 1 := by
  intro he
  have := congrArg Int32.toInt he
  rw [nI_toInt (by omega), show (-nI 1).toInt = -1 by decide] at this
  omega
/-- the blip that a track was joined with -/
def JB (c : Nat → Nat) (R : Nat → Int32) : Prop := R 38 = R 13 ∧ (R 13 = -nI 1 ∨ ∃ b, b < c 3 ∧ R 13 = nI b)
theorem C_40o {μ : mMu} {f : Nat → Nat → Int32} {l : Nat → Nat → Int64} {r : Nat → Nat → Option Nat} (hs : Sh μ) (hr : Rf r) {a dt i : Nat} {s : CS} (hc : s.1 3 ≤ 10 ∧ s.1 13 ≤ 16 ∧ s.1 14 ≤ 16) (hA : CRa f s.1 s.2) (ha : a < 10) (hT : TM f (37 + 3 * a) (aged (s.2 7 i))) (hB : IB (s.2 7 i)) (hI : IS (s.2 7 i)) (hJ : JB s.1 (s.2 7 i)) (hP : ∀ b, b < s.1 3 → IP (s.2 5 b)) (h1 : 1 ≤ dt) (h2 : dt ≤ 60) : ∃ f1 K Q, CALL 40 [.ref 1, .ref (37 + 3 * a), .int (nI dt)] (st μ f l r) = some (.inl (some (.int K)), st μ f1 l r) ∧ (∀ x, x ≠ 37 + 3 * a → x ≠ 37 + 3 * a + 1 → x ≠ 37 + 3 * a + 2 → f1 x = f x) ∧ TM f1 (37 + 3 * a) Q ∧ OUT (nI dt) i s K Q ∧ isZ (Q 12) = true := by
  have e38 : aged (s.2 7 i) 38 = s.2 7 i 38 := aged_w (by decide) (by decide)
  rcases hJ with ⟨j1, j2 | ⟨b, hb, j2⟩⟩
  · obtain ⟨o1, o2⟩ := out_m (dt := nI dt) j2 hI
    obtain ⟨f1, q, g, t⟩ := C_40m hs hr (l := l) (dt := nI dt) ha hT (by rw [e38, j1, j2])
    exact ⟨f1, _, _, q, fun x h _ _ => g x h, t, o1, o2⟩
  · have hc' := hc
    obtain ⟨c3, c13, c14⟩ := hc
    have hne : ¬ s.2 7 i 13 = -nI 1 := by rw [j2]; exact nI_nm (by omega)
    obtain ⟨o1, o2⟩ := out_j (dt := nI dt) hne hI
    rw [j2, ix_nI (by omega)] at o1 o2
    obtain ⟨p1, p2, p3⟩ := hA.2.2.1
    obtain ⟨f1, q, g, t⟩ := C_40j hs hr (l := l) (c := s.1) (P := s.2 5 b) ha hT (IB_aged hB) h1 h2 (show b < 10 by omega) (by rw [e38, j1, j2]) (hP b hb) ((p3 b hb).1 0 (by decide)) ((p3 b hb).1 1 (by decide)) hA.1.2.2.2.1 hA.1.2.2.2.2.1 c13 c14
    exact ⟨f1, _, _, q, g, t, o1, o2⟩
