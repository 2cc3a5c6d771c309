/-! ===== throws ===== -/
def thNm : List String := ["java/lang/RuntimeException", "java/lang/Exception"]
def thIk (E : Nat) : Nat := [38, 55, 84].getD E 0
def thIc (E : Nat) : Nat := [42, 59, 88].getD E 0
def thWs (E : Nat) : List Cond := Cond.classLink (clsT.getD 8 "") (thIk E) (exN E) :: Cond.initialized (exN E) :: vx_atS (clsT.getD 8 "") (thIc E) (exN E) thNm
def inT (w : Cond) : Bool := lw_tbl.any (fun x => decide (x = w))
theorem th_a : thT.all (fun q => Nat.beq q.1 8 && Nat.beq q.2.1 (thIk q.2.2.2.2) && Nat.beq q.2.2.2.1 (thIc q.2.2.2.2) && Nat.blt q.2.2.2.2 3) = true := by decide +kernel
theorem th_b : ∀ E, E < 3 → (thWs E).all vx_ot = true := by
  have h : (List.range 3).all (fun E => (thWs E).all vx_ot) = true := by decide +kernel
  exact fun E hE => List.all_eq_true.mp h E (List.mem_range.mpr hE)
theorem th_c : ∀ E, E < 3 → (thWs E).all (fun w => (goodWord w && inT w) || (decide (w = .castable (exN E) (exN E)) || (List.range 3).any (fun F => decide (w = .declares (dcN F))))) = true := by
  have h : (List.range 3).all (fun E => (thWs E).all (fun w => (goodWord w && inT w) || (decide (w = .castable (exN E) (exN E)) || (List.range 3).any (fun F => decide (w = .declares (dcN F)))))) = true := by decide +kernel
  exact fun E hE => List.all_eq_true.mp h E (List.mem_range.mpr hE)
theorem th_e : ∀ E, E < 3 → mCl[10 + E]? = some (exN E, T0, 0) ∧ Bundle.fit (exN E) = true := by
  intro E hE
  match E, hE with
  | 0, _ => exact ⟨rfl, by decide +kernel⟩
  | 1, _ => exact ⟨rfl, by decide +kernel⟩
  | 2, _ => exact ⟨rfl, by decide +kernel⟩
theorem th_f : ∀ n ∈ thNm, Bundle.fit n = true := by
  have h : thNm.all Bundle.fit = true := by decide +kernel
  exact fun n hn => List.all_eq_true.mp h n hn
theorem th_own : ∀ k, k < 101 → mO k = 8 → mOw k = clsT.getD 8 "" := by
  have h : (List.range 101).all (fun k => bif Nat.beq (mO k) 8 then decide (mOw k = clsT.getD 8 "") else true) = true := by decide +kernel
  intro k hk h8
  have h1 := List.all_eq_true.mp h k (List.mem_range.mpr hk)
  rw [h8] at h1
  simpa using h1
theorem wS_burn {ρ : Nat → Nat} {cA : Nat → ClassId} {μ : mMu} {z : Nat} : wS ρ cA (mBurn μ z) = wS ρ cA μ := rfl
section THROWS
variable {p : Program} {l : Launch} {e : Env} {R : Room} {s : State} {m : MethodId} {args : Array Value} {below : List Frame} {meth : Method} {c : Code} {H : Heap} {locs : List Loc} {cells slots : Nat} {Q : State → Prop} {k pc : Nat} {mls : mLo} {st : mSt} {μ : mMu} {ρ : Nat → Nat} {b : Nat} {rls : Array Slot} {D : va_G} {cA : Nat → ClassId} {A : Nat → Prop}
/-- the words of a throw stand in a frame -/
theorem th_words {X : Nat × (Nat → Int32)} {E : Nat} (hE : E < 3) (hts : ∀ w ∈ lw_good, w.before args s = true) (hKK : KK D cA b A X s) : ∀ w ∈ thWs E, w.before args s = true := by
  intro w hw
  have h1 := List.all_eq_true.mp (th_c E hE) w hw
  simp only [Bool.or_eq_true, Bool.and_eq_true, decide_eq_true_eq] at h1
  rcases h1 with ⟨h1, h2⟩ | h1 | h1
  · obtain ⟨x, hx, h3⟩ := List.any_eq_true.mp h2
    rw [← of_decide_eq_true h3]
    refine hts x (List.mem_filter.mpr ⟨hx, ?_⟩)
    rw [of_decide_eq_true h3]
    exact h1
  · rw [h1]
    exact va_Nw.use rfl (hKK.2.2.2.2.2.2.2.1 E hE).1
  · obtain ⟨F, hF, h2⟩ := List.any_eq_true.mp h1
    rw [of_decide_eq_true h2]
    exact va_Nw.use rfl (hKK.2.2.2.2.2.2.2.1 F (List.mem_range.mp hF)).2
set_option maxHeartbeats 4000000 in
set_option maxRecDepth 20000 in
/-- a throw -/
theorem step_T {X : Nat × (Nat → Int32)} {ρ0 : Nat → Nat} {n0 c0 z0 : Nat} (F : FrameOK p l R s m args meth c k D cA b A X) {ent : mEnt} (he : eok k pc ent = true) {E : Nat} (h : act pc ent mls st μ = some (.inr (.inr (.inr (.inr (.inr (.inr (.inr E)))))))) (hsz : rls.size = mML k)
    (hmc : mC (mBurn μ 6) ≤ c0 + R.cells) (hmz : mZ (mBurn μ 6) ≤ z0 + R.slots) (hT : ThrP p l e R s m args below meth c Q k D cA b A ρ0 n0 c0 z0 (.inr E, mBurn μ 6))
    (hρ : ∀ a, a < n0 → ρ a = ρ0 a) (hcl : clo μ) (hP : va_P D mCl (wS ρ cA μ) H) (hDD : va_D A (wS ρ cA μ)) (hSS : va_S A s.heap H locs) (hc : cells + c0 = mC μ) (hz : slots + z0 = mZ μ) : W p l e R s m args below meth c H locs cells slots Q (F0 m pc rls (st.map (eV ρ b))) := by
  obtain ⟨hx, hb, hcm, hlk0, hown, hnm, hex, hts, hRf, hRl, hKK, hbl, hbA, hA, hk, hst⟩ := F
  obtain ⟨i, len, l1, l2, l3, l4⟩ := ent
  cases i
  case new idx =>
    simp only [act] at h
    split at h
    case h_1 => simp [aD] at h
    case h_2 hn0 =>
      rw [Bool.cond_eq_ite] at h
      split at h
      case isFalse => cases h
      case isTrue hle =>
        simp only [aT, Option.some.injEq, Sum.inr.injEq] at h
        subst h
        simp only [eok, Bool.and_eq_true] at he
        obtain ⟨hd0, hl, ht⟩ := he
        have hd0 := of_decide_eq_true hd0
        have hl := Nat.eq_of_beq_eq_true hl
        subst hl
        obtain ⟨⟨hd6, hck⟩, hany⟩ := ht
        obtain ⟨q, hq, h2⟩ := List.any_eq_true.mp hany
        simp only [Bool.and_eq_true, decide_eq_true_eq] at h2
        obtain ⟨⟨⟨⟨⟨⟨q1, q2⟩, q3⟩, d3⟩, d4⟩, d6⟩, d9⟩ := h2
        have q3 := beq_t q3
        have h3 := List.all_eq_true.mp th_a q hq
        simp only [Bool.and_eq_true, Nat.blt_eq] at h3
        obtain ⟨⟨⟨a1, a2⟩, a3⟩, a4⟩ := h3
        rw [q3] at a2 a3 a4
        have q1 := beq_t q1
        have q2 := beq_t q2
        have a1 := beq_t a1
        have a2 := beq_t a2
        have a3 := beq_t a3
        have hmo : mO k = 8 := q1.symm.trans a1
        have hidx : idx = thIk l1 := q2.symm.trans a2
        obtain ⟨i0, hi0⟩ := List.getElem?_of_mem hq
        obtain ⟨sa, hstr⟩ := hKK.2.2.1 i0 q hi0
        rw [a1] at hstr
        have hws := th_words a4 hts hKK
        have hgood := th_b l1 a4
        obtain ⟨hci, hfit⟩ := th_e l1 a4
        have hown8 : s.vm.findClass (clsT.getD 8 "") = some m.cls := by rw [← th_own k hk hmo]; exact hown
        subst hidx
        rw [a3] at d6
        have hck1 : ck k = 1 := beq_t hck
        have hnil : (hnd k).isEmpty = true := by rw [(h_ok k hk).2 (by omega)]; rfl
        have hdp : 6 ≤ dp k := Nat.le_of_ble_eq_true hd6
        have hroom := rest_le (ρ := ρ) (b := b) hle
        have hnl : thNm.length = 2 := rfl
        have hC : mC (mBurn μ 6) = mC μ + 1 := rfl
        have hZ : mZ (mBurn μ 6) = mZ μ + 6 := rfl
        have hcl6 := (hKK.1.1 (10 + l1) _ hci).2.1
        refine vx_makeS hx hb hst (own := clsT.getD 8 "") (cls := exN l1) (names := thNm) (A := A) (T0 := T0) hown8 hfit th_f (hws _ List.mem_cons_self) (hws _ (List.mem_cons_of_mem _ List.mem_cons_self)) hstr (fun w hw => hws w (List.mem_cons_of_mem _ (List.mem_cons_of_mem _ hw)))
          (fun w hw => List.all_eq_true.mp hgood w hw) hKK.2.2.2.2.2.2.2.2.1 hKK.2.2.2.2.2.2.2.2.2.1 hSS (by rw [hsz, hcm]) hd0 d3 d4 d6 hKK.1 hP hDD hA hci (by rw [hnl]; omega) (by rw [hnl]; omega) (by omega) (by omega) ?_
        · intro q9 H1 hP1 hD1 hS1
          have hlast := hP1 (wS ρ cA μ).length (q9, .inr (10 + l1, [])) (by rw [List.getElem?_append_right (Nat.le_refl _), Nat.sub_self]; rfl)
          obtain ⟨x9, hx9, ce, hce, hcc, hcv, -⟩ := hlast
          cases hci.symm.trans hx9
          have e9 : ∀ (k9 : Nat) (x9 : Nat × va_E), (wS ρ cA (mBurn μ 6))[k9]? = some x9 → (wS ρ cA μ ++ [(q9, (.inr (10 + l1, []) : va_E))])[k9]? = some x9 := by
            intro k9 x9 hk9
            rw [wS_burn] at hk9
            rw [List.getElem?_append_left (List.getElem?_eq_some_iff.mp hk9).1]
            exact hk9
          refine vx_athrow hx hb d9 (hT l1 ρ H1 locs (cells + 1) (slots + 6) (pc + 9) rls (st.map (eV ρ b)) q9 ce rfl (by show cells + 1 + c0 = mC (mBurn μ 6); rw [hC]; omega) (by show slots + 6 + z0 = mZ (mBurn μ 6); rw [hZ]; omega) hnil hρ hcl (fun k9 x9 hk9 => hP1 k9 x9 (e9 k9 x9 hk9)) ⟨fun i j x y hi hj => hD1.1 i j x y (e9 _ _ hi) (e9 _ _ hj), fun i x hi => hD1.2 i x (e9 _ _ hi)⟩ hS1 hce hcv (by rw [hcc]; exact hcl6))
  all_goals (exfalso; revert h; simp only [act, Bool.cond_eq_ite, aA, aB, aC, aD, aE, aS, aY]; (repeat' split) <;> (try (intro h; cases h; done)))
  all_goals (intro h; revert h; first | (simp; done) | (cases Nat.beq l1 0 <;> simp; done) | (generalize Nat.ble _ _ = zz; cases zz <;> simp))
end THROWS
