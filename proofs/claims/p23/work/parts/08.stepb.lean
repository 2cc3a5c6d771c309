/-! ===== branches, switches, reads ===== -/
theorem tsw_sel {K : Nat → mOut} {d pc : Nat} {x : Int32} {r : (Option Value ⊕ Nat) × mMu} : ∀ (os : List Int) (j : Nat), pck K d x (tsw pc j os) = some r → (∃ i o, os[i]? = some o ∧ x = Int32.ofNat (j + i) ∧ K ((pc : Int) + o).toNat = some r) ∨ ((∀ i, i < os.length → x ≠ Int32.ofNat (j + i)) ∧ K d = some r)
  | [], _, h => Or.inr ⟨fun i hi => absurd hi (Nat.not_lt_zero _), h⟩
  | o :: os, j, h => by
    unfold tsw pck at h
    by_cases hx : x = Int32.ofNat j
    · rw [if_pos hx] at h
      exact Or.inl ⟨0, o, rfl, hx, h⟩
    · rw [if_neg hx] at h
      rcases tsw_sel os (j + 1) h with ⟨i, o', h1, h2, h3⟩ | ⟨h1, h2⟩
      · exact Or.inl ⟨i + 1, o', by simpa using h1, by rw [h2]; congr 1; omega, h3⟩
      · refine Or.inr ⟨fun i hi => ?_, h2⟩
        cases i with
        | zero => exact hx
        | succ i => have h3 := h1 i (by simp at hi; omega); rw [show j + (i + 1) = j + 1 + i by omega]; exact h3
theorem ofN_toInt {n : Nat} (h : n < 2 ^ 31) : (Int32.ofNat n).toInt = (n : Int) := nI_toInt h
theorem lsw_sel {K : Nat → mOut} {pc : Nat} {d : Int} {x : Int32} {r : (Option Value ⊕ Nat) × mMu} : ∀ (ps : List (Int × Int)), (ps.all fun q => decide (0 ≤ (pc : Int) + q.2) && decide (0 ≤ q.1) && decide (q.1 < 1000)) = true → pck K ((pc : Int) + d).toNat x (lsw pc ps) = some r → K ((pc : Int) + Op.lookupswitch.offset ps d x.toInt).toNat = some r
  | [], _, h => h
  | (a, o) :: ps, ha, h => by
    simp only [List.all_cons, Bool.and_eq_true, decide_eq_true_eq] at ha
    obtain ⟨⟨⟨h1, h2⟩, h3⟩, h4⟩ := ha
    unfold lsw pck at h
    by_cases hx : x = Int32.ofNat a.toNat
    · rw [if_pos hx] at h
      have hxa : x.toInt = a := by rw [hx, ofN_toInt (by omega)]; omega
      unfold Op.lookupswitch.offset
      rw [hxa]
      simpa using h
    · rw [if_neg hx] at h
      have hxa : ¬ a = x.toInt := fun z => hx (by rw [z]; apply Int32.toInt.inj; rw [ofN_toInt (by omega)]; omega)
      unfold Op.lookupswitch.offset
      have h5 := lsw_sel ps h4 h
      simpa [hxa] using h5
theorem lsw_pos {pc : Nat} {d x : Int} : ∀ (ps : List (Int × Int)), 0 ≤ (pc : Int) + d → (ps.all fun q => decide (0 ≤ (pc : Int) + q.2) && decide (0 ≤ q.1) && decide (q.1 < 1000)) = true → 0 ≤ (pc : Int) + Op.lookupswitch.offset ps d x
  | [], h, _ => h
  | (a, o) :: ps, h, ha => by
    simp only [List.all_cons, Bool.and_eq_true, decide_eq_true_eq] at ha
    obtain ⟨⟨⟨h1, h2⟩, h3⟩, h4⟩ := ha
    unfold Op.lookupswitch.offset
    by_cases hx : a = x
    · simpa [hx] using h1
    · have h5 := lsw_pos (x := x) ps h h4
      simpa [hx] using h5
section STEPB
variable {p : Program} {l : Launch} {e : Env} {R : Room} {s : State} {m : MethodId} {args : Array Value} {below : List Frame} {meth : Method} {c : Code} {H : Heap} {locs : List Loc} {cells slots : Nat} {Q : State → Prop} {k pc : Nat} {mls : mLo} {st : mSt} {μ : mMu} {ρ : Nat → Nat} {b : Nat} {rls : Array Slot}
set_option maxHeartbeats 4000000 in
set_option maxRecDepth 20000 in
theorem step_B (hx : p.tables.exec = Jvm.exec) (hb : c.code = mBy k) {ent : mEnt} (he : eok k pc ent = true) {cn : Bool} {t f : Nat} {st' : mSt} (h : act pc ent mls st μ = some (.inr (.inl (cn, t, f, st')))) (hS : okS (mN μ) st)
    (kt : cn = true → okS (mN μ) st' → W p l e R s m args below meth c H locs cells slots Q (F0 m t rls (st'.map (eV ρ b)))) (kf : cn = false → okS (mN μ) st' → W p l e R s m args below meth c H locs cells slots Q (F0 m f rls (st'.map (eV ρ b)))) : W p l e R s m args below meth c H locs cells slots Q (F0 m pc rls (st.map (eV ρ b))) := by
  obtain ⟨i, len, l1, l2, l3, l4⟩ := ent
  cases i
  case ifCond op off =>
    simp only [eok, Bool.and_eq_true, decide_eq_true_eq] at he
    obtain ⟨hd, hl, ht⟩ := he
    have hl := Nat.eq_of_beq_eq_true hl
    subst hl
    simp only [act] at h
    split at h
    case h_1 x r =>
      simp only [aB, Option.some.injEq, Sum.inr.injEq, Sum.inl.injEq, Prod.mk.injEq] at h
      obtain ⟨rfl, rfl, rfl, rfl⟩ := h
      cases op
      case eq => exact lv_if_eq hx hb hd ht (fun hc => kt (by simpa [icm] using hc) hS.tl) (fun hc => kf (by simpa [icm] using hc) hS.tl)
      case ne => exact lv_if_ne hx hb hd ht (fun hc => kt (by simpa [icm] using hc) hS.tl) (fun hc => kf (by simpa [icm] using hc) hS.tl)
      case lt => exact lv_if_lt hx hb hd ht (fun hc => kt (by simpa [icm] using hc) hS.tl) (fun hc => kf (by simpa [icm] using hc) hS.tl)
      case ge => exact lv_if_ge hx hb hd ht (fun hc => kt (by simpa [icm] using hc) hS.tl) (fun hc => kf (by simpa [icm] using hc) hS.tl)
      case gt => exact lv_if_gt hx hb hd ht (fun hc => kt (by simpa [icm] using hc) hS.tl) (fun hc => kf (by simpa [icm] using hc) hS.tl)
      case le => exact lv_if_le hx hb hd ht (fun hc => kt (by simpa [icm] using hc) hS.tl) (fun hc => kf (by simpa [icm] using hc) hS.tl)
    case h_2 => cases h
  case if_icmp op off =>
    simp only [eok, Bool.and_eq_true, decide_eq_true_eq] at he
    obtain ⟨hd, hl, ht⟩ := he
    have hl := Nat.eq_of_beq_eq_true hl
    subst hl
    simp only [act] at h
    split at h
    case h_1 y x r =>
      simp only [aB, Option.some.injEq, Sum.inr.injEq, Sum.inl.injEq, Prod.mk.injEq] at h
      obtain ⟨rfl, rfl, rfl, rfl⟩ := h
      cases op
      case eq => exact lv_icmp_eq hx hb hd ht (fun hc => kt (by simpa [icm] using hc) hS.tl.tl) (fun hc => kf (by simpa [icm] using hc) hS.tl.tl)
      case ne => exact lv_icmp_ne hx hb hd ht (fun hc => kt (by simpa [icm] using hc) hS.tl.tl) (fun hc => kf (by simpa [icm] using hc) hS.tl.tl)
      case lt => exact lv_icmp_lt hx hb hd ht (fun hc => kt (by simpa [icm] using hc) hS.tl.tl) (fun hc => kf (by simpa [icm] using hc) hS.tl.tl)
      case ge => exact lv_icmp_ge hx hb hd ht (fun hc => kt (by simpa [icm] using hc) hS.tl.tl) (fun hc => kf (by simpa [icm] using hc) hS.tl.tl)
      case gt => exact lv_icmp_gt hx hb hd ht (fun hc => kt (by simpa [icm] using hc) hS.tl.tl) (fun hc => kf (by simpa [icm] using hc) hS.tl.tl)
      case le => exact lv_icmp_le hx hb hd ht (fun hc => kt (by simpa [icm] using hc) hS.tl.tl) (fun hc => kf (by simpa [icm] using hc) hS.tl.tl)
    case h_2 => cases h
  all_goals (exfalso; revert h; simp only [act, Bool.cond_eq_ite, aA, aC, aD, aE, aS, aY, aT]; (repeat' split) <;> (try (intro h; cases h; done)))
  all_goals (intro h; revert h; first | (simp; done) | (cases Nat.beq l1 0 <;> simp; done) | (generalize Nat.ble _ _ = zz; cases zz <;> simp))
set_option maxHeartbeats 4000000 in
set_option maxRecDepth 20000 in
theorem step_S (hx : p.tables.exec = Jvm.exec) (hb : c.code = mBy k) {ent : mEnt} (he : eok k pc ent = true) {ts : List (Int32 × Nat)} {d : Nat} {x : Int32} {st' : mSt} (h : act pc ent mls st μ = some (.inr (.inr (.inr (.inr (.inr (.inl (ts, d, x, st')))))))) (hS : okS (mN μ) st)
    {K : Nat → mOut} {r : (Option Value ⊕ Nat) × mMu} (hp : pck K d x ts = some r) (kk : ∀ t, K t = some r → okS (mN μ) st' → W p l e R s m args below meth c H locs cells slots Q (F0 m t rls (st'.map (eV ρ b)))) : W p l e R s m args below meth c H locs cells slots Q (F0 m pc rls (st.map (eV ρ b))) := by
  obtain ⟨i, len, l1, l2, l3, l4⟩ := ent
  cases i
  case tableswitch d0 lo hi offs =>
    simp only [eok, Bool.and_eq_true, decide_eq_true_eq] at he
    obtain ⟨hd, ⟨⟨⟨h1, h2⟩, h3⟩, h4⟩, h5⟩ := he
    subst h1
    simp only [act] at h
    split at h
    case h_1 x0 r0 =>
      simp only [aS, Option.some.injEq, Sum.inr.injEq, Sum.inl.injEq, Prod.mk.injEq] at h
      obtain ⟨rfl, rfl, rfl, rfl⟩ := h
      rcases tsw_sel offs.toList 0 hp with ⟨i, o, g1, g2, g3⟩ | ⟨g1, g2⟩
      · rw [Nat.zero_add] at g2
        have hi1 : i < offs.toList.length := (List.getElem?_eq_some_iff.mp g1).1
        rw [Array.length_toList] at hi1
        have hxi : x0.toInt = (i : Int) := by rw [g2, ofN_toInt (by omega)]
        have h6 := List.all_eq_true.mp h5 o (List.mem_of_getElem? g1)
        have h7 := of_decide_eq_true h6
        refine lv_tableIn (off := o) (tgt := ((pc : Int) + o).toNat) hx hb hd (by omega) (by omega) ?_ (by omega) (kk _ g3 hS.tl)
        rw [hxi]
        simpa using g1
      · refine lv_tableOut (tgt := ((pc : Int) + d0).toNat) hx hb hd ?_ (by omega) (kk _ g2 hS.tl)
        rcases Int.lt_or_le x0.toInt 0 with hn | hn
        · exact Or.inl hn
        · right
          rcases Int.lt_or_le hi x0.toInt with hm | hm
          · exact hm
          · exfalso
            refine g1 x0.toInt.toNat (by rw [Array.length_toList]; omega) ?_
            rw [Nat.zero_add]
            apply Int32.toInt.inj
            rw [ofN_toInt (by omega)]
            omega
    case h_2 => cases h
  case lookupswitch d0 ps =>
    simp only [eok, Bool.and_eq_true, decide_eq_true_eq] at he
    obtain ⟨hd, ⟨h1, h2⟩, h3⟩ := he
    simp only [act] at h
    split at h
    case h_1 x0 r0 =>
      simp only [aS, Option.some.injEq, Sum.inr.injEq, Sum.inl.injEq, Prod.mk.injEq] at h
      obtain ⟨rfl, rfl, rfl, rfl⟩ := h
      have h3' : (ps.toList.all fun q => decide (0 ≤ (pc : Int) + q.2) && decide (0 ≤ q.1) && decide (q.1 < 1000)) = true := h3
      have h5 := lsw_pos (x := x0.toInt) ps.toList h2 h3'
      exact lv_lookup (off := Op.lookupswitch.offset ps.toList d0 x0.toInt) (tgt := ((pc : Int) + Op.lookupswitch.offset ps.toList d0 x0.toInt).toNat) hx hb hd h1 rfl (by omega) (kk _ (lsw_sel ps.toList h3' hp) hS.tl)
    case h_2 => cases h
  all_goals (exfalso; revert h; simp only [act, Bool.cond_eq_ite, aA, aB, aC, aD, aE, aY, aT]; (repeat' split) <;> (try (intro h; cases h; done)))
  all_goals (intro h; revert h; first | (simp; done) | (cases Nat.beq l1 0 <;> simp; done) | (generalize Nat.ble _ _ = zz; cases zz <;> simp))
end STEPB
