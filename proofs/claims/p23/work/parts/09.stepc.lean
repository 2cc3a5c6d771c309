/-! ===== classes ===== -/
theorem ui_0 : ∀ w ∈ u_ws (clsT.getD 0 "") (TX 0) (fnum 0), w ∈ lw_good := by
  have h : (u_ws (clsT.getD 0 "") (TX 0) (fnum 0)) = [135, 137, 139, 141, 143, 145, 147].filterMap (fun i => lw_tbl[i]?) ∧ (u_ws (clsT.getD 0 "") (TX 0) (fnum 0)).all goodWord = true := by decide +kernel
  intro w hw
  have h2 := List.all_eq_true.mp h.2 w hw
  rw [h.1] at hw
  obtain ⟨i, -, hi⟩ := List.mem_filterMap.mp hw
  exact in_good hi h2
theorem ui_1 : ∀ w ∈ u_ws (clsT.getD 1 "") (TX 1) (fnum 1), w ∈ lw_good := by
  have h : (u_ws (clsT.getD 1 "") (TX 1) (fnum 1)) = [74, 76, 78, 80, 82].filterMap (fun i => lw_tbl[i]?) ∧ (u_ws (clsT.getD 1 "") (TX 1) (fnum 1)).all goodWord = true := by decide +kernel
  intro w hw
  have h2 := List.all_eq_true.mp h.2 w hw
  rw [h.1] at hw
  obtain ⟨i, -, hi⟩ := List.mem_filterMap.mp hw
  exact in_good hi h2
theorem ui_2 : ∀ w ∈ u_ws (clsT.getD 2 "") (TX 2) (fnum 2), w ∈ lw_good := by
  have h : (u_ws (clsT.getD 2 "") (TX 2) (fnum 2)) = [99, 101, 103, 105, 107, 109, 111].filterMap (fun i => lw_tbl[i]?) ∧ (u_ws (clsT.getD 2 "") (TX 2) (fnum 2)).all goodWord = true := by decide +kernel
  intro w hw
  have h2 := List.all_eq_true.mp h.2 w hw
  rw [h.1] at hw
  obtain ⟨i, -, hi⟩ := List.mem_filterMap.mp hw
  exact in_good hi h2
theorem ui_3 : ∀ w ∈ u_ws (clsT.getD 3 "") (TX 3) (fnum 3), w ∈ lw_good := by
  have h : (u_ws (clsT.getD 3 "") (TX 3) (fnum 3)) = [195, 197, 199, 201, 203].filterMap (fun i => lw_tbl[i]?) ∧ (u_ws (clsT.getD 3 "") (TX 3) (fnum 3)).all goodWord = true := by decide +kernel
  intro w hw
  have h2 := List.all_eq_true.mp h.2 w hw
  rw [h.1] at hw
  obtain ⟨i, -, hi⟩ := List.mem_filterMap.mp hw
  exact in_good hi h2
theorem ui_4 : ∀ w ∈ u_ws (clsT.getD 4 "") (TX 4) (fnum 4), w ∈ lw_good := by
  have h : (u_ws (clsT.getD 4 "") (TX 4) (fnum 4)) = [329, 331, 333].filterMap (fun i => lw_tbl[i]?) ∧ (u_ws (clsT.getD 4 "") (TX 4) (fnum 4)).all goodWord = true := by decide +kernel
  intro w hw
  have h2 := List.all_eq_true.mp h.2 w hw
  rw [h.1] at hw
  obtain ⟨i, -, hi⟩ := List.mem_filterMap.mp hw
  exact in_good hi h2
theorem ui_5 : ∀ w ∈ u_ws (clsT.getD 5 "") (TX 5) (fnum 5), w ∈ lw_good := by
  have h : (u_ws (clsT.getD 5 "") (TX 5) (fnum 5)) = [166, 168, 170, 172, 174, 176, 178, 180].filterMap (fun i => lw_tbl[i]?) ∧ (u_ws (clsT.getD 5 "") (TX 5) (fnum 5)).all goodWord = true := by decide +kernel
  intro w hw
  have h2 := List.all_eq_true.mp h.2 w hw
  rw [h.1] at hw
  obtain ⟨i, -, hi⟩ := List.mem_filterMap.mp hw
  exact in_good hi h2
theorem ui_6 : ∀ w ∈ u_ws (clsT.getD 6 "") (TX 6) (fnum 6), w ∈ lw_good := by
  have h : (u_ws (clsT.getD 6 "") (TX 6) (fnum 6)) = [293, 295, 297, 299, 301, 303, 305, 307, 309, 311, 313, 315, 317].filterMap (fun i => lw_tbl[i]?) ∧ (u_ws (clsT.getD 6 "") (TX 6) (fnum 6)).all goodWord = true := by decide +kernel
  intro w hw
  have h2 := List.all_eq_true.mp h.2 w hw
  rw [h.1] at hw
  obtain ⟨i, -, hi⟩ := List.mem_filterMap.mp hw
  exact in_good hi h2
theorem ui_7 : ∀ w ∈ u_ws (clsT.getD 7 "") (TX 7) (fnum 7), w ∈ lw_good := by
  have h : (u_ws (clsT.getD 7 "") (TX 7) (fnum 7)) = [245, 247, 249, 251, 253, 255, 257, 259, 261, 263, 265, 267].filterMap (fun i => lw_tbl[i]?) ∧ (u_ws (clsT.getD 7 "") (TX 7) (fnum 7)).all goodWord = true := by decide +kernel
  intro w hw
  have h2 := List.all_eq_true.mp h.2 w hw
  rw [h.1] at hw
  obtain ⟨i, -, hi⟩ := List.mem_filterMap.mp hw
  exact in_good hi h2
theorem ui_8 : ∀ w ∈ u_ws (clsT.getD 8 "") (TX 8) (fnum 8), w ∈ lw_good := by
  have h : (u_ws (clsT.getD 8 "") (TX 8) (fnum 8)) = [341, 343, 345, 347].filterMap (fun i => lw_tbl[i]?) ∧ (u_ws (clsT.getD 8 "") (TX 8) (fnum 8)).all goodWord = true := by decide +kernel
  intro w hw
  have h2 := List.all_eq_true.mp h.2 w hw
  rw [h.1] at hw
  obtain ⟨i, -, hi⟩ := List.mem_filterMap.mp hw
  exact in_good hi h2
theorem ui_9 : ∀ w ∈ u_ws (clsT.getD 9 "") (TX 9) (fnum 9), w ∈ lw_good := by
  have h : (u_ws (clsT.getD 9 "") (TX 9) (fnum 9)) = [835, 837, 839, 841, 843, 845, 847, 849, 851, 853, 855, 857, 859, 861, 863, 865, 867, 869].filterMap (fun i => lw_tbl[i]?) ∧ (u_ws (clsT.getD 9 "") (TX 9) (fnum 9)).all goodWord = true := by decide +kernel
  intro w hw
  have h2 := List.all_eq_true.mp h.2 w hw
  rw [h.1] at hw
  obtain ⟨i, -, hi⟩ := List.mem_filterMap.mp hw
  exact in_good hi h2
theorem cls_ok : ∀ ci, ci < 10 → mCl[ci]? = some (clsT.getD ci "", TX ci, fnum ci) ∧ (∀ w ∈ u_ws (clsT.getD ci "") (TX ci) (fnum ci), w ∈ lw_good) ∧ (∀ k, k < fnum ci → parseFieldDescriptor (TX ci k).2.2.1 = some (tyX ci k)) ∧ (∀ a, a < fnum ci → ∀ b, b < fnum ci → a ≠ b → (TX ci a).2.1 ≠ (TX ci b).2.1)
  | 0, _ => ⟨rfl, ui_0, tyX0_ok, nmX0⟩
  | 1, _ => ⟨rfl, ui_1, tyX1_ok, nmX1⟩
  | 2, _ => ⟨rfl, ui_2, tyX2_ok, nmX2⟩
  | 3, _ => ⟨rfl, ui_3, tyX3_ok, nmX3⟩
  | 4, _ => ⟨rfl, ui_4, tyX4_ok, nmX4⟩
  | 5, _ => ⟨rfl, ui_5, tyX5_ok, nmX5⟩
  | 6, _ => ⟨rfl, ui_6, tyX6_ok, nmX6⟩
  | 7, _ => ⟨rfl, ui_7, tyX7_ok, nmX7⟩
  | 8, _ => ⟨rfl, ui_8, tyX8_ok, nmX8⟩
  | 9, _ => ⟨rfl, ui_9, tyX9_ok, nmX9⟩
  | n + 10, h => absurd h (by omega)
theorem def_ok : ∀ ci, ci < 10 → ∀ j, j < fnum ci → defaultValue (tyX ci j) = (bif Nat.beq (fkd ci j) 0 then .int 0 else bif Nat.beq (fkd ci j) 1 then .long 0 else .null)
  | 0, _ => by decide +kernel
  | 1, _ => by decide +kernel
  | 2, _ => by decide +kernel
  | 3, _ => by decide +kernel
  | 4, _ => by decide +kernel
  | 5, _ => by decide +kernel
  | 6, _ => by decide +kernel
  | 7, _ => by decide +kernel
  | 8, _ => by decide +kernel
  | 9, _ => by decide +kernel
  | n + 10, h => absurd h (by omega)
theorem ref_ok : ∀ ci, ci < 10 → ∀ j, j < fnum ci → Nat.beq (fkd ci j) 2 = true → (match tyX ci j with | .object _ => true | .array _ => true | _ => false) = true
  | 0, _ => by decide +kernel
  | 1, _ => by decide +kernel
  | 2, _ => by decide +kernel
  | 3, _ => by decide +kernel
  | 4, _ => by decide +kernel
  | 5, _ => by decide +kernel
  | 6, _ => by decide +kernel
  | 7, _ => by decide +kernel
  | 8, _ => by decide +kernel
  | 9, _ => by decide +kernel
  | n + 10, h => absurd h (by omega)
theorem fl_use {o idx ci j : Nat} (h : flAny o idx ci j = true) : Cond.fieldLink (clsT.getD o "") idx (TX ci j).1 (TX ci j).2.1 (TX ci j).2.2.1 ∈ lw_good ∧ ci < 10 ∧ j < fnum ci := by
  obtain ⟨q, hq, h2⟩ := List.any_eq_true.mp h
  simp only [Bool.and_eq_true] at h2
  have e1 := Nat.eq_of_beq_eq_true h2.1.1.1
  have e2 := Nat.eq_of_beq_eq_true h2.1.1.2
  have e3 := Nat.eq_of_beq_eq_true h2.1.2
  have e4 := Nat.eq_of_beq_eq_true h2.2
  have h3 := List.all_eq_true.mp flT_ok q hq
  unfold flOk at h3
  rw [e1, e2, e3, e4] at h3
  simp only [Bool.and_eq_true, decide_eq_true_eq, Nat.blt_eq] at h3
  refine ⟨?_, h3.1.2, h3.1.1.2⟩
  rw [h3.2]
  exact in_good h3.1.1.1 rfl
theorem inb_in {i : Int32} {n : Nat} (h : inb i n = true) : vp_in i n := by
  unfold inb at h
  simp only [Bool.and_eq_true, Bool.not_eq_true', decide_eq_false_iff_not, decide_eq_true_eq] at h
  rintro (h1 | h1)
  · exact h.1 h1
  · omega
abbrev tysA (cA : Nat → ClassId) : List (ClassId × FieldType) := [(cA 20, .int), (cA 21, .long), (cA 22, .array .long), (cA 23, .object "CoastRadar$Track"), (cA 24, .array .int)]
theorem beq_t {a b : Nat} (h : Nat.beq a b = true) : a = b := Nat.eq_of_beq_eq_true h
section STEPC
variable {p : Program} {l : Launch} {e : Env} {R : Room} {s : State} {m : MethodId} {args : Array Value} {below : List Frame} {meth : Method} {c : Code} {H : Heap} {locs : List Loc} {cells slots : Nat} {Q : State → Prop} {k pc : Nat} {mls : mLo} {st : mSt} {μ : mMu} {ρ : Nat → Nat} {b : Nat} {rls : Array Slot} {D : va_G} {cA : Nat → ClassId} {A : Nat → Prop}
/-- an element of a row of references -/
theorem ld_ref {cc : ByteArray} (hx : p.tables.exec = Jvm.exec) (hb : c.code = cc) (hK : va_K D mCl (tysA cA) s) (hP : va_P D mCl (wS ρ cA μ) H) {a t : Nat} (ha : a < mN μ) (ht : (mS μ a).1 = t) (h2 : t = 23 ∨ t = 24) {i : Int32} (hin : vp_in i (mS μ a).2) {rest : List Value} (hdg : decode cc pc = .ok (.aaload, 1))
    (kk : W p l e R s m args below meth c H locs cells slots Q (F0 m (pc + 1) rls (va_rf ((mR μ a i.toNatClampNeg).map ρ) :: rest))) : W p l e R s m args below meth c H locs cells slots Q (F0 m pc rls (.int i :: .ref (ρ a) :: rest)) := by
  have he := wS_get (ρ := ρ) (cA := cA) ha
  rw [eE_23 ht (Or.inr h2)] at he
  have hlt : i.toNatClampNeg < (mS μ a).2 := Nat.not_le.mp fun q => hin (Or.inr q)
  rcases h2 with rfl | rfl
  · exact va_aldq hx hb hK hP a 3 he rfl hin hdg kk
  · exact W.aald (v := va_rf ((mR μ a i.toNatClampNeg).map ρ)) (ty := .array .int) hx hb (hP a _ he) ((hK.2 4 _ rfl).1 (mS μ a).2 (fun j => va_rf ((mR μ a j).map ρ))) rfl (fun q => by cases q) (by show ¬ (i < 0 ∨ (arrV _ _ _).slots.size ≤ _); rw [arrV_size]; exact hin) (by show (arrV _ _ _).slots[_]? = _; rw [arrV_read _ _ hlt]) rfl rfl hdg kk
set_option maxHeartbeats 4000000 in
set_option maxRecDepth 20000 in
theorem step_CI (hx : p.tables.exec = Jvm.exec) (hb : c.code = mBy k) (hown : s.vm.findClass (mOw k) = some m.cls) (hts : ∀ w ∈ lw_good, w.before args s = true) (hK : va_K D mCl (tysA cA) s) (hP : va_P D mCl (wS ρ cA μ) H) (hSS : va_S A s.heap H locs) (hX : va_X b (mX μ).1 (mX μ).2 s s.heap) (hbl : b < s.heap.size) (hbA : ¬ A b) {ent : mEnt} (he : eok k pc ent = true) {v : Int32} {st' : mSt} (h : act pc ent mls st μ = some (.inr (.inr (.inl (.inl (some v), st'))))) (hS : okS (mN μ) st)
    (kk : okS (mN μ) st' → W p l e R s m args below meth c H locs cells slots Q (F0 m (pc + ent.2.1) rls (.int v :: st'.map (eV ρ b)))) : W p l e R s m args below meth c H locs cells slots Q (F0 m pc rls (st.map (eV ρ b))) := by
  obtain ⟨i, len, l1, l2, l3, l4⟩ := ent
  cases i
  case idiv =>
    simp only [eok, Bool.and_eq_true, decide_eq_true_eq] at he
    obtain ⟨hd, hl⟩ := he
    have hl := Nat.eq_of_beq_eq_true hl
    subst hl
    simp only [act] at h
    split at h
    case h_1 y x r =>
      simp only [aC, qI, Option.some.injEq, Sum.inr.injEq, Sum.inl.injEq, Prod.mk.injEq] at h
      obtain ⟨hv, rfl⟩ := h
      by_cases hy : y = 0
      · simp [hy] at hv
      · simp [hy] at hv
        subst hv
        exact lv_idiv hx hb hd hy (kk hS.tl.tl)
    case h_2 => cases h
  case irem =>
    simp only [eok, Bool.and_eq_true, decide_eq_true_eq] at he
    obtain ⟨hd, hl⟩ := he
    have hl := Nat.eq_of_beq_eq_true hl
    subst hl
    simp only [act] at h
    split at h
    case h_1 y x r =>
      simp only [aC, qI, Option.some.injEq, Sum.inr.injEq, Sum.inl.injEq, Prod.mk.injEq] at h
      obtain ⟨hv, rfl⟩ := h
      by_cases hy : y = 0
      · simp [hy] at hv
      · simp [hy] at hv
        subst hv
        exact lv_irem hx hb hd hy (kk hS.tl.tl)
    case h_2 => cases h
  case arraylength =>
    simp only [eok, Bool.and_eq_true, decide_eq_true_eq] at he
    obtain ⟨hd, hl⟩ := he
    have hl := Nat.eq_of_beq_eq_true hl
    subst hl
    simp only [act] at h
    split at h
    case h_1 a r =>
      simp only [aC, qI, Option.some.injEq, Sum.inr.injEq, Sum.inl.injEq, Prod.mk.injEq] at h
      obtain ⟨hv, rfl⟩ := h
      unfold aln at hv
      cases hc : Nat.ble 20 (mS μ a).1 && Nat.ble (mS μ a).1 24 with
      | false => rw [hc] at hv; cases hv
      | true =>
        rw [hc] at hv
        simp only [cond_true, Option.some.injEq] at hv
        simp only [Bool.and_eq_true] at hc
        have h1 := Nat.le_of_ble_eq_true hc.1
        have h2 := Nat.le_of_ble_eq_true hc.2
        have ha : a < mN μ := hS _ List.mem_cons_self a rfl
        have hg := wS_get (ρ := ρ) (cA := cA) ha
        rw [eE_arr (by omega)] at hg
        have hcs : (mS μ a).1 = 20 ∨ (mS μ a).1 = 21 ∨ (mS μ a).1 = 22 ∨ (mS μ a).1 = 23 ∨ (mS μ a).1 = 24 := by omega
        rcases hcs with hq | hq | hq | hq | hq <;> rw [hq] at hg
        · exact va_alen hx hb hK hP a 0 hg rfl hv hd (kk hS.tl)
        · exact va_alen hx hb hK hP a 1 hg rfl hv hd (kk hS.tl)
        · exact va_alen hx hb hK hP a 2 hg rfl hv hd (kk hS.tl)
        · exact va_alen hx hb hK hP a 3 hg rfl hv hd (kk hS.tl)
        · exact va_alen hx hb hK hP a 4 hg rfl hv hd (kk hS.tl)
    case h_2 z r =>
      simp only [aC, qI, Option.some.injEq, Sum.inr.injEq, Sum.inl.injEq, Prod.mk.injEq] at h
      obtain ⟨hv, rfl⟩ := h
      subst hv
      exact va_slen hx hb hX hbl hbA hSS hd (kk hS.tl)
    case h_3 => cases h
  case iaload =>
    simp only [eok, Bool.and_eq_true, decide_eq_true_eq] at he
    obtain ⟨hd, hl⟩ := he
    have hl := Nat.eq_of_beq_eq_true hl
    subst hl
    simp only [act] at h
    split at h
    case h_1 j a r =>
      simp only [aC, qI, Option.some.injEq, Sum.inr.injEq, Sum.inl.injEq, Prod.mk.injEq] at h
      obtain ⟨hv, rfl⟩ := h
      unfold ldI at hv
      cases hc : Nat.beq (mS μ a).1 20 && inb j (mS μ a).2 with
      | false => rw [hc] at hv; cases hv
      | true =>
        rw [hc] at hv
        simp only [cond_true, Option.some.injEq] at hv
        subst hv
        simp only [Bool.and_eq_true] at hc
        have ha : a < mN μ := hS _ (List.mem_cons_of_mem _ List.mem_cons_self) a rfl
        have hg := wS_get (ρ := ρ) (cA := cA) ha
        rw [eE_20 (beq_t hc.1)] at hg
        exact va_iald hx hb hK hP a 0 hg rfl (inb_in hc.2) hd (kk hS.tl.tl)
    case h_2 j z r =>
      simp only [aC, qI, Option.some.injEq, Sum.inr.injEq, Sum.inl.injEq, Prod.mk.injEq] at h
      obtain ⟨hv, rfl⟩ := h
      unfold ldX at hv
      cases hc : inb j (mX μ).1 with
      | false => rw [hc] at hv; cases hv
      | true =>
        rw [hc] at hv
        simp only [cond_true, Option.some.injEq] at hv
        subst hv
        exact va_sld hx hb hX hbl hbA hSS (inb_in hc) hd (kk hS.tl.tl)
    case h_3 => cases h
  case getfield idx =>
    simp only [act] at h
    split at h
    case h_1 a r =>
      split at h
      case h_1 => simp [aC, qI, qL] at h
      case h_2 => simp [aC, qI, qR] at h
      case h_3 => simp [aC, qI, qN] at h
      case h_4 n1 n2 n3 =>
        simp only [eok, Bool.and_eq_true, decide_eq_true_eq] at he
        obtain ⟨hd, ⟨hl, hf⟩, hk⟩ := he
        have hl := Nat.eq_of_beq_eq_true hl
        subst hl
        simp only [aC, qI, Option.some.injEq, Sum.inr.injEq, Sum.inl.injEq, Prod.mk.injEq] at h
        obtain ⟨hv, rfl⟩ := h
        unfold gfI at hv
        cases hc : Nat.beq (mS μ a).1 l1 with
        | false => rw [hc] at hv; cases hv
        | true =>
          rw [hc] at hv
          simp only [cond_true] at hv
          have ha : a < mN μ := hS _ List.mem_cons_self a rfl
          obtain ⟨f1, f2, f3⟩ := fl_use hf
          obtain ⟨c1, c2, c3, c4⟩ := cls_ok l1 f2
          have hg := wS_get (ρ := ρ) (cA := cA) ha
          rw [eE_obj (beq_t hc) (by omega)] at hg
          have hfg := eFs_get (ρ := ρ) (μ := μ) (a := a) f3
          have hkd := beq_t hk
          unfold eF at hfg
          rw [hkd] at hfg
          simp only [show Nat.beq 0 0 = true from rfl, cond_true] at hfg
          simp only [Option.some.injEq] at hv
          subst hv
          exact va_get hx hb hts c2 hown hK hP a hg c1 l2 f3 (hts _ f1) (fun x hx => hx) hfg hd (kk hS.tl)
    case h_2 => cases h
  all_goals (exfalso; revert h; simp only [act, Bool.cond_eq_ite, aA, aB, aC, aD, aE, aS, aY, aT, qI, qL, qD, qR, qN]; (repeat' split) <;> (try (intro h; cases h; done)))
  all_goals (intro h; revert h; first | (simp; done) | (cases Nat.beq l1 0 <;> simp; done) | (generalize Nat.ble _ _ = zz; cases zz <;> simp))
set_option maxHeartbeats 4000000 in
set_option maxRecDepth 20000 in
theorem step_CL (hx : p.tables.exec = Jvm.exec) (hb : c.code = mBy k) (hown : s.vm.findClass (mOw k) = some m.cls) (hts : ∀ w ∈ lw_good, w.before args s = true) (hK : va_K D mCl (tysA cA) s) (hP : va_P D mCl (wS ρ cA μ) H) (hSS : va_S A s.heap H locs) (hX : va_X b (mX μ).1 (mX μ).2 s s.heap) (hbl : b < s.heap.size) (hbA : ¬ A b) {ent : mEnt} (he : eok k pc ent = true) {v : Int64} {st' : mSt} (h : act pc ent mls st μ = some (.inr (.inr (.inl (.inr (.inl (some v)), st'))))) (hS : okS (mN μ) st)
    (kk : okS (mN μ) st' → W p l e R s m args below meth c H locs cells slots Q (F0 m (pc + ent.2.1) rls (.long v :: st'.map (eV ρ b)))) : W p l e R s m args below meth c H locs cells slots Q (F0 m pc rls (st.map (eV ρ b))) := by
  obtain ⟨i, len, l1, l2, l3, l4⟩ := ent
  cases i
  case ldiv =>
    simp only [eok, Bool.and_eq_true, decide_eq_true_eq] at he
    obtain ⟨hd, hl⟩ := he
    have hl := Nat.eq_of_beq_eq_true hl
    subst hl
    simp only [act] at h
    split at h
    case h_1 y x r =>
      simp only [aC, qL, Option.some.injEq, Sum.inr.injEq, Sum.inl.injEq, Prod.mk.injEq] at h
      obtain ⟨hv, rfl⟩ := h
      by_cases hy : y = 0
      · simp [hy] at hv
      · simp [hy] at hv
        subst hv
        exact lv_ldiv hx hb hd hy (kk hS.tl.tl)
    case h_2 => cases h
  case laload =>
    simp only [eok, Bool.and_eq_true, decide_eq_true_eq] at he
    obtain ⟨hd, hl⟩ := he
    have hl := Nat.eq_of_beq_eq_true hl
    subst hl
    simp only [act] at h
    split at h
    case h_1 j a r =>
      simp only [aC, qL, Option.some.injEq, Sum.inr.injEq, Sum.inl.injEq, Prod.mk.injEq] at h
      obtain ⟨hv, rfl⟩ := h
      unfold ldL at hv
      cases hc : Nat.beq (mS μ a).1 21 && inb j (mS μ a).2 with
      | false => rw [hc] at hv; cases hv
      | true =>
        rw [hc] at hv
        simp only [cond_true, Option.some.injEq] at hv
        subst hv
        simp only [Bool.and_eq_true] at hc
        have ha : a < mN μ := hS _ (List.mem_cons_of_mem _ List.mem_cons_self) a rfl
        have hg := wS_get (ρ := ρ) (cA := cA) ha
        rw [eE_21 (beq_t hc.1)] at hg
        exact va_lald hx hb hK hP a 1 hg rfl (inb_in hc.2) hd (kk hS.tl.tl)
    case h_2 => cases h
  case getfield idx =>
    simp only [act] at h
    split at h
    case h_1 a r =>
      split at h
      case h_1 =>
        simp only [eok, Bool.and_eq_true, decide_eq_true_eq] at he
        obtain ⟨hd, ⟨hl, hf⟩, hk⟩ := he
        have hl := Nat.eq_of_beq_eq_true hl
        subst hl
        simp only [aC, qL, Option.some.injEq, Sum.inr.injEq, Sum.inl.injEq, Prod.mk.injEq] at h
        obtain ⟨hv, rfl⟩ := h
        unfold gfL at hv
        cases hc : Nat.beq (mS μ a).1 l1 with
        | false => rw [hc] at hv; cases hv
        | true =>
          rw [hc] at hv
          simp only [cond_true] at hv
          have ha : a < mN μ := hS _ List.mem_cons_self a rfl
          obtain ⟨f1, f2, f3⟩ := fl_use hf
          obtain ⟨c1, c2, c3, c4⟩ := cls_ok l1 f2
          have hg := wS_get (ρ := ρ) (cA := cA) ha
          rw [eE_obj (beq_t hc) (by omega)] at hg
          have hfg := eFs_get (ρ := ρ) (μ := μ) (a := a) f3
          have hkd := beq_t hk
          unfold eF at hfg
          rw [hkd] at hfg
          simp only [show Nat.beq 1 0 = false from rfl, show Nat.beq 1 1 = true from rfl, cond_true, cond_false] at hfg
          simp only [Option.some.injEq] at hv
          subst hv
          exact va_get hx hb hts c2 hown hK hP a hg c1 l2 f3 (hts _ f1) (fun x hx => hx) hfg hd (kk hS.tl)
      case h_2 => simp [aC, qL, qR] at h
      case h_3 => simp [aC, qL, qN] at h
      case h_4 => simp [aC, qL, qI] at h
    case h_2 => cases h
  all_goals (exfalso; revert h; simp only [act, Bool.cond_eq_ite, aA, aB, aC, aD, aE, aS, aY, aT, qI, qL, qD, qR, qN]; (repeat' split) <;> (try (intro h; cases h; done)))
  all_goals (intro h; revert h; first | (simp; done) | (cases Nat.beq l1 0 <;> simp; done) | (generalize Nat.ble _ _ = zz; cases zz <;> simp))
set_option maxHeartbeats 4000000 in
set_option maxRecDepth 20000 in
theorem step_CD (hx : p.tables.exec = Jvm.exec) (hb : c.code = mBy k) (hown : s.vm.findClass (mOw k) = some m.cls) (hts : ∀ w ∈ lw_good, w.before args s = true) (hK : va_K D mCl (tysA cA) s) (hP : va_P D mCl (wS ρ cA μ) H) (hSS : va_S A s.heap H locs) (hX : va_X b (mX μ).1 (mX μ).2 s s.heap) (hbl : b < s.heap.size) (hbA : ¬ A b) {ent : mEnt} (he : eok k pc ent = true) {v : UInt64} {st' : mSt} (h : act pc ent mls st μ = some (.inr (.inr (.inl (.inr (.inr (.inl (some v))), st'))))) (hS : okS (mN μ) st)
    (kk : okS (mN μ) st' → W p l e R s m args below meth c H locs cells slots Q (F0 m (pc + ent.2.1) rls (.double v :: st'.map (eV ρ b)))) : W p l e R s m args below meth c H locs cells slots Q (F0 m pc rls (st.map (eV ρ b))) := by
  obtain ⟨i, len, l1, l2, l3, l4⟩ := ent
  cases i
  case ddiv =>
    simp only [eok, Bool.and_eq_true, decide_eq_true_eq] at he
    obtain ⟨hd, hl⟩ := he
    have hl := Nat.eq_of_beq_eq_true hl
    subst hl
    simp only [act] at h
    split at h
    case h_1 y x r =>
      simp only [aC, qD, Option.some.injEq, Sum.inr.injEq, Sum.inl.injEq, Prod.mk.injEq] at h
      obtain ⟨hv, rfl⟩ := h
      by_cases hy : FP.ddiv x y &&& 0x7fffffffffffffff ≤ 0x7ff0000000000000
      · simp only [hy, decide_true, cond_true, Option.some.injEq] at hv
        subst hv
        exact lv_ddiv hx hb hd hy (kk hS.tl.tl)
      · simp [hy] at hv
    case h_2 => cases h
  all_goals (exfalso; revert h; simp only [act, Bool.cond_eq_ite, aA, aB, aC, aD, aE, aS, aY, aT, qI, qL, qD, qR, qN]; (repeat' split) <;> (try (intro h; cases h; done)))
  all_goals (intro h; revert h; first | (simp; done) | (cases Nat.beq l1 0 <;> simp; done) | (generalize Nat.ble _ _ = zz; cases zz <;> simp))
set_option maxHeartbeats 4000000 in
set_option maxRecDepth 20000 in
theorem step_CR (hx : p.tables.exec = Jvm.exec) (hb : c.code = mBy k) (hown : s.vm.findClass (mOw k) = some m.cls) (hts : ∀ w ∈ lw_good, w.before args s = true) (hK : va_K D mCl (tysA cA) s) (hP : va_P D mCl (wS ρ cA μ) H) (hSS : va_S A s.heap H locs) (hX : va_X b (mX μ).1 (mX μ).2 s s.heap) (hbl : b < s.heap.size) (hbA : ¬ A b) {ent : mEnt} (he : eok k pc ent = true) {v : Nat} {st' : mSt} (h : act pc ent mls st μ = some (.inr (.inr (.inl (.inr (.inr (.inr (.inl (some v)))), st'))))) (hS : okS (mN μ) st) (hcl : clo μ)
    (kk : okS (mN μ) st' → clo μ → v < mN μ → W p l e R s m args below meth c H locs cells slots Q (F0 m (pc + ent.2.1) rls (.ref (ρ v) :: st'.map (eV ρ b)))) : W p l e R s m args below meth c H locs cells slots Q (F0 m pc rls (st.map (eV ρ b))) := by
  obtain ⟨i, len, l1, l2, l3, l4⟩ := ent
  cases i
  case aaload =>
    simp only [eok, Bool.and_eq_true, decide_eq_true_eq] at he
    obtain ⟨hd, hl⟩ := he
    have hl := Nat.eq_of_beq_eq_true hl
    subst hl
    simp only [act] at h
    split at h
    case h_1 j a r =>
      simp only [aC, qR, Option.some.injEq, Sum.inr.injEq, Sum.inl.injEq, Prod.mk.injEq] at h
      obtain ⟨hv, rfl⟩ := h
      unfold ldR at hv
      cases hc : (Nat.beq (mS μ a).1 23 || Nat.beq (mS μ a).1 24) && inb j (mS μ a).2 with
      | false => rw [hc] at hv; cases hv
      | true =>
        rw [hc] at hv
        simp only [cond_true] at hv
        simp only [Bool.and_eq_true, Bool.or_eq_true] at hc
        have ha : a < mN μ := hS _ (List.mem_cons_of_mem _ List.mem_cons_self) a rfl
        have h2 : (mS μ a).1 = 23 ∨ (mS μ a).1 = 24 := hc.1.elim (fun z => Or.inl (beq_t z)) (fun z => Or.inr (beq_t z))
        refine ld_ref hx hb hK hP ha rfl h2 (inb_in hc.2) hd ?_
        rw [show mR μ a j.toNatClampNeg = some v from hv]
        exact kk hS.tl.tl hcl (hcl a _ v ha hv)
    case h_2 => cases h
  case getfield idx =>
    simp only [act] at h
    split at h
    case h_1 a r =>
      split at h
      case h_1 => simp [aC, qR, qL] at h
      case h_2 =>
        simp only [eok, Bool.and_eq_true, decide_eq_true_eq] at he
        obtain ⟨hd, ⟨hl, hf⟩, hk⟩ := he
        have hl := Nat.eq_of_beq_eq_true hl
        subst hl
        simp only [aC, qR, Option.some.injEq, Sum.inr.injEq, Sum.inl.injEq, Prod.mk.injEq] at h
        obtain ⟨hv, rfl⟩ := h
        unfold gfR at hv
        cases hc : Nat.beq (mS μ a).1 l1 with
        | false => rw [hc] at hv; cases hv
        | true =>
          rw [hc] at hv
          simp only [cond_true] at hv
          have ha : a < mN μ := hS _ List.mem_cons_self a rfl
          obtain ⟨f1, f2, f3⟩ := fl_use hf
          obtain ⟨c1, c2, c3, c4⟩ := cls_ok l1 f2
          have hg := wS_get (ρ := ρ) (cA := cA) ha
          rw [eE_obj (beq_t hc) (by omega)] at hg
          have hfg := eFs_get (ρ := ρ) (μ := μ) (a := a) f3
          have hkd := beq_t hk
          unfold eF at hfg
          rw [hkd] at hfg
          simp only [show Nat.beq 2 0 = false from rfl, show Nat.beq 2 1 = false from rfl, cond_false, hv] at hfg
          exact va_get hx hb hts c2 hown hK hP a hg c1 l2 f3 (hts _ f1) (fun x hx => hx) hfg hd (kk hS.tl hcl (hcl a _ v ha hv))
      case h_3 => simp [aC, qR, qN] at h
      case h_4 => simp [aC, qR, qI] at h
    case h_2 => cases h
  all_goals (exfalso; revert h; simp only [act, Bool.cond_eq_ite, aA, aB, aC, aD, aE, aS, aY, aT, qI, qL, qD, qR, qN]; (repeat' split) <;> (try (intro h; cases h; done)))
  all_goals (intro h; revert h; first | (simp; done) | (cases Nat.beq l1 0 <;> simp; done) | (generalize Nat.ble _ _ = zz; cases zz <;> simp))
set_option maxHeartbeats 4000000 in
set_option maxRecDepth 20000 in
theorem step_CN (hx : p.tables.exec = Jvm.exec) (hb : c.code = mBy k) (hown : s.vm.findClass (mOw k) = some m.cls) (hts : ∀ w ∈ lw_good, w.before args s = true) (hK : va_K D mCl (tysA cA) s) (hP : va_P D mCl (wS ρ cA μ) H) (hSS : va_S A s.heap H locs) (hX : va_X b (mX μ).1 (mX μ).2 s s.heap) (hbl : b < s.heap.size) (hbA : ¬ A b) {ent : mEnt} (he : eok k pc ent = true) {v : Option Nat} {st' : mSt} (h : act pc ent mls st μ = some (.inr (.inr (.inl (.inr (.inr (.inr (.inr (some v)))), st'))))) (hS : okS (mN μ) st) (hcl : clo μ)
    (kk : okS (mN μ) st' → (∀ r, v = some r → r < mN μ) → W p l e R s m args below meth c H locs cells slots Q (F0 m (pc + ent.2.1) rls (va_rf (v.map ρ) :: st'.map (eV ρ b)))) : W p l e R s m args below meth c H locs cells slots Q (F0 m pc rls (st.map (eV ρ b))) := by
  obtain ⟨i, len, l1, l2, l3, l4⟩ := ent
  cases i
  case getfield idx =>
    simp only [act] at h
    split at h
    case h_1 a r =>
      split at h
      case h_1 => simp [aC, qN, qL] at h
      case h_2 => simp [aC, qN, qR] at h
      case h_3 =>
        simp only [eok, Bool.and_eq_true, decide_eq_true_eq] at he
        obtain ⟨hd, ⟨hl, hf⟩, hk⟩ := he
        have hl := Nat.eq_of_beq_eq_true hl
        subst hl
        simp only [aC, qN, Option.some.injEq, Sum.inr.injEq, Sum.inl.injEq, Prod.mk.injEq] at h
        obtain ⟨hv, rfl⟩ := h
        unfold gfN at hv
        cases hc : Nat.beq (mS μ a).1 l1 with
        | false => rw [hc] at hv; cases hv
        | true =>
          rw [hc] at hv
          simp only [cond_true] at hv
          have ha : a < mN μ := hS _ List.mem_cons_self a rfl
          obtain ⟨f1, f2, f3⟩ := fl_use hf
          obtain ⟨c1, c2, c3, c4⟩ := cls_ok l1 f2
          have hg := wS_get (ρ := ρ) (cA := cA) ha
          rw [eE_obj (beq_t hc) (by omega)] at hg
          have hfg := eFs_get (ρ := ρ) (μ := μ) (a := a) f3
          have hkd := beq_t hk
          unfold eF at hfg
          rw [hkd] at hfg
          simp only [Option.some.injEq] at hv
          subst hv
          simp only [show Nat.beq 2 0 = false from rfl, show Nat.beq 2 1 = false from rfl, cond_false] at hfg
          exact va_get hx hb hts c2 hown hK hP a hg c1 l2 f3 (hts _ f1) (fun x hx => hx) hfg hd (kk hS.tl (fun r hr => hcl a _ r ha hr))
      case h_4 => simp [aC, qN, qI] at h
    case h_2 => cases h
  all_goals (exfalso; revert h; simp only [act, Bool.cond_eq_ite, aA, aB, aC, aD, aE, aS, aY, aT, qI, qL, qD, qR, qN]; (repeat' split) <;> (try (intro h; cases h; done)))
  all_goals (intro h; revert h; first | (simp; done) | (cases Nat.beq l1 0 <;> simp; done) | (generalize Nat.ble _ _ = zz; cases zz <;> simp))
end STEPC
