/-! ===== writes and makings ===== -/
theorem rho_same {α : Type} {f g : Nat → α} (h : ∀ y, f y = g y) : f = g := funext h
/-- what a write leaves as it was -/
theorem wS_cell {ρ : Nat → Nat} {cA : Nat → ClassId} {μ μ' : mMu} {a : Nat} (hn : mN μ' = mN μ) (hs : mS μ' = mS μ) (hi : ∀ x, x ≠ a → mI μ' x = mI μ x) (hl : ∀ x, x ≠ a → mL μ' x = mL μ x) (hd : ∀ x, x ≠ a → mD μ' x = mD μ x) (hr : ∀ x, x ≠ a → mR μ' x = mR μ x) : wS ρ cA μ' = (wS ρ cA μ).set a (ρ a, eE ρ cA μ' a) :=
  wS_upd hn fun x hx => eE_congr (by rw [hs]) (hi x hx) (hl x hx) (hd x hx) (fun j => by rw [hr x hx])
theorem wS_i {ρ : Nat → Nat} {cA : Nat → ClassId} {μ : mMu} {a j : Nat} {v : Int32} (ht : (mS μ a).1 = 20) : wS ρ cA (sI μ a j v) = (wS ρ cA μ).set a (ρ a, .inl (cA 20, (mS μ a).2, .inl (upd (mI μ a) j v))) := by
  rw [wS_cell (μ := μ) (μ' := sI μ a j v) (a := a) rfl rfl (fun x hx => by rw [mI_sI, u2_ne hx]) (fun _ _ => rfl) (fun _ _ => rfl) (fun _ _ => rfl), eE_20 (μ := sI μ a j v) ht]
  rw [show mI (sI μ a j v) a = upd (mI μ a) j v by rw [mI_sI, u2_self]; rfl]
  rfl
theorem wS_ir {ρ : Nat → Nat} {cA : Nat → ClassId} {μ : mMu} {a : Nat} {g : Nat → Int32} (ht : (mS μ a).1 = 20) : wS ρ cA (sIr μ a g) = (wS ρ cA μ).set a (ρ a, .inl (cA 20, (mS μ a).2, .inl g)) := by
  rw [wS_cell (μ := μ) (μ' := sIr μ a g) (a := a) rfl rfl (fun x hx => by rw [mI_sIr, u2r_ne hx]) (fun _ _ => rfl) (fun _ _ => rfl) (fun _ _ => rfl), eE_20 (μ := sIr μ a g) ht]
  rw [show mI (sIr μ a g) a = g by rw [mI_sIr, u2r_self]]
  rfl
theorem wS_l {ρ : Nat → Nat} {cA : Nat → ClassId} {μ : mMu} {a j : Nat} {v : Int64} (ht : (mS μ a).1 = 21) : wS ρ cA (sL μ a j v) = (wS ρ cA μ).set a (ρ a, .inl (cA 21, (mS μ a).2, .inr (.inl (vp_updL (mL μ a) j v)))) := by
  rw [wS_cell (μ := μ) (μ' := sL μ a j v) (a := a) rfl rfl (fun _ _ => rfl) (fun x hx => by rw [mL_sL, u2_ne hx]) (fun _ _ => rfl) (fun _ _ => rfl), eE_21 (μ := sL μ a j v) ht]
  rw [show mL (sL μ a j v) a = vp_updL (mL μ a) j v by rw [mL_sL, u2_self]; rfl]
  rfl
theorem wS_r {ρ : Nat → Nat} {cA : Nat → ClassId} {μ : mMu} {a j r t : Nat} (ht : (mS μ a).1 = t) (h2 : t = 23 ∨ t = 24) : wS ρ cA (sR μ a j (some r)) = (wS ρ cA μ).set a (ρ a, .inl (cA t, (mS μ a).2, .inr (.inr (.inr (.inr (va_up (fun i => (mR μ a i).map ρ) j (some (ρ r)))))))) := by
  rw [wS_cell (μ := μ) (μ' := sR μ a j (some r)) (a := a) rfl rfl (fun _ _ => rfl) (fun _ _ => rfl) (fun _ _ => rfl) (fun x hx => by rw [mR_sR, u2_ne hx]), eE_23 (μ := sR μ a j (some r)) ht (Or.inr h2)]
  have h3 : (fun i => (mR (sR μ a j (some r)) a i).map ρ) = va_up (fun i => (mR μ a i).map ρ) j (some (ρ r)) := by
    funext i
    have h4 : mR (sR μ a j (some r)) a i = if i = j then some r else mR μ a i := by rw [mR_sR, u2_self]
    rw [h4]
    unfold va_up
    by_cases hi : i = j
    · rw [if_pos hi, if_pos hi]; rfl
    · rw [if_neg hi, if_neg hi]
  rw [h3]
  rfl
theorem wS_fi {ρ : Nat → Nat} {cA : Nat → ClassId} {μ : mMu} {a j ci : Nat} {v : Int32} (ht : (mS μ a).1 = ci) (hc : ci < 20) (hk : Nat.beq (fkd ci j) 0 = true) : wS ρ cA (sI μ a j v) = (wS ρ cA μ).set a (ρ a, .inr (ci, (eFs ρ μ a ci).set j (.int v))) := by
  rw [wS_cell (μ := μ) (μ' := sI μ a j v) (a := a) rfl rfl (fun x hx => by rw [mI_sI, u2_ne hx]) (fun _ _ => rfl) (fun _ _ => rfl) (fun _ _ => rfl), eE_obj (μ := sI μ a j v) ht hc]
  rw [eFs_set (μ' := sI μ a j v) (μ := μ) (j := j) (v := .int v)]
  · unfold eF
    rw [hk]
    have h1 : mI (sI μ a j v) a j = v := by rw [mI_sI, u2_self]; simp
    rw [h1]; rfl
  · intro i hi
    unfold eF
    have h1 : mI (sI μ a j v) a i = mI μ a i := by rw [mI_sI, u2_self]; simp [hi]
    rw [h1]; rfl
theorem wS_fl {ρ : Nat → Nat} {cA : Nat → ClassId} {μ : mMu} {a j ci : Nat} {v : Int64} (ht : (mS μ a).1 = ci) (hc : ci < 20) (hk : Nat.beq (fkd ci j) 1 = true) : wS ρ cA (sL μ a j v) = (wS ρ cA μ).set a (ρ a, .inr (ci, (eFs ρ μ a ci).set j (.long v))) := by
  rw [wS_cell (μ := μ) (μ' := sL μ a j v) (a := a) rfl rfl (fun _ _ => rfl) (fun x hx => by rw [mL_sL, u2_ne hx]) (fun _ _ => rfl) (fun _ _ => rfl), eE_obj (μ := sL μ a j v) ht hc]
  rw [eFs_set (μ' := sL μ a j v) (μ := μ) (j := j) (v := .long v)]
  · unfold eF
    rw [beq_t hk]
    have h1 : mL (sL μ a j v) a j = v := by rw [mL_sL, u2_self]; simp
    rw [h1]; rfl
  · intro i hi
    unfold eF
    have h1 : mL (sL μ a j v) a i = mL μ a i := by rw [mL_sL, u2_self]; simp [hi]
    rw [h1]; rfl
theorem wS_fr {ρ : Nat → Nat} {cA : Nat → ClassId} {μ : mMu} {a j ci r : Nat} (ht : (mS μ a).1 = ci) (hc : ci < 20) (hk : Nat.beq (fkd ci j) 2 = true) : wS ρ cA (sR μ a j (some r)) = (wS ρ cA μ).set a (ρ a, .inr (ci, (eFs ρ μ a ci).set j (.ref (ρ r)))) := by
  rw [wS_cell (μ := μ) (μ' := sR μ a j (some r)) (a := a) rfl rfl (fun _ _ => rfl) (fun _ _ => rfl) (fun _ _ => rfl) (fun x hx => by rw [mR_sR, u2_ne hx]), eE_obj (μ := sR μ a j (some r)) ht hc]
  rw [eFs_set (μ' := sR μ a j (some r)) (μ := μ) (j := j) (v := .ref (ρ r))]
  · unfold eF
    rw [beq_t hk]
    have h1 : mR (sR μ a j (some r)) a j = some r := by rw [mR_sR, u2_self]; simp
    rw [h1]; rfl
  · intro i hi
    unfold eF
    have h1 : mR (sR μ a j (some r)) a i = mR μ a i := by rw [mR_sR, u2_self]; simp [hi]
    rw [h1]; rfl
theorem asg_refl (vm : Vm) (c : ClassId) : vm.assignable c c = true := by
  unfold Vm.assignable
  rw [Vm.assignableAux]
  simp
theorem find_inj {s : State} {n : String} {a b : ClassId} (h1 : s.vm.findClass n = some a) (h2 : s.vm.findClass n = some b) : a = b := Option.some.inj (h1.symm.trans h2)
theorem isW_fits {x : Int32} (h : isZ x = true) : narrow .boolean (.int x) = .int x ∧ fits .boolean (.int x) = true := by
  unfold isZ at h
  simp only [Bool.or_eq_true, decide_eq_true_eq] at h
  rcases h with rfl | rfl <;> exact ⟨rfl, rfl⟩
theorem cl_use {o idx ci : Nat} (h : clAny o idx ci = true) : Cond.classLink (clsT.getD o "") idx (clsT.getD ci "") ∈ lw_good ∧ Cond.instantiable (clsT.getD ci "") (fnum ci) ∈ lw_good ∧ Cond.initialized (clsT.getD ci "") ∈ lw_good ∧ ci < 10 := by
  obtain ⟨q, hq, h2⟩ := List.any_eq_true.mp h
  simp only [Bool.and_eq_true] at h2
  have e1 := Nat.eq_of_beq_eq_true h2.1.1
  have e2 := Nat.eq_of_beq_eq_true h2.1.2
  have e3 := Nat.eq_of_beq_eq_true h2.2
  have h3 := List.all_eq_true.mp clT_ok q hq
  unfold clOk at h3
  rw [e1, e2, e3] at h3
  simp only [Bool.and_eq_true, decide_eq_true_eq, Nat.blt_eq] at h3
  exact ⟨in_good h3.1.1.1 rfl, in_good h3.1.1.2 rfl, in_good h3.1.2 rfl, h3.2⟩
theorem ac23_ok : lw_tbl[206]? = some (Cond.classLink (clsT.getD 6 "") 39 "CoastRadar$Track") := by decide +kernel
theorem ac24_ok : lw_tbl[816]? = some (Cond.classLink (clsT.getD 9 "") 7 (FieldType.array .int).toString) := by decide +kernel
theorem ac22_ok : lw_tbl[818]? = some (Cond.classLink (clsT.getD 9 "") 40 (FieldType.array .long).toString) := by decide +kernel
theorem arr_int : lw_tbl[85]? = some (Cond.arrayClass .int) := by decide +kernel
theorem arr_long : lw_tbl[336]? = some (Cond.arrayClass .long) := by decide +kernel
section STEPD
variable {p : Program} {l : Launch} {e : Env} {R : Room} {s : State} {m : MethodId} {args : Array Value} {below : List Frame} {meth : Method} {c : Code} {H : Heap} {locs : List Loc} {cells slots : Nat} {Q : State → Prop} {k pc : Nat} {mls : mLo} {st : mSt} {μ : mMu} {ρ : Nat → Nat} {b : Nat} {rls : Array Slot} {D : va_G} {cA : Nat → ClassId} {A : Nat → Prop}
set_option maxHeartbeats 8000000 in
set_option maxRecDepth 20000 in
theorem step_D (hx : p.tables.exec = Jvm.exec) (hb : c.code = mBy k) (hown : s.vm.findClass (mOw k) = some m.cls) (hts : ∀ w ∈ lw_good, w.before args s = true) (hK : va_K D mCl (tysA cA) s) (hP : va_P D mCl (wS ρ cA μ) H) (hDD : va_D A (wS ρ cA μ)) (hSS : va_S A s.heap H locs) (hA : ∀ q, s.heap.size ≤ q → A q) (hcl : clo μ) (ho1 : va_AO "CoastRadar$Track" s) (ho2 : (Cond.arrayOver (.array .int)).before args s = true ∧ (Cond.arrayOver (.array .long)).before args s = true) (hG : ∃ kA : Class, s.vm.classes[cA 24]? = some kA ∧ kA.kind = .array (cA 20) (.array .int)) (hnm : (mNm k).name = "<init>" → meth.name = "<init>") (hcm : c.maxLocals = mML k) (hsz : rls.size = mML k) (hfr : 1 ≤ R.frames) (hlo : 34 ≤ R.locals)
    {ent : mEnt} (he : eok k pc ent = true) {μ' : mMu} {st' : mSt} (h : act pc ent mls st μ = some (.inr (.inr (.inr (.inl (some μ', st')))))) (hS : okS (mN μ) st) (hrc : cells + (mC μ' - mC μ) ≤ R.cells) (hrs : slots + (mZ μ' - mZ μ) ≤ R.slots)
    (kk : ∀ (ρ' : Nat → Nat) (H' : Heap) (locs' : List Loc), (∀ a, a < mN μ → ρ' a = ρ a) → mN μ ≤ mN μ' → mC μ ≤ mC μ' → mZ μ ≤ mZ μ' → mX μ' = mX μ → clo μ' → va_P D mCl (wS ρ' cA μ') H' → va_D A (wS ρ' cA μ') → va_S A s.heap H' locs' → okS (mN μ') st' →
      W p l e R s m args below meth c H' locs' (cells + (mC μ' - mC μ)) (slots + (mZ μ' - mZ μ)) Q (F0 m (pc + ent.2.1) rls (st'.map (eV ρ' b)))) : W p l e R s m args below meth c H locs cells slots Q (F0 m pc rls (st.map (eV ρ b))) := by
  have z0 : ∀ {u : mMu}, mC u = mC μ → cells + (mC u - mC μ) = cells := fun h => by omega
  have z1 : ∀ {u : mMu}, mZ u = mZ μ → slots + (mZ u - mZ μ) = slots := fun h => by omega
  obtain ⟨i, len, l1, l2, l3, l4⟩ := ent
  cases i
  case iastore =>
    simp only [eok, Bool.and_eq_true, decide_eq_true_eq] at he
    obtain ⟨hd, hl⟩ := he
    have hl := Nat.eq_of_beq_eq_true hl
    subst hl
    simp only [act] at h
    split at h
    case h_1 x j a r =>
      simp only [aD, Option.some.injEq, Sum.inr.injEq, Sum.inl.injEq, Prod.mk.injEq] at h
      obtain ⟨hv, rfl⟩ := h
      unfold stoI at hv
      cases hc : Nat.beq (mS μ a).1 20 && inb j (mS μ a).2 with
      | false => rw [hc] at hv; cases hv
      | true =>
        rw [hc] at hv
        simp only [cond_true, Option.some.injEq] at hv
        subst hv
        simp only [Bool.and_eq_true] at hc
        have ha : a < mN μ := hS _ (List.mem_cons_of_mem _ (List.mem_cons_of_mem _ List.mem_cons_self)) a rfl
        have hg := wS_get (ρ := ρ) (cA := cA) ha
        rw [eE_20 (beq_t hc.1)] at hg
        refine va_iast hx hb hK hP hDD hSS a 0 hg rfl (inb_in hc.2) hd (fun H1 locs1 hP1 hD1 hS1 => ?_)
        have hw := wS_i (ρ := ρ) (cA := cA) (j := j.toNatClampNeg) (v := x) (beq_t hc.1)
        rw [← hw] at hP1 hD1
        have h9 := kk ρ H1 locs1 (fun _ _ => rfl) (Nat.le_refl _) (Nat.le_refl _) (Nat.le_refl _) rfl hcl hP1 hD1 hS1 hS.tl.tl.tl
        rw [show cells + (mC (sI μ a (ix j) x) - mC μ) = cells from z0 rfl, show slots + (mZ (sI μ a (ix j) x) - mZ μ) = slots from z1 rfl] at h9
        exact h9
    case h_2 => cases h
  case lastore =>
    simp only [eok, Bool.and_eq_true, decide_eq_true_eq] at he
    obtain ⟨hd, hl⟩ := he
    have hl := Nat.eq_of_beq_eq_true hl
    subst hl
    simp only [act] at h
    split at h
    case h_1 x j a r =>
      simp only [aD, Option.some.injEq, Sum.inr.injEq, Sum.inl.injEq, Prod.mk.injEq] at h
      obtain ⟨hv, rfl⟩ := h
      unfold stoL at hv
      cases hc : Nat.beq (mS μ a).1 21 && inb j (mS μ a).2 with
      | false => rw [hc] at hv; cases hv
      | true =>
        rw [hc] at hv
        simp only [cond_true, Option.some.injEq] at hv
        subst hv
        simp only [Bool.and_eq_true] at hc
        have ha : a < mN μ := hS _ (List.mem_cons_of_mem _ (List.mem_cons_of_mem _ List.mem_cons_self)) a rfl
        have hg := wS_get (ρ := ρ) (cA := cA) ha
        rw [eE_21 (beq_t hc.1)] at hg
        refine va_last hx hb hK hP hDD hSS a 1 hg rfl (inb_in hc.2) hd (fun H1 locs1 hP1 hD1 hS1 => ?_)
        have hw := wS_l (ρ := ρ) (cA := cA) (j := j.toNatClampNeg) (v := x) (beq_t hc.1)
        rw [← hw] at hP1 hD1
        have h9 := kk ρ H1 locs1 (fun _ _ => rfl) (Nat.le_refl _) (Nat.le_refl _) (Nat.le_refl _) rfl hcl hP1 hD1 hS1 hS.tl.tl.tl
        rw [show cells + (mC (sL μ a (ix j) x) - mC μ) = cells from z0 rfl, show slots + (mZ (sL μ a (ix j) x) - mZ μ) = slots from z1 rfl] at h9
        exact h9
    case h_2 => cases h
  case aastore =>
    simp only [eok, Bool.and_eq_true, decide_eq_true_eq] at he
    obtain ⟨hd, hl⟩ := he
    have hl := Nat.eq_of_beq_eq_true hl
    subst hl
    simp only [act] at h
    split at h
    case h_1 x j a r =>
      simp only [aD, Option.some.injEq, Sum.inr.injEq, Sum.inl.injEq, Prod.mk.injEq] at h
      obtain ⟨hv, rfl⟩ := h
      unfold stoR at hv
      cases hc : inb j (mS μ a).2 && ((Nat.beq (mS μ a).1 23 && Nat.beq (mS μ x).1 7) || (Nat.beq (mS μ a).1 24 && Nat.beq (mS μ x).1 20)) with
      | false => rw [hc] at hv; cases hv
      | true =>
        rw [hc] at hv
        simp only [cond_true, Option.some.injEq] at hv
        subst hv
        simp only [Bool.and_eq_true, Bool.or_eq_true] at hc
        have ha : a < mN μ := hS _ (List.mem_cons_of_mem _ (List.mem_cons_of_mem _ List.mem_cons_self)) a rfl
        have hxn : x < mN μ := hS _ List.mem_cons_self x rfl
        have hin := inb_in hc.1
        have hg := wS_get (ρ := ρ) (cA := cA) ha
        have hgx := wS_get (ρ := ρ) (cA := cA) hxn
        have fin : ∀ (t : Nat), (mS μ a).1 = t → (t = 23 ∨ t = 24) → ∀ (H1 : Heap) (locs1 : List Loc), va_P D mCl ((wS ρ cA μ).set a (ρ a, .inl (cA t, (mS μ a).2, .inr (.inr (.inr (.inr (va_up (fun i => (mR μ a i).map ρ) j.toNatClampNeg (some (ρ x))))))))) H1 → va_D A ((wS ρ cA μ).set a (ρ a, .inl (cA t, (mS μ a).2, .inr (.inr (.inr (.inr (va_up (fun i => (mR μ a i).map ρ) j.toNatClampNeg (some (ρ x))))))))) → va_S A s.heap H1 locs1 → W p l e R s m args below meth c H1 locs1 cells slots Q (F0 m (pc + 1) rls (r.map (eV ρ b))) := by
          intro t ht h2 H1 locs1 hP1 hD1 hS1
          have hw := wS_r (ρ := ρ) (cA := cA) (j := j.toNatClampNeg) (r := x) ht h2
          rw [← hw] at hP1 hD1
          have h9 := kk ρ H1 locs1 (fun _ _ => rfl) (Nat.le_refl _) (Nat.le_refl _) (Nat.le_refl _) rfl (clo_sR hcl hxn) hP1 hD1 hS1 hS.tl.tl.tl
          rw [show cells + (mC (sR μ a (ix j) (some x)) - mC μ) = cells from z0 rfl, show slots + (mZ (sR μ a (ix j) (some x)) - mZ μ) = slots from z1 rfl] at h9
          exact h9
        rcases hc.2 with hq | hq
        · rw [eE_23 (beq_t hq.1) (Or.inr (Or.inl rfl))] at hg
          rw [eE_obj (beq_t hq.2) (by omega)] at hgx
          exact va_astq hx hb hK hP hDD hSS a 3 x 7 (r := (RX7, TX7, 12)) hg rfl hgx rfl hin hd (fin 23 (beq_t hq.1) (Or.inl rfl))
        · rw [eE_23 (beq_t hq.1) (Or.inr (Or.inr rfl))] at hg
          rw [eE_20 (beq_t hq.2)] at hgx
          obtain ⟨kA, k1, k2⟩ := hG
          have hf20 : s.vm.findClass "[I" = some (cA 20) := (hK.2 0 _ rfl).2
          obtain ⟨kI, hkI, -⟩ := Vm.findClass_spec hf20
          have hlt : j.toNatClampNeg < (mS μ a).2 := Nat.not_le.mp fun q => hin (Or.inr q)
          have h0 : ¬ j < 0 := fun q => hin (Or.inl q)
          refine W.aast hx hb (hP a _ hg) (fun q h => by cases h) (fun h => by cases h) k1 k2 rfl hkI ⟨h0, by show _ < (arrV _ _ _).slots.size; rw [arrV_size]; exact hlt⟩ (hP x _ hgx) (fun q h => by cases h) hkI (asg_refl _ _) rfl rfl hd fun H1 e1 z oq => ?_
          refine fin 24 (beq_t hq.1) (Or.inr rfl) H1 _ (hP.set hDD hg ?_ oq) (hDD.set hg) (hSS.put z oq (hDD.2 a _ hg))
          show H1[ρ a]? = some (vp_cell _ _)
          rw [e1]
          rw [vp_cell_q, vp_cell_q, arrV_store]
          congr 2
          funext q
          by_cases hq2 : q = j.toNatClampNeg
          · subst hq2
            simp [updV, va_up, va_rf]
          · simp [updV, va_up, hq2]
    case h_2 => cases h
  case putfield idx =>
    simp only [act] at h
    split at h
    case h_1 x a r =>
      split at h
      case h_1 =>
        simp only [aD, Option.some.injEq, Sum.inr.injEq, Sum.inl.injEq, Prod.mk.injEq] at h
        obtain ⟨hv, rfl⟩ := h
        unfold pfI at hv
        cases hc : Nat.beq (mS μ a).1 l1 with
        | false => rw [hc] at hv; cases hv
        | true =>
          rw [hc] at hv
          simp only [cond_true, Option.some.injEq] at hv
          subst hv
          simp only [eok, Bool.and_eq_true, decide_eq_true_eq] at he
          obtain ⟨hd, ⟨⟨hl, hf⟩, hfin⟩, hty⟩ := he
          have hl := Nat.eq_of_beq_eq_true hl
          subst hl
          have hcc := beq_t hc
          have ha : a < mN μ := hS _ (List.mem_cons_of_mem _ List.mem_cons_self) a rfl
          obtain ⟨f1, f2, f3⟩ := fl_use hf
          obtain ⟨c1, c2, c3, c4⟩ := cls_ok l1 f2
          have hg := wS_get (ρ := ρ) (cA := cA) ha
          rw [eE_obj hcc (by omega)] at hg
          have hnf : narrow (tyX l1 l2) (.int x) = .int x ∧ fits (tyX l1 l2) (.int x) = true := by rw [hty.1]; exact ⟨rfl, rfl⟩
          have fin : ∀ (H1 : Heap) (locs1 : List Loc), va_P D mCl ((wS ρ cA μ).set a (ρ a, .inr (l1, (eFs ρ μ a l1).set l2 (.int x)))) H1 → va_D A ((wS ρ cA μ).set a (ρ a, .inr (l1, (eFs ρ μ a l1).set l2 (.int x)))) → va_S A s.heap H1 locs1 → W p l e R s m args below meth c H1 locs1 cells slots Q (F0 m (pc + 3) rls (r.map (eV ρ b))) := by
            intro H1 locs1 hP1 hD1 hS1
            rw [← wS_fi (ρ := ρ) (cA := cA) (j := l2) (v := x) hcc (by omega) hty.2] at hP1 hD1
            have h9 := kk ρ H1 locs1 (fun _ _ => rfl) (Nat.le_refl _) (Nat.le_refl _) (Nat.le_refl _) rfl hcl hP1 hD1 hS1 hS.tl.tl
            rw [show cells + (mC (sI μ a l2 x) - mC μ) = cells from z0 rfl, show slots + (mZ (sI μ a l2 x) - mZ μ) = slots from z1 rfl] at h9
            exact h9
          have hlen : l2 < (eFs ρ μ a l1).length := by rw [eFs_len]; exact f3
          cases hff : (TX l1 l2).2.2.2 with
          | false => exact va_put hx hb hts c2 (tyX l1) c3 c4 hown hK hP hDD hSS a hg c1 l2 f3 (hts _ f1) (fun x hx => hx) hff (c3 l2 f3) hnf.1 hnf.2 hlen hd fin
          | true =>
            simp only [hff, Bool.not_true, Bool.false_or, Bool.or_eq_true, Bool.and_eq_true, decide_eq_true_eq, false_or, Bool.false_eq_true] at hfin
            exact va_putF hx hb hts c2 (tyX l1) c3 c4 hown hK hP hDD hSS a hg c1 l2 f3 (hts _ f1) (fun x hx => hx) hff (hnm hfin.1) hfin.2 (c3 l2 f3) hnf.1 hnf.2 hlen hd fin
      case h_2 =>
        simp only [aD, Option.some.injEq, Sum.inr.injEq, Sum.inl.injEq, Prod.mk.injEq] at h
        obtain ⟨hv, rfl⟩ := h
        unfold pfZ at hv
        cases hc : Nat.beq (mS μ a).1 l1 && isZ x with
        | false => rw [hc] at hv; cases hv
        | true =>
          rw [hc] at hv
          simp only [cond_true, Option.some.injEq] at hv
          subst hv
          simp only [eok, Bool.and_eq_true, decide_eq_true_eq] at he
          obtain ⟨hd, ⟨⟨hl, hf⟩, hfin⟩, hty⟩ := he
          have hl := Nat.eq_of_beq_eq_true hl
          subst hl
          simp only [Bool.and_eq_true] at hc
          have hcc := beq_t hc.1
          have ha : a < mN μ := hS _ (List.mem_cons_of_mem _ List.mem_cons_self) a rfl
          obtain ⟨f1, f2, f3⟩ := fl_use hf
          obtain ⟨c1, c2, c3, c4⟩ := cls_ok l1 f2
          have hg := wS_get (ρ := ρ) (cA := cA) ha
          rw [eE_obj hcc (by omega)] at hg
          have hnf : narrow (tyX l1 l2) (.int x) = .int x ∧ fits (tyX l1 l2) (.int x) = true := by rw [hty.1]; exact isW_fits hc.2
          have fin : ∀ (H1 : Heap) (locs1 : List Loc), va_P D mCl ((wS ρ cA μ).set a (ρ a, .inr (l1, (eFs ρ μ a l1).set l2 (.int x)))) H1 → va_D A ((wS ρ cA μ).set a (ρ a, .inr (l1, (eFs ρ μ a l1).set l2 (.int x)))) → va_S A s.heap H1 locs1 → W p l e R s m args below meth c H1 locs1 cells slots Q (F0 m (pc + 3) rls (r.map (eV ρ b))) := by
            intro H1 locs1 hP1 hD1 hS1
            rw [← wS_fi (ρ := ρ) (cA := cA) (j := l2) (v := x) hcc (by omega) hty.2] at hP1 hD1
            have h9 := kk ρ H1 locs1 (fun _ _ => rfl) (Nat.le_refl _) (Nat.le_refl _) (Nat.le_refl _) rfl hcl hP1 hD1 hS1 hS.tl.tl
            rw [show cells + (mC (sI μ a l2 x) - mC μ) = cells from z0 rfl, show slots + (mZ (sI μ a l2 x) - mZ μ) = slots from z1 rfl] at h9
            exact h9
          have hlen : l2 < (eFs ρ μ a l1).length := by rw [eFs_len]; exact f3
          cases hff : (TX l1 l2).2.2.2 with
          | false => exact va_put hx hb hts c2 (tyX l1) c3 c4 hown hK hP hDD hSS a hg c1 l2 f3 (hts _ f1) (fun x hx => hx) hff (c3 l2 f3) hnf.1 hnf.2 hlen hd fin
          | true =>
            simp only [hff, Bool.not_true, Bool.false_or, Bool.or_eq_true, Bool.and_eq_true, decide_eq_true_eq, false_or, Bool.false_eq_true] at hfin
            exact va_putF hx hb hts c2 (tyX l1) c3 c4 hown hK hP hDD hSS a hg c1 l2 f3 (hts _ f1) (fun x hx => hx) hff (hnm hfin.1) hfin.2 (c3 l2 f3) hnf.1 hnf.2 hlen hd fin
      case h_3 => cases h
    case h_2 x a r =>
      split at h
      case h_1 =>
        simp only [aD, Option.some.injEq, Sum.inr.injEq, Sum.inl.injEq, Prod.mk.injEq] at h
        obtain ⟨hv, rfl⟩ := h
        unfold pfL at hv
        cases hc : Nat.beq (mS μ a).1 l1 with
        | false => rw [hc] at hv; cases hv
        | true =>
          rw [hc] at hv
          simp only [cond_true, Option.some.injEq] at hv
          subst hv
          simp only [eok, Bool.and_eq_true, decide_eq_true_eq] at he
          obtain ⟨hd, ⟨⟨hl, hf⟩, hfin⟩, hty⟩ := he
          have hl := Nat.eq_of_beq_eq_true hl
          subst hl
          have hcc := beq_t hc
          have ha : a < mN μ := hS _ (List.mem_cons_of_mem _ List.mem_cons_self) a rfl
          obtain ⟨f1, f2, f3⟩ := fl_use hf
          obtain ⟨c1, c2, c3, c4⟩ := cls_ok l1 f2
          have hg := wS_get (ρ := ρ) (cA := cA) ha
          rw [eE_obj hcc (by omega)] at hg
          have hnf : narrow (tyX l1 l2) (.long x) = .long x ∧ fits (tyX l1 l2) (.long x) = true := by rw [hty.1]; exact ⟨rfl, rfl⟩
          have fin : ∀ (H1 : Heap) (locs1 : List Loc), va_P D mCl ((wS ρ cA μ).set a (ρ a, .inr (l1, (eFs ρ μ a l1).set l2 (.long x)))) H1 → va_D A ((wS ρ cA μ).set a (ρ a, .inr (l1, (eFs ρ μ a l1).set l2 (.long x)))) → va_S A s.heap H1 locs1 → W p l e R s m args below meth c H1 locs1 cells slots Q (F0 m (pc + 3) rls (r.map (eV ρ b))) := by
            intro H1 locs1 hP1 hD1 hS1
            rw [← wS_fl (ρ := ρ) (cA := cA) (j := l2) (v := x) hcc (by omega) hty.2] at hP1 hD1
            have h9 := kk ρ H1 locs1 (fun _ _ => rfl) (Nat.le_refl _) (Nat.le_refl _) (Nat.le_refl _) rfl hcl hP1 hD1 hS1 hS.tl.tl
            rw [show cells + (mC (sL μ a l2 x) - mC μ) = cells from z0 rfl, show slots + (mZ (sL μ a l2 x) - mZ μ) = slots from z1 rfl] at h9
            exact h9
          have hlen : l2 < (eFs ρ μ a l1).length := by rw [eFs_len]; exact f3
          cases hff : (TX l1 l2).2.2.2 with
          | false => exact va_put hx hb hts c2 (tyX l1) c3 c4 hown hK hP hDD hSS a hg c1 l2 f3 (hts _ f1) (fun x hx => hx) hff (c3 l2 f3) hnf.1 hnf.2 hlen hd fin
          | true =>
            simp only [hff, Bool.not_true, Bool.false_or, Bool.or_eq_true, Bool.and_eq_true, decide_eq_true_eq, false_or, Bool.false_eq_true] at hfin
            exact va_putF hx hb hts c2 (tyX l1) c3 c4 hown hK hP hDD hSS a hg c1 l2 f3 (hts _ f1) (fun x hx => hx) hff (hnm hfin.1) hfin.2 (c3 l2 f3) hnf.1 hnf.2 hlen hd fin
      case h_2 => cases h
    case h_3 x a r =>
      have hrf : Nat.beq (fkd l1 l2) 2 = true → l1 < 10 → l2 < fnum l1 → narrow (tyX l1 l2) (.ref (ρ x)) = .ref (ρ x) ∧ fits (tyX l1 l2) (.ref (ρ x)) = true := by
        intro q1 q2 q3
        have q4 := ref_ok l1 q2 l2 q3 q1
        revert q4
        cases tyX l1 l2 <;> first | (intro z; cases z; done) | (intro _; exact ⟨rfl, rfl⟩)
      split at h
      case h_1 =>
        simp only [aD, Option.some.injEq, Sum.inr.injEq, Sum.inl.injEq, Prod.mk.injEq] at h
        obtain ⟨hv, rfl⟩ := h
        unfold pfR at hv
        cases hc : Nat.beq (mS μ a).1 l1 with
        | false => rw [hc] at hv; cases hv
        | true =>
          rw [hc] at hv
          simp only [cond_true, Option.some.injEq] at hv
          subst hv
          simp only [eok, Bool.and_eq_true, decide_eq_true_eq] at he
          obtain ⟨hd, ⟨⟨hl, hf⟩, hfin⟩, hty⟩ := he
          have hl := Nat.eq_of_beq_eq_true hl
          subst hl
          have hcc := beq_t hc
          have ha : a < mN μ := hS _ (List.mem_cons_of_mem _ List.mem_cons_self) a rfl
          obtain ⟨f1, f2, f3⟩ := fl_use hf
          obtain ⟨c1, c2, c3, c4⟩ := cls_ok l1 f2
          have hg := wS_get (ρ := ρ) (cA := cA) ha
          rw [eE_obj hcc (by omega)] at hg
          have hnf := hrf hty f2 f3
          have fin : ∀ (H1 : Heap) (locs1 : List Loc), va_P D mCl ((wS ρ cA μ).set a (ρ a, .inr (l1, (eFs ρ μ a l1).set l2 (.ref (ρ x))))) H1 → va_D A ((wS ρ cA μ).set a (ρ a, .inr (l1, (eFs ρ μ a l1).set l2 (.ref (ρ x))))) → va_S A s.heap H1 locs1 → W p l e R s m args below meth c H1 locs1 cells slots Q (F0 m (pc + 3) rls (r.map (eV ρ b))) := by
            intro H1 locs1 hP1 hD1 hS1
            rw [← wS_fr (ρ := ρ) (cA := cA) (j := l2) (r := x) hcc (by omega) hty] at hP1 hD1
            have h9 := kk ρ H1 locs1 (fun _ _ => rfl) (Nat.le_refl _) (Nat.le_refl _) (Nat.le_refl _) rfl (clo_sR hcl (hS _ List.mem_cons_self x rfl)) hP1 hD1 hS1 hS.tl.tl
            rw [show cells + (mC (sR μ a l2 (some x)) - mC μ) = cells from z0 rfl, show slots + (mZ (sR μ a l2 (some x)) - mZ μ) = slots from z1 rfl] at h9
            exact h9
          have hlen : l2 < (eFs ρ μ a l1).length := by rw [eFs_len]; exact f3
          cases hff : (TX l1 l2).2.2.2 with
          | false => exact va_put hx hb hts c2 (tyX l1) c3 c4 hown hK hP hDD hSS a hg c1 l2 f3 (hts _ f1) (fun x hx => hx) hff (c3 l2 f3) hnf.1 hnf.2 hlen hd fin
          | true =>
            simp only [hff, Bool.not_true, Bool.false_or, Bool.or_eq_true, Bool.and_eq_true, decide_eq_true_eq, false_or, Bool.false_eq_true] at hfin
            exact va_putF hx hb hts c2 (tyX l1) c3 c4 hown hK hP hDD hSS a hg c1 l2 f3 (hts _ f1) (fun x hx => hx) hff (hnm hfin.1) hfin.2 (c3 l2 f3) hnf.1 hnf.2 hlen hd fin
      case h_2 =>
        simp only [aD, Option.some.injEq, Sum.inr.injEq, Sum.inl.injEq, Prod.mk.injEq] at h
        obtain ⟨hv, rfl⟩ := h
        unfold pfR at hv
        cases hc : Nat.beq (mS μ a).1 l1 with
        | false => rw [hc] at hv; cases hv
        | true =>
          rw [hc] at hv
          simp only [cond_true, Option.some.injEq] at hv
          subst hv
          simp only [eok, Bool.and_eq_true, decide_eq_true_eq] at he
          obtain ⟨hd, ⟨⟨hl, hf⟩, hfin⟩, hty⟩ := he
          have hl := Nat.eq_of_beq_eq_true hl
          subst hl
          have hcc := beq_t hc
          have ha : a < mN μ := hS _ (List.mem_cons_of_mem _ List.mem_cons_self) a rfl
          obtain ⟨f1, f2, f3⟩ := fl_use hf
          obtain ⟨c1, c2, c3, c4⟩ := cls_ok l1 f2
          have hg := wS_get (ρ := ρ) (cA := cA) ha
          rw [eE_obj hcc (by omega)] at hg
          have hnf := hrf hty f2 f3
          have fin : ∀ (H1 : Heap) (locs1 : List Loc), va_P D mCl ((wS ρ cA μ).set a (ρ a, .inr (l1, (eFs ρ μ a l1).set l2 (.ref (ρ x))))) H1 → va_D A ((wS ρ cA μ).set a (ρ a, .inr (l1, (eFs ρ μ a l1).set l2 (.ref (ρ x))))) → va_S A s.heap H1 locs1 → W p l e R s m args below meth c H1 locs1 cells slots Q (F0 m (pc + 3) rls (r.map (eV ρ b))) := by
            intro H1 locs1 hP1 hD1 hS1
            rw [← wS_fr (ρ := ρ) (cA := cA) (j := l2) (r := x) hcc (by omega) hty] at hP1 hD1
            have h9 := kk ρ H1 locs1 (fun _ _ => rfl) (Nat.le_refl _) (Nat.le_refl _) (Nat.le_refl _) rfl (clo_sR hcl (hS _ List.mem_cons_self x rfl)) hP1 hD1 hS1 hS.tl.tl
            rw [show cells + (mC (sR μ a l2 (some x)) - mC μ) = cells from z0 rfl, show slots + (mZ (sR μ a l2 (some x)) - mZ μ) = slots from z1 rfl] at h9
            exact h9
          have hlen : l2 < (eFs ρ μ a l1).length := by rw [eFs_len]; exact f3
          cases hff : (TX l1 l2).2.2.2 with
          | false => exact va_put hx hb hts c2 (tyX l1) c3 c4 hown hK hP hDD hSS a hg c1 l2 f3 (hts _ f1) (fun x hx => hx) hff (c3 l2 f3) hnf.1 hnf.2 hlen hd fin
          | true =>
            simp only [hff, Bool.not_true, Bool.false_or, Bool.or_eq_true, Bool.and_eq_true, decide_eq_true_eq, false_or, Bool.false_eq_true] at hfin
            exact va_putF hx hb hts c2 (tyX l1) c3 c4 hown hK hP hDD hSS a hg c1 l2 f3 (hts _ f1) (fun x hx => hx) hff (hnm hfin.1) hfin.2 (c3 l2 f3) hnf.1 hnf.2 hlen hd fin
      case h_3 => cases h
    case h_4 => cases h
  case new idx =>
    simp only [act] at h
    split at h
    case h_1 =>
      simp only [aD, Option.some.injEq, Sum.inr.injEq, Sum.inl.injEq, Prod.mk.injEq] at h
      obtain ⟨rfl, rfl⟩ := h
      simp only [eok, Bool.and_eq_true, decide_eq_true_eq] at he
      obtain ⟨hd, hl, hca, hl4⟩ := he
      have hl := Nat.eq_of_beq_eq_true hl
      have hl4 := beq_t hl4
      subst hl
      subst hl4
      obtain ⟨g1, g2, g3, g4⟩ := cl_use hca
      obtain ⟨c1, c2, c3, c4⟩ := cls_ok l1 g4
      have hcn : mC (mNew μ (l1, 0) (fnum l1)) = mC μ + 1 := rfl
      have hzn : mZ (mNew μ (l1, 0) (fnum l1)) = mZ μ + fnum l1 := rfl
      have hfs : ∀ ρ' j, j < fnum l1 → defaultValue (tyX l1 j) = vp_V (eFs ρ' (mNew μ (l1, 0) (fnum l1)) (mN μ) l1) j := by
        intro ρ' j hj
        rw [def_ok l1 g4 j hj]
        unfold vp_V
        rw [List.getD_eq_getElem?_getD, eFs_get hj]
        unfold eF
        have h1 : mI (mNew μ (l1, 0) (fnum l1)) (mN μ) j = 0 := by rw [mI_new, u2r_self]
        have h2 : mL (mNew μ (l1, 0) (fnum l1)) (mN μ) j = 0 := by rw [mL_new, u2r_self]
        have h3 : mR (mNew μ (l1, 0) (fnum l1)) (mN μ) j = none := by rw [mR_new, u2r_self]
        rw [h1, h2, h3]
        rfl
      rw [hcn] at hrc
      rw [hzn] at hrs
      refine va_new (ty := tyX l1) (fs := eFs ρ (mNew μ (l1, 0) (fnum l1)) (mN μ) l1) hx hb hts c2 c3 hown (hts _ g1) (hts _ g2) (hts _ g3) hK hP hDD hSS hA c1 (hfs ρ) (by omega) (by omega) hd (fun q H1 hP1 hD1 hS1 => ?_)
      have heq : (wS ρ cA μ ++ [(q, .inr (l1, eFs ρ (mNew μ (l1, 0) (fnum l1)) (mN μ) l1))]) = wS (u1 ρ (mN μ) q) cA (mNew μ (l1, 0) (fnum l1)) := by
        rw [wS_new hcl, eE_obj (ci := l1) (by show (u1 (mS μ) (mN μ) (l1, 0) (mN μ)).1 = l1; simp [u1]) (by omega)]
        congr 5
        unfold eFs
        apply List.map_congr_left
        intro j _
        unfold eF
        have h3 : mR (mNew μ (l1, 0) (fnum l1)) (mN μ) j = none := by rw [mR_new, u2r_self]
        rw [h3]
        rfl
      rw [heq] at hP1 hD1
      have hup : ∀ a, a < mN μ → u1 ρ (mN μ) q a = ρ a := fun a ha => by simp [u1, show a ≠ mN μ by omega]
      have h9 := kk (u1 ρ (mN μ) q) H1 locs hup (Nat.le_succ _) (Nat.le_succ _) (by rw [hzn]; omega) rfl (clo_new hcl) hP1 hD1 hS1 ((hS.mono (Nat.le_succ _)).cons (fun a ha => by cases ha; exact Nat.lt_succ_self _))
      rw [hcn, hzn, show mC μ + 1 - mC μ = 1 by omega, show mZ μ + fnum l1 - mZ μ = fnum l1 by omega] at h9
      simp only [List.map_cons, eV, show u1 ρ (mN μ) q (mN μ) = q by simp [u1]] at h9
      rw [eVs_congr hup hS] at h9
      exact h9
    case h_2 =>
      rw [Bool.cond_eq_ite] at h
      split at h
      · simp [aT] at h
      · cases h
  case newarray ty =>
    simp only [act] at h
    split at h
    case h_1 n r =>
      simp only [aD, Option.some.injEq, Sum.inr.injEq, Sum.inl.injEq, Prod.mk.injEq] at h
      obtain ⟨hv, rfl⟩ := h
      unfold nwA at hv
      cases hc : inb n 65536 with
      | false => rw [hc] at hv; cases hv
      | true =>
        rw [hc] at hv
        simp only [cond_true, Option.some.injEq] at hv
        subst hv
        simp only [eok, Bool.and_eq_true, decide_eq_true_eq] at he
        obtain ⟨hd, hl, hty⟩ := he
        have hl := Nat.eq_of_beq_eq_true hl
        subst hl
        have hcn : mC (mNew μ (l1, ix n) (ix n)) = mC μ + 1 := rfl
        have hzn : mZ (mNew μ (l1, ix n) (ix n)) = mZ μ + ix n := rfl
        rw [hcn] at hrc
        rw [hzn] at hrs
        have hin := inb_in hc
        have hn0 : ¬ n < 0 := fun q => hin (Or.inl q)
        have hnb : n.toNatClampNeg < 65536 := Nat.not_le.mp fun q => hin (Or.inr q)
        have fin : ∀ (q : Nat) (H1 : Heap) (E : va_E), E = eE (u1 ρ (mN μ) q) cA (mNew μ (l1, ix n) (ix n)) (mN μ) → va_P D mCl (wS ρ cA μ ++ [(q, E)]) H1 → va_D A (wS ρ cA μ ++ [(q, E)]) → va_S A s.heap H1 locs → W p l e R s m args below meth c H1 locs (cells + 1) (slots + ix n) Q (F0 m (pc + 2) rls (.ref q :: r.map (eV ρ b))) := by
          intro q H1 E hE hP1 hD1 hS1
          rw [hE, ← wS_new hcl] at hP1 hD1
          have hup : ∀ a, a < mN μ → u1 ρ (mN μ) q a = ρ a := fun a ha => by simp [u1, show a ≠ mN μ by omega]
          have h9 := kk (u1 ρ (mN μ) q) H1 locs hup (Nat.le_succ _) (Nat.le_succ _) (by rw [hzn]; omega) rfl (clo_new hcl) hP1 hD1 hS1 ((hS.tl.mono (Nat.le_succ _)).cons (fun a ha => by cases ha; exact Nat.lt_succ_self _))
          rw [hcn, hzn, show mC μ + 1 - mC μ = 1 by omega, show mZ μ + ix n - mZ μ = ix n by omega] at h9
          simp only [List.map_cons, eV, show u1 ρ (mN μ) q (mN μ) = q by simp [u1]] at h9
          rw [eVs_congr hup hS.tl] at h9
          exact h9
        have hsh : mS (mNew μ (l1, ix n) (ix n)) (mN μ) = (l1, ix n) := by show u1 (mS μ) (mN μ) (l1, ix n) (mN μ) = _; simp [u1]
        revert hty
        split
        · intro hty
          have hq := beq_t hty
          subst hq
          refine va_newa (ty := .int) (a0 := (ix n, .inl (fun _ => 0))) hx hb (hts _ (in_good arr_int rfl)) rfl hK hP hDD hSS hA (fun cA' => rfl) hn0 rfl (by show n.toNatClampNeg * 4 ≤ _; omega) (by omega) (by show slots + n.toNatClampNeg ≤ _; have : ix n = n.toNatClampNeg := rfl; omega) hd (fun q cA' H1 hK1 hP1 hD1 hS1 => ?_)
          have e1 : cA' = cA 20 := find_inj (hK1.2 5 _ rfl).2 (hK.2 0 _ rfl).2
          subst e1
          refine fin q H1 _ ?_ hP1 hD1 hS1
          rw [eE_20 (by rw [hsh]), hsh, show mI (mNew μ (20, ix n) (ix n)) (mN μ) = fun _ => 0 by rw [mI_new, u2r_self]]
        · intro hty
          have hq := beq_t hty
          subst hq
          refine va_newa (ty := .long) (a0 := (ix n, .inr (.inl (fun _ => 0)))) hx hb (hts _ (in_good arr_long rfl)) rfl hK hP hDD hSS hA (fun cA' => rfl) hn0 rfl (by show n.toNatClampNeg * 8 ≤ _; omega) (by omega) (by show slots + n.toNatClampNeg ≤ _; have : ix n = n.toNatClampNeg := rfl; omega) hd (fun q cA' H1 hK1 hP1 hD1 hS1 => ?_)
          have e1 : cA' = cA 21 := find_inj (hK1.2 5 _ rfl).2 (hK.2 1 _ rfl).2
          subst e1
          refine fin q H1 _ ?_ hP1 hD1 hS1
          rw [eE_21 (by rw [hsh]), hsh, show mL (mNew μ (21, ix n) (ix n)) (mN μ) = fun _ => 0 by rw [mL_new, u2r_self]]
        · intro hty; cases hty
    case h_2 => cases h
  case anewarray idx =>
    simp only [act] at h
    split at h
    case h_1 n r =>
      simp only [aD, Option.some.injEq, Sum.inr.injEq, Sum.inl.injEq, Prod.mk.injEq] at h
      obtain ⟨hv, rfl⟩ := h
      unfold nwA at hv
      cases hc : inb n 65536 with
      | false => rw [hc] at hv; cases hv
      | true =>
        rw [hc] at hv
        simp only [cond_true, Option.some.injEq] at hv
        subst hv
        simp only [eok, Bool.and_eq_true, Bool.or_eq_true, decide_eq_true_eq] at he
        obtain ⟨hd, hl, hty⟩ := he
        have hl := Nat.eq_of_beq_eq_true hl
        subst hl
        have hcn : mC (mNew μ (l1, ix n) (ix n)) = mC μ + 1 := rfl
        have hzn : mZ (mNew μ (l1, ix n) (ix n)) = mZ μ + ix n := rfl
        rw [hcn] at hrc
        rw [hzn] at hrs
        have hin := inb_in hc
        have hn0 : ¬ n < 0 := fun q => hin (Or.inl q)
        have hnb : n.toNatClampNeg < 65536 := Nat.not_le.mp fun q => hin (Or.inr q)
        have hix : ix n = n.toNatClampNeg := rfl
        have fin : ∀ (q : Nat) (H1 : Heap) (E : va_E), E = eE (u1 ρ (mN μ) q) cA (mNew μ (l1, ix n) (ix n)) (mN μ) → va_P D mCl (wS ρ cA μ ++ [(q, E)]) H1 → va_D A (wS ρ cA μ ++ [(q, E)]) → va_S A s.heap H1 locs → W p l e R s m args below meth c H1 locs (cells + 1) (slots + ix n) Q (F0 m (pc + 3) rls (.ref q :: r.map (eV ρ b))) := by
          intro q H1 E hE hP1 hD1 hS1
          rw [hE, ← wS_new hcl] at hP1 hD1
          have hup : ∀ a, a < mN μ → u1 ρ (mN μ) q a = ρ a := fun a ha => by simp [u1, show a ≠ mN μ by omega]
          have h9 := kk (u1 ρ (mN μ) q) H1 locs hup (Nat.le_succ _) (Nat.le_succ _) (by rw [hzn]; omega) rfl (clo_new hcl) hP1 hD1 hS1 ((hS.tl.mono (Nat.le_succ _)).cons (fun a ha => by cases ha; exact Nat.lt_succ_self _))
          rw [hcn, hzn, show mC μ + 1 - mC μ = 1 by omega, show mZ μ + ix n - mZ μ = ix n by omega] at h9
          simp only [List.map_cons, eV, show u1 ρ (mN μ) q (mN μ) = q by simp [u1]] at h9
          rw [eVs_congr hup hS.tl] at h9
          exact h9
        have hsh : mS (mNew μ (l1, ix n) (ix n)) (mN μ) = (l1, ix n) := by show u1 (mS μ) (mN μ) (l1, ix n) (mN μ) = _; simp [u1]
        have hnone : ∀ q, (fun j => (mR (mNew μ (l1, ix n) (ix n)) (mN μ) j).map (u1 ρ (mN μ) q)) = fun _ => none := fun q => by
          funext j
          rw [show mR (mNew μ (l1, ix n) (ix n)) (mN μ) j = none by rw [mR_new, u2r_self]]
          rfl
        rcases hty with (⟨⟨q1, q2⟩, q3⟩ | ⟨⟨q1, q2⟩, q3⟩) | ⟨⟨q1, q2⟩, q3⟩
        · have q1 := beq_t q1
          have q2 := beq_t q2
          have q3 := beq_t q3
          subst q2
          subst q3
          have hlk : (Cond.classLink (mOw k) 39 "CoastRadar$Track").before args s = true := by
            have h5 := hts _ (in_good ac23_ok rfl)
            unfold mOw
            rw [q1]
            exact h5
          refine va_newq hx hb hown hlk ho1 hK hP hDD hSS hA hn0 rfl (by omega) (by omega) (by omega) hd (fun q cA' H1 hK1 hP1 hD1 hS1 => ?_)
          have e1 : cA' = cA 23 := by
            obtain ⟨-, -, -, -, -, g1⟩ := (hK1.2 5 _ rfl).2
            obtain ⟨-, -, -, -, -, g2⟩ := (hK.2 3 _ rfl).2
            exact find_inj g1 g2
          subst e1
          refine fin q H1 _ ?_ hP1 hD1 hS1
          rw [eE_23 (t := 23) (by rw [hsh]) (Or.inr (Or.inl rfl)), hsh, hnone q]
          rfl
        · have q1 := beq_t q1
          have q2 := beq_t q2
          have q3 := beq_t q3
          subst q2
          subst q3
          have hlk : (Cond.classLink (mOw k) 7 (FieldType.array .int).toString).before args s = true := by
            have h5 := hts _ (in_good ac24_ok rfl)
            unfold mOw
            rw [q1]
            exact h5
          refine W.anewA hx hb hown hlk ho2.1 rfl hd rfl hn0 (by omega) (by omega) (by omega) fun cA' kA comp f1 f2 f3 f4 => ?_
          have e1 : cA' = cA 24 := find_inj f1 (hK.2 4 _ rfl).2
          subst e1
          generalize hH1 : H.push ({ cls := cA 24, slots := Array.replicate n.toNatClampNeg .null, vm := .none } : Cell) = H1
          have z1' : H1.size = H.size + 1 := by rw [← hH1, Array.size_push]
          have e1 : H1[H.size]? = some (arrV (cA 24) n.toNatClampNeg (fun _ => .null)) := by rw [← hH1, Array.getElem?_push_size, ← arrV_new]
          have o1 : ∀ q : Nat, q < H.size → H1[q]? = H[q]? := fun q hq => by rw [← hH1, Array.getElem?_push, if_neg (Nat.ne_of_lt hq)]
          have hk1 : ∀ (k : Nat) (x : Nat × va_E), (wS ρ cA μ)[k]? = some x → H1[x.1]? = H[x.1]? := fun k x hx => o1 x.1 ((hP k x hx).lt)
          refine fin H.size H1 (.inl (cA 24, ix n, .inr (.inr (.inr (.inr (fun _ => none)))))) ?_ ((hP.kept hk1).app (fun k x hx => ?_)) (hDD.push hP rfl (hA _ hSS.1)) ⟨Nat.le_trans hSS.1 (by omega), fun x h1 h2 => (o1 x (Nat.lt_of_lt_of_le h1 hSS.1)).trans (hSS.2.1 x h1 h2), hSS.2.2⟩
          · rw [eE_23 (t := 24) (by rw [hsh]) (Or.inr (Or.inr rfl)), hsh, hnone]
          · have hz : k < 1 := (List.getElem?_eq_some_iff.mp hx).1
            rw [show k = 0 by omega] at hx
            cases hx
            show H1[H.size]? = some (vp_cell _ _)
            rw [e1]
            rfl
        · have q1 := beq_t q1
          have q2 := beq_t q2
          have q3 := beq_t q3
          subst q2
          subst q3
          have hlk : (Cond.classLink (mOw k) 40 (FieldType.array .long).toString).before args s = true := by
            have h5 := hts _ (in_good ac22_ok rfl)
            unfold mOw
            rw [q1]
            exact h5
          refine W.anewA hx hb hown hlk ho2.2 rfl hd rfl hn0 (by omega) (by omega) (by omega) fun cA' kA comp f1 f2 f3 f4 => ?_
          have e1 : cA' = cA 22 := find_inj f1 (hK.2 2 _ rfl).2
          subst e1
          generalize hH1 : H.push ({ cls := cA 22, slots := Array.replicate n.toNatClampNeg .null, vm := .none } : Cell) = H1
          have z1' : H1.size = H.size + 1 := by rw [← hH1, Array.size_push]
          have e1 : H1[H.size]? = some (arrV (cA 22) n.toNatClampNeg (fun _ => .null)) := by rw [← hH1, Array.getElem?_push_size, ← arrV_new]
          have o1 : ∀ q : Nat, q < H.size → H1[q]? = H[q]? := fun q hq => by rw [← hH1, Array.getElem?_push, if_neg (Nat.ne_of_lt hq)]
          have hk1 : ∀ (k : Nat) (x : Nat × va_E), (wS ρ cA μ)[k]? = some x → H1[x.1]? = H[x.1]? := fun k x hx => o1 x.1 ((hP k x hx).lt)
          refine fin H.size H1 (.inl (cA 22, ix n, .inr (.inr (.inr (.inr (fun _ => none)))))) ?_ ((hP.kept hk1).app (fun k x hx => ?_)) (hDD.push hP rfl (hA _ hSS.1)) ⟨Nat.le_trans hSS.1 (by omega), fun x h1 h2 => (o1 x (Nat.lt_of_lt_of_le h1 hSS.1)).trans (hSS.2.1 x h1 h2), hSS.2.2⟩
          · rw [eE_23 (t := 22) (by rw [hsh]) (Or.inl rfl), hsh, hnone]
          · have hz : k < 1 := (List.getElem?_eq_some_iff.mp hx).1
            rw [show k = 0 by omega] at hx
            cases hx
            show H1[H.size]? = some (vp_cell _ _)
            rw [e1]
            rfl
    case h_2 => cases h
  case invokestatic idx =>
    simp only [act] at h
    split at h
    case h_1 =>
      split at h
      case h_1 n dp2 b2 sp a2 r =>
        cases hr : Nat.ble r.length 4 with
        | false => rw [hr] at h; cases h
        | true =>
          rw [hr] at h
          simp only [cond_true, aD, Option.some.injEq, Sum.inr.injEq, Sum.inl.injEq, Prod.mk.injEq] at h
          obtain ⟨hv, rfl⟩ := h
          simp only [eok, Bool.and_eq_true, decide_eq_true_eq] at he
          obtain ⟨hd, hl, ho⟩ := he
          have hl := Nat.eq_of_beq_eq_true hl
          subst hl
          obtain ⟨q, hq, h2⟩ := List.any_eq_true.mp ho
          simp only [Bool.and_eq_true] at h2
          have e1 := Nat.eq_of_beq_eq_true h2.1
          have e2 := Nat.eq_of_beq_eq_true h2.2
          have hlk := in_good (of_decide_eq_true (List.all_eq_true.mp acT_ok q hq)) rfl
          rw [e1, e2] at hlk
          unfold cpA at hv
          cases hc : Nat.beq (mS μ a2).1 20 && Nat.beq (mS μ b2).1 20 && (!decide (sp < 0) && !decide (dp2 < 0) && !decide (n < 0)) && (Nat.ble (ix sp + ix n) (mS μ a2).2 && Nat.ble (ix dp2 + ix n) (mS μ b2).2) with
          | false => rw [hc] at hv; cases hv
          | true =>
            rw [hc] at hv
            simp only [cond_true, Option.some.injEq] at hv
            subst hv
            simp only [Bool.and_eq_true, Bool.not_eq_true', decide_eq_false_iff_not] at hc
            obtain ⟨⟨⟨g1, g2⟩, ⟨g3, g4⟩, g5⟩, g6, g7⟩ := hc
            have ha : a2 < mN μ := hS _ (List.mem_cons_of_mem _ (List.mem_cons_of_mem _ (List.mem_cons_of_mem _ (List.mem_cons_of_mem _ List.mem_cons_self)))) a2 rfl
            have hb2 : b2 < mN μ := hS _ (List.mem_cons_of_mem _ (List.mem_cons_of_mem _ List.mem_cons_self)) b2 rfl
            have hga := wS_get (ρ := ρ) (cA := cA) ha
            have hgb := wS_get (ρ := ρ) (cA := cA) hb2
            rw [eE_20 (beq_t g1)] at hga
            rw [eE_20 (beq_t g2)] at hgb
            have h3 := rest_le (ρ := ρ) (b := b) hr
            refine va_copyi hx hb (hcm.trans hsz.symm) hown (hts _ hlk) (hts _ (in_good naN_ok rfl)) (hts _ (in_good naS_ok rfl)) (hts _ (in_good naI_ok rfl)) hK hP hDD hSS a2 b2 0 0 hga hgb rfl rfl rfl g3 g4 g5 (Nat.le_of_ble_eq_true g6) (Nat.le_of_ble_eq_true g7) (fun _ _ => rfl) hfr ?_ hd (fun H1 locs1 hP1 hD1 hS1 => ?_)
            · have h4 : nativeFrameWords "java/lang/System" "arraycopy" 5 = 7 := by decide +kernel
              rw [h4]
              omega
            · have hw := wS_ir (ρ := ρ) (cA := cA) (g := cpF (mI μ a2) (mI μ b2) (ix sp) (ix dp2) (ix n)) (beq_t g2)
              have h5 : va_cpy (mI μ a2) (mI μ b2) sp.toNatClampNeg dp2.toNatClampNeg n.toNatClampNeg = cpF (mI μ a2) (mI μ b2) (ix sp) (ix dp2) (ix n) := rfl
              rw [h5, ← hw] at hP1 hD1
              have h9 := kk ρ H1 locs1 (fun _ _ => rfl) (Nat.le_refl _) (Nat.le_refl _) (Nat.le_refl _) rfl hcl hP1 hD1 hS1 hS.tl.tl.tl.tl.tl
              rw [show cells + (mC (sIr μ b2 (cpF (mI μ a2) (mI μ b2) (ix sp) (ix dp2) (ix n))) - mC μ) = cells from z0 rfl, show slots + (mZ (sIr μ b2 (cpF (mI μ a2) (mI μ b2) (ix sp) (ix dp2) (ix n))) - mZ μ) = slots from z1 rfl] at h9
              exact h9
      case h_2 => cases h
    case h_2 =>
      rw [Bool.cond_eq_ite] at h
      split at h
      · simp [aE] at h
      · cases h
  all_goals (exfalso; revert h; simp only [act, Bool.cond_eq_ite, aA, aB, aC, aE, aS, aY, aT]; (repeat' split) <;> (try (intro h; cases h; done)))
  all_goals (intro h; revert h; first | (simp; done) | (cases Nat.beq l1 0 <;> simp; done) | (generalize Nat.ble _ _ = zz; cases zz <;> simp))
end STEPD
