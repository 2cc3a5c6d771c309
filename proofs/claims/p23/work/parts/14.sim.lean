/-! ===== the small machine's run is the machine's ===== -/
theorem dp_pos : ∀ k, k < 101 → 1 ≤ dp k := by
  have h : (List.range 101).all (fun k => Nat.ble 1 (dp k)) = true := by decide +kernel
  intro k hk
  exact Nat.le_of_ble_eq_true (List.all_eq_true.mp h k (List.mem_range.mpr hk))
/-- entries of exception classes in the law's class -/
def xcT : List (Nat × Nat × Nat) := []
theorem xcT_ok : xcT.all (fun q => decide (lw_tbl[q.2.1]? = some (Cond.classLink "CoastRadarLaw" q.1 (exN q.2.2))) && Nat.blt q.2.2 3 && !Nat.beq q.1 0) = true := by decide +kernel
/-- a method's table and its numbers -/
def hrel (a : List (Nat × Nat × Nat × Nat)) (b : List (Nat × Nat × Nat × Nat)) : Bool := match a, b with
  | [], [] => true
  | (a1, a2, a3, a4) :: a, (b1, b2, b3, b4) :: b => Nat.beq a1 b1 && Nat.beq a2 b2 && Nat.beq a3 b3 && xcT.any (fun q => Nat.beq q.1 a4 && Nat.beq q.2.2 b4) && hrel a b
  | _, _ => false
theorem h_ok : ∀ k, k < 101 → (ck k = 2 → hrel (hh k) (hnd k) = true ∧ mOw k = "CoastRadarLaw" ∧ (hnd k).isEmpty = false) ∧ (ck k ≠ 2 → hnd k = []) := by
  have h : (List.range 101).all (fun k => bif Nat.beq (ck k) 2 then hrel (hh k) (hnd k) && decide (mOw k = "CoastRadarLaw") && !(hnd k).isEmpty else decide (hnd k = [])) = true := by decide +kernel
  intro k hk
  have h1 := List.all_eq_true.mp h k (List.mem_range.mpr hk)
  cases hc : Nat.beq (ck k) 2 with
  | true =>
    rw [hc] at h1
    simp only [cond_true, Bool.and_eq_true, decide_eq_true_eq, Bool.not_eq_true'] at h1
    exact ⟨fun _ => ⟨h1.1.1, h1.1.2, h1.2⟩, fun z => absurd (beq_t hc) z⟩
  | false =>
    rw [hc] at h1
    simp only [cond_false, decide_eq_true_eq] at h1
    exact ⟨fun z => (by rw [z] at hc; cases hc), fun _ => h1⟩
theorem xc_use {a E : Nat} (h : xcT.any (fun q => Nat.beq q.1 a && Nat.beq q.2.2 E) = true) : Cond.classLink "CoastRadarLaw" a (exN E) ∈ lw_good ∧ E < 3 ∧ a ≠ 0 := by
  obtain ⟨q, hq, h2⟩ := List.any_eq_true.mp h
  simp only [Bool.and_eq_true] at h2
  have e1 := beq_t h2.1
  have e2 := beq_t h2.2
  have h3 := List.all_eq_true.mp xcT_ok q hq
  rw [e1, e2] at h3
  simp only [Bool.and_eq_true, decide_eq_true_eq, Nat.blt_eq, Bool.not_eq_true'] at h3
  refine ⟨in_good h3.1.1 rfl, h3.1.2, fun z => ?_⟩
  have h4 := h3.2
  rw [z] at h4
  cases h4
/-- the row of a method's table that takes an exception -/
theorem hsel_row {pc E : Nat} : ∀ (a b : List (Nat × Nat × Nat × Nat)) (h : Nat), hrel a b = true → hsel pc E b = some h → ∃ (pre : List ExceptionTableEntry) (x : ExceptionTableEntry) (suf : List ExceptionTableEntry), tableOf a = pre ++ x :: suf ∧ covers x pc = true ∧ x.handlerPc = h ∧ x.catchType ≠ 0 ∧ Cond.classLink "CoastRadarLaw" x.catchType (exN E) ∈ lw_good ∧ (∀ z ∈ pre, covers z pc = false ∨ (z.catchType ≠ 0 ∧ ∃ F, F < 3 ∧ F ≠ E ∧ Cond.classLink "CoastRadarLaw" z.catchType (exN F) ∈ lw_good))
  | [], [], h, _, hs => by cases hs
  | [], _ :: _, h, hr, _ => by cases hr
  | _ :: _, [], h, hr, _ => by cases hr
  | (a1, a2, a3, a4) :: a, (b1, b2, b3, b4) :: b, h, hr, hs => by
    unfold hrel at hr
    simp only [Bool.and_eq_true] at hr
    obtain ⟨⟨⟨⟨r1, r2⟩, r3⟩, r4⟩, r5⟩ := hr
    have r1 := beq_t r1
    have r2 := beq_t r2
    have r3 := beq_t r3
    subst r1
    subst r2
    subst r3
    obtain ⟨g1, g2, g3⟩ := xc_use r4
    unfold hsel at hs
    have hcov : covers (⟨a1, a2, a3, a4⟩ : ExceptionTableEntry) pc = (Nat.ble a1 pc && Nat.blt pc a2) := by
      show (decide (a1 ≤ pc) && decide (pc < a2)) = _
      congr 1
      · rw [Bool.eq_iff_iff, decide_eq_true_eq, Nat.ble_eq]
      · rw [Bool.eq_iff_iff, decide_eq_true_eq, Nat.blt_eq]
    cases hc : Nat.ble a1 pc && Nat.blt pc a2 && Nat.beq b4 E with
    | true =>
      rw [hc] at hs
      simp only [cond_true, Option.some.injEq] at hs
      simp only [Bool.and_eq_true] at hc
      have e4 := beq_t hc.2
      subst e4
      refine ⟨[], ⟨a1, a2, a3, a4⟩, tableOf a, rfl, ?_, hs, g3, g1, fun z hz => by cases hz⟩
      rw [hcov, hc.1.1, hc.1.2]
      rfl
    | false =>
      rw [hc] at hs
      simp only [cond_false] at hs
      obtain ⟨pre, x, suf, t1, t2, t3, t4, t5, t6⟩ := hsel_row a b h r5 hs
      refine ⟨⟨a1, a2, a3, a4⟩ :: pre, x, suf, by rw [List.cons_append, ← t1]; rfl, t2, t3, t4, t5, fun z hz => ?_⟩
      rcases List.mem_cons.mp hz with rfl | hz
      · cases hcv : Nat.ble a1 pc && Nat.blt pc a2 with
        | false => exact Or.inl (hcov.trans hcv)
        | true =>
          rw [hcv] at hc
          simp only [Bool.true_and] at hc
          refine Or.inr ⟨g3, b4, g2, fun z => ?_, g1⟩
          rw [z, Nat.beq_refl] at hc
          cases hc
      · exact t6 z hz
/-- what is owed at a frame's end -/
def RetP (p : Program) (l : Launch) (e : Env) (R : Room) (s : State) (m : MethodId) (args : Array Value) (below : List Frame) (meth : Method) (c : Code) (Q : State → Prop) (k : Nat) (D : va_G) (cA : Nat → ClassId) (b : Nat) (A : Nat → Prop) (ρ0 : Nat → Nat) (n0 c0 z0 : Nat) (res : (Option Value ⊕ Nat) × mMu) : Prop :=
  ∀ (x : Option Value) (ρ : Nat → Nat) (H : Heap) (locs : List Loc) (cells slots pc : Nat) (rls : Array Slot) (ent : mEnt) (mls : mLo) (st : mSt), res.1 = .inl x → cells + c0 = mC res.2 → slots + z0 = mZ res.2 → prog k pc = some ent → act pc ent mls st res.2 = some (.inr (.inr (.inr (.inr (.inr (.inr (.inl (true, x)))))))) → (∀ a, a < n0 → ρ a = ρ0 a) → clo res.2 → va_P D mCl (wS ρ cA res.2) H → va_D A (wS ρ cA res.2) → va_S A s.heap H locs → okS (mN res.2) st → W p l e R s m args below meth c H locs cells slots Q (F0 m pc rls (st.map (eV ρ b)))
def ThrP (p : Program) (l : Launch) (e : Env) (R : Room) (s : State) (m : MethodId) (args : Array Value) (below : List Frame) (meth : Method) (c : Code) (Q : State → Prop) (k : Nat) (D : va_G) (cA : Nat → ClassId) (b : Nat) (A : Nat → Prop) (ρ0 : Nat → Nat) (n0 c0 z0 : Nat) (res : (Option Value ⊕ Nat) × mMu) : Prop :=
  ∀ (E : Nat) (ρ : Nat → Nat) (H : Heap) (locs : List Loc) (cells slots pc : Nat) (rls : Array Slot) (rest : List Value) (q : Nat) (ce : Cell), res.1 = .inr E → cells + c0 = mC res.2 → slots + z0 = mZ res.2 → (hnd k).isEmpty = true → (∀ a, a < n0 → ρ a = ρ0 a) → clo res.2 → va_P D mCl (wS ρ cA res.2) H → va_D A (wS ρ cA res.2) → va_S A s.heap H locs → H[q]? = some ce → ce.vm = .none → s.vm.findClass (exN E) = some ce.cls → vx_W p l e R s m args below meth c H locs cells slots Q (F0 m pc rls rest) q
/-- the frame's walk, by the run with n steps -/
def SimP (n : Nat) : Prop := ∀ (p : Program) (l : Launch) (e : Env) (R : Room) (s : State) (m : MethodId) (args : Array Value) (below : List Frame) (meth : Method) (c : Code) (Q : State → Prop) (k : Nat) (D : va_G) (cA : Nat → ClassId) (b : Nat) (A : Nat → Prop) (X : Nat × (Nat → Int32)) (ρ0 : Nat → Nat) (n0 c0 z0 : Nat) (res : (Option Value ⊕ Nat) × mMu),
  FrameOK p l R s m args meth c k D cA b A X → mC res.2 ≤ c0 + R.cells → mZ res.2 ≤ z0 + R.slots →
  RetP p l e R s m args below meth c Q k D cA b A ρ0 n0 c0 z0 res → ThrP p l e R s m args below meth c Q k D cA b A ρ0 n0 c0 z0 res →
  ∀ (pc : Nat) (mls : mLo) (st : mSt) (μ : mMu) (ρ : Nat → Nat) (rls : Array Slot) (H : Heap) (locs : List Loc) (cells slots : Nat),
    run prog hnd mML n k pc mls st μ = some res → mX μ = X → n0 ≤ mN μ → (∀ a, a < n0 → ρ a = ρ0 a) → clo μ → va_P D mCl (wS ρ cA μ) H → va_D A (wS ρ cA μ) → va_S A s.heap H locs →
    mls.length = mML k → Lo ρ b (mML k) mls rls → okS (mN μ) st → okL (mN μ) mls → cells + c0 = mC μ → slots + z0 = mZ μ →
    W p l e R s m args below meth c H locs cells slots Q (F0 m pc rls (st.map (eV ρ b)))
theorem plainF_ofW {l : Launch} {y : MethodName} {ws ws' : List Cond} {rm : Room} {Pc : Array Value → State → Prop} {Qc : Array Value → State → Outcome → State → Prop} {XC : String → State → State → Prop} {mc ms : Nat} {free : Addr → Prop} {cc : ByteArray} {maxL : Nat} {ret : Option FieldType}
    (hy : plainFor y = true) (hw : ws = Cond.code y cc maxL ret :: ws')
    (body : ∀ p e s m args below meth c s₁, BodyLoose p l y (headSpec ws rm) cc maxL ret e s m args below meth c s₁ → c.maxLocals = maxL → (∀ x ∈ c.exceptionTable.toList, False) → Pc args s →
      W p l e (headSpec ws rm).room s m args below meth c s.heap [] 0 0 (vx_MQ below Qc XC args s mc ms free) (entryFrame m args maxL)) : vx_Met l y ws rm Pc Qc XC mc ms free := by
  refine MetFree.of_bodySF (code := cc) (maxLocals := maxL) (ret := ret) hy ?_ ?_
  · intro args s m h hn
    obtain ⟨meth, c, h1, h2, h3, h4, h5, h6, -, -⟩ := Cond.code_spec hn (atoms_spec (ws := ws) h _ (by rw [hw]; exact List.mem_cons_self))
    exact ⟨meth, c, h1, h2, h3, h4, h5, h6⟩
  · intro p e s m args below meth c s₁ B hml hP _
    have hh0 : s₁.heap = s.heap := by rw [B.state]; rfl
    have ht : ∀ x ∈ c.exceptionTable.toList, False := by
      obtain ⟨meth9, c9, h1, h2, -, -, -, -, h7, -⟩ := Cond.code_spec B.named (atoms_spec (ws := ws) B.pre _ (by rw [hw]; exact List.mem_cons_self))
      cases Option.some.inj (h1.symm.trans B.method)
      cases Option.some.inj (h2.symm.trans (Stand.of_body B).code)
      intro x hx
      rw [Array.isEmpty_iff.mp h7] at hx
      cases hx
    obtain ⟨t, a1, o, b1, b2, b3⟩ := body p e s m args below meth c s₁ B hml ht hP s₁ hh0 (Stand.of_body B)
    exact ⟨t, o, a1, b1, b2, b3⟩
theorem plainF_ofWH {l : Launch} {y : MethodName} {ws ws' : List Cond} {rm : Room} {Pc : Array Value → State → Prop} {Qc : Array Value → State → Outcome → State → Prop} {XC : String → State → State → Prop} {mc ms : Nat} {free : Addr → Prop} {cc : ByteArray} {maxL : Nat} {ret : Option FieldType} {hh : List (Nat × Nat × Nat × Nat)}
    (hy : plainFor y = true) (hw : ws = Cond.codeWith y cc maxL ret hh :: ws')
    (body : ∀ p e s m args below meth c s₁, BodyLoose p l y (headSpec ws rm) cc maxL ret e s m args below meth c s₁ → c.maxLocals = maxL → Pc args s →
      W p l e (headSpec ws rm).room s m args below meth c s.heap [] 0 0 (vx_MQ below Qc XC args s mc ms free) (entryFrame m args maxL)) : vx_Met l y ws rm Pc Qc XC mc ms free := by
  refine MetFree.of_bodySF (code := cc) (maxLocals := maxL) (ret := ret) hy ?_ ?_
  · intro args s m h hn
    obtain ⟨m9, meth, c, hn9, h1, h2, h3, h4, -, h5, h6, -⟩ := Cond.codeWith_spec (atoms_spec (ws := ws) h _ (by rw [hw]; exact List.mem_cons_self))
    cases hn.symm.trans hn9
    exact ⟨meth, c, h1, h2, h3, h4, h5, h6⟩
  · intro p e s m args below meth c s₁ B hml hP _
    have hh0 : s₁.heap = s.heap := by rw [B.state]; rfl
    obtain ⟨t, a1, o, b1, b2, b3⟩ := body p e s m args below meth c s₁ B hml hP s₁ hh0 (Stand.of_body B)
    exact ⟨t, o, a1, b1, b2, b3⟩
section ENDS
variable {p : Program} {l : Launch} {e : Env} {R : Room} {s : State} {m : MethodId} {args : Array Value} {below : List Frame} {meth : Method} {c : Code} {H : Heap} {locs : List Loc} {cells slots : Nat} {Q : State → Prop} {k pc : Nat} {mls : mLo} {st : mSt} {μ : mMu} {ρ : Nat → Nat} {b : Nat} {rls : Array Slot} {D : va_G} {cA : Nat → ClassId} {A : Nat → Prop}
set_option maxHeartbeats 4000000 in
set_option maxRecDepth 20000 in
/-- a return -/
theorem ret_W {Qc : Array Value → State → Outcome → State → Prop} {XC : String → State → State → Prop} {free : Addr → Prop} (hx : p.tables.exec = Jvm.exec) (hb : c.code = mBy k) (hr : meth.sig.returnType = mRt k) (hlocks : meth.locks = false) {ent : mEnt} (he : eok k pc ent = true) {x : Option Value} (h : act pc ent mls st μ = some (.inr (.inr (.inr (.inr (.inr (.inr (.inl (true, x)))))))))
    (hq : ∀ t : State, t.heap = H → s.WarmedH t.vm → Qc args s (.returned (x.map (eV ρ b))) t) (hf : ∀ q ∈ locs, free q.base) : W p l e R s m args below meth c H locs cells slots (vx_MQ below Qc XC args s cells slots free) (F0 m pc rls (st.map (eV ρ b))) := by
  refine vx_ret ?_
  obtain ⟨i, len, l1, l2, l3, l4⟩ := ent
  cases i
  case ireturn =>
    simp only [eok, Bool.and_eq_true, decide_eq_true_eq] at he
    obtain ⟨hd, hl, ht⟩ := he
    have hl := Nat.eq_of_beq_eq_true hl
    subst hl
    simp only [act] at h
    split at h
    case h_2 => cases h
    case h_1 v =>
      simp only [aY, Option.some.injEq, Sum.inr.injEq, Sum.inl.injEq, Prod.mk.injEq] at h
      obtain ⟨hz, rfl⟩ := h
      cases hc : Nat.beq l1 1 with
      | true =>
        rw [hc] at hz ht
        simp only [cond_true, decide_eq_true_eq] at hz ht
        exact W.zret hx hb (hr.trans ht) (isW_fits hz).1 hq hf hd hlocks
      | false =>
        rw [hc] at ht
        simp only [cond_false, decide_eq_true_eq] at ht
        exact W.iret hx hb (hr.trans ht) hq hf hd hlocks
  case lreturn =>
    simp only [eok, Bool.and_eq_true, decide_eq_true_eq] at he
    obtain ⟨hd, hl, ht⟩ := he
    have hl := Nat.eq_of_beq_eq_true hl
    subst hl
    simp only [act] at h
    split at h
    case h_2 => cases h
    case h_1 v =>
      simp only [aY, Option.some.injEq, Sum.inr.injEq, Sum.inl.injEq, Prod.mk.injEq, true_and] at h
      subst h
      exact W.lret hx hb (hr.trans ht) hq hf hd hlocks
  case dreturn =>
    simp only [eok, Bool.and_eq_true, decide_eq_true_eq] at he
    obtain ⟨hd, hl, ht⟩ := he
    have hl := Nat.eq_of_beq_eq_true hl
    subst hl
    simp only [act] at h
    split at h
    case h_2 => cases h
    case h_1 v =>
      simp only [aY, Option.some.injEq, Sum.inr.injEq, Sum.inl.injEq, Prod.mk.injEq, true_and] at h
      subst h
      exact W.dret hx hb (hr.trans ht) hq hf hd hlocks
  case return_ =>
    simp only [eok, Bool.and_eq_true, decide_eq_true_eq] at he
    obtain ⟨hd, hl, ht⟩ := he
    have hl := Nat.eq_of_beq_eq_true hl
    subst hl
    simp only [act] at h
    split at h
    case h_2 => cases h
    case h_1 =>
      simp only [aY, Option.some.injEq, Sum.inr.injEq, Sum.inl.injEq, Prod.mk.injEq, true_and] at h
      subst h
      exact W.vret hx hb (hr.trans ht) hq hf hd hlocks
  case areturn =>
    simp only [eok, Bool.and_eq_true, decide_eq_true_eq] at he
    obtain ⟨hd, hl, ht⟩ := he
    have hl := Nat.eq_of_beq_eq_true hl
    subst hl
    have hrt : ∃ rt, mRt k = some rt ∧ ((∃ n, rt = .object n) ∨ ∃ t, rt = .array t) := by
      revert ht
      cases mRt k with
      | none => intro z; cases z
      | some rt => cases rt <;> first | (intro z; cases z; done) | exact fun _ => ⟨_, rfl, Or.inl ⟨_, rfl⟩⟩ | exact fun _ => ⟨_, rfl, Or.inr ⟨_, rfl⟩⟩
    obtain ⟨rt, h1, h2⟩ := hrt
    simp only [act] at h
    split at h
    case h_3 => cases h
    case h_1 v =>
      simp only [aY, Option.some.injEq, Sum.inr.injEq, Sum.inl.injEq, Prod.mk.injEq, true_and] at h
      subst h
      exact W.aret hx hb (hr.trans h1) h2 (Or.inr ⟨_, rfl⟩) hq hf hd hlocks
    case h_2 =>
      simp only [aY, Option.some.injEq, Sum.inr.injEq, Sum.inl.injEq, Prod.mk.injEq, true_and] at h
      subst h
      exact W.aret hx hb (hr.trans h1) h2 (Or.inl rfl) hq hf hd hlocks
  all_goals (exfalso; revert h; simp only [act, Bool.cond_eq_ite, aA, aB, aC, aD, aE, aS, aT]; (repeat' split) <;> (try (intro h; cases h; done)))
  all_goals (intro h; revert h; first | (simp; done) | (cases Nat.beq l1 0 <;> simp; done) | (generalize Nat.ble _ _ = zz; cases zz <;> simp))
/-- what a return hands back stands on the stack -/
theorem ret_st {ent : mEnt} {x : Option Value} (h : act pc ent mls st μ = some (.inr (.inr (.inr (.inr (.inr (.inr (.inl (true, x))))))))) : st = x.toList := by
  obtain ⟨i, len, l1, l2, l3, l4⟩ := ent
  cases i
  all_goals (revert h; simp only [act, Bool.cond_eq_ite, aA, aB, aC, aD, aE, aS, aT, aY]; (repeat' split) <;> (try (intro h; cases h; first | rfl | done)))
  all_goals (intro h; revert h; first | (simp; done) | (simp; intros; subst_vars; rfl))
end ENDS
