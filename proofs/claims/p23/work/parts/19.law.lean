/-! THE CLAIM OUT OF ONE WALK OF THE LAW'S BODY. Your part is whole_start (and what it stands on); all else here is the same for every law, but numbers. -/
def R_law : String := "CoastRadarLaw"
def lw_P (b : Addr) (xs : List Int32) (args : Array Value) (s : State) : Prop := args = #[.ref b] ∧ s.IntsAt b xs ∧ xs.length ≤ 260 ∧ (Jvm.Cond.and given_1 narrow_1).before args s = true
def lw_Q (_ : Array Value) (s : State) (o : Outcome) (t : State) : Prop := o = .returned (some (.int 1)) ∧ Framed s o t [] 600086 7301442
def lw_Z (below : List Frame) (a : Array Value) (s : State) : State → Prop := fun t => ∃ o, t.status = .running ∧ Ended t below o ∧ lw_Q a s o t
/-- the law's own end, with 1 on the stack, nothing written that was there before, its room as the claim has it -/
theorem lw_ret {p : Program} {l : Launch} {e : Env} {s : State} {m : MethodId} {below : List Frame} {meth : Method} {c : Code} {b : Nat} (hx : p.tables.exec = Jvm.exec) (hb : c.code = code) (hr : meth.sig.returnType = ret) (hlocks : meth.locks = false) {pc : Nat} {H : Heap} {ls : Array Slot} (hdg : decode code pc = .ok (.ireturn, 1)) : W p l e room_1 s m #[Value.ref b] below meth c H [] 600086 7301442 (lw_Z below #[Value.ref b] s) (F0 m pc ls [.int 1]) := by
  intro T hT X
  obtain ⟨fs, hret, hrun, hended, hW, hframe⟩ := X.leave (v := some (.int 1)) (hlocks := hlocks) (fun h => by rw [hr] at h; cases h)
  have hmeth' : T.vm.method? m = some meth := X.method'
  refine ⟨T.setFrames fs, ?_, .returned (some (.int 1)), hrun, hended, rfl, ⟨_, rfl⟩, hW, hframe⟩
  jvm_step X.here [X.here.top, hx, hb, hdg, hmeth', hr, ret, narrow_b1]
  (try refine ⟨rfl, ?_⟩); (try refine ⟨rfl, ?_⟩)
  first | (intro acts; rw [hret _ acts rfl rfl rfl]) | rw [hret _ _ rfl rfl rfl]
  exact Steps.refl _
/-- what holds at the law's entry: the machine, the code, the tables' words (any of lw_tbl by 'hts w (by decide +kernel)'), the script of L ints xs at the cell b, what the Statement gives of the start (any of its parts by flat_of_before) -/
def lw_At (p : Program) (s : State) (m : MethodId) (meth : Method) (c : Code) (b L : Nat) (xs : Nat → Int32) : Prop :=
  p.tables.exec = Jvm.exec ∧ c.code = code ∧ meth.sig.returnType = ret ∧ c.maxLocals = 19 ∧ s.vm.findClass R_law = some m.cls ∧ (∀ w ∈ lw_tbl, w.before #[Value.ref b] s = true) ∧ va_X b L xs s s.heap ∧ b < s.heap.size ∧ meth.locks = false ∧ (Jvm.Cond.and given_1 narrow_1).before #[Value.ref b] s = true
/-- an int handed back is an ireturn's -/
theorem ret_int {pc : Nat} {mls : mLo} {st : mSt} {μ : mMu} {ent : mEnt} {v : Int32} (h : act pc ent mls st μ = some (.inr (.inr (.inr (.inr (.inr (.inr (.inl (true, some (.int v))))))))))  : ent.1 = .ireturn := by
  obtain ⟨i, len, l1, l2, l3, l4⟩ := ent
  cases i
  all_goals first | rfl | skip
  all_goals (exfalso; revert h; simp only [act, Bool.cond_eq_ite, aA, aB, aC, aD, aE, aS, aT, aY]; (repeat' split) <;> (try (intro h; cases h; done)))
  all_goals (intro h; revert h; first | (simp; done) | (cases Nat.beq l1 0 <;> simp; done) | (generalize Nat.ble _ _ = zz; cases zz <;> simp))
/-- the memory at the law's entry -/
def mu0 (L : Nat) (xs : Nat → Int32) : mMu := (fun _ _ => 0, fun _ _ => 0, fun _ _ => 0, fun _ _ => none, fun _ => (0, 0), 0, 0, 0, (L, xs))
/-- the law's walk, by a run of the small machine that ends with 1 -/
theorem law_sim {p : Program} {e : Env} {s : State} {m : MethodId} {below : List Frame} {meth : Method} {c : Code} (l : Launch) (hflags : l.flags = flags0) {b L : Nat} {xs : Nat → Int32} (C0 : lw_At p s m meth c b L xs) {n : Nat} {μe : mMu} (hrun : run prog hnd mML n 0 0 (initL (mML 0) [.retAddr 0]) [] (mu0 L xs) = some (.inl (some (.int 1)), μe)) (h1 : mC μe ≤ 600086) (h2 : mZ μe ≤ 7301442) :
    W p l e room_1 s m #[Value.ref b] below meth c s.heap [] 0 0 (lw_Z below #[Value.ref b] s) (entryFrame m ([Value.ref b] : List Value).toArray 19) := by
  obtain ⟨hx, hb, hr, hml, hown, hts, hX, hbl, hlk, hgv⟩ := C0
  obtain ⟨D, cA, hKK⟩ := start_KK hts hgv hX
  have hst : l.stackTraces = false := by
    show (!l.flags.contains noTraceFlag) = false
    rw [hflags]
    decide +kernel
  have F : FrameOK p l room_1 s m #[Value.ref b] meth c 0 D cA b (fun q => s.heap.size ≤ q) (L, xs) :=
    ⟨hx, hb, hml, hlk, hown, fun h => absurd h (by decide), fun h => absurd h (by decide), fun w hw => hts w (List.mem_filter.mp hw).1, by decide, by decide, hKK, hbl, Nat.not_le.mpr hbl, fun q h => h, by decide, hst⟩
  rw [lg_entry_eq]
  have hbl9 : Nat.ble (xpd [Value.retAddr 0]).length (mML 0) = true := rfl
  have hw0 : ∀ (k : Nat) (q : Nat × va_E), (wS id cA (mu0 L xs))[k]? = some q → False := by
    intro k q h
    cases h
  refine sim_all n p l e room_1 s m #[Value.ref b] below meth c (lw_Z below #[Value.ref b] s) 0 D cA b (fun q => s.heap.size ≤ q) (L, xs) id 0 0 0 (.inl (some (.int 1)), μe) F (by show mC μe ≤ 0 + 600086; omega) (by show mZ μe ≤ 0 + 7301442; omega) ?_ ?_ 0 (initL (mML 0) [.retAddr 0]) [] (mu0 L xs) id _ s.heap [] 0 0 hrun rfl (Nat.zero_le _) (fun a h => absurd h (Nat.not_lt_zero a)) (fun a j r h => absurd h (Nat.not_lt_zero a)) (fun k q h => (hw0 k q h).elim) ⟨fun i j p q h => (hw0 i p h).elim, fun k q h => (hw0 k q h).elim⟩ ⟨Nat.le_refl _, fun _ _ _ => rfl, fun _ h => by cases h⟩ (init_len hbl9) (Lo_init (ρ := id) (b := b) hbl9) (fun v hv => by cases hv) (okL_init (fun v hv => by cases hv with | head => exact okV_x | tail _ h => cases h)) rfl rfl
  · intro x ρ' H locs cells slots pc rls ent mls st hx9 hc hz hp hact hρ hcl hP1 hD1 hS1 hok
    cases hx9
    have hst9 := ret_st hact
    subst hst9
    have he := prog_eok hp
    have hi := ret_int hact
    obtain ⟨i, len, l1, l2, l3, l4⟩ := ent
    subst hi
    simp only [eok, Bool.and_eq_true, decide_eq_true_eq] at he
    obtain ⟨hd, hl, -⟩ := he
    have hl := Nat.eq_of_beq_eq_true hl
    subst hl
    refine va_forget hS1.2.2 ?_
    intro T hT X
    have hc2 : cells ≤ 600086 := by have : cells + 0 = mC μe := hc; omega
    have hz2 : slots ≤ 7301442 := by have : slots + 0 = mZ μe := hz; omega
    exact (lw_ret hx hb hr hlk hd) T hT (stand_widen X hc2 hz2)
  · intro E ρ' H locs cells slots pc rls rest q ce hx9
    cases hx9
/-- the law's walk, by its call -/
theorem law_call {p : Program} {e : Env} {s : State} {m : MethodId} {below : List Frame} {meth : Method} {c : Code} (l : Launch) (hflags : l.flags = flags0) {b L : Nat} {xs : Nat → Int32} (C0 : lw_At p s m meth c b L xs) {μe : mMu} (hcall : CALL 0 [.retAddr 0] (mu0 L xs) = some (.inl (some (.int 1)), μe)) (h1 : mC μe ≤ 600086) (h2 : mZ μe ≤ 7301442) :
    W p l e room_1 s m #[Value.ref b] below meth c s.heap [] 0 0 (lw_Z below #[Value.ref b] s) (entryFrame m ([Value.ref b] : List Value).toArray 19) := by
  obtain ⟨-, h3⟩ := cll_ex mML hcall
  obtain ⟨n, hn⟩ := of_Run prog hnd mML h3
  exact law_sim l hflags C0 hn h1 h2
