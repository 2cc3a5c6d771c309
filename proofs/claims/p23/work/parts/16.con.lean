/-! ===== the run is the machine's, of any length ===== -/
section EXC
variable (prog : Nat → Nat → Option mEnt) (hnd : Nat → List (Nat × Nat × Nat × Nat)) (mML : Nat → Nat)
/-- what a call's answer goes on with -/
theorem exe_call {R : Nat → mLo → mSt → mMu → mOut} {F : Nat → List Value → mMu → mOut} {k pc len : Nat} {ls : mLo} {μ : mMu} {k' : Nat} {as : List Value} {st' : mSt} {rc : Nat} {ok : Bool} {r : (Option Value ⊕ Nat) × mMu} (h : exe prog hnd R F k pc len ls μ (some (.inr (.inr (.inr (.inr (.inl (k', as, st', rc, ok))))))) = some r) :
    ok = true ∧ Nat.ble st'.length 4 = true ∧ ∃ o, F k' as μ = some o ∧ ((∃ x, o.1 = .inl x ∧ R (pc + len) ls (x.toList ++ st') o.2 = some r) ∨ (∃ E, o.1 = .inr E ∧ thr prog hnd R k pc ls E o.2 = some r)) := by
  simp only [exe] at h
  cases ok with
  | false => cases h
  | true =>
    cases hb : Nat.ble st'.length 4 with
    | false => rw [hb] at h; cases h
    | true =>
      rw [hb] at h
      simp only [cond_true] at h
      refine ⟨rfl, rfl, ?_⟩
      split at h
      · unfold oV at h
        split at h
        · next μ1 he => exact ⟨_, he, Or.inl ⟨none, rfl, h⟩⟩
        · next E μ1 he => exact ⟨_, he, Or.inr ⟨E, rfl, h⟩⟩
        · cases h
      · unfold oI at h
        split at h
        · next x μ1 he => exact ⟨_, he, Or.inl ⟨some (.int x), rfl, h⟩⟩
        · next E μ1 he => exact ⟨_, he, Or.inr ⟨E, rfl, h⟩⟩
        · cases h
      · unfold oL at h
        split at h
        · next x μ1 he => exact ⟨_, he, Or.inl ⟨some (.long x), rfl, h⟩⟩
        · next E μ1 he => exact ⟨_, he, Or.inr ⟨E, rfl, h⟩⟩
        · cases h
      · unfold oD at h
        split at h
        · next x μ1 he => exact ⟨_, he, Or.inl ⟨some (.double x), rfl, h⟩⟩
        · next E μ1 he => exact ⟨_, he, Or.inr ⟨E, rfl, h⟩⟩
        · cases h
      · unfold oR at h
        split at h
        · next x μ1 he => exact ⟨_, he, Or.inl ⟨some (.ref x), rfl, h⟩⟩
        · next μ1 he => exact ⟨_, he, Or.inl ⟨some .null, rfl, h⟩⟩
        · next E μ1 he => exact ⟨_, he, Or.inr ⟨E, rfl, h⟩⟩
        · cases h
      · cases h
end EXC
/-- a call's arguments come off the stack -/
theorem act_as {pc : Nat} {ent : mEnt} {mls : mLo} {st st' : mSt} {μ : mMu} {N k' rc : Nat} {as : List Value} {ok : Bool} (h : act pc ent mls st μ = some (.inr (.inr (.inr (.inr (.inl (k', as, st', rc, ok))))))) (hS : okS N st) : okS N as ∧ okS N st' := by
  obtain ⟨i, len, l1, l2, l3, l4⟩ := ent
  cases i
  case invokestatic idx =>
    simp only [act] at h
    split at h
    case h_1 =>
      split at h
      · rw [Bool.cond_eq_ite] at h
        split at h
        · simp [aD] at h
        · cases h
      · cases h
    case h_2 hn9 =>
      rw [Bool.cond_eq_ite] at h
      split at h
      case isFalse => cases h
      case isTrue hle =>
        simp only [aE, Option.some.injEq, Sum.inr.injEq, Sum.inl.injEq, Prod.mk.injEq] at h
        obtain ⟨rfl, rfl, rfl, rfl, -⟩ := h
        exact ⟨okS_as hS, okS_rest hS⟩
  case invokevirtual idx =>
    simp only [act] at h
    rw [Bool.cond_eq_ite] at h
    split at h
    case isFalse => cases h
    case isTrue hle =>
      split at h
      case h_2 => cases h
      case h_1 a as0 heq =>
        simp only [aE, Option.some.injEq, Sum.inr.injEq, Sum.inl.injEq, Prod.mk.injEq] at h
        obtain ⟨rfl, rfl, rfl, rfl, -⟩ := h
        have hoa := okS_as (n := l2) hS
        rw [heq] at hoa
        exact ⟨hoa, okS_rest hS⟩
  case invokespecial idx =>
    simp only [act] at h
    split at h
    case h_1 =>
      split at h
      · rw [Bool.cond_eq_ite] at h
        split at h
        · simp [aA] at h
        · cases h
      · cases h
    case h_2 hn8 =>
      rw [Bool.cond_eq_ite] at h
      split at h
      case isFalse => cases h
      case isTrue hle =>
        split at h
        case h_2 => cases h
        case h_1 a as0 heq =>
          simp only [aE, Option.some.injEq, Sum.inr.injEq, Sum.inl.injEq, Prod.mk.injEq] at h
          obtain ⟨rfl, rfl, rfl, rfl, -⟩ := h
          have hoa := okS_as (n := l2) hS
          rw [heq] at hoa
          exact ⟨hoa, okS_rest hS⟩
  all_goals (exfalso; revert h; simp only [act, Bool.cond_eq_ite, aA, aB, aC, aD, aS, aY, aT]; (repeat' split) <;> (try (intro h; cases h; done)))
  all_goals (intro h; revert h; first | (simp; done) | (cases Nat.beq l1 0 <;> simp; done) | (generalize Nat.ble _ _ = zz; cases zz <;> simp))
section SIMS
variable {p : Program} {l : Launch} {e : Env} {R : Room} {s : State} {m : MethodId} {args : Array Value} {below : List Frame} {meth : Method} {c : Code} {H : Heap} {locs : List Loc} {cells slots : Nat} {Q : State → Prop} {k pc : Nat} {mls : mLo} {st : mSt} {μ : mMu} {ρ : Nat → Nat} {b : Nat} {rls : Array Slot} {D : va_G} {cA : Nat → ClassId} {A : Nat → Prop}
theorem map_congr_eV {ρ ρ' : Nat → Nat} {b N : Nat} {st : mSt} (h : ∀ a, a < N → ρ' a = ρ a) (hS : okS N st) : st.map (eV ρ' b) = st.map (eV ρ b) := List.map_congr_left fun v hv => eV_congr h (hS v hv)
/-- a call, by its run -/
theorem callG {mc ms n0 : Nat} {A1 : Nat → Prop} {st' : mSt} {free : Addr → Prop} {a' : Array Value} {o : (Option Value ⊕ Nat) × mMu} (hr : vx_Run p l e R s m args below meth c H locs cells slots mc ms (F0 m pc rls (st.map (eV ρ b))) (st'.map (eV ρ b)) (QG D cA b ρ n0 A1 o a') (XG D cA ρ n0 A1 o) free)
    (hS : va_S A s.heap H locs) (hA : ∀ q, q < H.size → A1 q → A q) (hf : ∀ q, free q → A q)
    (kx : ∀ (E : Nat) (ρ' : Nat → Nat) (H1 : Heap) (locs1 : List Loc) (q : Nat) (ce : Cell), o.1 = .inr E → (∀ a, a < n0 → ρ' a = ρ a) → clo o.2 → va_P D mCl (wS ρ' cA o.2) H1 → va_D A1 (wS ρ' cA o.2) → va_S A s.heap H1 locs1 → H1[q]? = some ce → ce.vm = .none → s.vm.findClass (exN E) = some ce.cls → vx_W p l e R s m args below meth c H1 locs1 (cells + mc) (slots + ms) Q (F0 m pc rls (st'.map (eV ρ b))) q)
    (kk : ∀ (x : Option Value) (ρ' : Nat → Nat) (H1 : Heap) (locs1 : List Loc), o.1 = .inl x → (∀ a, a < n0 → ρ' a = ρ a) → okO (mN o.2) x → clo o.2 → va_P D mCl (wS ρ' cA o.2) H1 → va_D A1 (wS ρ' cA o.2) → va_S A s.heap H1 locs1 → W p l e R s m args below meth c H1 locs1 (cells + mc) (slots + ms) Q (F0 m (pc + 3) rls ((x.map (eV ρ' b)).toList ++ st'.map (eV ρ b)))) : W p l e R s m args below meth c H locs cells slots Q (F0 m pc rls (st.map (eV ρ b))) := by
  intro T hT X
  rcases hr T hT X with ⟨v, st₀, t, T', L, h0, X', hL, e1, e2, ⟨⟨x, ρ', hv, hx, g1, g2, g3, g4, g5⟩, hF⟩, hst⟩ | ⟨q, st₀, t, T', L, E, ce, h0, X', hL, e1, e2, ⟨⟨En, ρ', rfl, hx, g1, g3, g4, g5⟩, hF⟩, hce, hcv, hcl, hst⟩
  · cases hv
    obtain ⟨k1, k2, k3⟩ := vx_keep h0 e1 hS hA hf hL hF
    obtain ⟨t2, a1, b1⟩ := kk x ρ' T'.heap (locs ++ L) hx g1 g2 g3 (by rw [e1]; exact g4) g5 k3 T' rfl X'
    exact ⟨t2, hst t2 a1, b1⟩
  · obtain ⟨k1, k2, k3⟩ := vx_keep h0 e1 hS hA hf hL hF
    obtain ⟨t2, a1, b1⟩ := kx En ρ' T'.heap (locs ++ L) q ce hx g1 g3 (by rw [e1]; exact g4) g5 k3 (by rw [e1]; exact hce) hcv hcl T' rfl X'
    exact ⟨t2, hst.trans a1, b1⟩
set_option maxHeartbeats 1000000 in
/-- a body meets its contract, by its run -/
theorem con_body {n sz mc ms : Nat} (hn : SimP n) (hk : k < 101) (hpl : plainFor (mNm k) = true) (hcls : (mNm k).cls = mOw k) (hst : l.stackTraces = false) {as : List Value} {res : (Option Value ⊕ Nat) × mMu} (hrun : cll mML (fun k ls => run prog hnd mML n k 0 ls [] μ) k as = some res) (hoS : okS (mN μ) as) (hclo : clo μ) (hb : b < sz) (hbρ : ∀ a, a < mN μ → ρ a ≠ b) (hmc : mC μ + mc = mC res.2) (hms : mZ μ + ms = mZ res.2)
    {s₁ : State} (hB : BodyLoose p l (mNm k) (headSpec (wsK k) (rmK k mc ms)) (mBy k) (mML k) (mRt k) e s m args below meth c s₁) (hml : c.maxLocals = mML k) (htab : ck k = 2 → c.exceptionTable.toList = tableOf (hh k)) (hout : (hnd k).isEmpty = true → ∀ x ∈ c.exceptionTable.toList, False) (hP : PG D cA b ρ μ sz as args s) :
    W p l e (headSpec (wsK k) (rmK k mc ms)).room s m args below meth c s.heap [] 0 0 (vx_MQ below (QG D cA b ρ (mN μ) (va_A (wS ρ cA μ) sz) res) (XG D cA ρ (mN μ) (va_A (wS ρ cA μ) sz) res) args s mc ms (va_A (wS ρ cA μ) sz)) (entryFrame m args (mML k)) := by
  obtain ⟨ha, hsz, hPP, hKK, hDD⟩ := hP
  obtain ⟨hbl, hr⟩ := cll_ex mML hrun
  have hpre := atoms_spec (ws := wsK k) hB.pre
  have F : FrameOK p l (headSpec (wsK k) (rmK k mc ms)).room s m args meth c k D cA b (va_A (wS ρ cA μ) sz) (mX μ) := by
    refine ⟨hB.exec, hB.bytes, hml, hB.notSynchronized, ?_, fun hi => ?_, htab, fun w hw => hpre w (List.mem_cons_of_mem _ hw), Nat.le_refl _, Nat.le_refl _, hKK, by rw [hsz]; exact hb, ?_, fun q hq => Or.inr (by rw [← hsz]; exact hq), hk, hst⟩
    · rw [← hcls]
      exact findClass_of_methodNamed hB.named
    · rw [(name_of_methodNamed hB.named hB.method).1]
      exact hi
    · rintro (⟨i, e1, h⟩ | h)
      · have hi : i < mN μ := by
          have := (List.getElem?_eq_some_iff.mp h).1
          rwa [wS_len] at this
        rw [wS_get hi] at h
        simp only [Option.some.injEq, Prod.mk.injEq] at h
        exact hbρ i hi h.1
      · omega
  rw [ha, lg_entry_eq, ← ha]
  have hroom1 : (headSpec (wsK k) (rmK k mc ms)).room.cells = mc := rfl
  have hroom2 : (headSpec (wsK k) (rmK k mc ms)).room.slots = ms := rfl
  refine hn p l e _ s m args below meth c _ k D cA b (va_A (wS ρ cA μ) sz) (mX μ) ρ (mN μ) (mC μ) (mZ μ) res F (by rw [hroom1]; omega) (by rw [hroom2]; omega) ?_ ?_ 0 (initL (mML k) as) [] μ ρ _ s.heap [] 0 0 hr rfl (Nat.le_refl _) (fun _ _ => rfl) hclo hPP (hDD.weaken (fun i q hi _ => va_A.in hi)) ⟨Nat.le_refl _, fun _ _ _ => rfl, fun _ h => by cases h⟩ (init_len hbl) (Lo_init hbl) (fun v hv => by cases hv) (okL_init hoS) (Nat.zero_add _) (Nat.zero_add _)
  · intro x ρ' H locs cells slots pc rls ent mls st hx hc hz hp hact hρ hcl hP1 hD1 hS1 hok
    obtain rfl : cells = mc := by omega
    obtain rfl : slots = ms := by omega
    have hst9 := ret_st hact
    refine ret_W hB.exec hB.bytes hB.returns hB.notSynchronized (prog_eok hp) hact (fun t ht hW => ⟨⟨x, ρ', rfl, hx, hρ, fun v hv => ?_, hcl, by rw [ht]; exact hP1, hD1⟩, hS1.F ht⟩) hS1.2.2
    exact hok v (by rw [hst9, hv]; exact List.mem_cons_self)
  · intro E ρ' H locs cells slots pc rls rest q ce hx hc hz hem hρ hcl hP1 hD1 hS1 hce hcv hcc
    exact vx_out (fun x hx9 => (hout hem x hx9).elim) hB.notSynchronized hce hcv hcc (fun t ht _ => ⟨⟨E, ρ', rfl, hx, hρ, hcl, by rw [ht]; exact hP1, hD1⟩, hS1.F ht⟩) hS1.2.2 (by omega) (by omega)
set_option maxHeartbeats 1000000 in
/-- a method's contract, by its run -/
theorem con {n sz : Nat} (hn : SimP n) (hk : k < 101) (hck : ck k ≠ 0) (hpl : plainFor (mNm k) = true) (hcls : (mNm k).cls = mOw k) (hst : l.stackTraces = false) {as : List Value} {res : (Option Value ⊕ Nat) × mMu} (hrun : cll mML (fun k ls => run prog hnd mML n k 0 ls [] μ) k as = some res) (hoS : okS (mN μ) as) (hclo : clo μ) (hb : b < sz) (hbρ : ∀ a, a < mN μ → ρ a ≠ b) :
    vx_Met l (mNm k) (wsK k) (rmK k (mC res.2 - mC μ) (mZ res.2 - mZ μ)) (PG D cA b ρ μ sz as) (QG D cA b ρ (mN μ) (va_A (wS ρ cA μ) sz) res) (XG D cA ρ (mN μ) (va_A (wS ρ cA μ) sz) res) (mC res.2 - mC μ) (mZ res.2 - mZ μ) (va_A (wS ρ cA μ) sz) := by
  obtain ⟨hbl, hr⟩ := cll_ex mML hrun
  have hcnt := run_cnt n hr
  have hmc : mC μ + (mC res.2 - mC μ) = mC res.2 := by have := hcnt.1; omega
  have hms : mZ μ + (mZ res.2 - mZ μ) = mZ res.2 := by have := hcnt.2.1; omega
  cases h2 : Nat.beq (ck k) 2 with
  | true =>
    have hcd : cdW k = Cond.codeWith (mNm k) (mBy k) (mML k) (mRt k) (hh k) := by unfold cdW; rw [h2]; rfl
    refine plainF_ofWH (ws' := lw_good) hpl (by unfold wsK; rw [hcd]) ?_
    intro p e s m args below meth c s₁ hB hml hP
    have htab := vx_table (x := mNm k) hB (atoms_spec (ws := wsK k) hB.pre _ (by unfold wsK; rw [hcd]; exact List.mem_cons_self))
    refine con_body hn hk hpl hcls hst hrun hoS hclo hb hbρ hmc hms hB hml (fun _ => htab) (fun hem => ?_) hP
    rw [((h_ok k hk).1 (beq_t h2)).2.2] at hem
    cases hem
  | false =>
    have hcd : cdW k = Cond.code (mNm k) (mBy k) (mML k) (mRt k) := by unfold cdW; rw [h2]; rfl
    refine plainF_ofW (ws' := lw_good) hpl (by unfold wsK; rw [hcd]) ?_
    intro p e s m args below meth c s₁ hB hml ht hP
    refine con_body hn hk hpl hcls hst hrun hoS hclo hb hbρ hmc hms hB hml (fun hz => ?_) (fun _ => ht) hP
    rw [hz] at h2
    cases h2
end SIMS
