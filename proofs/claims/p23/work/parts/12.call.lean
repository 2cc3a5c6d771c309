/-! ===== calls ===== -/
theorem split_st {st : mSt} {n : Nat} (h : Nat.ble n st.length = true) (f : Value → Value) : st.map f = ((st.take n).reverse.map f).reverse ++ (st.drop n).map f := by
  rw [← List.map_reverse, List.reverse_reverse, ← List.map_append, List.take_append_drop]
theorem len_as {st : mSt} {n : Nat} (h : Nat.ble n st.length = true) : (st.take n).reverse.length = n := by
  rw [List.length_reverse, List.length_take]
  have := Nat.le_of_ble_eq_true h
  omega
theorem okS_as {N n : Nat} {st : mSt} (h : okS N st) : okS N (st.take n).reverse := fun v hv => h v (List.mem_of_mem_take (List.mem_reverse.mp hv))
theorem okS_rest {N n : Nat} {st : mSt} (h : okS N st) : okS N (st.drop n) := fun v hv => h v (List.mem_of_mem_drop hv)
section CALLS
variable {p : Program} {l : Launch} {e : Env} {R : Room} {s : State} {m : MethodId} {args : Array Value} {below : List Frame} {meth : Method} {c : Code} {H : Heap} {locs : List Loc} {cells slots : Nat} {Q : State → Prop} {k pc : Nat} {mls : mLo} {st : mSt} {μ : mMu} {ρ : Nat → Nat} {b : Nat} {rls : Array Slot} {D : va_G} {cA : Nat → ClassId} {A : Nat → Prop}
/-- the start of a call, from a frame's world -/
theorem PG_of {as : List Value} {X : Nat × (Nat → Int32)} (hKK : KK D cA b A X s) (hXm : mX μ = X) (hP : va_P D mCl (wS ρ cA μ) H) (hDD : va_D A (wS ρ cA μ)) (hSS : va_S A s.heap H locs) (hA : ∀ q, s.heap.size ≤ q → A q) (hb : b < s.heap.size) (hbA : ¬ A b) (U : State) (hU : U.heap = H) (hW : s.WarmedH U.vm) : PG D cA b ρ μ H.size as (as.map (eV ρ b)).toArray U := by
  refine ⟨rfl, by rw [hU], by rw [hU]; exact hP, ?_, hDD.weaken (fun _ _ _ _ => trivial)⟩
  rw [hXm]
  refine hKK.warm hW (fun q hq => ?_) (by rw [hU]; exact hSS.1) (fun q h1 h2 => by rw [hU]; exact hSS.2.1 q h1 h2) hb hbA
  rcases hq with ⟨i, e1, h⟩ | h
  · exact hDD.2 i _ h
  · exact hA q (Nat.le_trans hSS.1 h)
set_option maxHeartbeats 4000000 in
set_option maxRecDepth 20000 in
/-- a call's run, over the callee's contract -/
theorem call_run {X : Nat × (Nat → Int32)} (F : FrameOK p l R s m args meth c k D cA b A X) (hXm : mX μ = X) (hP : va_P D mCl (wS ρ cA μ) H) (hDD : va_D A (wS ρ cA μ)) (hSS : va_S A s.heap H locs) (hsz : rls.size = mML k)
    {ent : mEnt} (he : eok k pc ent = true) {k' rc : Nat} {as st' : mSt} (h : act pc ent mls st μ = some (.inr (.inr (.inr (.inr (.inl (k', as, st', rc, true))))))) (hS : okS (mN μ) st) (hrest : Nat.ble st'.length 4 = true) {mc ms : Nat} (hmc : cells + mc ≤ R.cells) (hms : slots + ms ≤ R.slots)
    {Qc : Array Value → State → Outcome → State → Prop} {XC : String → State → State → Prop} {free : Addr → Prop} (hM : ck k' ≠ 0 → k' < 101 → plainFor (mNm k') = true → (mNm k').cls = mOw k' → dp k' < dp k → vx_Met l (mNm k') (wsK k') (rmK k' mc ms) (PG D cA b ρ μ H.size as) Qc XC mc ms free) :
    vx_Run p l e R s m args below meth c H locs cells slots mc ms (F0 m pc rls (st.map (eV ρ b))) (st'.map (eV ρ b)) (Qc (as.map (eV ρ b)).toArray) XC free ∧ ent.2.1 = 3 ∧ okS (mN μ) as ∧ okS (mN μ) st' ∧ rcOk (mRt k') rc = true := by
  obtain ⟨hx, hb, hcm, hlk0, hown, hnm, hex, hts, hRf, hRl, hKK, hbl, hbA, hA, hk, hst⟩ := F
  have S : CallFix p m c (mBy k) (mML k) s args lw_good (mOw k) := ⟨hx, hb, hcm, hown, hts⟩
  have hpg : ∀ U : State, U.heap = H → s.WarmedH U.vm → PG D cA b ρ μ H.size as (as.map (eV ρ b)).toArray U := fun U hU hW => PG_of hKK hXm hP hDD hSS hA hbl hbA U hU hW
  have hroom := rest_le (ρ := ρ) (b := b) hrest
  have core : ∀ (idx g n : Nat), mlAny k idx k' g n rc = true → ∃ kind, (g = 0 → kind = 0 ∨ kind = 3 ∨ kind = 6) ∧ (g = 1 → kind = 1 ∨ kind = 4) ∧ (g = 2 → kind = 2 ∨ kind = 5) ∧ rcOk (mRt k') rc = true ∧ ck k' = (bif Nat.beq kind 6 then 2 else 1) ∧ vx_Met l (mNm k') (wsK k') (rmK k' mc ms) (PG D cA b ρ μ H.size as) Qc XC mc ms free ∧
      ((rmK k' mc ms).cells = mc ∧ (rmK k' mc ms).slots = ms ∧ (rmK k' mc ms).frames + 1 ≤ R.frames ∧ 8 + (mML k' + 11) + (rmK k' mc ms).locals ≤ R.locals ∧ (∀ w ∈ wsK k', ∀ (a' : Array Value) (U : State), s.WarmedH U.vm → w.before a' U = true)) ∧
      (cdW k').before args s = true ∧ cdW k' ∈ wsK k' ∧ (Cond.initialized (mNm k').cls).before args s = true ∧ ((mNm k').cls ≠ "java/lang/invoke/MethodHandle" ∧ (mNm k').cls ≠ "java/lang/invoke/VarHandle") ∧ (∀ sig, parseMethodDescriptor (mNm k').desc = some sig → n = sig.parameters.length) ∧
      (nst kind = false → (Cond.methodLink (mOw k) idx (mNm k')).before args s = true) ∧ (nst kind = true → (Cond.methodLinkNest (mOw k) idx (mNm k') (hostN (mO k))).before args s = true) ∧ (axW k' kind).before args s = true ∧ ((kind = 1 ∨ kind = 4) → (Cond.selects (mNm k').cls (mNm k') (mNm k')).before args s = true) ∧ ((kind = 2 ∨ kind = 5) → (mNm k').name = "<init>" ∧ mRt k' = none) ∧ (mNm k').cls = mOw k' := by
    intro idx g n hml
    obtain ⟨m1, m2, q, hq, q1, q2, q3, q4, q5⟩ := ml_use hml
    obtain ⟨f1, f2, f3, f4, f5, ⟨f6, f7, f8⟩, f9, f10, f11, f12, f13⟩ := ml_facts hq
    rw [q3] at f1 f2 f3 f4 f5 f6 f7 f8 f9 f10 f11 f12 f13
    have hck : ck k' ≠ 0 := by rw [f9]; cases Nat.beq q.2.2.2.1 6 <;> simp
    refine ⟨q.2.2.2.1, q5.1, q5.2.1, q5.2.2, m2, f9, hM hck f10 f13 f11 m1, ⟨rfl, rfl, ?_, ?_, ws_at f10 hck hts⟩, hts _ (cd_in f10 hck), List.mem_cons_self, hts _ f4, ⟨f6, f7⟩, fun sig hs => ?_, fun hn => ?_, fun hn => ?_, hts _ f2, fun hz => hts _ (f3 hz), f5, f11⟩
    · show dp k' + 1 ≤ R.frames
      omega
    · show 8 + (mML k' + 11) + 37 * dp k' ≤ R.locals
      omega
    · rw [hs] at f8
      simp only [Option.map_some, Option.some.injEq] at f8
      rw [← q4, f8]
    · have h1 := hts _ (f1 hn)
      unfold lkW at h1
      unfold nst at hn
      rw [hn, q1, q2] at h1
      exact h1
    · have h1 := hKK.2.1 q hq hn
      rw [nst_lk hn, q1, q2, q3] at h1
      exact va_Nw.use rfl h1
  have cdc : ∀ kind, ck k' = (bif Nat.beq kind 6 then 2 else 1) → ¬ kind = 6 → cdW k' = Cond.code (mNm k') (mBy k') (mML k') (mRt k') := by
    intro kind h1 h2
    have h3 : Nat.beq kind 6 = false := by
      cases hz : Nat.beq kind 6 with
      | false => rfl
      | true => exact absurd (beq_t hz) h2
    rw [h3] at h1
    unfold cdW
    rw [h1]
    rfl
  obtain ⟨i, len, l1, l2, l3, l4⟩ := ent
  cases i
  case invokestatic idx =>
    simp only [act] at h
    split at h
    case h_1 => 
      split at h
      · rw [Bool.cond_eq_ite] at h
        split at h
        · simp [aD] at h
        · cases h
      · cases h
    case h_2 hn9 =>
      rw [Bool.cond_eq_ite] at h
      split at h
      case isFalse => cases h
      case isTrue hle =>
        simp only [aE, Option.some.injEq, Sum.inr.injEq, Sum.inl.injEq, Prod.mk.injEq] at h
        obtain ⟨rfl, rfl, rfl, rfl, -⟩ := h
        simp only [eok, Bool.and_eq_true, decide_eq_true_eq] at he
        obtain ⟨hd, hl, hml⟩ := he
        have hl := Nat.eq_of_beq_eq_true hl
        subst hl
        obtain ⟨kind, g0, -, -, c0, c1, c2, ⟨c3, c4, c5, c6, c7⟩, c8, c9, c10, c11, c12, c13, c14, c15, -, -, c18⟩ := core idx 0 l2 hml
        have hst2 := split_st hle (eV ρ b)
        have hlen : ((st.take l2).reverse.map (eV ρ b)).length = l2 := by rw [List.length_map, len_as hle]
        refine ⟨?_, rfl, okS_as hS, okS_rest hS, c0⟩
        have hroom2 : 2 * (F0 m pc rls (st.map (eV ρ b))).monitorRoom + (((st.drop l2).map (eV ρ b)).map fun v => v.category).sum ≤ 8 := by
          show 2 * 0 + _ ≤ 8
          omega
        rcases g0 rfl with hk0 | hk0 | hk0
        · subst hk0
          have e1 := cdc 0 c1 (by omega)
          rw [e1] at c8 c9
          exact vx_runS S c2 ⟨⟨c3, c4, c5, c6, c7, c9, c8, c10, c11, c12, c13 rfl⟩, c15⟩ ⟨PG_blind, hpg⟩ rfl hlen hsz hst2 hroom2 hd ⟨hmc, hms⟩
        · subst hk0
          have e1 := cdc 3 c1 (by omega)
          rw [e1] at c8 c9
          exact vx_runSN S c2 ⟨⟨⟨c3, c4, c5, c6, c7, c9⟩, c8, c10, c11, c12, c14 rfl⟩, c15, trivial⟩ ⟨PG_blind, hpg⟩ rfl hlen hsz hst2 hroom2 hd ⟨hmc, hms⟩
        · subst hk0
          have c1' : ck l1 = 2 := c1
          have e1 : cdW l1 = Cond.codeWith (mNm l1) (mBy l1) (mML l1) (mRt l1) (hh l1) := by
            unfold cdW
            rw [c1']
            rfl
          rw [e1] at c8 c9
          exact vx_runSX S c2 ⟨⟨c3, c4, c5, c6, c7, c9⟩, c8, c10, c11, c12, c13 rfl, c15⟩ ⟨PG_blind, hpg⟩ rfl hlen hsz hst2 hroom2 hd ⟨hmc, hms⟩
  case invokevirtual idx =>
    simp only [act] at h
    rw [Bool.cond_eq_ite] at h
    split at h
    case isFalse => cases h
    case isTrue hle =>
      split at h
      case h_2 => cases h
      case h_1 a as0 heq =>
        simp only [aE, Option.some.injEq, Sum.inr.injEq, Sum.inl.injEq, Prod.mk.injEq] at h
        obtain ⟨rfl, rfl, rfl, rfl, hcl⟩ := h
        simp only [eok, Bool.and_eq_true, decide_eq_true_eq, Nat.blt_eq] at he
        obtain ⟨hd, ⟨⟨⟨hl, hl2⟩, hl3⟩, hl4⟩, hml⟩ := he
        have hl := Nat.eq_of_beq_eq_true hl
        subst hl
        have hl3 := beq_t hl3
        obtain ⟨kind, -, g0, -, c0, c1, c2, ⟨c3, c4, c5, c6, c7⟩, c8, c9, c10, c11, c12, c13, c14, c15, c16, -, c18⟩ := core idx 1 (l2 - 1) hml
        have hst2 := split_st hle (eV ρ b)
        rw [heq] at hst2
        have hla := len_as hle
        rw [heq] at hla
        have hoa := okS_as (n := l2) hS
        rw [heq] at hoa
        have han : a < mN μ := hoa _ List.mem_cons_self a rfl
        have hst3 : st.map (eV ρ b) = (as0.map (eV ρ b)).reverse ++ .ref (ρ a) :: (st.drop l2).map (eV ρ b) := by
          rw [hst2]
          simp [eV]
        have hlen : (as0.map (eV ρ b)).length = l2 - 1 := by
          rw [List.length_map]
          simp only [List.length_cons] at hla
          omega
        refine ⟨?_, rfl, hoa, okS_rest hS, c0⟩
        have hroom2 : 2 * (F0 m pc rls (st.map (eV ρ b))).monitorRoom + (((st.drop l2).map (eV ρ b)).map fun v => v.category).sum ≤ 8 := by
          show 2 * 0 + _ ≤ 8
          omega
        have hcls : (mS μ a).1 = mO l1 := (beq_t hcl).trans hl3
        have hmo : mO l1 < 10 := by rw [← hl3]; exact hl4
        have hg := wS_get (ρ := ρ) (cA := cA) han
        rw [eE_obj hcls (by omega)] at hg
        obtain ⟨k1, -, -, -⟩ := cls_ok (mO l1) hmo
        have hrv := va_recv hKK.1 hP k1 hg
        have hrv2 : ∃ cell : Cell, H[ρ a]? = some cell ∧ cell.vm.isStatics = false ∧ s.vm.findClass (mNm l1).cls = some cell.cls := by
          rw [c18]
          exact hrv
        rcases g0 rfl with hk0 | hk0
        · subst hk0
          have e1 := cdc 1 c1 (by omega)
          rw [e1] at c8 c9
          exact vx_runV S c2 ⟨⟨c3, c4, c5, c6, c7, c9, c8, c10, c11, c12, c13 rfl⟩, c15, c16 (Or.inl rfl)⟩ ⟨PG_blind, hrv2, hpg⟩ rfl hlen hsz hst3 hroom2 hd ⟨hmc, hms⟩
        · subst hk0
          have e1 := cdc 4 c1 (by omega)
          rw [e1] at c8 c9
          exact vx_runVN S c2 ⟨⟨⟨c3, c4, c5, c6, c7, c9⟩, c8, c10, c11, c12, c14 rfl⟩, c15, c16 (Or.inr rfl)⟩ ⟨PG_blind, hrv2, hpg⟩ rfl hlen hsz hst3 hroom2 hd ⟨hmc, hms⟩
  case invokespecial idx =>
    simp only [act] at h
    split at h
    case h_1 =>
      split at h
      · rw [Bool.cond_eq_ite] at h
        split at h
        · simp [aA] at h
        · cases h
      · cases h
    case h_2 hn8 =>
      rw [Bool.cond_eq_ite] at h
      split at h
      case isFalse => cases h
      case isTrue hle =>
        split at h
        case h_2 => cases h
        case h_1 a as0 heq =>
          simp only [aE, Option.some.injEq, Sum.inr.injEq, Sum.inl.injEq, Prod.mk.injEq] at h
          obtain ⟨rfl, rfl, rfl, rfl, -⟩ := h
          simp only [eok, Bool.and_eq_true, decide_eq_true_eq, Nat.blt_eq] at he
          obtain ⟨hd, hl, hl2, hml⟩ := he
          have hl := Nat.eq_of_beq_eq_true hl
          subst hl
          obtain ⟨kind, -, -, g0, c0, c1, c2, ⟨c3, c4, c5, c6, c7⟩, c8, c9, c10, c11, c12, c13, c14, c15, -, c17, c18⟩ := core idx 2 (l2 - 1) hml
          have hst2 := split_st hle (eV ρ b)
          rw [heq] at hst2
          have hla := len_as hle
          rw [heq] at hla
          have hoa := okS_as (n := l2) hS
          rw [heq] at hoa
          have hst3 : st.map (eV ρ b) = (as0.map (eV ρ b)).reverse ++ .ref (ρ a) :: (st.drop l2).map (eV ρ b) := by
            rw [hst2]
            simp [eV]
          have hlen : (as0.map (eV ρ b)).length = l2 - 1 := by
            rw [List.length_map]
            simp only [List.length_cons] at hla
            omega
          refine ⟨?_, rfl, hoa, okS_rest hS, c0⟩
          have hroom2 : 2 * (F0 m pc rls (st.map (eV ρ b))).monitorRoom + (((st.drop l2).map (eV ρ b)).map fun v => v.category).sum ≤ 8 := by
            show 2 * 0 + _ ≤ 8
            omega
          rcases g0 rfl with hk0 | hk0
          · subst hk0
            have e1 := cdc 2 c1 (by omega)
            obtain ⟨n1, n2⟩ := c17 (Or.inl rfl)
            rw [e1, n2] at c8 c9
            exact vx_runI S c2 ⟨⟨c3, c4, c5, c6, c7, c9, c8, c10, c11, c12, c13 rfl⟩, n1, c15⟩ ⟨PG_blind, hpg⟩ rfl hlen hsz hst3 hroom2 hd ⟨hmc, hms⟩
          · subst hk0
            have e1 := cdc 5 c1 (by omega)
            obtain ⟨n1, n2⟩ := c17 (Or.inr rfl)
            rw [e1, n2] at c8 c9
            exact vx_runIN S c2 ⟨⟨⟨c3, c4, c5, c6, c7, c9⟩, c8, c10, c11, c12, c14 rfl⟩, n1, c15⟩ ⟨PG_blind, hpg⟩ rfl hlen hsz hst3 hroom2 hd ⟨hmc, hms⟩
  all_goals (exfalso; revert h; simp only [act, Bool.cond_eq_ite, aA, aB, aC, aD, aS, aY, aT]; (repeat' split) <;> (try (intro h; cases h; done)))
  all_goals (intro h; revert h; first | (simp; done) | (cases Nat.beq l1 0 <;> simp; done) | (generalize Nat.ble _ _ = zz; cases zz <;> simp))
end CALLS
