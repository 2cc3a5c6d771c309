/-! ===== one instruction of the small machine is one of the machine ===== -/
theorem any_use {T : List (Nat × Nat × Nat × Nat × Nat)} {o idx a s : Nat} (h : kAny T o idx a s = true) : ∃ q ∈ T, q.1 = o ∧ q.2.1 = idx ∧ q.2.2.1 = a ∧ q.2.2.2.1 = s := by
  obtain ⟨q, hq, h2⟩ := List.any_eq_true.mp h
  simp only [Bool.and_eq_true] at h2
  exact ⟨q, hq, Nat.eq_of_beq_eq_true h2.1.1.1, Nat.eq_of_beq_eq_true h2.1.1.2, Nat.eq_of_beq_eq_true h2.1.2, Nat.eq_of_beq_eq_true h2.2⟩
theorem ki_use {o idx a s : Nat} (h : kAny kiT o idx a s = true) : Cond.constant (clsT.getD o "") idx (cnI a s) ∈ lw_good := by
  obtain ⟨q, hq, rfl, rfl, rfl, rfl⟩ := any_use h
  exact in_good (of_decide_eq_true (List.all_eq_true.mp kiT_ok q hq)) rfl
theorem kl_use {o idx a s : Nat} (h : kAny klT o idx a s = true) : Cond.constantLong (clsT.getD o "") idx (cnL a s) ∈ lw_good := by
  obtain ⟨q, hq, rfl, rfl, rfl, rfl⟩ := any_use h
  exact in_good (of_decide_eq_true (List.all_eq_true.mp klT_ok q hq)) rfl
theorem kd_use {o idx a s : Nat} (h : kAny kdT o idx a s = true) : Cond.constantDouble (clsT.getD o "") idx (UInt64.ofNat a) ∈ lw_good := by
  obtain ⟨q, hq, rfl, rfl, rfl, rfl⟩ := any_use h
  exact in_good (of_decide_eq_true (List.all_eq_true.mp kdT_ok q hq)) rfl
theorem cat_le (v : Value) : v.category ≤ 2 := by cases v <;> simp [Value.category]
theorem cat_sum : ∀ (st : List Value), (st.map fun v => v.category).sum ≤ 2 * st.length
  | [] => Nat.le_refl _
  | v :: r => by
    have h1 := cat_sum r
    have h2 := cat_le v
    simp only [List.map_cons, List.sum_cons, List.length_cons]
    omega
theorem rest_le {ρ : Nat → Nat} {b : Nat} {st : mSt} (h : Nat.ble st.length 4 = true) : ((st.map (eV ρ b)).map fun v => v.category).sum ≤ 8 := by
  have h1 := cat_sum (st.map (eV ρ b))
  have h2 := Nat.le_of_ble_eq_true h
  rw [List.length_map] at h1
  omega
theorem okS.tl {N : Nat} {v : Value} {st : mSt} (h : okS N (v :: st)) : okS N st := fun w hw => h w (List.mem_cons_of_mem _ hw)
theorem okV_i {N : Nat} {x : Int32} : okV N (.int x) := fun a h => by cases h
theorem okV_l {N : Nat} {x : Int64} : okV N (.long x) := fun a h => by cases h
theorem okV_d {N : Nat} {x : UInt64} : okV N (.double x) := fun a h => by cases h
theorem okV_n {N : Nat} : okV N .null := fun a h => by cases h
theorem okV_x {N z : Nat} : okV N (.retAddr z) := fun a h => by cases h
section STEP
variable {p : Program} {l : Launch} {e : Env} {R : Room} {s : State} {m : MethodId} {args : Array Value} {below : List Frame} {meth : Method} {c : Code} {H : Heap} {locs : List Loc} {cells slots : Nat} {Q : State → Prop} {k pc : Nat} {mls : mLo} {st : mSt} {μ : mMu} {ρ : Nat → Nat} {b : Nat} {rls : Array Slot}
set_option maxHeartbeats 4000000 in
set_option maxRecDepth 20000 in
theorem step_A (hx : p.tables.exec = Jvm.exec) (hb : c.code = mBy k) (hown : s.vm.findClass (mOw k) = some m.cls) (hts : ∀ w ∈ lw_good, w.before args s = true) (hcm : c.maxLocals = mML k) (hfr : 1 ≤ R.frames) (hlo : 34 ≤ R.locals)
    {ent : mEnt} (he : eok k pc ent = true) {pc' : Nat} {mls' : mLo} {st' : mSt} (h : act pc ent mls st μ = some (.inl (pc', mls', st'))) (hlen : mls.length = mML k) (hL : Lo ρ b (mML k) mls rls) (hS : okS (mN μ) st) (hO : okL (mN μ) mls)
    (kk : ∀ rls' : Array Slot, Lo ρ b (mML k) mls' rls' → okS (mN μ) st' → okL (mN μ) mls' → mls'.length = mML k → W p l e R s m args below meth c H locs cells slots Q (F0 m pc' rls' (st'.map (eV ρ b)))) : W p l e R s m args below meth c H locs cells slots Q (F0 m pc rls (st.map (eV ρ b))) := by
  obtain ⟨i, len, l1, l2, l3, l4⟩ := ent
  cases i
  case iconst n =>
    simp only [eok, Bool.and_eq_true, decide_eq_true_eq] at he
    obtain ⟨hd, hl, hv⟩ := he
    have hl := Nat.eq_of_beq_eq_true hl
    subst hl
    simp only [act, aA, Option.some.injEq, Sum.inl.injEq, Prod.mk.injEq] at h
    obtain ⟨rfl, rfl, rfl⟩ := h
    exact lv_iconst hx hb hd hv (kk rls hL (hS.cons okV_i) hO hlen)
  case bipush n =>
    simp only [eok, Bool.and_eq_true, decide_eq_true_eq] at he
    obtain ⟨hd, hl, hv⟩ := he
    have hl := Nat.eq_of_beq_eq_true hl
    subst hl
    simp only [act, aA, Option.some.injEq, Sum.inl.injEq, Prod.mk.injEq] at h
    obtain ⟨rfl, rfl, rfl⟩ := h
    exact lv_bipush hx hb hd hv (kk rls hL (hS.cons okV_i) hO hlen)
  case sipush n =>
    simp only [eok, Bool.and_eq_true, decide_eq_true_eq] at he
    obtain ⟨hd, hl, hv⟩ := he
    have hl := Nat.eq_of_beq_eq_true hl
    subst hl
    simp only [act, aA, Option.some.injEq, Sum.inl.injEq, Prod.mk.injEq] at h
    obtain ⟨rfl, rfl, rfl⟩ := h
    exact lv_sipush hx hb hd hv (kk rls hL (hS.cons okV_i) hO hlen)
  case ldc n =>
    simp only [eok, Bool.and_eq_true, decide_eq_true_eq] at he
    obtain ⟨hd, hl, hv⟩ := he
    have hl := Nat.eq_of_beq_eq_true hl
    subst hl
    simp only [act, aA, Option.some.injEq, Sum.inl.injEq, Prod.mk.injEq] at h
    obtain ⟨rfl, rfl, rfl⟩ := h
    exact lv_ldc hx hb hown (hts _ (ki_use hv)) hd (kk rls hL (hS.cons okV_i) hO hlen)
  case ldc_w n =>
    simp only [eok, Bool.and_eq_true, decide_eq_true_eq] at he
    obtain ⟨hd, hl, hv⟩ := he
    have hl := Nat.eq_of_beq_eq_true hl
    subst hl
    simp only [act, aA, Option.some.injEq, Sum.inl.injEq, Prod.mk.injEq] at h
    obtain ⟨rfl, rfl, rfl⟩ := h
    exact lv_ldcw hx hb hown (hts _ (ki_use hv)) hd (kk rls hL (hS.cons okV_i) hO hlen)
  case lconst n =>
    simp only [eok, Bool.and_eq_true, decide_eq_true_eq] at he
    obtain ⟨hd, hl, hv⟩ := he
    have hl := Nat.eq_of_beq_eq_true hl
    subst hl
    simp only [act, aA, Option.some.injEq, Sum.inl.injEq, Prod.mk.injEq] at h
    obtain ⟨rfl, rfl, rfl⟩ := h
    exact lv_lconst hx hb hd hv (kk rls hL (hS.cons okV_l) hO hlen)
  case dconst n =>
    simp only [eok, Bool.and_eq_true, decide_eq_true_eq] at he
    obtain ⟨hd, ⟨hl, hz⟩, hv⟩ := he
    have hl := Nat.eq_of_beq_eq_true hl
    subst hl
    subst hv
    simp only [act, hz, cond_true, aA, Option.some.injEq, Sum.inl.injEq, Prod.mk.injEq] at h
    obtain ⟨rfl, rfl, rfl⟩ := h
    exact lv_dconst0 hx hb hd (kk rls hL (hS.cons okV_d) hO hlen)
  case ldc2_w n =>
    simp only [eok, Bool.and_eq_true, decide_eq_true_eq] at he
    obtain ⟨hd, hl, hv⟩ := he
    have hl := Nat.eq_of_beq_eq_true hl
    subst hl
    cases hz : Nat.beq l3 0 with
    | true =>
      simp only [hz, cond_true] at hv
      simp only [act, hz, cond_true, aA, Option.some.injEq, Sum.inl.injEq, Prod.mk.injEq] at h
      obtain ⟨rfl, rfl, rfl⟩ := h
      exact lv_ldc2 hx hb hown (hts _ (kl_use hv)) hd (kk rls hL (hS.cons okV_l) hO hlen)
    | false =>
      simp only [hz, cond_false] at hv
      simp only [act, hz, cond_false, aA, Option.some.injEq, Sum.inl.injEq, Prod.mk.injEq] at h
      obtain ⟨rfl, rfl, rfl⟩ := h
      exact lv_ldc2d hx hb hown (hts _ (kd_use hv)) hd (kk rls hL (hS.cons okV_d) hO hlen)
  case aconst_null =>
    simp only [eok, Bool.and_eq_true, decide_eq_true_eq] at he
    obtain ⟨hd, hl⟩ := he
    have hl := Nat.eq_of_beq_eq_true hl
    subst hl
    simp only [act, aA, Option.some.injEq, Sum.inl.injEq, Prod.mk.injEq] at h
    obtain ⟨rfl, rfl, rfl⟩ := h
    exact lv_null hx hb hd (kk rls hL (hS.cons okV_n) hO hlen)
  case iload j =>
    simp only [eok, Bool.and_eq_true, decide_eq_true_eq] at he
    obtain ⟨hd, hl, hj⟩ := he
    have hl := Nat.eq_of_beq_eq_true hl
    have hj := Nat.eq_of_beq_eq_true hj
    subst hl
    subst hj
    simp only [act] at h
    split at h
    case h_1 x hv =>
      simp only [aA, Option.some.injEq, Sum.inl.injEq, Prod.mk.injEq] at h
      obtain ⟨rfl, rfl, rfl⟩ := h
      exact lv_iload hx hb hd (hL.2.2 _ _ hv (fun z => by cases z)) (kk rls hL (hS.cons okV_i) hO hlen)
    case h_2 => cases h
  case iload_n j =>
    simp only [eok, Bool.and_eq_true, decide_eq_true_eq] at he
    obtain ⟨hd, hl, hj⟩ := he
    have hl := Nat.eq_of_beq_eq_true hl
    have hj := Nat.eq_of_beq_eq_true hj
    subst hl
    subst hj
    simp only [act] at h
    split at h
    case h_1 x hv =>
      simp only [aA, Option.some.injEq, Sum.inl.injEq, Prod.mk.injEq] at h
      obtain ⟨rfl, rfl, rfl⟩ := h
      exact lv_iload_n hx hb hd rfl (hL.2.2 _ _ hv (fun z => by cases z)) (kk rls hL (hS.cons okV_i) hO hlen)
    case h_2 => cases h
  case lload j =>
    simp only [eok, Bool.and_eq_true, decide_eq_true_eq] at he
    obtain ⟨hd, hl, hj⟩ := he
    have hl := Nat.eq_of_beq_eq_true hl
    have hj := Nat.eq_of_beq_eq_true hj
    subst hl
    subst hj
    simp only [act] at h
    split at h
    case h_1 x hv hv2 =>
      simp only [aA, Option.some.injEq, Sum.inl.injEq, Prod.mk.injEq] at h
      obtain ⟨rfl, rfl, rfl⟩ := h
      exact lv_lload hx hb hd (hL.2.2 _ _ hv (fun _ => hv2)) (kk rls hL (hS.cons okV_l) hO hlen)
    case h_2 => cases h
  case lload_n j =>
    simp only [eok, Bool.and_eq_true, decide_eq_true_eq] at he
    obtain ⟨hd, hl, hj⟩ := he
    have hl := Nat.eq_of_beq_eq_true hl
    have hj := Nat.eq_of_beq_eq_true hj
    subst hl
    subst hj
    simp only [act] at h
    split at h
    case h_1 x hv hv2 =>
      simp only [aA, Option.some.injEq, Sum.inl.injEq, Prod.mk.injEq] at h
      obtain ⟨rfl, rfl, rfl⟩ := h
      exact lv_lload_n hx hb hd rfl (hL.2.2 _ _ hv (fun _ => hv2)) (kk rls hL (hS.cons okV_l) hO hlen)
    case h_2 => cases h
  case dload j =>
    simp only [eok, Bool.and_eq_true, decide_eq_true_eq] at he
    obtain ⟨hd, hl, hj⟩ := he
    have hl := Nat.eq_of_beq_eq_true hl
    have hj := Nat.eq_of_beq_eq_true hj
    subst hl
    subst hj
    simp only [act] at h
    split at h
    case h_1 x hv hv2 =>
      simp only [aA, Option.some.injEq, Sum.inl.injEq, Prod.mk.injEq] at h
      obtain ⟨rfl, rfl, rfl⟩ := h
      exact lv_dload hx hb hd (hL.2.2 _ _ hv (fun _ => hv2)) (kk rls hL (hS.cons okV_d) hO hlen)
    case h_2 => cases h
  case dload_n j =>
    simp only [eok, Bool.and_eq_true, decide_eq_true_eq] at he
    obtain ⟨hd, hl, hj⟩ := he
    have hl := Nat.eq_of_beq_eq_true hl
    have hj := Nat.eq_of_beq_eq_true hj
    subst hl
    subst hj
    simp only [act] at h
    split at h
    case h_1 x hv hv2 =>
      simp only [aA, Option.some.injEq, Sum.inl.injEq, Prod.mk.injEq] at h
      obtain ⟨rfl, rfl, rfl⟩ := h
      exact lv_dload_n hx hb hd rfl (hL.2.2 _ _ hv (fun _ => hv2)) (kk rls hL (hS.cons okV_d) hO hlen)
    case h_2 => cases h
  case aload j =>
    simp only [eok, Bool.and_eq_true, decide_eq_true_eq] at he
    obtain ⟨hd, hl, hj⟩ := he
    have hl := Nat.eq_of_beq_eq_true hl
    have hj := Nat.eq_of_beq_eq_true hj
    subst hl
    subst hj
    simp only [act] at h
    split at h
    case h_1 x hv =>
      simp only [aA, Option.some.injEq, Sum.inl.injEq, Prod.mk.injEq] at h
      obtain ⟨rfl, rfl, rfl⟩ := h
      exact lv_aload hx hb hd (hL.2.2 _ _ hv (fun z => by cases z)) (kk rls hL (hS.cons (hO _ _ hv)) hO hlen)
    case h_2 hv =>
      simp only [aA, Option.some.injEq, Sum.inl.injEq, Prod.mk.injEq] at h
      obtain ⟨rfl, rfl, rfl⟩ := h
      exact lv_aloadN hx hb hd (hL.2.2 _ _ hv (fun z => by cases z)) (kk rls hL (hS.cons okV_n) hO hlen)
    case h_3 x hv =>
      simp only [aA, Option.some.injEq, Sum.inl.injEq, Prod.mk.injEq] at h
      obtain ⟨rfl, rfl, rfl⟩ := h
      exact lv_aload hx hb hd (hL.2.2 _ _ hv (fun z => by cases z)) (kk rls hL (hS.cons okV_x) hO hlen)
    case h_4 => cases h
  case aload_n j =>
    simp only [eok, Bool.and_eq_true, decide_eq_true_eq] at he
    obtain ⟨hd, hl, hj⟩ := he
    have hl := Nat.eq_of_beq_eq_true hl
    have hj := Nat.eq_of_beq_eq_true hj
    subst hl
    subst hj
    simp only [act] at h
    split at h
    case h_1 x hv =>
      simp only [aA, Option.some.injEq, Sum.inl.injEq, Prod.mk.injEq] at h
      obtain ⟨rfl, rfl, rfl⟩ := h
      exact lv_aload_n hx hb hd rfl (hL.2.2 _ _ hv (fun z => by cases z)) (kk rls hL (hS.cons (hO _ _ hv)) hO hlen)
    case h_2 hv =>
      simp only [aA, Option.some.injEq, Sum.inl.injEq, Prod.mk.injEq] at h
      obtain ⟨rfl, rfl, rfl⟩ := h
      exact lv_aload_nN hx hb hd rfl (hL.2.2 _ _ hv (fun z => by cases z)) (kk rls hL (hS.cons okV_n) hO hlen)
    case h_3 x hv =>
      simp only [aA, Option.some.injEq, Sum.inl.injEq, Prod.mk.injEq] at h
      obtain ⟨rfl, rfl, rfl⟩ := h
      exact lv_aload_n hx hb hd rfl (hL.2.2 _ _ hv (fun z => by cases z)) (kk rls hL (hS.cons okV_x) hO hlen)
    case h_4 => cases h
  case istore j =>
    simp only [eok, Bool.and_eq_true, decide_eq_true_eq] at he
    obtain ⟨hd, ⟨hl, hj⟩, hn⟩ := he
    have hl := Nat.eq_of_beq_eq_true hl
    have hj := Nat.eq_of_beq_eq_true hj
    rw [Nat.blt_eq] at hn
    subst hl
    subst hj
    simp only [act] at h
    split at h
    case h_1 x r =>
      simp only [aA, Option.some.injEq, Sum.inl.injEq, Prod.mk.injEq] at h
      obtain ⟨rfl, rfl, rfl⟩ := h
      exact lv_istore hx hb hd hL.has hn rfl (fun rls' hl' => kk rls' (LoS1 hlen hn hl') hS.tl (hO.set (fun w hw => by cases hw; exact okV_i)) (by simp [st1, hlen]))
    case h_2 => cases h
  case istore_n j =>
    simp only [eok, Bool.and_eq_true, decide_eq_true_eq] at he
    obtain ⟨hd, ⟨hl, hj⟩, hn⟩ := he
    have hl := Nat.eq_of_beq_eq_true hl
    have hj := Nat.eq_of_beq_eq_true hj
    rw [Nat.blt_eq] at hn
    subst hl
    subst hj
    simp only [act] at h
    split at h
    case h_1 x r =>
      simp only [aA, Option.some.injEq, Sum.inl.injEq, Prod.mk.injEq] at h
      obtain ⟨rfl, rfl, rfl⟩ := h
      exact lv_istore_n hx hb hd rfl hL.has hn rfl (fun rls' hl' => kk rls' (LoS1 hlen hn hl') hS.tl (hO.set (fun w hw => by cases hw; exact okV_i)) (by simp [st1, hlen]))
    case h_2 => cases h
  case lstore j =>
    simp only [eok, Bool.and_eq_true, decide_eq_true_eq] at he
    obtain ⟨hd, ⟨hl, hj⟩, hn⟩ := he
    have hl := Nat.eq_of_beq_eq_true hl
    have hj := Nat.eq_of_beq_eq_true hj
    rw [Nat.blt_eq] at hn
    subst hl
    subst hj
    simp only [act] at h
    split at h
    case h_1 x r =>
      simp only [aA, Option.some.injEq, Sum.inl.injEq, Prod.mk.injEq] at h
      obtain ⟨rfl, rfl, rfl⟩ := h
      exact lv_lstore hx hb hd hL.has hn rfl (fun rls' hl' => kk rls' (LoS2 hlen hn hl') hS.tl ((hO.set (fun w hw => by cases hw; exact okV_l)).set (fun w hw => by cases hw)) (by simp [st2, hlen]))
    case h_2 => cases h
  case lstore_n j =>
    simp only [eok, Bool.and_eq_true, decide_eq_true_eq] at he
    obtain ⟨hd, ⟨hl, hj⟩, hn⟩ := he
    have hl := Nat.eq_of_beq_eq_true hl
    have hj := Nat.eq_of_beq_eq_true hj
    rw [Nat.blt_eq] at hn
    subst hl
    subst hj
    simp only [act] at h
    split at h
    case h_1 x r =>
      simp only [aA, Option.some.injEq, Sum.inl.injEq, Prod.mk.injEq] at h
      obtain ⟨rfl, rfl, rfl⟩ := h
      exact lv_lstore_n hx hb hd rfl hL.has hn rfl (fun rls' hl' => kk rls' (LoS2 hlen hn hl') hS.tl ((hO.set (fun w hw => by cases hw; exact okV_l)).set (fun w hw => by cases hw)) (by simp [st2, hlen]))
    case h_2 => cases h
  case dstore j =>
    simp only [eok, Bool.and_eq_true, decide_eq_true_eq] at he
    obtain ⟨hd, ⟨hl, hj⟩, hn⟩ := he
    have hl := Nat.eq_of_beq_eq_true hl
    have hj := Nat.eq_of_beq_eq_true hj
    rw [Nat.blt_eq] at hn
    subst hl
    subst hj
    simp only [act] at h
    split at h
    case h_1 x r =>
      simp only [aA, Option.some.injEq, Sum.inl.injEq, Prod.mk.injEq] at h
      obtain ⟨rfl, rfl, rfl⟩ := h
      exact lv_dstore hx hb hd hL.has hn rfl (fun rls' hl' => kk rls' (LoS2 hlen hn hl') hS.tl ((hO.set (fun w hw => by cases hw; exact okV_d)).set (fun w hw => by cases hw)) (by simp [st2, hlen]))
    case h_2 => cases h
  case dstore_n j =>
    simp only [eok, Bool.and_eq_true, decide_eq_true_eq] at he
    obtain ⟨hd, ⟨hl, hj⟩, hn⟩ := he
    have hl := Nat.eq_of_beq_eq_true hl
    have hj := Nat.eq_of_beq_eq_true hj
    rw [Nat.blt_eq] at hn
    subst hl
    subst hj
    simp only [act] at h
    split at h
    case h_1 x r =>
      simp only [aA, Option.some.injEq, Sum.inl.injEq, Prod.mk.injEq] at h
      obtain ⟨rfl, rfl, rfl⟩ := h
      exact lv_dstore_n hx hb hd rfl hL.has hn rfl (fun rls' hl' => kk rls' (LoS2 hlen hn hl') hS.tl ((hO.set (fun w hw => by cases hw; exact okV_d)).set (fun w hw => by cases hw)) (by simp [st2, hlen]))
    case h_2 => cases h
  case astore j =>
    simp only [eok, Bool.and_eq_true, decide_eq_true_eq] at he
    obtain ⟨hd, ⟨hl, hj⟩, hn⟩ := he
    have hl := Nat.eq_of_beq_eq_true hl
    have hj := Nat.eq_of_beq_eq_true hj
    rw [Nat.blt_eq] at hn
    subst hl
    subst hj
    simp only [act] at h
    split at h
    case h_1 x r =>
      simp only [aA, Option.some.injEq, Sum.inl.injEq, Prod.mk.injEq] at h
      obtain ⟨rfl, rfl, rfl⟩ := h
      exact lv_astore hx hb hd hL.has hn rfl (fun rls' hl' => kk rls' (LoS1 hlen hn hl') hS.tl (hO.set (fun w hw => by cases hw; exact hS _ List.mem_cons_self)) (by simp [st1, hlen]))
    case h_2 r =>
      simp only [aA, Option.some.injEq, Sum.inl.injEq, Prod.mk.injEq] at h
      obtain ⟨rfl, rfl, rfl⟩ := h
      exact lv_astoreN hx hb hd hL.has hn rfl (fun rls' hl' => kk rls' (LoS1 hlen hn hl') hS.tl (hO.set (fun w hw => by cases hw; exact okV_n)) (by simp [st1, hlen]))
    case h_3 => cases h
  case astore_n j =>
    simp only [eok, Bool.and_eq_true, decide_eq_true_eq] at he
    obtain ⟨hd, ⟨hl, hj⟩, hn⟩ := he
    have hl := Nat.eq_of_beq_eq_true hl
    have hj := Nat.eq_of_beq_eq_true hj
    rw [Nat.blt_eq] at hn
    subst hl
    subst hj
    simp only [act] at h
    split at h
    case h_1 x r =>
      simp only [aA, Option.some.injEq, Sum.inl.injEq, Prod.mk.injEq] at h
      obtain ⟨rfl, rfl, rfl⟩ := h
      exact lv_astore_n hx hb hd rfl hL.has hn rfl (fun rls' hl' => kk rls' (LoS1 hlen hn hl') hS.tl (hO.set (fun w hw => by cases hw; exact hS _ List.mem_cons_self)) (by simp [st1, hlen]))
    case h_2 r =>
      simp only [aA, Option.some.injEq, Sum.inl.injEq, Prod.mk.injEq] at h
      obtain ⟨rfl, rfl, rfl⟩ := h
      exact lv_astore_nN hx hb hd rfl hL.has hn rfl (fun rls' hl' => kk rls' (LoS1 hlen hn hl') hS.tl (hO.set (fun w hw => by cases hw; exact okV_n)) (by simp [st1, hlen]))
    case h_3 => cases h
  case iinc j n =>
    simp only [eok, Bool.and_eq_true, decide_eq_true_eq] at he
    obtain ⟨hd, ⟨⟨hl, hj⟩, hn⟩, hv⟩ := he
    have hl := Nat.eq_of_beq_eq_true hl
    have hj := Nat.eq_of_beq_eq_true hj
    rw [Nat.blt_eq] at hn
    subst hl
    subst hj
    simp only [act] at h
    split at h
    case h_1 x hx0 =>
      simp only [aA, Option.some.injEq, Sum.inl.injEq, Prod.mk.injEq] at h
      obtain ⟨rfl, rfl, rfl⟩ := h
      obtain ⟨kx, hkx⟩ := List.getElem?_of_mem (lvl_mem (ρ := ρ) (b := b) (mls := mls) (q := (j, .int x)).mpr ⟨_, hx0, (fun z => by cases z), rfl⟩)
      exact lv_iinc hx hb hd hL.has hkx (by rw [hv]) hn rfl (fun rls' hl' => kk rls' (LoS1 (v := .int (x + cnI l2 l3)) hlen hn hl') hS (hO.set (fun w hw => by cases hw; exact okV_i)) (by simp [st1, hlen]))
    case h_2 => cases h
  case iadd =>
    simp only [eok, Bool.and_eq_true, decide_eq_true_eq] at he
    obtain ⟨hd, hl⟩ := he
    have hl := Nat.eq_of_beq_eq_true hl
    subst hl
    simp only [act] at h
    split at h
    case h_1 y x r =>
      simp only [aA, Option.some.injEq, Sum.inl.injEq, Prod.mk.injEq] at h
      obtain ⟨rfl, rfl, rfl⟩ := h
      exact lv_iadd hx hb hd (kk rls hL (hS.tl.tl.cons okV_i) hO hlen)
    case h_2 => cases h
  case isub =>
    simp only [eok, Bool.and_eq_true, decide_eq_true_eq] at he
    obtain ⟨hd, hl⟩ := he
    have hl := Nat.eq_of_beq_eq_true hl
    subst hl
    simp only [act] at h
    split at h
    case h_1 y x r =>
      simp only [aA, Option.some.injEq, Sum.inl.injEq, Prod.mk.injEq] at h
      obtain ⟨rfl, rfl, rfl⟩ := h
      exact lv_isub hx hb hd (kk rls hL (hS.tl.tl.cons okV_i) hO hlen)
    case h_2 => cases h
  case imul =>
    simp only [eok, Bool.and_eq_true, decide_eq_true_eq] at he
    obtain ⟨hd, hl⟩ := he
    have hl := Nat.eq_of_beq_eq_true hl
    subst hl
    simp only [act] at h
    split at h
    case h_1 y x r =>
      simp only [aA, Option.some.injEq, Sum.inl.injEq, Prod.mk.injEq] at h
      obtain ⟨rfl, rfl, rfl⟩ := h
      exact lv_imul hx hb hd (kk rls hL (hS.tl.tl.cons okV_i) hO hlen)
    case h_2 => cases h
  case iand =>
    simp only [eok, Bool.and_eq_true, decide_eq_true_eq] at he
    obtain ⟨hd, hl⟩ := he
    have hl := Nat.eq_of_beq_eq_true hl
    subst hl
    simp only [act] at h
    split at h
    case h_1 y x r =>
      simp only [aA, Option.some.injEq, Sum.inl.injEq, Prod.mk.injEq] at h
      obtain ⟨rfl, rfl, rfl⟩ := h
      exact lv_iand hx hb hd (kk rls hL (hS.tl.tl.cons okV_i) hO hlen)
    case h_2 => cases h
  case ior =>
    simp only [eok, Bool.and_eq_true, decide_eq_true_eq] at he
    obtain ⟨hd, hl⟩ := he
    have hl := Nat.eq_of_beq_eq_true hl
    subst hl
    simp only [act] at h
    split at h
    case h_1 y x r =>
      simp only [aA, Option.some.injEq, Sum.inl.injEq, Prod.mk.injEq] at h
      obtain ⟨rfl, rfl, rfl⟩ := h
      exact lv_ior hx hb hd (kk rls hL (hS.tl.tl.cons okV_i) hO hlen)
    case h_2 => cases h
  case ixor =>
    simp only [eok, Bool.and_eq_true, decide_eq_true_eq] at he
    obtain ⟨hd, hl⟩ := he
    have hl := Nat.eq_of_beq_eq_true hl
    subst hl
    simp only [act] at h
    split at h
    case h_1 y x r =>
      simp only [aA, Option.some.injEq, Sum.inl.injEq, Prod.mk.injEq] at h
      obtain ⟨rfl, rfl, rfl⟩ := h
      exact lv_ixor hx hb hd (kk rls hL (hS.tl.tl.cons okV_i) hO hlen)
    case h_2 => cases h
  case ishl =>
    simp only [eok, Bool.and_eq_true, decide_eq_true_eq] at he
    obtain ⟨hd, hl⟩ := he
    have hl := Nat.eq_of_beq_eq_true hl
    subst hl
    simp only [act] at h
    split at h
    case h_1 y x r =>
      simp only [aA, Option.some.injEq, Sum.inl.injEq, Prod.mk.injEq] at h
      obtain ⟨rfl, rfl, rfl⟩ := h
      exact lv_ishl hx hb hd (kk rls hL (hS.tl.tl.cons okV_i) hO hlen)
    case h_2 => cases h
  case ishr =>
    simp only [eok, Bool.and_eq_true, decide_eq_true_eq] at he
    obtain ⟨hd, hl⟩ := he
    have hl := Nat.eq_of_beq_eq_true hl
    subst hl
    simp only [act] at h
    split at h
    case h_1 y x r =>
      simp only [aA, Option.some.injEq, Sum.inl.injEq, Prod.mk.injEq] at h
      obtain ⟨rfl, rfl, rfl⟩ := h
      exact lv_ishr hx hb hd (kk rls hL (hS.tl.tl.cons okV_i) hO hlen)
    case h_2 => cases h
  case iushr =>
    simp only [eok, Bool.and_eq_true, decide_eq_true_eq] at he
    obtain ⟨hd, hl⟩ := he
    have hl := Nat.eq_of_beq_eq_true hl
    subst hl
    simp only [act] at h
    split at h
    case h_1 y x r =>
      simp only [aA, Option.some.injEq, Sum.inl.injEq, Prod.mk.injEq] at h
      obtain ⟨rfl, rfl, rfl⟩ := h
      exact lv_iushr hx hb hd rfl (kk rls hL (hS.tl.tl.cons okV_i) hO hlen)
    case h_2 => cases h
  case ladd =>
    simp only [eok, Bool.and_eq_true, decide_eq_true_eq] at he
    obtain ⟨hd, hl⟩ := he
    have hl := Nat.eq_of_beq_eq_true hl
    subst hl
    simp only [act] at h
    split at h
    case h_1 y x r =>
      simp only [aA, Option.some.injEq, Sum.inl.injEq, Prod.mk.injEq] at h
      obtain ⟨rfl, rfl, rfl⟩ := h
      exact lv_ladd hx hb hd (kk rls hL (hS.tl.tl.cons okV_l) hO hlen)
    case h_2 => cases h
  case lsub =>
    simp only [eok, Bool.and_eq_true, decide_eq_true_eq] at he
    obtain ⟨hd, hl⟩ := he
    have hl := Nat.eq_of_beq_eq_true hl
    subst hl
    simp only [act] at h
    split at h
    case h_1 y x r =>
      simp only [aA, Option.some.injEq, Sum.inl.injEq, Prod.mk.injEq] at h
      obtain ⟨rfl, rfl, rfl⟩ := h
      exact lv_lsub hx hb hd (kk rls hL (hS.tl.tl.cons okV_l) hO hlen)
    case h_2 => cases h
  case lmul =>
    simp only [eok, Bool.and_eq_true, decide_eq_true_eq] at he
    obtain ⟨hd, hl⟩ := he
    have hl := Nat.eq_of_beq_eq_true hl
    subst hl
    simp only [act] at h
    split at h
    case h_1 y x r =>
      simp only [aA, Option.some.injEq, Sum.inl.injEq, Prod.mk.injEq] at h
      obtain ⟨rfl, rfl, rfl⟩ := h
      exact lv_lmul hx hb hd (kk rls hL (hS.tl.tl.cons okV_l) hO hlen)
    case h_2 => cases h
  case lor =>
    simp only [eok, Bool.and_eq_true, decide_eq_true_eq] at he
    obtain ⟨hd, hl⟩ := he
    have hl := Nat.eq_of_beq_eq_true hl
    subst hl
    simp only [act] at h
    split at h
    case h_1 y x r =>
      simp only [aA, Option.some.injEq, Sum.inl.injEq, Prod.mk.injEq] at h
      obtain ⟨rfl, rfl, rfl⟩ := h
      exact lv_lor hx hb hd (kk rls hL (hS.tl.tl.cons okV_l) hO hlen)
    case h_2 => cases h
  case lxor =>
    simp only [eok, Bool.and_eq_true, decide_eq_true_eq] at he
    obtain ⟨hd, hl⟩ := he
    have hl := Nat.eq_of_beq_eq_true hl
    subst hl
    simp only [act] at h
    split at h
    case h_1 y x r =>
      simp only [aA, Option.some.injEq, Sum.inl.injEq, Prod.mk.injEq] at h
      obtain ⟨rfl, rfl, rfl⟩ := h
      exact lv_lxor hx hb hd (kk rls hL (hS.tl.tl.cons okV_l) hO hlen)
    case h_2 => cases h
  case lshr =>
    simp only [eok, Bool.and_eq_true, decide_eq_true_eq] at he
    obtain ⟨hd, hl⟩ := he
    have hl := Nat.eq_of_beq_eq_true hl
    subst hl
    simp only [act] at h
    split at h
    case h_1 y x r =>
      simp only [aA, Option.some.injEq, Sum.inl.injEq, Prod.mk.injEq] at h
      obtain ⟨rfl, rfl, rfl⟩ := h
      exact lv_lshr hx hb hd rfl (kk rls hL (hS.tl.tl.cons okV_l) hO hlen)
    case h_2 => cases h
  case lushr =>
    simp only [eok, Bool.and_eq_true, decide_eq_true_eq] at he
    obtain ⟨hd, hl⟩ := he
    have hl := Nat.eq_of_beq_eq_true hl
    subst hl
    simp only [act] at h
    split at h
    case h_1 y x r =>
      simp only [aA, Option.some.injEq, Sum.inl.injEq, Prod.mk.injEq] at h
      obtain ⟨rfl, rfl, rfl⟩ := h
      exact lv_lushr hx hb hd rfl (kk rls hL (hS.tl.tl.cons okV_l) hO hlen)
    case h_2 => cases h
  case lcmp =>
    simp only [eok, Bool.and_eq_true, decide_eq_true_eq] at he
    obtain ⟨hd, hl⟩ := he
    have hl := Nat.eq_of_beq_eq_true hl
    subst hl
    simp only [act] at h
    split at h
    case h_1 y x r =>
      simp only [aA, Option.some.injEq, Sum.inl.injEq, Prod.mk.injEq] at h
      obtain ⟨rfl, rfl, rfl⟩ := h
      exact W.lcmp hx hb hd (kk rls hL (hS.tl.tl.cons okV_i) hO hlen)
    case h_2 => cases h
  case dcmp op =>
    simp only [eok, Bool.and_eq_true, decide_eq_true_eq] at he
    obtain ⟨hd, hl⟩ := he
    have hl := Nat.eq_of_beq_eq_true hl
    subst hl
    simp only [act] at h
    split at h
    case h_1 y x r =>
      simp only [aA, Option.some.injEq, Sum.inl.injEq, Prod.mk.injEq] at h
      obtain ⟨rfl, rfl, rfl⟩ := h
      exact lv_dcmp hx hb hd (kk rls hL (hS.tl.tl.cons okV_i) hO hlen)
    case h_2 => cases h
  case lneg =>
    simp only [eok, Bool.and_eq_true, decide_eq_true_eq] at he
    obtain ⟨hd, hl⟩ := he
    have hl := Nat.eq_of_beq_eq_true hl
    subst hl
    simp only [act] at h
    split at h
    case h_1 x r =>
      simp only [aA, Option.some.injEq, Sum.inl.injEq, Prod.mk.injEq] at h
      obtain ⟨rfl, rfl, rfl⟩ := h
      exact lv_lneg hx hb hd (kk rls hL (hS.tl.cons okV_l) hO hlen)
    case h_2 => cases h
  case ineg =>
    simp only [eok, Bool.and_eq_true, decide_eq_true_eq] at he
    obtain ⟨hd, hl⟩ := he
    have hl := Nat.eq_of_beq_eq_true hl
    subst hl
    simp only [act] at h
    split at h
    case h_1 x r =>
      simp only [aA, Option.some.injEq, Sum.inl.injEq, Prod.mk.injEq] at h
      obtain ⟨rfl, rfl, rfl⟩ := h
      exact lv_ineg hx hb hd (kk rls hL (hS.tl.cons okV_i) hO hlen)
    case h_2 => cases h
  case i2l =>
    simp only [eok, Bool.and_eq_true, decide_eq_true_eq] at he
    obtain ⟨hd, hl⟩ := he
    have hl := Nat.eq_of_beq_eq_true hl
    subst hl
    simp only [act] at h
    split at h
    case h_1 x r =>
      simp only [aA, Option.some.injEq, Sum.inl.injEq, Prod.mk.injEq] at h
      obtain ⟨rfl, rfl, rfl⟩ := h
      exact lv_i2l hx hb hd rfl (kk rls hL (hS.tl.cons okV_l) hO hlen)
    case h_2 => cases h
  case l2i =>
    simp only [eok, Bool.and_eq_true, decide_eq_true_eq] at he
    obtain ⟨hd, hl⟩ := he
    have hl := Nat.eq_of_beq_eq_true hl
    subst hl
    simp only [act] at h
    split at h
    case h_1 x r =>
      simp only [aA, Option.some.injEq, Sum.inl.injEq, Prod.mk.injEq] at h
      obtain ⟨rfl, rfl, rfl⟩ := h
      exact lv_l2i hx hb hd rfl (kk rls hL (hS.tl.cons okV_i) hO hlen)
    case h_2 => cases h
  case l2d =>
    simp only [eok, Bool.and_eq_true, decide_eq_true_eq] at he
    obtain ⟨hd, hl⟩ := he
    have hl := Nat.eq_of_beq_eq_true hl
    subst hl
    simp only [act] at h
    split at h
    case h_1 x r =>
      simp only [aA, Option.some.injEq, Sum.inl.injEq, Prod.mk.injEq] at h
      obtain ⟨rfl, rfl, rfl⟩ := h
      exact lv_l2d hx hb hd (kk rls hL (hS.tl.cons okV_d) hO hlen)
    case h_2 => cases h
  case dup =>
    simp only [eok, Bool.and_eq_true, decide_eq_true_eq] at he
    obtain ⟨hd, hl⟩ := he
    have hl := Nat.eq_of_beq_eq_true hl
    subst hl
    simp only [act] at h
    split at h
    case h_1 x r =>
      simp only [aA, Option.some.injEq, Sum.inl.injEq, Prod.mk.injEq] at h
      obtain ⟨rfl, rfl, rfl⟩ := h
      exact lv_dup hx hb hd rfl (kk rls hL (hS.cons (hS _ List.mem_cons_self)) hO hlen)
    case h_2 x r =>
      simp only [aA, Option.some.injEq, Sum.inl.injEq, Prod.mk.injEq] at h
      obtain ⟨rfl, rfl, rfl⟩ := h
      exact lv_dup hx hb hd rfl (kk rls hL (hS.cons okV_i) hO hlen)
    case h_3 => cases h
  case dup2 =>
    simp only [eok, Bool.and_eq_true, decide_eq_true_eq] at he
    obtain ⟨hd, hl⟩ := he
    have hl := Nat.eq_of_beq_eq_true hl
    subst hl
    simp only [act] at h
    split at h
    case h_1 y x r =>
      simp only [aA, Option.some.injEq, Sum.inl.injEq, Prod.mk.injEq] at h
      obtain ⟨rfl, rfl, rfl⟩ := h
      exact lv_dup2_11 hx hb hd rfl rfl (kk rls hL ((hS.cons (hS _ (List.mem_cons_of_mem _ List.mem_cons_self))).cons okV_i) hO hlen)
    case h_2 => cases h
  case goto off =>
    simp only [eok, Bool.and_eq_true, decide_eq_true_eq] at he
    obtain ⟨hd, hl, ht⟩ := he
    have hl := Nat.eq_of_beq_eq_true hl
    subst hl
    simp only [act, aA, Option.some.injEq, Sum.inl.injEq, Prod.mk.injEq] at h
    obtain ⟨rfl, rfl, rfl⟩ := h
    exact lv_goto hx hb hd ht (kk rls hL hS hO hlen)
  case ifnull off =>
    simp only [eok, Bool.and_eq_true, decide_eq_true_eq] at he
    obtain ⟨hd, hl, ht⟩ := he
    have hl := Nat.eq_of_beq_eq_true hl
    subst hl
    simp only [act] at h
    split at h
    case h_1 x r =>
      simp only [aA, Option.some.injEq, Sum.inl.injEq, Prod.mk.injEq] at h
      obtain ⟨rfl, rfl, rfl⟩ := h
      exact lv_ifnull hx hb hd (kk rls hL hS.tl hO hlen)
    case h_2 r =>
      simp only [aA, Option.some.injEq, Sum.inl.injEq, Prod.mk.injEq] at h
      obtain ⟨rfl, rfl, rfl⟩ := h
      exact lv_ifnullN hx hb hd ht (kk rls hL hS.tl hO hlen)
    case h_3 => cases h
  case ifnonnull off =>
    simp only [eok, Bool.and_eq_true, decide_eq_true_eq] at he
    obtain ⟨hd, hl, ht⟩ := he
    have hl := Nat.eq_of_beq_eq_true hl
    subst hl
    simp only [act] at h
    split at h
    case h_1 x r =>
      simp only [aA, Option.some.injEq, Sum.inl.injEq, Prod.mk.injEq] at h
      obtain ⟨rfl, rfl, rfl⟩ := h
      exact lv_ifnonnull hx hb hd ht (kk rls hL hS.tl hO hlen)
    case h_2 r =>
      simp only [aA, Option.some.injEq, Sum.inl.injEq, Prod.mk.injEq] at h
      obtain ⟨rfl, rfl, rfl⟩ := h
      exact lv_ifnonnullN hx hb hd (kk rls hL hS.tl hO hlen)
    case h_3 => cases h
  case invokespecial idx =>
    simp only [act] at h
    split at h
    case h_1 =>
      split at h
      case h_1 x r =>
        simp only [eok, Bool.and_eq_true, decide_eq_true_eq] at he
        obtain ⟨hd, hl, ho⟩ := he
        have hl := Nat.eq_of_beq_eq_true hl
        subst hl
        cases hr : Nat.ble r.length 4 with
        | false => rw [hr] at h; cases h
        | true =>
          rw [hr] at h
          simp only [cond_true, aA, Option.some.injEq, Sum.inl.injEq, Prod.mk.injEq] at h
          obtain ⟨rfl, rfl, rfl⟩ := h
          obtain ⟨q, hq, h2⟩ := List.any_eq_true.mp ho
          simp only [Bool.and_eq_true] at h2
          have e1 := Nat.eq_of_beq_eq_true h2.1
          have e2 := Nat.eq_of_beq_eq_true h2.2
          have hlk := in_good (of_decide_eq_true (List.all_eq_true.mp oiT_ok q hq)) rfl
          rw [e1, e2] at hlk
          refine W.objInit hx hb hown (hts _ hlk) (hts _ (in_good obI_ok rfl)) (hts _ (in_good obC_ok rfl)) rfl (by show rls.size = _; rw [hL.1, hcm]) rfl hd hfr ?_ (kk rls hL hS.tl hO hlen)
          have h3 := rest_le (ρ := ρ) (b := b) hr
          show 2 * 0 + _ + 12 ≤ _
          omega
      case h_2 => cases h
    case h_2 =>
      rw [Bool.cond_eq_ite] at h
      split at h
      · split at h
        case h_1 => simp [aE] at h
        case h_2 => cases h
      · cases h
  all_goals (exfalso; revert h; simp only [act, Bool.cond_eq_ite, aB, aC, aD, aE, aS, aY, aT]; (repeat' split) <;> (try (intro h; cases h; done)))
  all_goals (intro h; revert h; first | (simp; done) | (cases Nat.beq l1 0 <;> simp; done) | (generalize Nat.ble _ _ = zz; cases zz <;> simp))
end STEP
