/-! ===== the law's frame at its start ===== -/
theorem start_cls {s : State} {args : Array Value} (hts : ∀ w ∈ lw_tbl, w.before args s = true) : ∀ ci : Nat, ∃ q : ClassId × (Nat → Nat), ∀ x : vw_C, mCl[ci]? = some x → u_Kn s x.1 x.2.1 x.2.2 q.1 q.2 := by
  intro ci
  have hg : ∀ w ∈ lw_good, w.before args s = true := fun w hw => hts w (List.mem_filter.mp hw).1
  have key : ∀ (C : String) (T : u_T) (N n : Nat), mCl[ci]? = some (C, T, N) → (∀ w ∈ u_ws C T N, w ∈ lw_good) → Cond.instantiable C n ∈ lw_tbl → ∃ q : ClassId × (Nat → Nat), ∀ x : vw_C, mCl[ci]? = some x → u_Kn s x.1 x.2.1 x.2.2 q.1 q.2 := by
    intro C T N n h1 h2 h3
    obtain ⟨cC, iS, h⟩ := u_known (C := C) (T := T) (N := N) (n := n) hg h2 (hts _ h3)
    refine ⟨(cC, iS), fun x hx => ?_⟩
    rw [h1] at hx
    cases hx
    exact h
  match ci with
  | 0 => exact key _ _ _ 7 (cls_ok 0 (by decide)).1 (cls_ok 0 (by decide)).2.1 (List.mem_of_getElem? (i := 115) (by decide +kernel))
  | 1 => exact key _ _ _ 5 (cls_ok 1 (by decide)).1 (cls_ok 1 (by decide)).2.1 (List.mem_of_getElem? (i := 61) (by decide +kernel))
  | 2 => exact key _ _ _ 7 (cls_ok 2 (by decide)).1 (cls_ok 2 (by decide)).2.1 (List.mem_of_getElem? (i := 55) (by decide +kernel))
  | 3 => exact key _ _ _ 5 (cls_ok 3 (by decide)).1 (cls_ok 3 (by decide)).2.1 (List.mem_of_getElem? (i := 184) (by decide +kernel))
  | 4 => exact key _ _ _ 3 (cls_ok 4 (by decide)).1 (cls_ok 4 (by decide)).2.1 (List.mem_of_getElem? (i := 321) (by decide +kernel))
  | 5 => exact key _ _ _ 8 (cls_ok 5 (by decide)).1 (cls_ok 5 (by decide)).2.1 (List.mem_of_getElem? (i := 151) (by decide +kernel))
  | 6 => exact key _ _ _ 13 (cls_ok 6 (by decide)).1 (cls_ok 6 (by decide)).2.1 (List.mem_of_getElem? (i := 49) (by decide +kernel))
  | 7 => exact key _ _ _ 12 (cls_ok 7 (by decide)).1 (cls_ok 7 (by decide)).2.1 (List.mem_of_getElem? (i := 208) (by decide +kernel))
  | 8 => exact key _ _ _ 4 (cls_ok 8 (by decide)).1 (cls_ok 8 (by decide)).2.1 (List.mem_of_getElem? (i := 41) (by decide +kernel))
  | 9 => exact key _ _ _ 18 (cls_ok 9 (by decide)).1 (cls_ok 9 (by decide)).2.1 (List.mem_of_getElem? (i := 811) (by decide +kernel))
  | 10 => exact key "java/lang/IllegalArgumentException" T0 0 6 rfl (fun w hw => by cases hw) (List.mem_of_getElem? (i := 429) (by decide +kernel))
  | 11 => exact key "java/lang/IllegalStateException" T0 0 6 rfl (fun w hw => by cases hw) (List.mem_of_getElem? (i := 538) (by decide +kernel))
  | 12 => exact key "java/lang/IndexOutOfBoundsException" T0 0 6 rfl (fun w hw => by cases hw) (List.mem_of_getElem? (i := 358) (by decide +kernel))
  | n + 13 => exact ⟨(default, fun _ => 0), fun x hx => by cases hx⟩
/-- an array of arrays, by its word -/
theorem ao_spec {args : Array Value} {s : State} {t : FieldType} (h : (Cond.arrayOver (.array t)).before args s = true) : ∃ comp c k, s.vm.findClass (FieldType.array t).toString = some comp ∧ s.vm.classes[c]? = some k ∧ k.kind = .array comp (.array t) ∧ s.vm.findClass ("[" ++ (FieldType.array t).toString) = some c := by
  have hv : (Cond.arrayOver (.array t)).value args s none s [] = some true := by
    simpa [Cond.before, Cond.holds] using h
  simp only [Cond.value] at hv
  cases hc : s.vm.findClass (FieldType.array t).toString with
  | none => simp [hc] at hv
  | some comp =>
    simp only [hc, Option.bind_some] at hv
    obtain ⟨c, hi, hb⟩ := Option.bind_eq_some_iff.mp hv
    obtain ⟨k, hk, hb⟩ := Option.map_eq_some_iff.mp hb
    obtain ⟨hlt, hp, -⟩ := Array.findIdx?_eq_some_iff_getElem.mp hi
    rw [(Array.getElem?_eq_some_iff.mp hk).2] at hp
    refine ⟨comp, c, k, rfl, hk, ?_⟩
    cases hz : k.kind with
    | array cp ty =>
      rw [hz] at hp hb
      simp only [beq_iff_eq] at hp
      simp only [Bool.and_eq_true, decide_eq_true_eq] at hb
      exact ⟨by rw [hp, hb.1], hb.2⟩
    | _ => rw [hz] at hp; cases hp
theorem start_arr {s : State} {args : Array Value} (hts : ∀ w ∈ lw_tbl, w.before args s = true) : ∃ cA : Nat → ClassId, (∀ (k : Nat) (q : ClassId × FieldType), (tysA cA)[k]? = some q → ArrOfT s q.1 q.2 ∧ va_RA s q.1 q.2) ∧ ∃ kA : Class, s.vm.classes[cA 24]? = some kA ∧ kA.kind = .array (cA 20) (.array .int) := by
  obtain ⟨c0, k0, p0, a0, b0, d0⟩ := Cond.arrayClass_spec (hts (Cond.arrayClass .int) (List.mem_of_getElem? (i := 85) (by decide +kernel)))
  obtain ⟨c1, k1, p1, a1, b1, d1⟩ := Cond.arrayClass_spec (hts (Cond.arrayClass .long) (List.mem_of_getElem? (i := 336) (by decide +kernel)))
  obtain ⟨p2, c2, k2, a2, b2, d2, e2⟩ := ao_spec (hts (Cond.arrayOver (.array .long)) (List.mem_of_getElem? (i := 819) (by decide +kernel)))
  obtain ⟨p3, c3, k3, a3, -, b3, d3, e3⟩ := Cond.arrayOver_spec (hts (Cond.arrayOver (.object "CoastRadar$Track")) (List.mem_of_getElem? (i := 207) (by decide +kernel)))
  obtain ⟨p4, c4, k4, a4, b4, d4, e4⟩ := ao_spec (hts (Cond.arrayOver (.array .int)) (List.mem_of_getElem? (i := 817) (by decide +kernel)))
  refine ⟨fun t => bif Nat.beq t 20 then c0 else bif Nat.beq t 21 then c1 else bif Nat.beq t 22 then c2 else bif Nat.beq t 23 then c3 else c4, fun k q hk => ?_, k4, b4, ?_⟩
  · match k, hk with
    | 0, hk => cases hk; exact ⟨fun n z => ⟨fun k h => (by cases h), k0, b0, p0, d0⟩, a0⟩
    | 1, hk => cases hk; exact ⟨fun n z => ⟨fun k h => (by cases h), k1, b1, p1, d1⟩, a1⟩
    | 2, hk => cases hk; exact ⟨fun n z => ⟨fun k h => (by cases h), k2, b2, p2, d2⟩, e2⟩
    | 3, hk => cases hk; exact ⟨fun n z => ⟨fun k h => (by cases h), k3, b3, p3, d3⟩, k3, p3, b3, d3, a3, e3⟩
    | 4, hk => cases hk; exact ⟨fun n z => ⟨fun k h => (by cases h), k4, b4, p4, d4⟩, e4⟩
    | n + 5, hk => cases hk
  · have h1 : p4 = c0 := Option.some.inj (a4.symm.trans a0)
    rw [d4, h1]
    rfl
def fl_tab : List Cond := flatC (Cond.and given_1 narrow_1)
def fl_chk (w : Cond) : Bool := fl_tab.any (fun x => decide (x = w))
theorem fw_use {s : State} {args : Array Value} (h : (Cond.and given_1 narrow_1).before args s = true) {w : Cond} (hc : fl_chk w = true) : w.before args s = true := by
  obtain ⟨x, hx, he⟩ := List.any_eq_true.mp hc
  rw [← of_decide_eq_true he]
  exact flat_of_before _ h x hx
theorem fl_ex : ∀ q ∈ thT, fl_chk (Cond.exactly (.string (clsT.getD q.1 "") q.2.2.1) "java/lang/String") = true := by
  have h : thT.all (fun q => fl_chk (Cond.exactly (.string (clsT.getD q.1 "") q.2.2.1) "java/lang/String")) = true := by decide +kernel
  exact fun q hq => List.all_eq_true.mp h q hq
theorem fl_sr : (thT.zip thTx).all (fun q => decide (Cond.stringRef (clsT.getD q.1.1 "") q.1.2.2.1 q.2 ∈ lw_tbl)) = true := by decide +kernel
theorem fl_cd : ∀ E, E < 3 → Cond.castable (exN E) (exN E) ∈ lw_tbl ∧ Cond.declares (dcN E) ∈ lw_tbl := by
  have h : (List.range 3).all (fun E => decide (Cond.castable (exN E) (exN E) ∈ lw_tbl) && decide (Cond.declares (dcN E) ∈ lw_tbl)) = true := by decide +kernel
  intro E hE
  have h1 := List.all_eq_true.mp h E (List.mem_range.mpr hE)
  simp only [Bool.and_eq_true, decide_eq_true_eq] at h1
  exact h1
theorem ml_tbl {q : Nat × Nat × Nat × Nat × Nat × Nat × Nat × Nat × Nat} (hq : q ∈ mlT) : lkW q.1 q.2.1 q.2.2.1 q.2.2.2.1 ∈ lw_tbl := by
  have h := List.all_eq_true.mp mlT_ok q hq
  obtain ⟨o, i, k, kind, p1, p2, p3, p4, n2⟩ := q
  unfold mlOk at h
  simp only [Bool.and_eq_true, decide_eq_true_eq] at h
  exact List.mem_of_getElem? h.1.1.1.1.1.1.1.1.1.1
/-- what the law's frame knows -/
theorem start_KK {s : State} {b L : Nat} {xs : Nat → Int32} (hts : ∀ w ∈ lw_tbl, w.before #[Value.ref b] s = true) (hgv : (Cond.and given_1 narrow_1).before #[Value.ref b] s = true) (hX : va_X b L xs s s.heap) : ∃ (D : va_G) (cA : Nat → ClassId), KK D cA b (fun q => s.heap.size ≤ q) (L, xs) s := by
  obtain ⟨cA, h1, h2⟩ := start_arr hts
  have hc := start_cls hts
  refine ⟨(fun ci => (hc ci).choose.1, fun ci => (hc ci).choose.2), cA, ⟨fun ci x hx => (hc ci).choose_spec x hx, h1⟩, fun q hq hn => ?_, fun i q hi => ?_, va_AO.of (hts (Cond.arrayOver (.object "CoastRadar$Track")) (List.mem_of_getElem? (i := 207) (by decide +kernel))), ?_, h2, fun E F a1 a2 a3 a4 => absurd rfl a4, fun E a1 => ⟨va_Nw.of rfl (hts _ (fl_cd E a1).1), va_Nw.of rfl (hts _ (fl_cd E a1).2)⟩, ?_, ?_, hX⟩
  · have hw := hts _ (ml_tbl hq)
    rw [nst_lk hn] at hw ⊢
    exact va_Nw.of rfl hw
  · have hm := List.mem_of_getElem? hi
    obtain ⟨a, cc, cell, kk, he, -⟩ := Cond.exactly_spec (fw_use hgv (fl_ex q hm))
    have hlen : i < thTx.length := by
      have h3 := (List.getElem?_eq_some_iff.mp hi).1
      have h4 : thT.length = thTx.length := by decide +kernel
      omega
    have hz : (thT.zip thTx)[i]? = some (q, thTx.getD i "") := by
      rw [List.getElem?_zip_eq_some]
      refine ⟨hi, ?_⟩
      rw [List.getD_eq_getElem?_getD, List.getElem?_eq_getElem hlen]
      rfl
    have h5 := List.all_eq_true.mp fl_sr _ (List.mem_of_getElem? hz)
    exact ⟨a, vk_R.of (hts _ (of_decide_eq_true h5)) he⟩
  · exact ⟨hts (Cond.arrayOver (.array .int)) (List.mem_of_getElem? (i := 817) (by decide +kernel)), hts (Cond.arrayOver (.array .long)) (List.mem_of_getElem? (i := 819) (by decide +kernel))⟩
  · exact vx_Zqof (hts _ (List.mem_of_getElem? (i := 384) (by decide +kernel))) (hts _ (List.mem_of_getElem? (i := 31) (by decide +kernel))) (fw_use hgv (by decide +kernel)) (fun a h z => by omega)
  · exact vx_Zqof (hts _ (List.mem_of_getElem? (i := 386) (by decide +kernel))) (hts _ (List.mem_of_getElem? (i := 31) (by decide +kernel))) (fw_use hgv (by decide +kernel)) (fun a h z => by omega)

