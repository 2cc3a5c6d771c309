/-! ===== frames, what they know, their calls ===== -/
def nst (kind : Nat) : Bool := Nat.beq kind 3 || Nat.beq kind 4 || Nat.beq kind 5
/-- the constructors that a throw runs through -/
def dcN (E : Nat) : MethodName := { cls := ["java/lang/RuntimeException", "java/lang/Exception", "java/lang/Throwable"].getD E "", name := "<init>", desc := "(Ljava/lang/String;)V" }
/-- what a frame knows of the tables beyond the good words, and of the heap outside of the memory -/
def KK (D : va_G) (cA : Nat → ClassId) (b : Nat) (A : Nat → Prop) (X : Nat × (Nat → Int32)) (U : State) : Prop :=
  va_K D mCl (tysA cA) U ∧
  (∀ q ∈ mlT, nst q.2.2.2.1 = true → va_Nw (lkW q.1 q.2.1 q.2.2.1 q.2.2.2.1) U) ∧
  (∀ (i : Nat) (q : Nat × Nat × Nat × Nat × Nat), thT[i]? = some q → ∃ sa, vk_R (clsT.getD q.1 "") q.2.2.1 (thTx.getD i "") sa U) ∧
  va_AO "CoastRadar$Track" U ∧ ((Cond.arrayOver (.array .int)).before #[] U = true ∧ (Cond.arrayOver (.array .long)).before #[] U = true) ∧
  (∃ kA : Class, U.vm.classes[cA 24]? = some kA ∧ kA.kind = .array (cA 20) (.array .int)) ∧
  (∀ E F, E < 3 → F < 3 → E ≠ F → hndT ≠ [] → va_Nc (exN E) (exN F) U) ∧ (∀ E, E < 3 → va_Nw (.castable (exN E) (exN E)) U ∧ va_Nw (.declares (dcN E)) U) ∧
  vx_Zq Bundle.tN "UNASSIGNED_STACK" Bundle.steD A U U.heap ∧ vx_Zq Bundle.tN "SUPPRESSED_SENTINEL" Bundle.listD A U U.heap ∧
  va_X b X.1 X.2 U U.heap
theorem nst_lk {q : Nat × Nat × Nat × Nat × Nat × Nat × Nat × Nat × Nat} (h : nst q.2.2.2.1 = true) : lkW q.1 q.2.1 q.2.2.1 q.2.2.2.1 = Cond.methodLinkNest (clsT.getD q.1 "") q.2.1 (mNm q.2.2.1) (hostN q.1) := by
  unfold lkW
  unfold nst at h
  rw [h]
  rfl
theorem KK.warm {D : va_G} {cA : Nat → ClassId} {b : Nat} {A B : Nat → Prop} {X : Nat × (Nat → Int32)} {s U : State} (hW : s.WarmedH U.vm) (h : KK D cA b A X s) (hAB : ∀ q, B q → A q) (hz : s.heap.size ≤ U.heap.size) (hq : ∀ q, q < s.heap.size → ¬ A q → U.heap[q]? = s.heap[q]?) (hb : b < s.heap.size) (hbA : ¬ A b) : KK D cA b B X U := by
  obtain ⟨h1, h2, h3, h4, h5, h6, h7, h8, h9, h10, h11⟩ := h
  refine ⟨h1.moved hW.alike, fun q hq hn => ?_, fun i q hi => ?_, h4.moved hW.alike, ?_, ?_, fun E F a1 a2 a3 a4 => (h7 E F a1 a2 a3 a4).moved hW.alike, fun E a1 => ⟨va_Nw.warmC hW (h8 E a1).1, va_Nw.warmD hW (h8 E a1).2⟩, ?_, ?_, ?_⟩
  · have h := h2 q hq hn
    rw [nst_lk hn] at h ⊢
    exact va_Nw.warmM hW h
  · obtain ⟨sa, hs⟩ := h3 i q hi
    exact ⟨sa, vk_R.warm hW hs⟩
  · have h12 := Cond.arrayOver_setVmC (args := #[]) hW.alike (.array .int)
    have h13 := Cond.arrayOver_setVmC (args := #[]) hW.alike (.array .long)
    rw [← h12, ← h13] at h5
    exact h5
  · obtain ⟨kA, k1, k2⟩ := h6
    obtain ⟨k', hk', he⟩ := hW.alike.2.2 _ _ k1
    exact ⟨k', hk', by rw [he]; exact k2⟩
  · exact ((vx_Zq.kept h9 hq).moved hW.alike).narrow hAB
  · exact ((vx_Zq.kept h10 hq).moved hW.alike).narrow hAB
  · exact (h11.kept (hq b hb hbA)).moved hW.alike
/-- the same for a state of the same tables and heap -/
theorem KK.same {D : va_G} {cA : Nat → ClassId} {b : Nat} {A : Nat → Prop} {X : Nat × (Nat → Int32)} {u U : State} (hv : U.vm = u.vm) (hh : U.heap = u.heap) (h : KK D cA b A X u) : KK D cA b A X U := by
  obtain ⟨h1, h2, h3, h4, h5, h6, h7, h8, h9, h10, h11⟩ := h
  have ha : u.vm.Alike U.vm := by rw [hv]; exact Vm.Alike.refl _
  refine ⟨h1.moved ha, fun q hq hn => ?_, fun i q hi => ?_, h4.moved ha, ?_, by rw [hv]; exact h6, fun E F a1 a2 a3 a4 => (h7 E F a1 a2 a3 a4).moved ha, fun E a1 => ⟨(h8 E a1).1.same rfl hv.symm, (h8 E a1).2.same rfl hv.symm⟩, ?_, ?_, ?_⟩
  · have h := h2 q hq hn
    rw [nst_lk hn] at h ⊢
    exact h.same rfl hv.symm
  · obtain ⟨sa, hs⟩ := h3 i q hi
    exact ⟨sa, hs.same hv⟩
  · have h12 := Cond.arrayOver_setVmC (args := #[]) ha (.array .int)
    have h13 := Cond.arrayOver_setVmC (args := #[]) ha (.array .long)
    rw [← h12, ← h13] at h5
    exact h5
  · rw [hh]; exact h9.moved ha
  · rw [hh]; exact h10.moved ha
  · rw [hh]; exact h11.moved ha
theorem hh_law : True := trivial
/-- a frame of method k -/
def FrameOK (p : Program) (l : Launch) (R : Room) (s : State) (m : MethodId) (args : Array Value) (meth : Method) (c : Code) (k : Nat) (D : va_G) (cA : Nat → ClassId) (b : Nat) (A : Nat → Prop) (X : Nat × (Nat → Int32)) : Prop :=
  p.tables.exec = Jvm.exec ∧ c.code = mBy k ∧ c.maxLocals = mML k ∧ meth.locks = false ∧ s.vm.findClass (mOw k) = some m.cls ∧ ((mNm k).name = "<init>" → meth.name = "<init>") ∧ (ck k = 2 → c.exceptionTable.toList = tableOf (hh k)) ∧ (∀ w ∈ lw_good, w.before args s = true) ∧ dp k ≤ R.frames ∧ 37 * dp k ≤ R.locals ∧ KK D cA b A X s ∧ b < s.heap.size ∧ ¬ A b ∧ (∀ q, s.heap.size ≤ q → A q) ∧ k < 101 ∧ l.stackTraces = false
def wsK (k : Nat) : List Cond := cdW k :: lw_good
def rmK (k mc ms : Nat) : Room := { frames := dp k, cells := mc, slots := ms, locals := 37 * dp k }
def PG (D : va_G) (cA : Nat → ClassId) (b : Nat) (ρ : Nat → Nat) (μ : mMu) (sz : Nat) (as : List Value) : Array Value → State → Prop := va_Pc (as.map (eV ρ b)) (fun U => U.heap.size = sz ∧ va_P D mCl (wS ρ cA μ) U.heap ∧ KK D cA b (va_A (wS ρ cA μ) sz) (mX μ) U ∧ va_D (fun _ => True) (wS ρ cA μ))
def okO (N : Nat) (x : Option Value) : Prop := ∀ v, x = some v → okV N v
def QG (D : va_G) (cA : Nat → ClassId) (b : Nat) (ρ : Nat → Nat) (n0 : Nat) (A : Nat → Prop) (res : (Option Value ⊕ Nat) × mMu) : Array Value → State → Outcome → State → Prop := fun _ st oc t =>
  (∃ (x : Option Value) (ρ' : Nat → Nat), oc = .returned (x.map (eV ρ' b)) ∧ res.1 = .inl x ∧ (∀ a, a < n0 → ρ' a = ρ a) ∧ okO (mN res.2) x ∧ clo res.2 ∧ va_P D mCl (wS ρ' cA res.2) t.heap ∧ va_D A (wS ρ' cA res.2)) ∧ va_F A st t
def XG (D : va_G) (cA : Nat → ClassId) (ρ : Nat → Nat) (n0 : Nat) (A : Nat → Prop) (res : (Option Value ⊕ Nat) × mMu) : String → State → State → Prop := fun E st t =>
  (∃ (En : Nat) (ρ' : Nat → Nat), E = exN En ∧ res.1 = .inr En ∧ (∀ a, a < n0 → ρ' a = ρ a) ∧ clo res.2 ∧ va_P D mCl (wS ρ' cA res.2) t.heap ∧ va_D A (wS ρ' cA res.2)) ∧ va_F A st t
theorem PG_blind {D : va_G} {cA : Nat → ClassId} {b : Nat} {ρ : Nat → Nat} {μ : mMu} {sz : Nat} {as : List Value} : FrameBlind (PG D cA b ρ μ sz as) := fun a U g mk h => by
  obtain ⟨h0, h1, h2, h3, h4⟩ := h
  exact ⟨h0, h1, h2, KK.same (u := U) (U := U.calling g mk a) rfl rfl h3, h4⟩
theorem cd_good (k : Nat) : goodWord (cdW k) = true := by
  unfold cdW
  cases Nat.beq (ck k) 2 <;> rfl
theorem cd_in {k : Nat} (hk : k < 101) (hc : ck k ≠ 0) : cdW k ∈ lw_good := by
  rcases cd_ok k hk with h | h
  · exact absurd (beq_t h) hc
  · exact List.mem_filter.mpr ⟨h, cd_good k⟩
theorem good_all : ∀ w ∈ lw_good, (w.onTables && w.keeps) = true ∨ ∃ ty, w = .arrayClass ty := fun w h => good_of_word (List.mem_filter.mp h).2
theorem ws_at {k : Nat} (hk : k < 101) (hc : ck k ≠ 0) {s : State} {args : Array Value} (hts : ∀ w ∈ lw_good, w.before args s = true) : ∀ w ∈ wsK k, ∀ (a' : Array Value) (U : State), s.WarmedH U.vm → w.before a' U = true := by
  intro w hw a' U hW
  rcases List.mem_cons.mp hw with rfl | hw
  · exact word_at hW (good_of_word (cd_good k)) (hts _ (cd_in hk hc))
  · exact word_at hW (good_all w hw) (hts w hw)
/-- a link of a call, by the tables -/
theorem ml_use {k idx k' g n rc : Nat} (h : mlAny k idx k' g n rc = true) : dp k' < dp k ∧ rcOk (mRt k') rc = true ∧ ∃ q ∈ mlT, q.1 = mO k ∧ q.2.1 = idx ∧ q.2.2.1 = k' ∧ q.2.2.2.2.2.2.2.2 = n ∧ (g = 0 → q.2.2.2.1 = 0 ∨ q.2.2.2.1 = 3 ∨ q.2.2.2.1 = 6) ∧ (g = 1 → q.2.2.2.1 = 1 ∨ q.2.2.2.1 = 4) ∧ (g = 2 → q.2.2.2.1 = 2 ∨ q.2.2.2.1 = 5) := by
  unfold mlAny at h
  simp only [Bool.and_eq_true, Nat.blt_eq] at h
  obtain ⟨⟨h1, h2⟩, h3⟩ := h
  obtain ⟨q, hq, h4⟩ := List.any_eq_true.mp h3
  obtain ⟨o, i, k2, kind, p1, p2, p3, p4, n2⟩ := q
  simp only [Bool.and_eq_true] at h4
  obtain ⟨⟨⟨⟨g1, g2⟩, g3⟩, g4⟩, g5⟩ := h4
  refine ⟨h1, h2, _, hq, beq_t g1, beq_t g2, beq_t g3, (beq_t g4).symm, fun hg => ?_, fun hg => ?_, fun hg => ?_⟩
  · subst hg
    simp only [Bool.or_eq_true] at g5
    rcases g5 with (g5 | g5) | g5
    · exact Or.inl (beq_t g5)
    · exact Or.inr (Or.inl (beq_t g5))
    · exact Or.inr (Or.inr (beq_t g5))
  · subst hg
    simp only [Bool.or_eq_true] at g5
    rcases g5 with g5 | g5
    · exact Or.inl (beq_t g5)
    · exact Or.inr (beq_t g5)
  · subst hg
    simp only [Bool.or_eq_true] at g5
    rcases g5 with g5 | g5
    · exact Or.inl (beq_t g5)
    · exact Or.inr (beq_t g5)
theorem ml_facts {q : Nat × Nat × Nat × Nat × Nat × Nat × Nat × Nat × Nat} (hq : q ∈ mlT) : (nst q.2.2.2.1 = false → lkW q.1 q.2.1 q.2.2.1 q.2.2.2.1 ∈ lw_good) ∧ axW q.2.2.1 q.2.2.2.1 ∈ lw_good ∧ ((q.2.2.2.1 = 1 ∨ q.2.2.2.1 = 4) → Cond.selects (mNm q.2.2.1).cls (mNm q.2.2.1) (mNm q.2.2.1) ∈ lw_good) ∧ Cond.initialized (mNm q.2.2.1).cls ∈ lw_good ∧ ((q.2.2.2.1 = 2 ∨ q.2.2.2.1 = 5) → (mNm q.2.2.1).name = "<init>" ∧ mRt q.2.2.1 = none) ∧ ((mNm q.2.2.1).cls ≠ "java/lang/invoke/MethodHandle" ∧ (mNm q.2.2.1).cls ≠ "java/lang/invoke/VarHandle" ∧ (parseMethodDescriptor (mNm q.2.2.1).desc).map (fun d => d.parameters.length) = some q.2.2.2.2.2.2.2.2) ∧ ck q.2.2.1 = (bif Nat.beq q.2.2.2.1 6 then 2 else 1) ∧ q.2.2.1 < 101 ∧ (mNm q.2.2.1).cls = mOw q.2.2.1 ∧ mML q.2.2.1 ≤ 18 ∧ plainFor (mNm q.2.2.1) = true := by
  have h := List.all_eq_true.mp mlT_ok q hq
  obtain ⟨o, i, k2, kind, p1, p2, p3, p4, n2⟩ := q
  unfold mlOk at h
  simp only [Bool.and_eq_true, decide_eq_true_eq, Nat.blt_eq] at h
  obtain ⟨⟨⟨⟨⟨⟨⟨⟨⟨⟨h1, h2⟩, h3⟩, h4⟩, h5⟩, h6⟩, h7⟩, h8⟩, h9⟩, h10⟩, h11⟩ := h
  refine ⟨fun hn => in_good h1 ?_, in_good h2 ?_, fun hk => ?_, in_good h4 rfl, fun hk => ?_, h6, beq_t h7, h8, h9, Nat.le_of_ble_eq_true h10, h11⟩
  · unfold nst at hn
    unfold lkW
    rw [hn]
    rfl
  · unfold axW
    cases Nat.beq kind 0 || Nat.beq kind 3 || Nat.beq kind 6 <;> rfl
  · have h12 : (Nat.beq kind 1 || Nat.beq kind 4) = true := by
      rcases hk with hk | hk
      · have hk : kind = 1 := hk
        rw [hk]; rfl
      · have hk : kind = 4 := hk
        rw [hk]; rfl
    rw [h12] at h3
    simp only [Bool.not_true, Bool.false_or, decide_eq_true_eq] at h3
    exact in_good h3 rfl
  · have h12 : (Nat.beq kind 2 || Nat.beq kind 5) = true := by
      rcases hk with hk | hk
      · have hk : kind = 2 := hk
        rw [hk]; rfl
      · have hk : kind = 5 := hk
        rw [hk]; rfl
    rw [h12] at h5
    simpa using h5
