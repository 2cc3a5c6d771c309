/-! ===== the small machine's memory as the kit's world ===== -/
def eV (ρ : Nat → Nat) (b : Nat) : Value → Value
  | .ref a => .ref (ρ a)
  | .retAddr _ => .ref b
  | .int x => .int x
  | .long x => .long x
  | .float x => .float x
  | .double x => .double x
  | .null => .null
def eF (ρ : Nat → Nat) (μ : mMu) (a ci j : Nat) : Value := bif Nat.beq (fkd ci j) 0 then .int (mI μ a j) else bif Nat.beq (fkd ci j) 1 then .long (mL μ a j) else va_rf ((mR μ a j).map ρ)
def eFs (ρ : Nat → Nat) (μ : mMu) (a ci : Nat) : List Value := (List.range (fnum ci)).map (eF ρ μ a ci)
def eA (ρ : Nat → Nat) (μ : mMu) (a : Nat) : vp_A := ((mS μ a).2, bif Nat.beq (mS μ a).1 20 then .inl (mI μ a) else bif Nat.beq (mS μ a).1 21 then .inr (.inl (mL μ a)) else .inr (.inr (.inr (.inr (fun j => (mR μ a j).map ρ)))))
def eE (ρ : Nat → Nat) (cA : Nat → ClassId) (μ : mMu) (a : Nat) : va_E := bif Nat.blt (mS μ a).1 20 then .inr ((mS μ a).1, eFs ρ μ a (mS μ a).1) else .inl (cA (mS μ a).1, eA ρ μ a)
def wS (ρ : Nat → Nat) (cA : Nat → ClassId) (μ : mMu) : va_W := (List.range (mN μ)).map fun a => (ρ a, eE ρ cA μ a)
/-- references point at cells that are there -/
def clo (μ : mMu) : Prop := ∀ a j r : Nat, a < mN μ → mR μ a j = some r → r < mN μ
theorem wS_get {ρ : Nat → Nat} {cA : Nat → ClassId} {μ : mMu} {a : Nat} (h : a < mN μ) : (wS ρ cA μ)[a]? = some (ρ a, eE ρ cA μ a) := by simp [wS, h]
theorem wS_len {ρ : Nat → Nat} {cA : Nat → ClassId} {μ : mMu} : (wS ρ cA μ).length = mN μ := by simp [wS]
theorem wS_upd {ρ : Nat → Nat} {cA : Nat → ClassId} {μ μ' : mMu} {a : Nat} (hn : mN μ' = mN μ) (ho : ∀ x, x ≠ a → eE ρ cA μ' x = eE ρ cA μ x) : wS ρ cA μ' = (wS ρ cA μ).set a (ρ a, eE ρ cA μ' a) := by
  apply List.ext_getElem?
  intro i
  by_cases hi : i < mN μ
  · rw [wS_get (by omega)]
    by_cases hia : i = a
    · subst hia
      rw [List.getElem?_set_self (by rw [wS_len]; exact hi)]
    · rw [List.getElem?_set_ne (Ne.symm hia), wS_get hi, ho i hia]
  · rw [List.getElem?_eq_none (by rw [wS_len]; omega), List.getElem?_eq_none (by rw [List.length_set, wS_len]; omega)]
theorem eE_congr {ρ ρ' : Nat → Nat} {cA : Nat → ClassId} {μ μ' : mMu} {x : Nat} (hs : mS μ' x = mS μ x) (hi : mI μ' x = mI μ x) (hl : mL μ' x = mL μ x) (hd : mD μ' x = mD μ x) (hr : ∀ j, (mR μ' x j).map ρ' = (mR μ x j).map ρ) : eE ρ' cA μ' x = eE ρ cA μ x := by
  have h1 : ∀ ci, eFs ρ' μ' x ci = eFs ρ μ x ci := fun ci => by
    unfold eFs
    apply List.map_congr_left
    intro j _
    unfold eF
    rw [hi, hl, hr]
  have h2 : (fun j => (mR μ' x j).map ρ') = fun j => (mR μ x j).map ρ := funext hr
  unfold eE eA
  rw [hs, h1, hi, hl, h2]
theorem u2_ne {α : Type} {f : Nat → Nat → α} {a j x : Nat} {v : α} (h : x ≠ a) : u2 f a j v x = f x := by funext y; simp [u2, h]
theorem u2r_ne {α : Type} {f : Nat → Nat → α} {a x : Nat} {g : Nat → α} (h : x ≠ a) : u2r f a g x = f x := by funext y; simp [u2r, h]
theorem u2_self {α : Type} {f : Nat → Nat → α} {a j : Nat} {v : α} : u2 f a j v a = fun y => if y = j then v else f a y := by funext y; simp [u2]
theorem u2r_self {α : Type} {f : Nat → Nat → α} {a : Nat} {g : Nat → α} : u2r f a g a = g := by funext y; simp [u2r]
theorem eE_arr {ρ : Nat → Nat} {cA : Nat → ClassId} {μ : mMu} {a : Nat} (h : ¬ (mS μ a).1 < 20) : eE ρ cA μ a = .inl (cA (mS μ a).1, eA ρ μ a) := by
  unfold eE
  rw [show Nat.blt (mS μ a).1 20 = false from by rw [← Bool.not_eq_true, Nat.blt_eq]; exact h]
  rfl
theorem eE_obj {ρ : Nat → Nat} {cA : Nat → ClassId} {μ : mMu} {a ci : Nat} (h : (mS μ a).1 = ci) (hc : ci < 20) : eE ρ cA μ a = .inr (ci, eFs ρ μ a ci) := by
  unfold eE
  rw [h, show Nat.blt ci 20 = true from by rw [Nat.blt_eq]; exact hc]
  rfl
theorem eE_20 {ρ : Nat → Nat} {cA : Nat → ClassId} {μ : mMu} {a : Nat} (h : (mS μ a).1 = 20) : eE ρ cA μ a = .inl (cA 20, (mS μ a).2, .inl (mI μ a)) := by
  rw [eE_arr (by omega)]; unfold eA; rw [h]; rfl
theorem eE_21 {ρ : Nat → Nat} {cA : Nat → ClassId} {μ : mMu} {a : Nat} (h : (mS μ a).1 = 21) : eE ρ cA μ a = .inl (cA 21, (mS μ a).2, .inr (.inl (mL μ a))) := by
  rw [eE_arr (by omega)]; unfold eA; rw [h]; rfl
theorem eE_23 {ρ : Nat → Nat} {cA : Nat → ClassId} {μ : mMu} {a t : Nat} (h : (mS μ a).1 = t) (ht : t = 22 ∨ t = 23 ∨ t = 24) : eE ρ cA μ a = .inl (cA t, (mS μ a).2, .inr (.inr (.inr (.inr (fun j => (mR μ a j).map ρ))))) := by
  rw [eE_arr (by omega)]; unfold eA; rw [h]
  rcases ht with rfl | rfl | rfl <;> rfl
theorem eFs_get {ρ : Nat → Nat} {μ : mMu} {a ci j : Nat} (h : j < fnum ci) : (eFs ρ μ a ci)[j]? = some (eF ρ μ a ci j) := by simp [eFs, h]
theorem eFs_len {ρ : Nat → Nat} {μ : mMu} {a ci : Nat} : (eFs ρ μ a ci).length = fnum ci := by simp [eFs]
theorem eFs_set {ρ : Nat → Nat} {μ μ' : mMu} {a ci j : Nat} {v : Value} (hj : eF ρ μ' a ci j = v) (ho : ∀ i, i ≠ j → eF ρ μ' a ci i = eF ρ μ a ci i) : eFs ρ μ' a ci = (eFs ρ μ a ci).set j v := by
  apply List.ext_getElem?
  intro i
  by_cases hi : i < fnum ci
  · rw [eFs_get hi]
    by_cases hij : i = j
    · subst hij
      rw [List.getElem?_set_self (by rw [eFs_len]; exact hi), hj]
    · rw [List.getElem?_set_ne (Ne.symm hij), eFs_get hi, ho i hij]
  · rw [List.getElem?_eq_none (by rw [eFs_len]; omega), List.getElem?_eq_none (by rw [List.length_set, eFs_len]; omega)]
theorem mI_sI {μ : mMu} {a j : Nat} {v : Int32} : mI (sI μ a j v) = u2 (mI μ) a j v := rfl
theorem mI_sIr {μ : mMu} {a : Nat} {g : Nat → Int32} : mI (sIr μ a g) = u2r (mI μ) a g := rfl
theorem mL_sL {μ : mMu} {a j : Nat} {v : Int64} : mL (sL μ a j v) = u2 (mL μ) a j v := rfl
theorem mD_sD {μ : mMu} {a j : Nat} {v : UInt64} : mD (sD μ a j v) = u2 (mD μ) a j v := rfl
theorem mR_sR {μ : mMu} {a j : Nat} {v : Option Nat} : mR (sR μ a j v) = u2 (mR μ) a j v := rfl
theorem mI_new {μ : mMu} {sh : Nat × Nat} {z : Nat} : mI (mNew μ sh z) = u2r (mI μ) (mN μ) (fun _ => 0) := rfl
theorem mL_new {μ : mMu} {sh : Nat × Nat} {z : Nat} : mL (mNew μ sh z) = u2r (mL μ) (mN μ) (fun _ => 0) := rfl
theorem mD_new {μ : mMu} {sh : Nat × Nat} {z : Nat} : mD (mNew μ sh z) = u2r (mD μ) (mN μ) (fun _ => 0) := rfl
theorem mR_new {μ : mMu} {sh : Nat × Nat} {z : Nat} : mR (mNew μ sh z) = u2r (mR μ) (mN μ) (fun _ => none) := rfl
theorem mS_new {μ : mMu} {sh : Nat × Nat} {z : Nat} : mS (mNew μ sh z) = u1 (mS μ) (mN μ) sh := rfl
/-- a new cell -/
theorem wS_new {ρ : Nat → Nat} {cA : Nat → ClassId} {μ : mMu} {sh : Nat × Nat} {z q : Nat} (hc : clo μ) : wS (u1 ρ (mN μ) q) cA (mNew μ sh z) = wS ρ cA μ ++ [(q, eE (u1 ρ (mN μ) q) cA (mNew μ sh z) (mN μ))] := by
  have hn : mN (mNew μ sh z) = mN μ + 1 := rfl
  apply List.ext_getElem?
  intro i
  rcases Nat.lt_trichotomy i (mN μ) with hi | hi | hi
  · rw [wS_get (by omega), List.getElem?_append_left (by rw [wS_len]; exact hi), wS_get hi]
    have hne : i ≠ mN μ := by omega
    congr 1
    refine Prod.ext (by simp [u1, hne]) ?_
    refine eE_congr (by rw [mS_new]; simp [u1, hne]) (by rw [mI_new, u2r_ne hne]) (by rw [mL_new, u2r_ne hne]) (by rw [mD_new, u2r_ne hne]) fun j => ?_
    have h1 : mR (mNew μ sh z) i j = mR μ i j := by rw [mR_new, u2r_ne hne]
    rw [h1]
    cases hr : mR μ i j with
    | none => rfl
    | some r =>
      have h2 := hc i j r hi hr
      simp [u1, show r ≠ mN μ by omega]
  · subst hi
    rw [wS_get (by omega), List.getElem?_append_right (by rw [wS_len]; exact Nat.le_refl _), wS_len, Nat.sub_self]
    simp [u1]
  · rw [List.getElem?_eq_none (by rw [wS_len]; omega), List.getElem?_eq_none (by rw [List.length_append, wS_len]; simp; omega)]
theorem clo_new {μ : mMu} {sh : Nat × Nat} {z : Nat} (hc : clo μ) : clo (mNew μ sh z) := by
  intro a j r ha hr
  have hn : mN (mNew μ sh z) = mN μ + 1 := rfl
  rw [hn] at ha ⊢
  by_cases h : a = mN μ
  · subst h
    have h1 : mR (mNew μ sh z) (mN μ) j = none := by rw [mR_new, u2r_self]
    rw [h1] at hr
    cases hr
  · have h1 : mR (mNew μ sh z) a j = mR μ a j := by rw [mR_new, u2r_ne h]
    rw [h1] at hr
    have := hc a j r (by omega) hr
    omega
theorem clo_sR {μ : mMu} {a j r : Nat} (hc : clo μ) (hr : r < mN μ) : clo (sR μ a j (some r)) := by
  intro x i q hx hq
  have h1 : mR (sR μ a j (some r)) x i = u2 (mR μ) a j (some r) x i := rfl
  rw [h1] at hq
  show q < mN μ
  have hx' : x < mN μ := hx
  unfold u2 at hq
  by_cases hxa : x = a
  · rw [if_pos hxa] at hq
    by_cases hi : i = j
    · rw [if_pos hi] at hq; cases hq; exact hr
    · rw [if_neg hi] at hq; exact hc x i q hx' hq
  · rw [if_neg hxa] at hq; exact hc x i q hx' hq
/-! locals -/
def Lo (ρ : Nat → Nat) (b n : Nat) (mls : mLo) (ls : Array Slot) : Prop := ls.size = n ∧ lv_wf ls ∧ ∀ (i : Nat) (v : Value), mls.getD i none = some v → (isW (some v) = true → mls.getD (i + 1) none = none) → ls[i]? = some (.val (eV ρ b v))
def lvl (ρ : Nat → Nat) (b : Nat) (mls : mLo) : List (Nat × Value) := (List.range mls.length).filterMap fun i => match mls.getD i none with
  | some v => bif isW (some v) && (mls.getD (i + 1) none).isSome then none else some (i, eV ρ b v)
  | none => none
theorem lvl_mem {ρ : Nat → Nat} {b : Nat} {mls : mLo} {q : Nat × Value} : q ∈ lvl ρ b mls ↔ ∃ v, mls.getD q.1 none = some v ∧ (isW (some v) = true → mls.getD (q.1 + 1) none = none) ∧ q.2 = eV ρ b v := by
  unfold lvl
  rw [List.mem_filterMap]
  constructor
  · rintro ⟨i, hi, h⟩
    cases hv : mls.getD i none with
    | none => rw [hv] at h; cases h
    | some v =>
      rw [hv] at h
      cases hw : isW (some v) with
      | false =>
        simp only [hw, Bool.false_and, cond_false, Option.some.injEq] at h
        subst h
        exact ⟨v, hv, (fun h => by rw [hw] at h; cases h), rfl⟩
      | true =>
        cases hn : mls.getD (i + 1) none with
        | none =>
          simp only [hw, hn, Bool.true_and, Option.isSome_none, cond_false, Option.some.injEq] at h
          subst h
          exact ⟨v, hv, fun _ => hn, rfl⟩
        | some w =>
          simp only [hw, hn, Bool.true_and, Option.isSome_some, cond_true] at h
          cases h
  · rintro ⟨v, hv, hw, he⟩
    have hl : q.1 < mls.length := by
      rcases Nat.lt_or_ge q.1 mls.length with h | h
      · exact h
      · rw [List.getD_eq_getElem?_getD, List.getElem?_eq_none h] at hv
        cases hv
    refine ⟨q.1, List.mem_range.mpr hl, ?_⟩
    rw [hv]
    cases hx : isW (some v) with
    | false => simp only [hx, Bool.false_and, cond_false]; rw [← he]
    | true => simp only [hx, hw hx, Bool.true_and, Option.isSome_none, cond_false]; rw [← he]
theorem Lo.has {ρ : Nat → Nat} {b n : Nat} {mls : mLo} {ls : Array Slot} (h : Lo ρ b n mls ls) : lv_has ls n (lvl ρ b mls) := ⟨h.1, h.2.1, fun q hq => by
  obtain ⟨v, h1, h2, h3⟩ := lvl_mem.mp hq
  rw [h3]
  exact h.2.2 _ _ h1 h2⟩
theorem cat_eV {ρ : Nat → Nat} {b : Nat} {v : Value} : (eV ρ b v).category = 2 ↔ isW (some v) = true := by cases v <;> simp [eV, isW, Value.category]
theorem getD_set {ls : mLo} {i j : Nat} {v : Option Value} : (ls.set i v).getD j none = if j = i ∧ i < ls.length then v else ls.getD j none := by
  simp only [List.getD_eq_getElem?_getD, List.getElem?_set]
  by_cases h : i = j
  · subst h
    by_cases h2 : i < ls.length
    · simp [h2]
    · simp [h2]
  · simp [h, Ne.symm h]
theorem LoS1 {ρ : Nat → Nat} {b n i : Nat} {mls : mLo} {ls' : Array Slot} {v : Value} (hl : mls.length = n) (hi : i < n) (h : lv_has ls' n ((i, eV ρ b v) :: (lvl ρ b mls).filter (fun q => !(q.1 == i) && !(q.1 + 1 == i && q.2.category == 2)))) : Lo ρ b n (st1 mls i (some v)) ls' := by
  refine ⟨h.1, h.2.1, fun j w hw hx => ?_⟩
  unfold st1 at hw hx
  rw [getD_set] at hw hx
  by_cases hj : j = i
  · subst hj
    rw [if_pos ⟨rfl, by omega⟩] at hw
    cases hw
    exact h.2.2 _ List.mem_cons_self
  · rw [if_neg (fun z => hj z.1)] at hw
    have hne : isW (some w) = true → ¬ j + 1 = i := fun hw2 z => by
      have h3 := hx hw2
      rw [if_pos ⟨z, by omega⟩] at h3
      cases h3
    refine h.2.2 (j, eV ρ b w) (List.mem_cons_of_mem _ (List.mem_filter.mpr ⟨lvl_mem.mpr ⟨w, hw, fun hw2 => ?_, rfl⟩, ?_⟩))
    · have h3 := hx hw2
      rw [if_neg (fun z => hne hw2 z.1)] at h3
      exact h3
    · simp only [Bool.and_eq_true, Bool.not_eq_true', beq_eq_false_iff_ne, ne_eq, Bool.and_eq_false_iff]
      refine ⟨hj, ?_⟩
      by_cases hw2 : isW (some w) = true
      · exact Or.inl (hne hw2)
      · exact Or.inr (fun z => hw2 (cat_eV.mp z))
theorem LoS2 {ρ : Nat → Nat} {b n i : Nat} {mls : mLo} {ls' : Array Slot} {v : Value} (hl : mls.length = n) (hi : i + 1 < n) (h : lv_has ls' n ((i, eV ρ b v) :: (lvl ρ b mls).filter (fun q => !(q.1 == i) && (!(q.1 == i + 1) && !(q.1 + 1 == i && q.2.category == 2))))) : Lo ρ b n (st2 mls i (some v)) ls' := by
  refine ⟨h.1, h.2.1, fun j w hw hx => ?_⟩
  unfold st2 at hw hx
  rw [getD_set, getD_set, List.length_set] at hw hx
  by_cases hj1 : j = i + 1
  · rw [if_pos ⟨hj1, by omega⟩] at hw
    cases hw
  · rw [if_neg (fun z => hj1 z.1)] at hw
    by_cases hj : j = i
    · subst hj
      rw [if_pos ⟨rfl, by omega⟩] at hw
      cases hw
      exact h.2.2 _ List.mem_cons_self
    · rw [if_neg (fun z => hj z.1)] at hw
      have hne : isW (some w) = true → ¬ j + 1 = i := fun hw2 z => by
        have h3 := hx hw2
        rw [if_neg (by omega), if_pos ⟨z, by omega⟩] at h3
        cases h3
      refine h.2.2 (j, eV ρ b w) (List.mem_cons_of_mem _ (List.mem_filter.mpr ⟨lvl_mem.mpr ⟨w, hw, fun hw2 => ?_, rfl⟩, ?_⟩))
      · have h3 := hx hw2
        rw [if_neg (by omega), if_neg (fun z => hne hw2 z.1)] at h3
        exact h3
      · simp only [Bool.and_eq_true, Bool.not_eq_true', beq_eq_false_iff_ne, ne_eq, Bool.and_eq_false_iff]
        refine ⟨hj, hj1, ?_⟩
        by_cases hw2 : isW (some w) = true
        · exact Or.inl (hne hw2)
        · exact Or.inr (fun z => hw2 (cat_eV.mp z))
def okV (N : Nat) (v : Value) : Prop := ∀ a, v = .ref a → a < N
def okS (N : Nat) (st : mSt) : Prop := ∀ v ∈ st, okV N v
def okL (N : Nat) (ls : mLo) : Prop := ∀ (i : Nat) (v : Value), ls.getD i none = some v → okV N v
theorem eV_congr {ρ ρ' : Nat → Nat} {b N : Nat} {v : Value} (h : ∀ a, a < N → ρ' a = ρ a) (hv : okV N v) : eV ρ' b v = eV ρ b v := by
  cases v <;> try rfl
  case ref a => simp [eV, h a (hv a rfl)]
theorem eVs_congr {ρ ρ' : Nat → Nat} {b N : Nat} {st : mSt} (h : ∀ a, a < N → ρ' a = ρ a) (hv : okS N st) : st.map (eV ρ' b) = st.map (eV ρ b) := List.map_congr_left fun v hm => eV_congr h (hv v hm)
theorem Lo.congr {ρ ρ' : Nat → Nat} {b n N : Nat} {mls : mLo} {ls : Array Slot} (h : ∀ a, a < N → ρ' a = ρ a) (hv : okL N mls) (hL : Lo ρ b n mls ls) : Lo ρ' b n mls ls := ⟨hL.1, hL.2.1, fun i v h1 h2 => by rw [eV_congr h (hv i v h1)]; exact hL.2.2 i v h1 h2⟩
theorem okS.mono {N M : Nat} {st : mSt} (h : okS N st) (hl : N ≤ M) : okS M st := fun v hv a ha => Nat.lt_of_lt_of_le (h v hv a ha) hl
theorem okL.mono {N M : Nat} {ls : mLo} (h : okL N ls) (hl : N ≤ M) : okL M ls := fun i v hv a ha => Nat.lt_of_lt_of_le (h i v hv a ha) hl
theorem okS.cons {N : Nat} {v : Value} {st : mSt} (h : okS N st) (hv : okV N v) : okS N (v :: st) := fun w hw => by
  rcases List.mem_cons.mp hw with rfl | hw
  · exact hv
  · exact h w hw
theorem okL.set {N i : Nat} {ls : mLo} {v : Option Value} (h : okL N ls) (hv : ∀ w, v = some w → okV N w) : okL N (ls.set i v) := fun j w hw => by
  rw [getD_set] at hw
  by_cases hj : j = i ∧ i < ls.length
  · rw [if_pos hj] at hw; exact hv w hw
  · rw [if_neg hj] at hw; exact h j w hw
