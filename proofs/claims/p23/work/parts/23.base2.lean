/-! ===== the reference's rows, as records ===== -/
def CB (c : Nat → Nat) : Prop := c 0 ≤ 4 ∧ c 1 ≤ 10 ∧ c 2 ≤ 6 ∧ c 3 ≤ 10 ∧ c 4 ≤ 10 ∧ c 5 ≤ 60 ∧ c 6 ≤ 500 ∧ c 7 ≤ 30000 ∧ c 8 ≤ 1000000 ∧ c 9 ≤ 1000000 ∧ c 10 ≤ 10 ∧ c 11 ≤ 500 ∧ c 12 ≤ 2000 ∧ c 13 ≤ 16 ∧ c 14 ≤ 16
/-! ===== loops, searches, sums ===== -/
theorem loopP (P : Nat → mOut → Prop) (Q : mOut → Prop) (n : Nat) (hend : ∀ o, P n o → Q o) (hstep : ∀ i o, i < n → P i o → Q o ∨ P (i + 1) o) : ∀ i o, i ≤ n → P i o → Q o := by
  have key : ∀ m i o, i + m = n → P i o → Q o := by
    intro m
    induction m with
    | zero => intro i o h hp; exact hend o (by rw [← h]; exact hp)
    | succ m ih =>
      intro i o h hp
      rcases hstep i o (by omega) hp with h1 | h1
      · exact h1
      · exact ih (i + 1) o (by omega) h1
  intro i o hi hp
  exact key (n - i) i o (by omega) hp
/-- n steps -/
def itr {α : Type} (g : Nat → α → α) : Nat → α → α
  | 0, s => s
  | n + 1, s => g n (itr g n s)
/-- the first -/
def ff (p : Nat → Bool) : Nat → Option Nat
  | 0 => none
  | n + 1 => match ff p n with
    | some t => some t
    | none => if p n = true then some n else none
theorem ff_none {p : Nat → Bool} : ∀ {n : Nat}, (∀ j, j < n → p j = false) → ff p n = none
  | 0, _ => rfl
  | n + 1, h => by
    unfold ff
    rw [ff_none (fun j hj => h j (by omega))]
    simp [h n (by omega)]
theorem ff_some {p : Nat → Bool} {t : Nat} (h : ∀ j, j < t → p j = false) (ht : p t = true) : ∀ {n : Nat}, t < n → ff p n = some t
  | 0, hn => absurd hn (Nat.not_lt_zero _)
  | n + 1, hn => by
    unfold ff
    rcases Nat.lt_or_ge t n with h1 | h1
    · rw [ff_some h ht h1]
    · have : t = n := by omega
      subst this
      rw [ff_none h]
      simp [ht]
theorem ff_no {p : Nat → Bool} : ∀ {n : Nat}, ff p n = none → ∀ j, j < n → p j = false
  | 0, _, j, hj => absurd hj (Nat.not_lt_zero j)
  | n + 1, h, j, hj => by
    unfold ff at h
    cases hf : ff p n with
    | some u => rw [hf] at h; cases h
    | none =>
      rw [hf] at h
      cases hp : p n with
      | true => simp [hp] at h
      | false =>
        rcases Nat.lt_or_ge j n with h1 | h1
        · exact ff_no hf j h1
        · have : j = n := by omega
          rw [this]; exact hp
theorem ff_is {p : Nat → Bool} {t : Nat} : ∀ {n : Nat}, ff p n = some t → t < n ∧ p t = true ∧ ∀ j, j < t → p j = false
  | 0, h => by cases h
  | n + 1, h => by
    unfold ff at h
    cases hf : ff p n with
    | some u =>
      rw [hf] at h
      have h' : ff p n = some t := by rw [hf]; exact h
      obtain ⟨h1, h2, h3⟩ := ff_is h'
      exact ⟨by omega, h2, h3⟩
    | none =>
      rw [hf] at h
      cases hp : p n with
      | true =>
        simp only [hp, if_true] at h
        cases h
        exact ⟨by omega, hp, ff_no hf⟩
      | false => simp [hp] at h
theorem ff_congr {p q : Nat → Bool} : ∀ {n : Nat}, (∀ j, j < n → p j = q j) → ff p n = ff q n
  | 0, _ => rfl
  | n + 1, h => by
    unfold ff
    rw [ff_congr (fun j hj => h j (by omega)), h n (by omega)]
def fI : Option Nat → Int32
  | some t => nI t
  | none => -nI 1
/-- how many -/
def cn (p : Nat → Bool) : Nat → Nat
  | 0 => 0
  | n + 1 => cn p n + (bif p n then 1 else 0)
theorem cn_le (p : Nat → Bool) : ∀ n, cn p n ≤ n
  | 0 => Nat.le_refl _
  | n + 1 => by
    have := cn_le p n
    unfold cn
    cases p n <;> simp <;> omega
theorem cn_congr {p q : Nat → Bool} : ∀ {n : Nat}, (∀ j, j < n → p j = q j) → cn p n = cn q n
  | 0, _ => rfl
  | n + 1, h => by
    unfold cn
    rw [cn_congr (fun j hj => h j (by omega)), h n (by omega)]
theorem itr_congr {α : Type} {g g' : Nat → α → α} : ∀ {n : Nat} {s : α}, (∀ j x, j < n → g j x = g' j x) → itr g n s = itr g' n s
  | 0, _, _ => rfl
  | n + 1, s, h => by
    unfold itr
    rw [itr_congr (fun j x hj => h j x (by omega)), h n _ (by omega)]
theorem bq_S {α : Type} {A B : α} {μ : mMu} {a n : Nat} (h : (mS μ a).1 = n) : (bif Nat.beq (mS μ a).1 n then A else B) = A := by
  rw [h, beq_rf]; rfl
theorem yu_uu {α : Type} {f : Nat → Nat → α} {a j : Nat} {v w : α} : u2 (u2 f a j v) a j w = u2 f a j w := by
  funext x y; unfold u2; split <;> (try split) <;> rfl
theorem wi_get {w : Int32} {n : Nat} (hn : n < 2147483648) (h : wi w (nI 0) (nI n) = true) : ∃ k, k ≤ n ∧ w = nI k := by
  rw [wi_iff, nI_toInt hn, nI_toInt (by decide)] at h
  obtain ⟨k, h1, h2⟩ := nI_of (x := w) (by rw [fa_lt]; show ¬ (w.toInt < 0); omega)
  refine ⟨k, ?_, h2⟩
  rw [h2, nI_toInt h1] at h
  omega
theorem nI_sub_toInt {n : Nat} (hn : n < 2147483648) : (nI n - nI 1).toInt = (n : Int) - 1 := by
  rw [Int32.toInt_sub, nI_toInt hn, nI_toInt (by decide)]
  simp only [Int.bmod_def]
  split <;> omega
theorem wi_nI1 {k n : Nat} (hk : k < 2147483648) (hn : n < 2147483648) : wi (nI k) (nI 0) (nI n - nI 1) = decide (k < n) := by
  rw [Bool.eq_iff_iff, wi_iff, decide_eq_true_eq, nI_sub_toInt hn, nI_toInt hk, nI_toInt (by decide)]
  omega
theorem wi_get1 {w : Int32} {n : Nat} (hn : n < 2147483648) (h : wi w (nI 0) (nI n - nI 1) = true) : ∃ k, k < n ∧ w = nI k := by
  rw [wi_iff, nI_sub_toInt hn, nI_toInt (by decide)] at h
  obtain ⟨k, h1, h2⟩ := nI_of (x := w) (by rw [fa_lt]; show ¬ (w.toInt < 0); omega)
  refine ⟨k, ?_, h2⟩
  rw [h2, nI_toInt h1] at h
  omega
theorem fI_m1 {p : Nat → Bool} {n : Nat} (hn : n < 2147483648) : (fI (ff p n) = -nI 1) = (ff p n = none) := by
  cases h : ff p n with
  | none => simp [fI]
  | some t =>
    have h1 := (ff_is h).1
    have h2 : nI t ≠ -nI 1 := by
      intro e
      rw [fa_eq, nI_toInt (by omega)] at e
      have : (-nI 1 : Int32).toInt = -1 := by decide
      omega
    simp [fI, h2]
theorem y1_y1 {α : Type} {f : Nat → α} {a : Nat} {v w : α} : u1 (u1 f a v) a w = u1 f a w := by
  funext x; unfold u1; split <;> rfl
