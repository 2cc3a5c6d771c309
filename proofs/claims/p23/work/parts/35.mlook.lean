/-! ===== the reference sorts, looks ===== -/
def insR : Nat → (Nat → Nat → Int32) → (Nat → Nat → Int32)
  | 0, T => T
  | k + 1, T => if T k 0 ≤ T (k + 1) 0 then T else insR k (u1 (u1 T (k + 1) (T k)) k (T (k + 1)))
def sortT (n : Nat) (T : Nat → Nat → Int32) : Nat → Nat → Int32 := itr insR n T
/-! crossings -/
def p_sd (R : Nat → Int32) (x y : Int64) : Int32 := p_sg ((R 1 - R 10).toInt64 * (y - (R 11).toInt64) - (R 2 - R 11).toInt64 * (x - (R 10).toInt64))
def p_on (R : Nat → Int32) (x y : Int64) : Bool := decide (p_sd R x y = nI 0) && (p_bt x (R 10).toInt64 (R 1).toInt64 && p_bt y (R 11).toInt64 (R 2).toInt64)
def p_cr (A B : Nat → Int32) : Bool := p_on A (B 1).toInt64 (B 2).toInt64 || (p_on A (B 10).toInt64 (B 11).toInt64 || (p_on B (A 1).toInt64 (A 2).toInt64 || (p_on B (A 10).toInt64 (A 11).toInt64 || (!decide (nI 0 ≤ p_sd A (B 1).toInt64 (B 2).toInt64 * p_sd A (B 10).toInt64 (B 11).toInt64) && !decide (nI 0 ≤ p_sd B (A 1).toInt64 (A 2).toInt64 * p_sd B (A 10).toInt64 (A 11).toInt64)))))
def cr1 (a b : Nat) (s : CS) : CS := if a < b then (bif firm (s.2 7) a && (firm (s.2 7) b && p_cr (s.2 7 a) (s.2 7 b)) then (noteC s.1, noteS s.1 s.2 (nI 6) (s.2 7 a 0) (s.2 7 b 0)) else s) else s
def crs (n : Nat) (s : CS) : CS := itr (fun a s => itr (cr1 a) n s) n s
theorem itr_bd {g : Nat → CS → CS} {e : Nat} (hg : ∀ j s, (∀ q, q ≠ 8 → (g j s).1 q = s.1 q) ∧ (g j s).1 8 ≤ s.1 8 + e) {s : CS} : ∀ n, (∀ q, q ≠ 8 → (itr g n s).1 q = s.1 q) ∧ (itr g n s).1 8 ≤ s.1 8 + e * n
  | 0 => ⟨fun _ _ => rfl, Nat.le_refl _⟩
  | n + 1 => by
    obtain ⟨h1, h2⟩ := itr_bd hg (s := s) n
    obtain ⟨h3, h4⟩ := hg n (itr g n s)
    rw [itr_s', Nat.mul_succ]
    exact ⟨fun q hq => (h3 q hq).trans (h1 q hq), by omega⟩
theorem cr1_bd {a : Nat} : ∀ j s, (∀ q, q ≠ 8 → (cr1 a j s).1 q = s.1 q) ∧ (cr1 a j s).1 8 ≤ s.1 8 + 1 := by
  intro j s
  unfold cr1
  split
  · cases firm (s.2 7) a && (firm (s.2 7) j && p_cr (s.2 7 a) (s.2 7 j))
    · exact ⟨fun _ _ => rfl, by simp only [cond_false]; omega⟩
    · exact ⟨fun q hq => noteC_j hq, by simp only [cond_true, noteC_8]; omega⟩
  · exact ⟨fun _ _ => rfl, by omega⟩
theorem itr_skip {α : Type} {g : Nat → α → α} : ∀ {n : Nat} {s : α}, (∀ j x, j < n → g j x = x) → itr g n s = s
  | 0, _, _ => rfl
  | n + 1, s, h => by rw [itr_s', itr_skip (fun j x hj => h j x (by omega)), h n _ (by omega)]
theorem CB_8 {c c' : Nat → Nat} (hc : CB c) (h : ∀ q, q ≠ 8 → c' q = c q) (h8 : c' 8 ≤ 1000000) : CB c' := CB_of hc (fun j _ h' => h j h') (by rw [h 5 (by decide)]; exact hc.2.2.2.2.2.1) h8
/-! areas -/
def ar1 (area t : Nat) (s : CS) : CS :=
  let was := p_bit (s.2 7 t 9) (nI area)
  let isf := firm (s.2 7) t
  let isin := isf && p_in (s.2 7 t 1) (s.2 7 t 2) (s.2 3 area)
  let T := u1 (s.2 7) t (up (s.2 7 t) 9 (bif isin then s.2 7 t 9 ||| (nI 1 <<< (nI area &&& nI 31)) else s.2 7 t 9 &&& ((nI 1 <<< (nI area &&& nI 31)) ^^^ -nI 1)))
  bif isin && !was then (noteC s.1, u1 (noteS s.1 s.2 (nI 7) (s.2 7 t 0) (nI area)) 7 T)
  else bif was && (isf && !isin) then (noteC s.1, u1 (noteS s.1 s.2 (nI 8) (s.2 7 t 0) (nI area)) 7 T)
  else (s.1, u1 s.2 7 T)
def ars (m n : Nat) (s : CS) : CS := itr (fun area s => itr (ar1 area) n s) m s
theorem ar1_bd {area : Nat} : ∀ j s, (∀ q, q ≠ 8 → (ar1 area j s).1 q = s.1 q) ∧ (ar1 area j s).1 8 ≤ s.1 8 + 1 := by
  intro j s
  unfold ar1
  simp only
  cases (firm (s.2 7) j && p_in (s.2 7 j 1) (s.2 7 j 2) (s.2 3 area)) && !p_bit (s.2 7 j 9) (nI area)
  · cases p_bit (s.2 7 j 9) (nI area) && (firm (s.2 7) j && !(firm (s.2 7) j && p_in (s.2 7 j 1) (s.2 7 j 2) (s.2 3 area)))
    · exact ⟨fun _ _ => rfl, by simp only [cond_false]; omega⟩
    · exact ⟨fun q hq => noteC_j hq, by simp only [cond_true, cond_false, noteC_8]; omega⟩
  · exact ⟨fun q hq => noteC_j hq, by simp only [cond_true, noteC_8]; omega⟩
def look (s : CS) : CS := ars (s.1 2) (s.1 4) (crs (s.1 4) s)
theorem crs_bd {n : Nat} {s : CS} : (∀ q, q ≠ 8 → (crs n s).1 q = s.1 q) ∧ (crs n s).1 8 ≤ s.1 8 + n * n := by
  have h := itr_bd (g := fun a s => itr (cr1 a) n s) (e := n) (fun a s => by
    have := itr_bd (g := cr1 a) (e := 1) cr1_bd (s := s) n
    rw [Nat.one_mul] at this
    exact this) (s := s) n
  exact h
