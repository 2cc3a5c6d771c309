/-! ===== what is made only grows; a frame's first locals ===== -/
def Cnt (u u' : mMu) : Prop := mC u ≤ mC u' ∧ mZ u ≤ mZ u' ∧ mN u ≤ mN u' ∧ mX u' = mX u
theorem Cnt.rf {u : mMu} : Cnt u u := ⟨Nat.le_refl _, Nat.le_refl _, Nat.le_refl _, rfl⟩
theorem Cnt.tr {u v t : mMu} (h1 : Cnt u v) (h2 : Cnt v t) : Cnt u t := ⟨Nat.le_trans h1.1 h2.1, Nat.le_trans h1.2.1 h2.2.1, Nat.le_trans h1.2.2.1 h2.2.2.1, h2.2.2.2.trans h1.2.2.2⟩
theorem bif_some {α : Type} {c : Bool} {x y : α} (h : (bif c then some x else none) = some y) : x = y := by
  cases c
  · cases h
  · exact Option.some.inj h
theorem mNew_cnt {u : mMu} {sh : Nat × Nat} {z : Nat} : Cnt u (mNew u sh z) := ⟨Nat.le_succ _, Nat.le_add_right _ _, Nat.le_succ _, rfl⟩
theorem mBurn_cnt {u : mMu} {z : Nat} : Cnt u (mBurn u z) := ⟨Nat.le_succ _, Nat.le_add_right _ _, Nat.le_refl _, rfl⟩
theorem pfI_cnt {u u' : mMu} {ci a j : Nat} {x : Int32} (h : pfI u ci a j x = some u') : Cnt u u' := by
  unfold pfI at h
  have h1 := bif_some h
  subst h1
  exact ⟨Nat.le_refl _, Nat.le_refl _, Nat.le_refl _, rfl⟩
theorem pfZ_cnt {u u' : mMu} {ci a j : Nat} {x : Int32} (h : pfZ u ci a j x = some u') : Cnt u u' := by
  unfold pfZ at h
  have h1 := bif_some h
  subst h1
  exact ⟨Nat.le_refl _, Nat.le_refl _, Nat.le_refl _, rfl⟩
theorem pfL_cnt {u u' : mMu} {ci a j : Nat} {x : Int64} (h : pfL u ci a j x = some u') : Cnt u u' := by
  unfold pfL at h
  have h1 := bif_some h
  subst h1
  exact ⟨Nat.le_refl _, Nat.le_refl _, Nat.le_refl _, rfl⟩
theorem pfR_cnt {u u' : mMu} {ci a j x : Nat} (h : pfR u ci a j x = some u') : Cnt u u' := by
  unfold pfR at h
  have h1 := bif_some h
  subst h1
  exact ⟨Nat.le_refl _, Nat.le_refl _, Nat.le_refl _, rfl⟩
theorem stoI_cnt {u u' : mMu} {a : Nat} {i x : Int32} (h : stoI u a i x = some u') : Cnt u u' := by
  unfold stoI at h
  have h1 := bif_some h
  subst h1
  exact ⟨Nat.le_refl _, Nat.le_refl _, Nat.le_refl _, rfl⟩
theorem stoL_cnt {u u' : mMu} {a : Nat} {i : Int32} {x : Int64} (h : stoL u a i x = some u') : Cnt u u' := by
  unfold stoL at h
  have h1 := bif_some h
  subst h1
  exact ⟨Nat.le_refl _, Nat.le_refl _, Nat.le_refl _, rfl⟩
theorem stoR_cnt {u u' : mMu} {a : Nat} {i : Int32} {x : Nat} (h : stoR u a i x = some u') : Cnt u u' := by
  unfold stoR at h
  have h1 := bif_some h
  subst h1
  exact ⟨Nat.le_refl _, Nat.le_refl _, Nat.le_refl _, rfl⟩
theorem cpA_cnt {u u' : mMu} {a b : Nat} {sp dp n : Int32} (h : cpA u a sp b dp n = some u') : Cnt u u' := by
  unfold cpA at h
  have h1 := bif_some h
  subst h1
  exact ⟨Nat.le_refl _, Nat.le_refl _, Nat.le_refl _, rfl⟩
theorem nwA_cnt {u u' : mMu} {t : Nat} {n : Int32} (h : nwA u t n = some u') : Cnt u u' := by
  unfold nwA at h
  have h1 := bif_some h
  subst h1
  exact mNew_cnt
set_option maxHeartbeats 4000000 in
set_option maxRecDepth 20000 in
theorem act_cnt {pc : Nat} {ent : mEnt} {mls : mLo} {st st' : mSt} {u u' : mMu} (h : act pc ent mls st u = some (.inr (.inr (.inr (.inl (some u', st')))))) : Cnt u u' := by
  obtain ⟨i, len, l1, l2, l3, l4⟩ := ent
  cases i
  case iastore =>
    simp only [act] at h
    split at h
    · simp only [aD, Option.some.injEq, Sum.inr.injEq, Sum.inl.injEq, Prod.mk.injEq] at h
      obtain ⟨hv, -⟩ := h
      exact stoI_cnt hv
    · cases h
  case lastore =>
    simp only [act] at h
    split at h
    · simp only [aD, Option.some.injEq, Sum.inr.injEq, Sum.inl.injEq, Prod.mk.injEq] at h
      obtain ⟨hv, -⟩ := h
      exact stoL_cnt hv
    · cases h
  case aastore =>
    simp only [act] at h
    split at h
    · simp only [aD, Option.some.injEq, Sum.inr.injEq, Sum.inl.injEq, Prod.mk.injEq] at h
      obtain ⟨hv, -⟩ := h
      exact stoR_cnt hv
    · cases h
  case newarray _ =>
    simp only [act] at h
    split at h
    · simp only [aD, Option.some.injEq, Sum.inr.injEq, Sum.inl.injEq, Prod.mk.injEq] at h
      obtain ⟨hv, -⟩ := h
      exact nwA_cnt hv
    · cases h
  case anewarray _ =>
    simp only [act] at h
    split at h
    · simp only [aD, Option.some.injEq, Sum.inr.injEq, Sum.inl.injEq, Prod.mk.injEq] at h
      obtain ⟨hv, -⟩ := h
      exact nwA_cnt hv
    · cases h
  case putfield _ =>
    simp only [act] at h
    split at h
    · split at h
      · simp only [aD, Option.some.injEq, Sum.inr.injEq, Sum.inl.injEq, Prod.mk.injEq] at h
        obtain ⟨hv, -⟩ := h
        exact pfI_cnt hv
      · simp only [aD, Option.some.injEq, Sum.inr.injEq, Sum.inl.injEq, Prod.mk.injEq] at h
        obtain ⟨hv, -⟩ := h
        exact pfZ_cnt hv
      · cases h
    · split at h
      · simp only [aD, Option.some.injEq, Sum.inr.injEq, Sum.inl.injEq, Prod.mk.injEq] at h
        obtain ⟨hv, -⟩ := h
        exact pfL_cnt hv
      · cases h
    · split at h
      · simp only [aD, Option.some.injEq, Sum.inr.injEq, Sum.inl.injEq, Prod.mk.injEq] at h
        obtain ⟨hv, -⟩ := h
        exact pfR_cnt hv
      · simp only [aD, Option.some.injEq, Sum.inr.injEq, Sum.inl.injEq, Prod.mk.injEq] at h
        obtain ⟨hv, -⟩ := h
        exact pfR_cnt hv
      · cases h
    · cases h
  case new _ =>
    simp only [act] at h
    split at h
    · simp only [aD, Option.some.injEq, Sum.inr.injEq, Sum.inl.injEq, Prod.mk.injEq] at h
      obtain ⟨hv, -⟩ := h
      subst hv
      exact mNew_cnt
    · rw [Bool.cond_eq_ite] at h
      split at h
      · simp [aT] at h
      · cases h
  case invokestatic _ =>
    simp only [act] at h
    split at h
    · split at h
      · rw [Bool.cond_eq_ite] at h
        split at h
        · simp only [aD, Option.some.injEq, Sum.inr.injEq, Sum.inl.injEq, Prod.mk.injEq] at h
          obtain ⟨hv, -⟩ := h
          exact cpA_cnt hv
        · cases h
      · cases h
    · rw [Bool.cond_eq_ite] at h
      split at h
      · simp [aE] at h
      · cases h
  all_goals (exfalso; revert h; simp only [act, Bool.cond_eq_ite, aA, aB, aC, aE, aS, aY, aT]; (repeat' split) <;> (try (intro h; cases h; done)))
  all_goals (intro h; revert h; first | (simp; done) | (cases Nat.beq l1 0 <;> simp; done) | (generalize Nat.ble _ _ = zz; cases zz <;> simp))
theorem thr_cnt {R : Nat → mLo → mSt → mMu → mOut} {k pc E : Nat} {ls : mLo} {u : mMu} {r : (Option Value ⊕ Nat) × mMu} (hR : ∀ p l s v r, R p l s v = some r → Cnt v r.2) (h : thr prog hnd R k pc ls E u = some r) : Cnt u r.2 := by
  unfold thr at h
  split at h
  · have h1 := bif_some h
    subst h1
    exact Cnt.rf
  · split at h
    · exact hR _ _ _ _ _ h
    · exact hR _ _ _ _ _ h
    · cases h
theorem exe_cnt {R : Nat → mLo → mSt → mMu → mOut} {F : Nat → List Value → mMu → mOut} {k pc len : Nat} {ls : mLo} {u : mMu} {a : Option mAct} {r : (Option Value ⊕ Nat) × mMu} (hR : ∀ p l s v r, R p l s v = some r → Cnt v r.2) (hF : ∀ k as v r, F k as v = some r → Cnt v r.2) (hD : ∀ u' st', a = some (.inr (.inr (.inr (.inl (some u', st'))))) → Cnt u u') (h : exe prog hnd R F k pc len ls u a = some r) : Cnt u r.2 := by
  rcases a with _ | (⟨pc', ls', st'⟩ | ⟨c, t, f, st'⟩ | ⟨(o | o | o | o | o), st'⟩ | ⟨o, st'⟩ | ⟨k', as, st', rc, ok⟩ | ⟨ts, d, x, st'⟩ | ⟨b, v⟩ | E)
  · cases h
  · exact hR _ _ _ _ _ h
  · cases c
    · exact hR _ _ _ _ _ h
    · exact hR _ _ _ _ _ h
  · cases o with
    | none => cases h
    | some x => exact hR _ _ _ _ _ h
  · cases o with
    | none => cases h
    | some x => exact hR _ _ _ _ _ h
  · cases o with
    | none => cases h
    | some x => exact hR _ _ _ _ _ h
  · cases o with
    | none => cases h
    | some x => exact hR _ _ _ _ _ h
  · rcases o with _ | (_ | x)
    · cases h
    · exact hR _ _ _ _ _ h
    · exact hR _ _ _ _ _ h
  · cases o with
    | none => cases h
    | some x => exact (hD x st' rfl).tr (hR _ _ _ _ _ h)
  · cases ok with
    | false => simp [exe] at h
    | true =>
    cases hl : Nat.ble st'.length 4 with
    | false => simp [exe, hl] at h
    | true =>
      cases hF2 : F k' as u with
      | none => rcases rc with _ | _ | _ | _ | _ | rc <;> simp [exe, hl, hF2, oV, oI, oL, oD, oR] at h
      | some q =>
        obtain ⟨v, u2⟩ := q
        refine (hF _ _ _ _ hF2).tr ?_
        rcases v with (v | E)
        · rcases rc with _ | _ | _ | _ | _ | rc <;> rcases v with _ | v <;> (try cases v) <;> first
            | (simp [exe, hl, hF2, oV, oI, oL, oD, oR] at h; done)
            | (simp only [exe, hl, hF2, oV, oI, oL, oD, oR, cond_true] at h; exact hR _ _ _ _ _ h)
        · rcases rc with _ | _ | _ | _ | _ | rc <;> simp only [exe, hl, hF2, oV, oI, oL, oD, oR, cond_true] at h
          case succ.succ.succ.succ.succ => cases h
          all_goals exact thr_cnt hR h
  · obtain ⟨t, h1, -⟩ := pck_two ts h
    exact hR _ _ _ _ _ h1
  · cases b
    · cases h
    · cases h; exact Cnt.rf
  · cases h; exact mBurn_cnt
theorem run_cnt : ∀ (n : Nat) {k pc : Nat} {ls : mLo} {st : mSt} {u : mMu} {r : (Option Value ⊕ Nat) × mMu}, run prog hnd mML n k pc ls st u = some r → Cnt u r.2
  | 0, _, _, _, _, _, _, h => by cases h
  | n + 1, k, pc, ls, st, u, r, h => by
    unfold run stp at h
    cases hp : prog k pc with
    | none => rw [hp] at h; cases h
    | some e =>
      rw [hp] at h
      simp only at h
      exact exe_cnt (fun _ _ _ _ _ h => run_cnt n h) (fun k' as v r h => run_cnt n (cll_ex mML h).2) (fun u' st' h => act_cnt h) h
/-! the first locals -/
theorem xpd_args {ρ : Nat → Nat} {b : Nat} : ∀ (as : List Value) (j o : Nat) (w : Value), (xpd as)[j]? = some (some w) → (o + j, eV ρ b w) ∈ lv_args o (as.map (eV ρ b))
  | [], j, o, w, h => by simp [xpd] at h
  | v :: as, j, o, w, h => by
    unfold xpd at h
    simp only [List.map_cons, lv_args]
    cases hw : isW (some v) with
    | true =>
      rw [hw] at h
      simp only [cond_true] at h
      rw [if_pos (cat_eV.mpr hw)]
      match j, h with
      | 0, h => simp at h; subst h; exact List.mem_cons_self
      | 1, h => simp at h
      | j + 2, h =>
        have h1 := xpd_args (ρ := ρ) (b := b) as j (o + 2) w (by simpa using h)
        rw [show o + (j + 2) = o + 2 + j by omega]
        exact List.mem_cons_of_mem _ h1
    | false =>
      rw [hw] at h
      simp only [cond_false] at h
      rw [if_neg (fun z => by rw [cat_eV.mp z] at hw; cases hw)]
      match j, h with
      | 0, h => simp at h; subst h; exact List.mem_cons_self
      | j + 1, h =>
        have h1 := xpd_args (ρ := ρ) (b := b) as j (o + 1) w (by simpa using h)
        rw [show o + (j + 1) = o + 1 + j by omega]
        exact List.mem_cons_of_mem _ h1
theorem lg_len {ρ : Nat → Nat} {b : Nat} : ∀ (as : List Value), (lg_sl (as.map (eV ρ b))).length = (xpd as).length
  | [] => rfl
  | v :: as => by
    have h1 := lg_len (ρ := ρ) (b := b) as
    unfold lg_sl at h1
    unfold lg_sl xpd
    simp only [List.map_cons, List.flatMap_cons, List.length_append]
    rw [h1]
    cases hw : isW (some v) with
    | true => rw [if_pos (cat_eV.mpr hw)]; simp; omega
    | false => rw [if_neg (fun z => by rw [cat_eV.mp z] at hw; cases hw)]; simp; omega
theorem init_len {n : Nat} {as : List Value} (h : Nat.ble (xpd as).length n = true) : (initL n as).length = n := by
  have := Nat.le_of_ble_eq_true h
  unfold initL
  simp
  omega
theorem init_get {n j : Nat} {as : List Value} {w : Value} (h : (initL n as).getD j none = some w) : (xpd as)[j]? = some (some w) := by
  unfold initL at h
  rw [List.getD_eq_getElem?_getD, List.getElem?_append] at h
  by_cases hj : j < (xpd as).length
  · rw [if_pos hj] at h
    rw [List.getElem?_eq_getElem hj] at h ⊢
    simpa using h
  · rw [if_neg hj, List.getElem?_replicate] at h
    split at h <;> simp at h
theorem Lo_init {ρ : Nat → Nat} {b n : Nat} {as : List Value} (h : Nat.ble (xpd as).length n = true) : Lo ρ b n (initL n as) ((lg_sl (as.map (eV ρ b)) ++ List.replicate (n - (lg_sl (as.map (eV ρ b))).length) Slot.unset).toArray) := by
  have h0 := Nat.le_of_ble_eq_true h
  have h1 := lv_entry (as.map (eV ρ b)) (n := n) (by rw [lg_len]; exact h0)
  refine ⟨h1.1, h1.2.1, fun i v hv _ => ?_⟩
  have h2 := xpd_args (ρ := ρ) (b := b) as i 0 v (init_get hv)
  rw [Nat.zero_add] at h2
  exact h1.2.2 _ h2
theorem xpd_mem : ∀ (as : List Value) (j : Nat) (w : Value), (xpd as)[j]? = some (some w) → w ∈ as
  | [], j, w, h => by simp [xpd] at h
  | v :: as, j, w, h => by
    unfold xpd at h
    cases hw : isW (some v) with
    | true =>
      rw [hw] at h
      simp only [cond_true] at h
      match j, h with
      | 0, h => simp at h; subst h; exact List.mem_cons_self
      | 1, h => simp at h
      | j + 2, h => exact List.mem_cons_of_mem _ (xpd_mem as j w (by simpa using h))
    | false =>
      rw [hw] at h
      simp only [cond_false] at h
      match j, h with
      | 0, h => simp at h; subst h; exact List.mem_cons_self
      | j + 1, h => exact List.mem_cons_of_mem _ (xpd_mem as j w (by simpa using h))
theorem okL_init {N n : Nat} {as : List Value} (h : okS N as) : okL N (initL n as) := fun i v hv => h v (xpd_mem as i v (init_get hv))
