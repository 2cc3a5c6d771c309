/-! ===== one step, and all ===== -/
section SIMQ
variable {p : Program} {l : Launch} {e : Env} {R : Room} {s : State} {m : MethodId} {args : Array Value} {below : List Frame} {meth : Method} {c : Code} {H : Heap} {locs : List Loc} {cells slots : Nat} {Q : State → Prop} {k pc : Nat} {mls : mLo} {st : mSt} {μ : mMu} {ρ : Nat → Nat} {b : Nat} {rls : Array Slot} {D : va_G} {cA : Nat → ClassId} {A : Nat → Prop}
theorem nones_get {mls : mLo} {i : Nat} {v : Value} (h : (mls.map fun _ => (none : Option Value)).getD i none = some v) : False := by
  rw [List.getD_eq_getElem?_getD, List.getElem?_map] at h
  cases hm : mls[i]? with
  | none => rw [hm] at h; cases h
  | some z => rw [hm] at h; cases h
/-- a handler takes an exception -/
theorem catch_W {X : Nat × (Nat → Int32)} (F : FrameOK p l R s m args meth c k D cA b A X) (hlen : mls.length = mML k) (hL : Lo ρ b (mML k) mls rls) {E h : Nat} (hs : hsel pc E (hnd k) = some h) {q : Nat} {ce : Cell} (hce : H[q]? = some ce) (hcv : ce.vm = .none) (hcl : s.vm.findClass (exN E) = some ce.cls) {rest : List Value} {i : Instr} {len l1 l2 l3 l4 : Nat} (hpr : prog k h = some (i, len, l1, l2, l3, l4)) (hi : (∃ j, i = .astore j) ∨ (∃ j, i = .astore_n j))
    (kk : ∀ rls' : Array Slot, Lo ρ b (mML k) (mls.map fun _ => none) rls' → W p l e R s m args below meth c H locs cells slots Q (F0 m (h + len) rls' ([].map (eV ρ b)))) : vx_W p l e R s m args below meth c H locs cells slots Q (F0 m pc rls rest) q := by
  obtain ⟨hx, hb, hcm, hlk0, hown, hnm, hex, hts, hRf, hRl, hKK, hbl, hbA, hA, hk, hst⟩ := F
  have h2 : ck k = 2 := by
    apply Classical.byContradiction
    intro hz
    rw [(h_ok k hk).2 hz] at hs
    cases hs
  obtain ⟨hr, how, -⟩ := (h_ok k hk).1 h2
  obtain ⟨pre, x, suf, t1, t2, t3, t4, t5, t6⟩ := hsel_row (hh k) (hnd k) h hr hs
  have hown2 : s.vm.findClass "CoastRadarLaw" = some m.cls := by rw [← how]; exact hown
  have hE3 : E < 3 := by
    apply Classical.byContradiction
    intro hz
    have : ∀ (a b : List (Nat × Nat × Nat × Nat)) (h : Nat), hrel a b = true → hsel pc E b = some h → E < 3 := by
      intro a
      induction a with
      | nil => intro b h hr hs; cases b with
        | nil => cases hs
        | cons _ _ => cases hr
      | cons r a ih =>
        intro b h hr hs
        cases b with
        | nil => cases hs
        | cons r2 b =>
          obtain ⟨a1, a2, a3, a4⟩ := r
          obtain ⟨b1, b2, b3, b4⟩ := r2
          unfold hrel at hr
          simp only [Bool.and_eq_true] at hr
          unfold hsel at hs
          cases hc : Nat.ble b1 pc && Nat.blt pc b2 && Nat.beq b4 E with
          | true =>
            simp only [Bool.and_eq_true] at hc
            rw [← beq_t hc.2]
            exact (xc_use hr.1.2).2.1
          | false =>
            rw [hc] at hs
            exact ih b h hr.2 hs
    exact hz (this (hh k) (hnd k) h hr hs)
  refine vx_catch hown2 pre x suf ((hex h2).trans t1) (fun z hz => ?_) t2 t4 (hts _ t5) (va_Nw.use rfl (hKK.2.2.2.2.2.2.2.1 E hE3).1) hce hcv hcl ?_
  · rcases t6 z hz with h | ⟨h0, F, f1, f2, f3⟩
    · exact Or.inl h
    · exact Or.inr ⟨h0, exN F, hts _ f3, hKK.2.2.2.2.2.2.1 E F hE3 f1 (fun z => f2 z.symm) (fun z => by unfold hnd at hs; rw [z] at hs; cases hs)⟩
  · rw [t3]
    have he := prog_eok hpr
    have hL0 : lv_has rls (mML k) [] := ⟨hL.1, hL.2.1, fun q hq => by cases hq⟩
    rcases hi with ⟨j, rfl⟩ | ⟨j, rfl⟩
    · simp only [eok, Bool.and_eq_true, decide_eq_true_eq] at he
      obtain ⟨hd, ⟨hl, hj⟩, hn⟩ := he
      have hl := Nat.eq_of_beq_eq_true hl
      have hj := Nat.eq_of_beq_eq_true hj
      rw [Nat.blt_eq] at hn
      subst hl
      subst hj
      exact lv_astore hx hb hd hL0 hn rfl (fun rls' hl' => kk rls' ⟨hl'.1, hl'.2.1, fun i v hv _ => (nones_get hv).elim⟩)
    · simp only [eok, Bool.and_eq_true, decide_eq_true_eq] at he
      obtain ⟨hd, ⟨hl, hj⟩, hn⟩ := he
      have hl := Nat.eq_of_beq_eq_true hl
      have hj := Nat.eq_of_beq_eq_true hj
      rw [Nat.blt_eq] at hn
      subst hl
      subst hj
      exact lv_astore_n hx hb hd rfl hL0 hn rfl (fun rls' hl' => kk rls' ⟨hl'.1, hl'.2.1, fun i v hv _ => (nones_get hv).elim⟩)
end SIMQ
theorem va_rf_eV {ρ : Nat → Nat} {b : Nat} : ∀ v : Option Nat, va_rf (v.map ρ) = eV ρ b (match v with | none => .null | some r => .ref r)
  | none => rfl
  | some r => rfl
set_option maxHeartbeats 4000000 in
set_option maxRecDepth 20000 in
theorem sim_step {n : Nat} (hn : SimP n) : SimP (n + 1) := by
  intro p l e R s m args below meth c Q k D cA b A X ρ0 n0 c0 z0 res F hmc hmz hRet hThr
  have ih := hn p l e R s m args below meth c Q k D cA b A X ρ0 n0 c0 z0 res F hmc hmz hRet hThr
  have F9 := F
  obtain ⟨hx, hb, hcm, hlk0, hown, hnm, hex, hts, hRf, hRl, hKK, hbl, hbA, hA, hk, hst⟩ := F9
  have hK := hKK.1
  have hXX := hKK.2.2.2.2.2.2.2.2.2.2
  have hdp := dp_pos k hk
  have hfr : 1 ≤ R.frames := by omega
  have hlo : 34 ≤ R.locals := by omega
  intro pc mls st μ ρ rls H locs cells slots hrun hXm hn0 hρ hcl hP hDD hSS hlen hL hS hO hc hz
  have hres := run_cnt (n + 1) hrun
  have hXX2 : va_X b (mX μ).1 (mX μ).2 s s.heap := by rw [hXm]; exact hXX
  have hrun2 : stp prog hnd (run prog hnd mML n k) (fun k' as μ' => cll mML (fun k ls => run prog hnd mML n k 0 ls [] μ') k' as) k pc mls st μ = some res := hrun
  unfold stp at hrun2
  split at hrun2
  case h_1 => cases hrun2
  case h_2 ent hpr =>
  have he := prog_eok hpr
  rcases hact : act pc ent mls st μ with _ | (⟨pc', ls', st'⟩ | ⟨cn, t, f, st'⟩ | ⟨(o | o | o | o | o), st'⟩ | ⟨o, st'⟩ | ⟨k', as, st', rc, ok⟩ | ⟨ts, d, x, st'⟩ | ⟨yb, v⟩ | E)
  · rw [hact] at hrun2; cases hrun2
  · rw [hact] at hrun2
    exact step_A hx hb hown hts hcm hfr hlo he hact hlen hL hS hO fun rls' a1 a2 a3 a4 => ih pc' ls' st' μ ρ rls' H locs cells slots hrun2 hXm hn0 hρ hcl hP hDD hSS a4 a1 a2 a3 hc hz
  · rw [hact] at hrun2
    simp only [exe] at hrun2
    refine step_B hx hb he hact hS (fun ht a2 => ?_) (fun hf a2 => ?_)
    · rw [if_pos ht] at hrun2
      exact ih t mls st' μ ρ rls H locs cells slots hrun2 hXm hn0 hρ hcl hP hDD hSS hlen hL a2 hO hc hz
    · rw [if_neg (by rw [hf]; exact Bool.false_ne_true)] at hrun2
      exact ih f mls st' μ ρ rls H locs cells slots hrun2 hXm hn0 hρ hcl hP hDD hSS hlen hL a2 hO hc hz
  · cases o with
    | none => rw [hact] at hrun2; cases hrun2
    | some v =>
      rw [hact] at hrun2
      exact step_CI hx hb hown hts hK hP hSS hXX2 hbl hbA he hact hS fun a2 => ih (pc + ent.2.1) mls (.int v :: st') μ ρ rls H locs cells slots hrun2 hXm hn0 hρ hcl hP hDD hSS hlen hL (a2.cons okV_i) hO hc hz
  · cases o with
    | none => rw [hact] at hrun2; cases hrun2
    | some v =>
      rw [hact] at hrun2
      exact step_CL hx hb hown hts hK hP hSS hXX2 hbl hbA he hact hS fun a2 => ih (pc + ent.2.1) mls (.long v :: st') μ ρ rls H locs cells slots hrun2 hXm hn0 hρ hcl hP hDD hSS hlen hL (a2.cons okV_l) hO hc hz
  · cases o with
    | none => rw [hact] at hrun2; cases hrun2
    | some v =>
      rw [hact] at hrun2
      exact step_CD hx hb hown hts hK hP hSS hXX2 hbl hbA he hact hS fun a2 => ih (pc + ent.2.1) mls (.double v :: st') μ ρ rls H locs cells slots hrun2 hXm hn0 hρ hcl hP hDD hSS hlen hL (a2.cons okV_d) hO hc hz
  · cases o with
    | none => rw [hact] at hrun2; cases hrun2
    | some v =>
      rw [hact] at hrun2
      exact step_CR hx hb hown hts hK hP hSS hXX2 hbl hbA he hact hS hcl fun a2 _ hv => ih (pc + ent.2.1) mls (.ref v :: st') μ ρ rls H locs cells slots hrun2 hXm hn0 hρ hcl hP hDD hSS hlen hL (a2.cons (fun a ha => by cases ha; exact hv)) hO hc hz
  · cases o with
    | none => rw [hact] at hrun2; cases hrun2
    | some v =>
      rw [hact] at hrun2
      refine step_CN hx hb hown hts hK hP hSS hXX2 hbl hbA he hact hS hcl fun a2 hv => ?_
      cases v with
      | none => exact ih (pc + ent.2.1) mls (.null :: st') μ ρ rls H locs cells slots hrun2 hXm hn0 hρ hcl hP hDD hSS hlen hL (a2.cons okV_n) hO hc hz
      | some r => exact ih (pc + ent.2.1) mls (.ref r :: st') μ ρ rls H locs cells slots hrun2 hXm hn0 hρ hcl hP hDD hSS hlen hL (a2.cons (fun a ha => by cases ha; exact hv r rfl)) hO hc hz
  · cases o with
    | none => rw [hact] at hrun2; cases hrun2
    | some μ' =>
      have hcnt := act_cnt hact
      rw [hact] at hrun2
      have hrun3 : run prog hnd mML n k (pc + ent.2.1) mls st' μ' = some res := hrun2
      have hcr := run_cnt n hrun3
      have b1 := hcnt.1
      have b2 := hcnt.2.1
      have b3 := hcr.1
      have b4 := hcr.2.1
      refine step_D hx hb hown hts hK hP hDD hSS hA hcl hKK.2.2.2.1 hKK.2.2.2.2.1 hKK.2.2.2.2.2.1 hnm hcm hL.1 hfr hlo he hact hS (by omega) (by omega) fun ρ' H' locs' r1 r2 r3 r4 r5 r6 r7 r8 r9 r10 => ?_
      exact ih (pc + ent.2.1) mls st' μ' ρ' rls H' locs' _ _ hrun3 (r5.trans hXm) (Nat.le_trans hn0 r2) (fun a ha => (r1 a (Nat.lt_of_lt_of_le ha hn0)).trans (hρ a ha)) r6 r7 r8 r9 hlen (hL.congr r1 hO) r10 (hO.mono r2) (by omega) (by omega)
  · rw [hact] at hrun2
    obtain ⟨rfl, hrest, o, ho, hcase⟩ := exe_call prog hnd hrun2
    obtain ⟨hoas, host⟩ := act_as hact hS
    obtain ⟨hbl9, ho9⟩ := cll_ex mML ho
    have hco := run_cnt n ho9
    have b1 := hco.1
    have b2 := hco.2.1
    have hor : Cnt o.2 res.2 := by
      rcases hcase with ⟨x, -, h⟩ | ⟨E, -, h⟩
      · exact run_cnt n h
      · exact thr_cnt (fun p l s v r h => run_cnt n h) h
    have b3 := hor.1
    have b4 := hor.2.1
    have hρb : ∀ a, a < mN μ → ρ a ≠ b := fun a ha hab => hbA (by rw [← hab]; exact hDD.2 a _ (wS_get ha))
    have hcr := call_run (e := e) (below := below) (cells := cells) (slots := slots) (Qc := QG D cA b ρ (mN μ) (va_A (wS ρ cA μ) H.size) o) (XC := XG D cA ρ (mN μ) (va_A (wS ρ cA μ) H.size) o) (free := va_A (wS ρ cA μ) H.size) (mc := mC o.2 - mC μ) (ms := mZ o.2 - mZ μ) F hXm hP hDD hSS hL.1 he hact hS hrest (by omega) (by omega)
      (fun c1 c2 c3 c4 _ => con hn c2 c1 c3 c4 hst ho hoas hcl (Nat.lt_of_lt_of_le hbl hSS.1) hρb)
    obtain ⟨hr9, hl3, -, -, -⟩ := hcr
    have hsub : ∀ q, va_A (wS ρ cA μ) H.size q → A q := by
      rintro q (⟨i, e1, h⟩ | h)
      · exact hDD.2 i _ h
      · exact hA q (Nat.le_trans hSS.1 h)
    have hnn := hco.2.2.1
    refine callG hr9 hSS (fun q _ h => hsub q h) hsub ?_ ?_
    · intro E ρ' H1 locs1 q ce g0 g1 g2 g3 g4 g5 g6 g7 g8
      rcases hcase with ⟨x, h, -⟩ | ⟨E2, h, ht⟩
      · rw [g0] at h; cases h
      · rw [g0] at h
        cases h
        have hst9 := map_congr_eV (b := b) g1 host
        have hL9 : Lo ρ' b (mML k) mls rls := hL.congr g1 hO
        have hD9 : va_D A (wS ρ' cA o.2) := g4.weaken (fun _ q _ h => hsub q.1 h)
        unfold thr at ht
        split at ht
        case h_1 hs =>
          rw [Bool.cond_eq_ite] at ht
          split at ht
          case isFalse => cases ht
          case isTrue hem =>
            cases ht
            exact hThr E ρ' H1 locs1 (cells + (mC o.2 - mC μ)) (slots + (mZ o.2 - mZ μ)) pc rls _ q ce rfl (by show _ = mC o.2; omega) (by show _ = mZ o.2; omega) hem (fun a ha => (g1 a (Nat.lt_of_lt_of_le ha hn0)).trans (hρ a ha)) g2 g3 hD9 g5 g6 g7 g8
        case h_2 h hs =>
          have key : ∀ (i : Instr) (len l1 l2 l3 l4 : Nat), prog k h = some (i, len, l1, l2, l3, l4) → ((∃ j, i = .astore j) ∨ (∃ j, i = .astore_n j)) → run prog hnd mML n k (h + len) (mls.map fun _ => none) [] o.2 = some res → vx_W p l e R s m args below meth c H1 locs1 (cells + (mC o.2 - mC μ)) (slots + (mZ o.2 - mZ μ)) Q (F0 m pc rls (st'.map (eV ρ b))) q := by
            intro i len l1 l2 l3 l4 hp hi hr
            exact catch_W F hlen hL9 hs g6 g7 g8 hp hi fun rls' hl' => ih (h + len) (mls.map fun _ => none) [] o.2 ρ' rls' H1 locs1 _ _ hr (hco.2.2.2.trans hXm) (Nat.le_trans hn0 hnn) (fun a ha => (g1 a (Nat.lt_of_lt_of_le ha hn0)).trans (hρ a ha)) g2 g3 hD9 g5 (by rw [List.length_map]; exact hlen) hl' (fun v hv => by cases hv) (fun i v hv => (nones_get hv).elim) (by omega) (by omega)
          split at ht
          · next j len l1 q2 hp =>
            obtain ⟨l2, l3, l4⟩ := q2
            exact key _ _ _ _ _ _ hp (Or.inl ⟨_, rfl⟩) ht
          · next j len l1 q2 hp =>
            obtain ⟨l2, l3, l4⟩ := q2
            exact key _ _ _ _ _ _ hp (Or.inr ⟨_, rfl⟩) ht
          · cases ht
    · intro x ρ' H1 locs1 g0 g1 gx g2 g3 g4 g5
      rcases hcase with ⟨x2, h, hr⟩ | ⟨E2, h, -⟩
      · rw [g0] at h
        cases h
        have hst9 := map_congr_eV (b := b) g1 host
        have hL9 : Lo ρ' b (mML k) mls rls := hL.congr g1 hO
        have hD9 : va_D A (wS ρ' cA o.2) := g4.weaken (fun _ q _ h => hsub q.1 h)
        rw [hl3] at hr
        have hfin := ih (pc + 3) mls (x.toList ++ st') o.2 ρ' rls H1 locs1 (cells + (mC o.2 - mC μ)) (slots + (mZ o.2 - mZ μ)) hr (hco.2.2.2.trans hXm) (Nat.le_trans hn0 hnn) (fun a ha => (g1 a (Nat.lt_of_lt_of_le ha hn0)).trans (hρ a ha)) g2 g3 hD9 g5 hlen hL9 (fun v hv => by
          rcases List.mem_append.mp hv with h | h
          · cases x with
            | none => cases h
            | some y =>
              rcases List.mem_cons.mp h with rfl | h
              · exact gx v rfl
              · cases h
          · exact (host.mono hnn) v h) (hO.mono hnn) (by omega) (by omega)
        rw [List.map_append, hst9] at hfin
        cases x <;> exact hfin
      · rw [g0] at h; cases h
  · rw [hact] at hrun2
    simp only [exe] at hrun2
    exact step_S hx hb he hact hS hrun2 fun t ht a2 => ih t mls st' μ ρ rls H locs cells slots ht hXm hn0 hρ hcl hP hDD hSS hlen hL a2 hO hc hz
  · rw [hact] at hrun2
    simp only [exe] at hrun2
    split at hrun2
    case isFalse => cases hrun2
    case isTrue hy =>
      cases hrun2
      subst hy
      exact hRet v ρ H locs cells slots pc rls ent mls st rfl hc hz hpr hact hρ hcl hP hDD hSS hS
  · rw [hact] at hrun2
    cases hrun2
    exact step_T F he hact hL.1 hmc hmz hThr hρ hcl hP hDD hSS hc hz
theorem sim_all : ∀ n, SimP n
  | 0 => by
    intro p l e R s m args below meth c Q k D cA b A X ρ0 n0 c0 z0 res F hmc hmz hRet hThr pc mls st μ ρ rls H locs cells slots hrun
    cases hrun
  | n + 1 => sim_step (sim_all n)
