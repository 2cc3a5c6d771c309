/-! ===== land hides a place: the class' test and the reference's say the same ===== -/
theorem fr_1 {x1 x2 y1 y2 z1 z2 : Int} (hx : 0 < x2) (hy : 0 < y2) (hz : 0 < z2) (h1 : x1 * y2 ≤ y1 * x2) (h2 : y1 * z2 < z1 * y2) : x1 * z2 < z1 * x2 := by
  have e1 : x1 * y2 * z2 ≤ y1 * x2 * z2 := Int.mul_le_mul_of_nonneg_right h1 (by omega)
  have e2 : y1 * z2 * x2 < z1 * y2 * x2 := Int.mul_lt_mul_of_pos_right h2 hx
  have e3 : x1 * z2 * y2 < z1 * x2 * y2 := by
    simp only [Int.mul_assoc, Int.mul_comm, Int.mul_left_comm] at e1 e2 ⊢
    omega
  exact Int.lt_of_mul_lt_mul_right e3 (by omega)
theorem fr_2 {x1 x2 y1 y2 z1 z2 : Int} (hx : 0 < x2) (hy : 0 < y2) (hz : 0 < z2) (h1 : x1 * y2 < y1 * x2) (h2 : y1 * z2 ≤ z1 * y2) : x1 * z2 < z1 * x2 := by
  have e1 : x1 * y2 * z2 < y1 * x2 * z2 := Int.mul_lt_mul_of_pos_right h1 hz
  have e2 : y1 * z2 * x2 ≤ z1 * y2 * x2 := Int.mul_le_mul_of_nonneg_right h2 (by omega)
  have e3 : x1 * z2 * y2 < z1 * x2 * y2 := by
    simp only [Int.mul_assoc, Int.mul_comm, Int.mul_left_comm] at e1 e2 ⊢
    omega
  exact Int.lt_of_mul_lt_mul_right e3 (by omega)
def fmx (p q : Int × Int) : Int × Int := if p.1 * q.2 < q.1 * p.2 then q else p
def fmn (p q : Int × Int) : Int × Int := if q.1 * p.2 < p.1 * q.2 then q else p
def flt (p q : Int × Int) : Prop := p.1 * q.2 < q.1 * p.2
theorem fmx_p {p q : Int × Int} (hp : 0 < p.2) (hq : 0 < q.2) : 0 < (fmx p q).2 := by
  unfold fmx
  split
  · exact hq
  · exact hp
theorem fmn_p {p q : Int × Int} (hp : 0 < p.2) (hq : 0 < q.2) : 0 < (fmn p q).2 := by
  unfold fmn
  split
  · exact hq
  · exact hp
theorem flt_mx {p q s : Int × Int} (hp : 0 < p.2) (hq : 0 < q.2) (hs : 0 < s.2) : flt (fmx p q) s ↔ flt p s ∧ flt q s := by
  unfold fmx flt
  by_cases c : p.1 * q.2 < q.1 * p.2
  · rw [if_pos c]
    exact ⟨fun h => ⟨fr_1 hp hq hs (Int.le_of_lt c) h, h⟩, fun h => h.2⟩
  · rw [if_neg c]
    exact ⟨fun h => ⟨h, fr_1 hq hp hs (by omega) h⟩, fun h => h.1⟩
theorem flt_mn {p q s : Int × Int} (hp : 0 < p.2) (hq : 0 < q.2) (hs : 0 < s.2) : flt s (fmn p q) ↔ flt s p ∧ flt s q := by
  unfold fmn flt
  by_cases c : q.1 * p.2 < p.1 * q.2
  · rw [if_pos c]
    exact ⟨fun h => ⟨fr_2 hs hq hp h (Int.le_of_lt c), h⟩, fun h => h.2⟩
  · rw [if_neg c]
    exact ⟨fun h => ⟨h, fr_2 hs hp hq h (by omega)⟩, fun h => h.1⟩
/-- one way alone narrows -/
theorem hid1 {a b e : Int} (hab : a < b) (he : 0 < e) : (flt (fmx (-1, 1) (a, e)) (fmn (2, 1) (b, e)) ∧ flt (fmx (-1, 1) (a, e)) (1, 1) ∧ flt (0, 1) (fmn (2, 1) (b, e))) ↔ (a < e ∧ 0 < b) := by
  have p1 : (0 : Int) < ((-1, 1) : Int × Int).2 := by decide
  have p2 : (0 : Int) < ((2, 1) : Int × Int).2 := by decide
  have p3 : (0 : Int) < ((1, 1) : Int × Int).2 := by decide
  have p4 : (0 : Int) < ((0, 1) : Int × Int).2 := by decide
  have pa : 0 < ((a, e) : Int × Int).2 := he
  have pb : 0 < ((b, e) : Int × Int).2 := he
  rw [flt_mx p1 pa (fmn_p p2 pb), flt_mx p1 pa p3, flt_mn p2 pb p4, flt_mn p2 pb p1, flt_mn p2 pb pa]
  unfold flt
  have m : a * e < b * e := Int.mul_lt_mul_of_pos_right hab he
  simp only [Int.mul_one, Int.one_mul, Int.neg_mul, Int.zero_mul]
  constructor
  · rintro ⟨⟨⟨h1, h2⟩, h3, h4⟩, ⟨h5, h6⟩, h7, h8⟩
    exact ⟨h6, h8⟩
  · rintro ⟨h1, h2⟩
    exact ⟨⟨⟨by omega, by omega⟩, by omega, m⟩, ⟨by omega, h1⟩, by omega, h2⟩
theorem hid2 {ax bx ex ay by' ey : Int} (hx : ax < bx) (hy : ay < by') (he : 0 < ex) (he2 : 0 < ey) : (flt (fmx (fmx (-1, 1) (ax, ex)) (ay, ey)) (fmn (fmn (2, 1) (bx, ex)) (by', ey)) ∧ flt (fmx (fmx (-1, 1) (ax, ex)) (ay, ey)) (1, 1) ∧ flt (0, 1) (fmn (fmn (2, 1) (bx, ex)) (by', ey))) ↔ (ax < ex ∧ ay < ey ∧ 0 < bx ∧ 0 < by' ∧ ay * ex < bx * ey ∧ ax * ey < by' * ex) := by
  have p1 : (0 : Int) < ((-1, 1) : Int × Int).2 := by decide
  have p2 : (0 : Int) < ((2, 1) : Int × Int).2 := by decide
  have p3 : (0 : Int) < ((1, 1) : Int × Int).2 := by decide
  have p4 : (0 : Int) < ((0, 1) : Int × Int).2 := by decide
  have pa : 0 < ((ax, ex) : Int × Int).2 := he
  have pb : 0 < ((bx, ex) : Int × Int).2 := he
  have pc : 0 < ((ay, ey) : Int × Int).2 := he2
  have pd : 0 < ((by', ey) : Int × Int).2 := he2
  have q1 := fmx_p p1 pa
  have q2 := fmn_p p2 pb
  rw [flt_mx q1 pc (fmn_p q2 pd), flt_mx q1 pc p3, flt_mn q2 pd p4, flt_mx p1 pa (fmn_p q2 pd), flt_mx p1 pa p3, flt_mn p2 pb p4, flt_mn q2 pd p1, flt_mn q2 pd pa, flt_mn q2 pd pc, flt_mn p2 pb p1, flt_mn p2 pb pa, flt_mn p2 pb pc]
  unfold flt
  have m1 : ax * ex < bx * ex := Int.mul_lt_mul_of_pos_right hx he
  have m2 : ay * ey < by' * ey := Int.mul_lt_mul_of_pos_right hy he2
  simp only [Int.mul_one, Int.one_mul, Int.neg_mul, Int.zero_mul]
  constructor
  · rintro ⟨⟨⟨⟨⟨h1, h2⟩, h3⟩, ⟨h4, h5⟩, h6⟩, ⟨h7, h8⟩, h9⟩, ⟨⟨h10, h11⟩, h12⟩, ⟨h13, h14⟩, h15⟩
    exact ⟨h11, h12, h14, h15, h8, h6⟩
  · rintro ⟨h1, h2, h3, h4, h5, h6⟩
    exact ⟨⟨⟨⟨⟨by omega, by omega⟩, by omega⟩, ⟨by omega, m1⟩, h6⟩, ⟨by omega, h5⟩, m2⟩, ⟨⟨by omega, h1⟩, h2⟩, ⟨by omega, h3⟩, h4⟩
def QI (q : Qd) (lw hg : Int × Int) : Prop := (q.1.toInt = lw.1 ∧ q.2.1.toInt = lw.2 ∧ q.2.2.1.toInt = hg.1 ∧ q.2.2.2.toInt = hg.2) ∧ (-40000 ≤ lw.1 ∧ lw.1 ≤ 40000 ∧ 0 < lw.2 ∧ lw.2 ≤ 40000) ∧ (-40000 ≤ hg.1 ∧ hg.1 ≤ 40000 ∧ 0 < hg.2 ∧ hg.2 ≤ 40000)
theorem mul_l {x y : Int64} {X Y : Int} (hx : x.toInt = X) (hy : y.toInt = Y) (h1 : -40000 ≤ X) (h2 : X ≤ 40000) (h3 : -40000 ≤ Y) (h4 : Y ≤ 40000) : (x * y).toInt = X * Y := by
  have m := mul_b2 h1 h2 h3 h4
  rw [l_mul (by rw [hx, hy]; omega) (by rw [hx, hy]; omega), hx, hy]
theorem nar_q {q : Qd} {lw hg : Int × Int} {fr by' lo hi : Int64} {a b d : Int} (hq : QI q lw hg) (hd : (p_ab by').toInt = d) (ha : (if lN 0 < by' then lo - fr else fr - hi).toInt = a) (hb : (if lN 0 < by' then hi - fr else fr - lo).toInt = b) (ba : -40000 ≤ a ∧ a ≤ 40000) (bb : -40000 ≤ b ∧ b ≤ 40000) (bd : 0 < d ∧ d ≤ 40000) : QI (nar q fr by' lo hi) (fmx lw (a, d)) (fmn hg (b, d)) := by
  obtain ⟨u, v, g, h⟩ := q
  obtain ⟨⟨q1, q2, q3, q4⟩, ⟨l1, l2, l3, l4⟩, ⟨g1, g2, g3, g4⟩⟩ := hq
  simp only at q1 q2 q3 q4
  unfold nar
  simp only
  generalize p_ab by' = dd at hd ⊢
  generalize (if lN 0 < by' then lo - fr else fr - hi) = aa at ha ⊢
  generalize (if lN 0 < by' then hi - fr else fr - lo) = bb' at hb ⊢
  have m1 := mul_l q1 hd l1 l2 (by omega) bd.2
  have m2 := mul_l ha q2 ba.1 ba.2 (by omega) l4
  have m3 := mul_l hb q4 bb.1 bb.2 (by omega) g4
  have m4 := mul_l q3 hd g1 g2 (by omega) bd.2
  have e1 : (u * dd < aa * v) = (lw.1 * d < a * lw.2) := propext (by rw [fa_lt64, m1, m2])
  have e2 : (bb' * h < g * dd) = (b * hg.2 < hg.1 * d) := propext (by rw [fa_lt64, m3, m4])
  unfold fmx fmn QI
  simp only
  by_cases c1 : lw.1 * d < a * lw.2 <;> by_cases c2 : b * hg.2 < hg.1 * d <;> simp only [e1, e2, c1, c2, if_true, if_false] <;> exact ⟨⟨by omega, by omega, by omega, by omega⟩, ⟨by omega, by omega, by omega, by omega⟩, ⟨by omega, by omega, by omega, by omega⟩⟩
theorem nar_p {q : Qd} {lw hg : Int × Int} {fr by' lo hi : Int64} {F B L H : Int} (hq : QI q lw hg) (hf : fr.toInt = F) (hb : by'.toInt = B) (hl : lo.toInt = L) (hh : hi.toInt = H) (f1 : -10000 ≤ F ∧ F ≤ 10000) (l1 : -10000 ≤ L ∧ L ≤ 10000) (h1 : -10000 ≤ H ∧ H ≤ 10000) (b1 : 0 < B ∧ B ≤ 40000) : QI (nar q fr by' lo hi) (fmx lw (L - F, B)) (fmn hg (H - F, B)) := by
  have z : (lN 0).toInt = 0 := by decide
  have z' : (0 : Int64).toInt = 0 := by decide
  have c1 : lN 0 < by' := by rw [fa_lt64, z]; omega
  have c2 : 0 ≤ by' := by rw [fa_le64, z']; omega
  refine nar_q hq ?_ ?_ ?_ (by omega) (by omega) b1
  · unfold p_ab; rw [if_pos c2]; exact hb
  · rw [if_pos c1, l_sub (by omega) (by omega), hl, hf]
  · rw [if_pos c1, l_sub (by omega) (by omega), hh, hf]
theorem nar_n {q : Qd} {lw hg : Int × Int} {fr by' lo hi : Int64} {F B L H : Int} (hq : QI q lw hg) (hf : fr.toInt = F) (hb : by'.toInt = B) (hl : lo.toInt = L) (hh : hi.toInt = H) (f1 : -10000 ≤ F ∧ F ≤ 10000) (l1 : -10000 ≤ L ∧ L ≤ 10000) (h1 : -10000 ≤ H ∧ H ≤ 10000) (b1 : B < 0 ∧ -40000 ≤ B) : QI (nar q fr by' lo hi) (fmx lw (F - H, -B)) (fmn hg (F - L, -B)) := by
  have z : (lN 0).toInt = 0 := by decide
  have z' : (0 : Int64).toInt = 0 := by decide
  have c1 : ¬ lN 0 < by' := by rw [fa_lt64, z]; omega
  have c2 : ¬ 0 ≤ by' := by rw [fa_le64, z']; omega
  refine nar_q hq ?_ ?_ ?_ (by omega) (by omega) (by omega)
  · unfold p_ab; rw [if_neg c2, l_neg (by omega), hb]
  · rw [if_neg c1, l_sub (by omega) (by omega), hf, hh]
  · rw [if_neg c1, l_sub (by omega) (by omega), hf, hl]
theorem q0_i : QI q0 (-1, 1) (2, 1) := by
  unfold q0
  exact ⟨⟨by decide, by decide, by decide, by decide⟩, ⟨by decide, by decide, by decide, by decide⟩, ⟨by decide, by decide, by decide, by decide⟩⟩
theorem hid_fin {q : Qd} {lw hg : Int × Int} (hq : QI q lw hg) : (!decide (q.2.2.1 * q.2.1 ≤ q.1 * q.2.2.2) && (!decide (q.2.1 ≤ q.1) && !decide (q.2.2.1 ≤ lN 0))) = true ↔ (flt lw hg ∧ flt lw (1, 1) ∧ flt (0, 1) hg) := by
  obtain ⟨⟨q1, q2, q3, q4⟩, ⟨l1, l2, l3, l4⟩, ⟨g1, g2, g3, g4⟩⟩ := hq
  have z : (lN 0).toInt = 0 := by decide
  have m1 := mul_l q3 q2 g1 g2 (by omega) l4
  have m2 := mul_l q1 q4 l1 l2 (by omega) g4
  unfold flt
  rw [Bool.and_eq_true, Bool.and_eq_true, Bool.not_eq_true', Bool.not_eq_true', Bool.not_eq_true', decide_eq_false_iff_not, decide_eq_false_iff_not, decide_eq_false_iff_not, fa_le64, fa_le64, fa_le64, m1, m2, q1, q2, q3, z]
  simp only [Int.mul_one, Int.one_mul, Int.zero_mul]
  constructor
  · rintro ⟨h1, h2, h3⟩; exact ⟨by omega, by omega, by omega⟩
  · rintro ⟨h1, h2, h3⟩; exact ⟨by omega, by omega, by omega⟩
/-- the class' test, in whole numbers -/
theorem cut_int {x y p q : Int32} {A : Nat → Int32} (hx : IQ x) (hy : IQ y) (hp : IQ p) (hq : IQ q) (h0 : IQ (A 0)) (h1 : IQ (A 1)) (h2 : IQ (A 2)) (h3 : IQ (A 3)) : p_cut x y p q A = true ↔ (((A 0).toInt < x.toInt ∨ (A 0).toInt < p.toInt) ∧ (x.toInt < (A 2).toInt ∨ p.toInt < (A 2).toInt) ∧ ((A 1).toInt < y.toInt ∨ (A 1).toInt < q.toInt) ∧ (y.toInt < (A 3).toInt ∨ q.toInt < (A 3).toInt) ∧ (x.toInt = p.toInt ∨ y.toInt = q.toInt ∨
    (((p_side x y p q (A 0) (A 1)).toInt < 0 ∨ (p_side x y p q (A 0) (A 3)).toInt < 0 ∨ (p_side x y p q (A 2) (A 1)).toInt < 0 ∨ (p_side x y p q (A 2) (A 3)).toInt < 0) ∧ (0 < (p_side x y p q (A 0) (A 1)).toInt ∨ 0 < (p_side x y p q (A 0) (A 3)).toInt ∨ 0 < (p_side x y p q (A 2) (A 1)).toInt ∨ 0 < (p_side x y p q (A 2) (A 3)).toInt)))) := by
  have z : (lN 0).toInt = 0 := by decide
  have mn4 : ∀ a b c d : Int64, (¬ lN 0 ≤ p_mnl (p_mnl a b) (p_mnl c d)) ↔ (a.toInt < 0 ∨ b.toInt < 0 ∨ c.toInt < 0 ∨ d.toInt < 0) := by
    intro a b c d
    rw [fa_le64, z, mnl_int, mnl_int, mnl_int]
    omega
  have mx4 : ∀ a b c d : Int64, (¬ p_mxl (p_mxl a b) (p_mxl c d) ≤ lN 0) ↔ (0 < a.toInt ∨ 0 < b.toInt ∨ 0 < c.toInt ∨ 0 < d.toInt) := by
    intro a b c d
    rw [fa_le64, z, mxl_int, mxl_int, mxl_int]
    omega
  have mx2 : ∀ a b c : Int32, (¬ p_mx a b ≤ c) ↔ (c.toInt < a.toInt ∨ c.toInt < b.toInt) := by
    intro a b c
    rw [fa_le, mx_int]
    split <;> omega
  have mn2 : ∀ a b c : Int32, (p_mn a b < c) ↔ (a.toInt < c.toInt ∨ b.toInt < c.toInt) := by
    intro a b c
    rw [fa_lt, mn_int]
    split <;> omega
  unfold p_cut
  rw [Bool.and_eq_true, Bool.and_eq_true, Bool.and_eq_true, Bool.and_eq_true, Bool.or_eq_true, Bool.or_eq_true, Bool.and_eq_true, Bool.not_eq_true', Bool.not_eq_true', Bool.not_eq_true', Bool.not_eq_true', decide_eq_true_eq, decide_eq_true_eq, decide_eq_true_eq, decide_eq_true_eq, decide_eq_false_iff_not, decide_eq_false_iff_not, decide_eq_false_iff_not, decide_eq_false_iff_not, mn4, mx4, mx2, mx2, mn2, mn2, fa_eq, fa_eq]
theorem mul_lt4 {d l h : Int} (hl : l < h) : (0 < d → d * l < d * h) ∧ (d < 0 → d * h < d * l) := by
  constructor
  · intro hd
    have := Int.mul_lt_mul_of_pos_right hl hd
    rw [Int.mul_comm d l, Int.mul_comm d h]
    exact this
  · intro hd
    have := Int.mul_lt_mul_of_pos_right hl (show 0 < -d by omega)
    rw [Int.mul_neg, Int.mul_neg, Int.mul_comm l d, Int.mul_comm h d] at this
    omega
theorem c4nn {X Y U V a0 a1 a2 a3 P1 P2 P3 P4 : Int} (q : U < X) (q' : V < Y) (hl : a0 < a2) (hm : a1 < a3) (m1 : P2 < P1) (m2 : P4 < P3) : ((a0 < X ∨ a0 < U) ∧ (X < a2 ∨ U < a2) ∧ (a1 < Y ∨ a1 < V) ∧ (Y < a3 ∨ V < a3) ∧ ((P1 - P3 < 0 ∨ P2 - P3 < 0 ∨ P1 - P4 < 0 ∨ P2 - P4 < 0) ∧ (0 < P1 - P3 ∨ 0 < P2 - P3 ∨ 0 < P1 - P4 ∨ 0 < P2 - P4))) ↔ (-(a2 - X) < -(U - X) ∧ -(a3 - Y) < -(V - Y) ∧ 0 < -(a0 - X) ∧ 0 < -(a1 - Y) ∧ P2 < P3 ∧ P4 < P1) := by
  constructor
  · rintro ⟨h1, h2, h3, h4, h5, h6⟩
    exact ⟨by omega, by omega, by omega, by omega, by omega, by omega⟩
  · rintro ⟨h1, h2, h3, h4, h5, h6⟩
    exact ⟨by omega, by omega, by omega, by omega, by omega, by omega⟩
theorem c4np {X Y U V a0 a1 a2 a3 P1 P2 P3 P4 : Int} (q : U < X) (q' : Y < V) (hl : a0 < a2) (hm : a1 < a3) (m1 : P2 < P1) (m2 : P3 < P4) : ((a0 < X ∨ a0 < U) ∧ (X < a2 ∨ U < a2) ∧ (a1 < Y ∨ a1 < V) ∧ (Y < a3 ∨ V < a3) ∧ ((P1 - P3 < 0 ∨ P2 - P3 < 0 ∨ P1 - P4 < 0 ∨ P2 - P4 < 0) ∧ (0 < P1 - P3 ∨ 0 < P2 - P3 ∨ 0 < P1 - P4 ∨ 0 < P2 - P4))) ↔ (-(a2 - X) < -(U - X) ∧ a1 - Y < V - Y ∧ 0 < -(a0 - X) ∧ 0 < a3 - Y ∧ -P1 < -P3 ∧ -P4 < -P2) := by
  constructor
  · rintro ⟨h1, h2, h3, h4, h5, h6⟩
    exact ⟨by omega, by omega, by omega, by omega, by omega, by omega⟩
  · rintro ⟨h1, h2, h3, h4, h5, h6⟩
    exact ⟨by omega, by omega, by omega, by omega, by omega, by omega⟩
theorem c4pn {X Y U V a0 a1 a2 a3 P1 P2 P3 P4 : Int} (q : X < U) (q' : V < Y) (hl : a0 < a2) (hm : a1 < a3) (m1 : P1 < P2) (m2 : P4 < P3) : ((a0 < X ∨ a0 < U) ∧ (X < a2 ∨ U < a2) ∧ (a1 < Y ∨ a1 < V) ∧ (Y < a3 ∨ V < a3) ∧ ((P1 - P3 < 0 ∨ P2 - P3 < 0 ∨ P1 - P4 < 0 ∨ P2 - P4 < 0) ∧ (0 < P1 - P3 ∨ 0 < P2 - P3 ∨ 0 < P1 - P4 ∨ 0 < P2 - P4))) ↔ (a0 - X < U - X ∧ -(a3 - Y) < -(V - Y) ∧ 0 < a2 - X ∧ 0 < -(a1 - Y) ∧ -P2 < -P4 ∧ -P3 < -P1) := by
  constructor
  · rintro ⟨h1, h2, h3, h4, h5, h6⟩
    exact ⟨by omega, by omega, by omega, by omega, by omega, by omega⟩
  · rintro ⟨h1, h2, h3, h4, h5, h6⟩
    exact ⟨by omega, by omega, by omega, by omega, by omega, by omega⟩
theorem c4pp {X Y U V a0 a1 a2 a3 P1 P2 P3 P4 : Int} (q : X < U) (q' : Y < V) (hl : a0 < a2) (hm : a1 < a3) (m1 : P1 < P2) (m2 : P3 < P4) : ((a0 < X ∨ a0 < U) ∧ (X < a2 ∨ U < a2) ∧ (a1 < Y ∨ a1 < V) ∧ (Y < a3 ∨ V < a3) ∧ ((P1 - P3 < 0 ∨ P2 - P3 < 0 ∨ P1 - P4 < 0 ∨ P2 - P4 < 0) ∧ (0 < P1 - P3 ∨ 0 < P2 - P3 ∨ 0 < P1 - P4 ∨ 0 < P2 - P4))) ↔ (a0 - X < U - X ∧ a1 - Y < V - Y ∧ 0 < a2 - X ∧ 0 < a3 - Y ∧ P1 < P4 ∧ P3 < P2) := by
  constructor
  · rintro ⟨h1, h2, h3, h4, h5, h6⟩
    exact ⟨by omega, by omega, by omega, by omega, by omega, by omega⟩
  · rintro ⟨h1, h2, h3, h4, h5, h6⟩
    exact ⟨by omega, by omega, by omega, by omega, by omega, by omega⟩
theorem h4nn {sx sy x y : Int32} {A : Nat → Int32} (hS : (-9999 ≤ sx.toInt ∧ sx.toInt ≤ 9999) ∧ -9999 ≤ sy.toInt ∧ sy.toInt ≤ 9999) (hP : (-9999 ≤ x.toInt ∧ x.toInt ≤ 9999) ∧ -9999 ≤ y.toInt ∧ y.toInt ≤ 9999) (hA1 : (-9999 ≤ (A 0).toInt ∧ (A 0).toInt ≤ 9999) ∧ -9999 ≤ (A 1).toInt ∧ (A 1).toInt ≤ 9999) (hA2 : (-9999 ≤ (A 2).toInt ∧ (A 2).toInt ≤ 9999) ∧ -9999 ≤ (A 3).toInt ∧ (A 3).toInt ≤ 9999) (hl : (A 0).toInt < (A 2).toInt) (hm : (A 1).toInt < (A 3).toInt) (q : x.toInt < sx.toInt) (q' : y.toInt < sy.toInt) : p_hid sx sy x y A = true ↔ (sx.toInt - (A 2).toInt < -(x.toInt - sx.toInt) ∧ sy.toInt - (A 3).toInt < -(y.toInt - sy.toInt) ∧ 0 < sx.toInt - (A 0).toInt ∧ 0 < sy.toInt - (A 1).toInt ∧ (sy.toInt - (A 3).toInt) * (-(x.toInt - sx.toInt)) < (sx.toInt - (A 0).toInt) * (-(y.toInt - sy.toInt)) ∧ (sx.toInt - (A 2).toInt) * (-(y.toInt - sy.toInt)) < (sy.toInt - (A 1).toInt) * (-(x.toInt - sx.toInt))) := by
  obtain ⟨⟨s1, s2⟩, s3, s4⟩ := hS
  obtain ⟨⟨p1, p2⟩, p3, p4⟩ := hP
  obtain ⟨⟨a1, a2⟩, a3, a4⟩ := hA1
  obtain ⟨⟨b1, b2⟩, b3, b4⟩ := hA2
  have z : (lN 0).toInt = 0 := by decide
  have ex : (x - sx).toInt64.toInt = x.toInt - sx.toInt := by rw [i2l, i_sub (by omega) (by omega)]
  have ey : (y - sy).toInt64.toInt = y.toInt - sy.toInt := by rw [i2l, i_sub (by omega) (by omega)]
  have kx : decide ((x - sx).toInt64 = lN 0) = false := decide_eq_false (by rw [fa_eq64, ex, z]; omega)
  have ky : decide ((y - sy).toInt64 = lN 0) = false := decide_eq_false (by rw [fa_eq64, ey, z]; omega)
  have Q := nar_n (by' := (x - sx).toInt64) q0_i (i2l sx) ex (i2l (A 0)) (i2l (A 2)) ⟨by omega, by omega⟩ ⟨by omega, by omega⟩ ⟨by omega, by omega⟩ ⟨by omega, by omega⟩
  have Q2 := nar_n (by' := (y - sy).toInt64) Q (i2l sy) ey (i2l (A 1)) (i2l (A 3)) ⟨by omega, by omega⟩ ⟨by omega, by omega⟩ ⟨by omega, by omega⟩ ⟨by omega, by omega⟩
  unfold p_hid hidq narB narQ
  rw [kx, ky]
  simp only [cond_false, Bool.true_and]
  rw [hid_fin Q2, hid2 (by omega) (by omega) (by omega) (by omega)]
theorem h4np {sx sy x y : Int32} {A : Nat → Int32} (hS : (-9999 ≤ sx.toInt ∧ sx.toInt ≤ 9999) ∧ -9999 ≤ sy.toInt ∧ sy.toInt ≤ 9999) (hP : (-9999 ≤ x.toInt ∧ x.toInt ≤ 9999) ∧ -9999 ≤ y.toInt ∧ y.toInt ≤ 9999) (hA1 : (-9999 ≤ (A 0).toInt ∧ (A 0).toInt ≤ 9999) ∧ -9999 ≤ (A 1).toInt ∧ (A 1).toInt ≤ 9999) (hA2 : (-9999 ≤ (A 2).toInt ∧ (A 2).toInt ≤ 9999) ∧ -9999 ≤ (A 3).toInt ∧ (A 3).toInt ≤ 9999) (hl : (A 0).toInt < (A 2).toInt) (hm : (A 1).toInt < (A 3).toInt) (q : x.toInt < sx.toInt) (q' : sy.toInt < y.toInt) : p_hid sx sy x y A = true ↔ (sx.toInt - (A 2).toInt < -(x.toInt - sx.toInt) ∧ (A 1).toInt - sy.toInt < y.toInt - sy.toInt ∧ 0 < sx.toInt - (A 0).toInt ∧ 0 < (A 3).toInt - sy.toInt ∧ ((A 1).toInt - sy.toInt) * (-(x.toInt - sx.toInt)) < (sx.toInt - (A 0).toInt) * (y.toInt - sy.toInt) ∧ (sx.toInt - (A 2).toInt) * (y.toInt - sy.toInt) < ((A 3).toInt - sy.toInt) * (-(x.toInt - sx.toInt))) := by
  obtain ⟨⟨s1, s2⟩, s3, s4⟩ := hS
  obtain ⟨⟨p1, p2⟩, p3, p4⟩ := hP
  obtain ⟨⟨a1, a2⟩, a3, a4⟩ := hA1
  obtain ⟨⟨b1, b2⟩, b3, b4⟩ := hA2
  have z : (lN 0).toInt = 0 := by decide
  have ex : (x - sx).toInt64.toInt = x.toInt - sx.toInt := by rw [i2l, i_sub (by omega) (by omega)]
  have ey : (y - sy).toInt64.toInt = y.toInt - sy.toInt := by rw [i2l, i_sub (by omega) (by omega)]
  have kx : decide ((x - sx).toInt64 = lN 0) = false := decide_eq_false (by rw [fa_eq64, ex, z]; omega)
  have ky : decide ((y - sy).toInt64 = lN 0) = false := decide_eq_false (by rw [fa_eq64, ey, z]; omega)
  have Q := nar_n (by' := (x - sx).toInt64) q0_i (i2l sx) ex (i2l (A 0)) (i2l (A 2)) ⟨by omega, by omega⟩ ⟨by omega, by omega⟩ ⟨by omega, by omega⟩ ⟨by omega, by omega⟩
  have Q2 := nar_p (by' := (y - sy).toInt64) Q (i2l sy) ey (i2l (A 1)) (i2l (A 3)) ⟨by omega, by omega⟩ ⟨by omega, by omega⟩ ⟨by omega, by omega⟩ ⟨by omega, by omega⟩
  unfold p_hid hidq narB narQ
  rw [kx, ky]
  simp only [cond_false, Bool.true_and]
  rw [hid_fin Q2, hid2 (by omega) (by omega) (by omega) (by omega)]
theorem h4pn {sx sy x y : Int32} {A : Nat → Int32} (hS : (-9999 ≤ sx.toInt ∧ sx.toInt ≤ 9999) ∧ -9999 ≤ sy.toInt ∧ sy.toInt ≤ 9999) (hP : (-9999 ≤ x.toInt ∧ x.toInt ≤ 9999) ∧ -9999 ≤ y.toInt ∧ y.toInt ≤ 9999) (hA1 : (-9999 ≤ (A 0).toInt ∧ (A 0).toInt ≤ 9999) ∧ -9999 ≤ (A 1).toInt ∧ (A 1).toInt ≤ 9999) (hA2 : (-9999 ≤ (A 2).toInt ∧ (A 2).toInt ≤ 9999) ∧ -9999 ≤ (A 3).toInt ∧ (A 3).toInt ≤ 9999) (hl : (A 0).toInt < (A 2).toInt) (hm : (A 1).toInt < (A 3).toInt) (q : sx.toInt < x.toInt) (q' : y.toInt < sy.toInt) : p_hid sx sy x y A = true ↔ ((A 0).toInt - sx.toInt < x.toInt - sx.toInt ∧ sy.toInt - (A 3).toInt < -(y.toInt - sy.toInt) ∧ 0 < (A 2).toInt - sx.toInt ∧ 0 < sy.toInt - (A 1).toInt ∧ (sy.toInt - (A 3).toInt) * (x.toInt - sx.toInt) < ((A 2).toInt - sx.toInt) * (-(y.toInt - sy.toInt)) ∧ ((A 0).toInt - sx.toInt) * (-(y.toInt - sy.toInt)) < (sy.toInt - (A 1).toInt) * (x.toInt - sx.toInt)) := by
  obtain ⟨⟨s1, s2⟩, s3, s4⟩ := hS
  obtain ⟨⟨p1, p2⟩, p3, p4⟩ := hP
  obtain ⟨⟨a1, a2⟩, a3, a4⟩ := hA1
  obtain ⟨⟨b1, b2⟩, b3, b4⟩ := hA2
  have z : (lN 0).toInt = 0 := by decide
  have ex : (x - sx).toInt64.toInt = x.toInt - sx.toInt := by rw [i2l, i_sub (by omega) (by omega)]
  have ey : (y - sy).toInt64.toInt = y.toInt - sy.toInt := by rw [i2l, i_sub (by omega) (by omega)]
  have kx : decide ((x - sx).toInt64 = lN 0) = false := decide_eq_false (by rw [fa_eq64, ex, z]; omega)
  have ky : decide ((y - sy).toInt64 = lN 0) = false := decide_eq_false (by rw [fa_eq64, ey, z]; omega)
  have Q := nar_p (by' := (x - sx).toInt64) q0_i (i2l sx) ex (i2l (A 0)) (i2l (A 2)) ⟨by omega, by omega⟩ ⟨by omega, by omega⟩ ⟨by omega, by omega⟩ ⟨by omega, by omega⟩
  have Q2 := nar_n (by' := (y - sy).toInt64) Q (i2l sy) ey (i2l (A 1)) (i2l (A 3)) ⟨by omega, by omega⟩ ⟨by omega, by omega⟩ ⟨by omega, by omega⟩ ⟨by omega, by omega⟩
  unfold p_hid hidq narB narQ
  rw [kx, ky]
  simp only [cond_false, Bool.true_and]
  rw [hid_fin Q2, hid2 (by omega) (by omega) (by omega) (by omega)]
theorem h4pp {sx sy x y : Int32} {A : Nat → Int32} (hS : (-9999 ≤ sx.toInt ∧ sx.toInt ≤ 9999) ∧ -9999 ≤ sy.toInt ∧ sy.toInt ≤ 9999) (hP : (-9999 ≤ x.toInt ∧ x.toInt ≤ 9999) ∧ -9999 ≤ y.toInt ∧ y.toInt ≤ 9999) (hA1 : (-9999 ≤ (A 0).toInt ∧ (A 0).toInt ≤ 9999) ∧ -9999 ≤ (A 1).toInt ∧ (A 1).toInt ≤ 9999) (hA2 : (-9999 ≤ (A 2).toInt ∧ (A 2).toInt ≤ 9999) ∧ -9999 ≤ (A 3).toInt ∧ (A 3).toInt ≤ 9999) (hl : (A 0).toInt < (A 2).toInt) (hm : (A 1).toInt < (A 3).toInt) (q : sx.toInt < x.toInt) (q' : sy.toInt < y.toInt) : p_hid sx sy x y A = true ↔ ((A 0).toInt - sx.toInt < x.toInt - sx.toInt ∧ (A 1).toInt - sy.toInt < y.toInt - sy.toInt ∧ 0 < (A 2).toInt - sx.toInt ∧ 0 < (A 3).toInt - sy.toInt ∧ ((A 1).toInt - sy.toInt) * (x.toInt - sx.toInt) < ((A 2).toInt - sx.toInt) * (y.toInt - sy.toInt) ∧ ((A 0).toInt - sx.toInt) * (y.toInt - sy.toInt) < ((A 3).toInt - sy.toInt) * (x.toInt - sx.toInt)) := by
  obtain ⟨⟨s1, s2⟩, s3, s4⟩ := hS
  obtain ⟨⟨p1, p2⟩, p3, p4⟩ := hP
  obtain ⟨⟨a1, a2⟩, a3, a4⟩ := hA1
  obtain ⟨⟨b1, b2⟩, b3, b4⟩ := hA2
  have z : (lN 0).toInt = 0 := by decide
  have ex : (x - sx).toInt64.toInt = x.toInt - sx.toInt := by rw [i2l, i_sub (by omega) (by omega)]
  have ey : (y - sy).toInt64.toInt = y.toInt - sy.toInt := by rw [i2l, i_sub (by omega) (by omega)]
  have kx : decide ((x - sx).toInt64 = lN 0) = false := decide_eq_false (by rw [fa_eq64, ex, z]; omega)
  have ky : decide ((y - sy).toInt64 = lN 0) = false := decide_eq_false (by rw [fa_eq64, ey, z]; omega)
  have Q := nar_p (by' := (x - sx).toInt64) q0_i (i2l sx) ex (i2l (A 0)) (i2l (A 2)) ⟨by omega, by omega⟩ ⟨by omega, by omega⟩ ⟨by omega, by omega⟩ ⟨by omega, by omega⟩
  have Q2 := nar_p (by' := (y - sy).toInt64) Q (i2l sy) ey (i2l (A 1)) (i2l (A 3)) ⟨by omega, by omega⟩ ⟨by omega, by omega⟩ ⟨by omega, by omega⟩ ⟨by omega, by omega⟩
  unfold p_hid hidq narB narQ
  rw [kx, ky]
  simp only [cond_false, Bool.true_and]
  rw [hid_fin Q2, hid2 (by omega) (by omega) (by omega) (by omega)]
theorem cut_hid {sx sy x y : Int32} {A : Nat → Int32} (hS : plc sx sy = true) (hP : plc x y = true) (hA : IA A) : p_cut sx sy x y A = p_hid sx sy x y A := by
  obtain ⟨⟨s1, s2⟩, s3, s4⟩ := plc_iff.mp hS
  obtain ⟨⟨p1, p2⟩, p3, p4⟩ := plc_iff.mp hP
  obtain ⟨hA1, hA2, hl, hm⟩ := hA
  obtain ⟨⟨a1, a2⟩, a3, a4⟩ := plc_iff.mp hA1
  obtain ⟨⟨b1, b2⟩, b3, b4⟩ := plc_iff.mp hA2
  have wid : ∀ v : Int32, -9999 ≤ v.toInt → v.toInt ≤ 9999 → IQ v := fun v h1 h2 => ⟨by omega, by omega⟩
  have Isx := wid sx s1 s2
  have Isy := wid sy s3 s4
  have Ix := wid x p1 p2
  have Iy := wid y p3 p4
  have I0 := wid (A 0) a1 a2
  have I1 := wid (A 1) a3 a4
  have I2 := wid (A 2) b1 b2
  have I3 := wid (A 3) b3 b4
  have ci := cut_int (A := A) Isx Isy Ix Iy I0 I1 I2 I3
  rw [(side_int Isx Isy Ix Iy I0 I1).1, (side_int Isx Isy Ix Iy I0 I3).1, (side_int Isx Isy Ix Iy I2 I1).1, (side_int Isx Isy Ix Iy I2 I3).1] at ci
  have z : (lN 0).toInt = 0 := by decide
  have ex : (x - sx).toInt64.toInt = x.toInt - sx.toInt := by rw [i2l, i_sub (by omega) (by omega)]
  have ey : (y - sy).toInt64.toInt = y.toInt - sy.toInt := by rw [i2l, i_sub (by omega) (by omega)]
  have zx : ((x - sx).toInt64 = lN 0) = (x.toInt = sx.toInt) := propext (by rw [fa_eq64, ex, z]; omega)
  have zy : ((y - sy).toInt64 = lN 0) = (y.toInt = sy.toInt) := propext (by rw [fa_eq64, ey, z]; omega)
  have inx : (decide ((A 0).toInt64 < sx.toInt64) && decide (sx.toInt64 < (A 2).toInt64)) = true ↔ ((A 0).toInt < sx.toInt ∧ sx.toInt < (A 2).toInt) := by
    rw [Bool.and_eq_true, decide_eq_true_eq, decide_eq_true_eq, fa_lt64, fa_lt64, i2l, i2l, i2l]
  have iny : (decide ((A 1).toInt64 < sy.toInt64) && decide (sy.toInt64 < (A 3).toInt64)) = true ↔ ((A 1).toInt < sy.toInt ∧ sy.toInt < (A 3).toInt) := by
    rw [Bool.and_eq_true, decide_eq_true_eq, decide_eq_true_eq, fa_lt64, fa_lt64, i2l, i2l, i2l]
  have Lx := mul_lt4 (d := y.toInt - sy.toInt) (l := (A 0).toInt - sx.toInt) (h := (A 2).toInt - sx.toInt) (by omega)
  have Ly := mul_lt4 (d := x.toInt - sx.toInt) (l := (A 1).toInt - sy.toInt) (h := (A 3).toInt - sy.toInt) (by omega)
  rw [Bool.eq_iff_iff, ci]
  by_cases dx : x.toInt = sx.toInt <;> by_cases dy : y.toInt = sy.toInt
  · unfold p_hid hidq narB narQ
    rw [Bool.and_eq_true, Bool.and_eq_true]
    have kx : decide ((x - sx).toInt64 = lN 0) = true := decide_eq_true (by rw [zx]; exact dx)
    have ky : decide ((y - sy).toInt64 = lN 0) = true := decide_eq_true (by rw [zy]; exact dy)
    rw [kx, ky]
    simp only [cond_true]
    rw [hid_fin q0_i, inx, iny]
    unfold flt
    constructor
    · rintro ⟨h1, h2, h3, h4, -⟩; exact ⟨⟨by omega, by omega⟩, ⟨by omega, by omega⟩, by decide, by decide, by decide⟩
    · rintro ⟨⟨h1, h2⟩, ⟨h3, h4⟩, -⟩; exact ⟨by omega, by omega, by omega, by omega, Or.inl dx.symm⟩
  · unfold p_hid hidq narB narQ
    rw [Bool.and_eq_true, Bool.and_eq_true]
    have kx : decide ((x - sx).toInt64 = lN 0) = true := decide_eq_true (by rw [zx]; exact dx)
    have ky : decide ((y - sy).toInt64 = lN 0) = false := decide_eq_false (by rw [zy]; exact dy)
    rw [kx, ky]
    simp only [cond_true, cond_false]
    rcases Int.lt_or_gt_of_ne dy with q | q
    · have Q := nar_n (by' := (y - sy).toInt64) q0_i (i2l sy) ey (i2l (A 1)) (i2l (A 3)) (by omega) (by omega) (by omega) (by omega)
      rw [hid_fin Q, inx, hid1 (by omega) (by omega)]
      constructor
      · rintro ⟨h1, h2, h3, h4, -⟩; exact ⟨⟨by omega, by omega⟩, (by first | rfl | trivial), by omega, by omega⟩
      · rintro ⟨⟨h1, h2⟩, -, h3, h4⟩; exact ⟨by omega, by omega, by omega, by omega, Or.inl dx.symm⟩
    · have Q := nar_p (by' := (y - sy).toInt64) q0_i (i2l sy) ey (i2l (A 1)) (i2l (A 3)) (by omega) (by omega) (by omega) (by omega)
      rw [hid_fin Q, inx, hid1 (by omega) (by omega)]
      constructor
      · rintro ⟨h1, h2, h3, h4, -⟩; exact ⟨⟨by omega, by omega⟩, (by first | rfl | trivial), by omega, by omega⟩
      · rintro ⟨⟨h1, h2⟩, -, h3, h4⟩; exact ⟨by omega, by omega, by omega, by omega, Or.inl dx.symm⟩
  · unfold p_hid hidq narB narQ
    rw [Bool.and_eq_true, Bool.and_eq_true]
    have kx : decide ((x - sx).toInt64 = lN 0) = false := decide_eq_false (by rw [zx]; exact dx)
    have ky : decide ((y - sy).toInt64 = lN 0) = true := decide_eq_true (by rw [zy]; exact dy)
    rw [kx, ky]
    simp only [cond_true, cond_false]
    rcases Int.lt_or_gt_of_ne dx with q | q
    · have Q := nar_n (by' := (x - sx).toInt64) q0_i (i2l sx) ex (i2l (A 0)) (i2l (A 2)) (by omega) (by omega) (by omega) (by omega)
      rw [hid_fin Q, iny, hid1 (by omega) (by omega)]
      constructor
      · rintro ⟨h1, h2, h3, h4, -⟩; exact ⟨(by first | rfl | trivial), ⟨by omega, by omega⟩, by omega, by omega⟩
      · rintro ⟨-, ⟨h1, h2⟩, h3, h4⟩; exact ⟨by omega, by omega, by omega, by omega, Or.inr (Or.inl dy.symm)⟩
    · have Q := nar_p (by' := (x - sx).toInt64) q0_i (i2l sx) ex (i2l (A 0)) (i2l (A 2)) (by omega) (by omega) (by omega) (by omega)
      rw [hid_fin Q, iny, hid1 (by omega) (by omega)]
      constructor
      · rintro ⟨h1, h2, h3, h4, -⟩; exact ⟨(by first | rfl | trivial), ⟨by omega, by omega⟩, by omega, by omega⟩
      · rintro ⟨-, ⟨h1, h2⟩, h3, h4⟩; exact ⟨by omega, by omega, by omega, by omega, Or.inr (Or.inl dy.symm)⟩
  · have e1 : (sx.toInt = x.toInt) = False := propext ⟨fun h => dx h.symm, False.elim⟩
    have e2 : (sy.toInt = y.toInt) = False := propext ⟨fun h => dy h.symm, False.elim⟩
    have cm1 := Int.mul_comm ((A 1).toInt - sy.toInt) (x.toInt - sx.toInt)
    have cm2 := Int.mul_comm ((A 3).toInt - sy.toInt) (x.toInt - sx.toInt)
    have cm3 := Int.mul_comm ((A 0).toInt - sx.toInt) (y.toInt - sy.toInt)
    have cm4 := Int.mul_comm ((A 2).toInt - sx.toInt) (y.toInt - sy.toInt)
    have n1 : (sy.toInt - (A 1).toInt) = -((A 1).toInt - sy.toInt) := by omega
    have n2 : (sy.toInt - (A 3).toInt) = -((A 3).toInt - sy.toInt) := by omega
    have n3 : (sx.toInt - (A 0).toInt) = -((A 0).toInt - sx.toInt) := by omega
    have n4 : (sx.toInt - (A 2).toInt) = -((A 2).toInt - sx.toInt) := by omega
    rw [e1, e2, false_or, false_or]
    have HS : (-9999 ≤ sx.toInt ∧ sx.toInt ≤ 9999) ∧ -9999 ≤ sy.toInt ∧ sy.toInt ≤ 9999 := ⟨⟨s1, s2⟩, s3, s4⟩
    have HP : (-9999 ≤ x.toInt ∧ x.toInt ≤ 9999) ∧ -9999 ≤ y.toInt ∧ y.toInt ≤ 9999 := ⟨⟨p1, p2⟩, p3, p4⟩
    have HA1 : (-9999 ≤ (A 0).toInt ∧ (A 0).toInt ≤ 9999) ∧ -9999 ≤ (A 1).toInt ∧ (A 1).toInt ≤ 9999 := ⟨⟨a1, a2⟩, a3, a4⟩
    have HA2 : (-9999 ≤ (A 2).toInt ∧ (A 2).toInt ≤ 9999) ∧ -9999 ≤ (A 3).toInt ∧ (A 3).toInt ≤ 9999 := ⟨⟨b1, b2⟩, b3, b4⟩
    rcases Int.lt_or_gt_of_ne dx with q | q <;> rcases Int.lt_or_gt_of_ne dy with q' | q'
    · rw [h4nn HS HP HA1 HA2 hl hm q q', n1, n2, n3, n4, Int.neg_mul_neg, Int.neg_mul_neg, Int.neg_mul_neg, Int.neg_mul_neg, cm1, cm2, cm3, cm4]
      exact c4nn q q' hl hm (Ly.2 (by omega)) (Lx.2 (by omega))
    · rw [h4np HS HP HA1 HA2 hl hm q q', n3, n4, Int.mul_neg, Int.mul_neg, Int.neg_mul, Int.neg_mul, cm1, cm2, cm3, cm4]
      exact c4np q q' hl hm (Ly.2 (by omega)) (Lx.1 (by omega))
    · rw [h4pn HS HP HA1 HA2 hl hm q q', n1, n2, Int.mul_neg, Int.mul_neg, Int.neg_mul, Int.neg_mul, cm1, cm2, cm3, cm4]
      exact c4pn q q' hl hm (Ly.1 (by omega)) (Lx.2 (by omega))
    · rw [h4pp HS HP HA1 HA2 hl hm q q', cm1, cm2, cm3, cm4]
      exact c4pp q q' hl hm (Ly.1 (by omega)) (Lx.1 (by omega))
