/-! ===== the cells that stay: shapes, references; rows ===== -/
def SHL : List (Nat × Nat) := [(8, 0), (6, 0), (2, 0), (20, 4), (20, 4), (20, 4), (1, 0), (20, 10), (20, 10), (20, 10), (20, 10), (1, 0), (20, 10), (20, 10), (20, 10), (20, 10), (20, 400), (0, 0), (20, 10), (20, 10), (20, 10), (20, 10), (20, 10), (5, 0), (20, 130), (20, 130), (20, 130), (20, 130), (20, 130), (20, 130), (20, 130), (3, 0), (20, 120), (20, 120), (20, 120), (20, 120), (23, 10), (7, 0), (20, 12), (20, 12), (7, 0), (20, 12), (20, 12), (7, 0), (20, 12), (20, 12), (7, 0), (20, 12), (20, 12), (7, 0), (20, 12), (20, 12), (7, 0), (20, 12), (20, 12), (7, 0), (20, 12), (20, 12), (7, 0), (20, 12), (20, 12), (7, 0), (20, 12), (20, 12), (7, 0), (20, 12), (20, 12), (6, 0), (2, 0), (20, 4), (20, 4), (20, 4), (1, 0), (20, 10), (20, 10), (20, 10), (20, 10), (1, 0), (20, 10), (20, 10), (20, 10), (20, 10), (20, 400), (0, 0), (20, 10), (20, 10), (20, 10), (20, 10), (20, 10), (5, 0), (20, 130), (20, 130), (20, 130), (20, 130), (20, 130), (20, 130), (20, 130), (3, 0), (20, 120), (20, 120), (20, 120), (20, 120), (23, 10), (7, 0), (20, 12), (20, 12), (7, 0), (20, 12), (20, 12), (7, 0), (20, 12), (20, 12), (7, 0), (20, 12), (20, 12), (7, 0), (20, 12), (20, 12), (7, 0), (20, 12), (20, 12), (7, 0), (20, 12), (20, 12), (7, 0), (20, 12), (20, 12), (7, 0), (20, 12), (20, 12), (7, 0), (20, 12), (20, 12), (4, 0), (20, 10), (21, 100), (21, 11264), (9, 0), (20, 15), (20, 12), (20, 40), (20, 24), (20, 400), (20, 50), (20, 50), (20, 380), (20, 420), (20, 480), (24, 10), (21, 100), (21, 11264), (20, 38), (21, 1), (22, 1)]
def SH (a : Nat) : Nat × Nat := SHL.getD a (0, 0)
def RTL : List (List Nat) := [[1, 67, 133], [2, 17, 23, 31, 36], [3, 4, 5, 0, 6, 11, 16], [], [], [], [7, 8, 9, 10], [], [], [], [], [12, 13, 14, 15], [], [], [], [], [], [18, 19, 20, 21, 22], [], [], [], [], [], [24, 25, 26, 27, 28, 29, 30], [], [], [], [], [], [], [], [32, 33, 34, 35], [], [], [], [], [], [0, 38, 39], [], [], [0, 41, 42], [], [], [0, 44, 45], [], [], [0, 47, 48], [], [], [0, 50, 51], [], [], [0, 53, 54], [], [], [0, 56, 57], [], [], [0, 59, 60], [], [], [0, 62, 63], [], [], [0, 65, 66], [], [], [68, 83, 89, 97, 102], [69, 70, 71, 0, 72, 77, 82], [], [], [], [73, 74, 75, 76], [], [], [], [], [78, 79, 80, 81], [], [], [], [], [], [84, 85, 86, 87, 88], [], [], [], [], [], [90, 91, 92, 93, 94, 95, 96], [], [], [], [], [], [], [], [98, 99, 100, 101], [], [], [], [], [], [0, 104, 105], [], [], [0, 107, 108], [], [], [0, 110, 111], [], [], [0, 113, 114], [], [], [0, 116, 117], [], [], [0, 119, 120], [], [], [0, 122, 123], [], [], [0, 125, 126], [], [], [0, 128, 129], [], [], [0, 131, 132], [], [], [134, 135, 136], [], [], [], [0, 138, 139, 140, 141, 142, 143, 144, 145, 146, 147, 148, 0, 0, 0, 0, 0, 149, 150, 151], [], [], [], [], [], [], [], [], [], [], [138, 139, 140, 141, 142, 143, 144, 145, 146, 147], [], [], [], [], []]
def RT (a j : Nat) : Option Nat := match (RTL.getD a []).getD j 0 with
  | 0 => none
  | v => some v
def Sh (μ : mMu) : Prop := ∀ a, a < 154 → mS μ a = SH a
def Rf (r : Nat → Nat → Option Nat) : Prop := ∀ a j v, RT a j = some v → r a j = some v
def up {α : Type} (f : Nat → α) (j : Nat) (v : α) : Nat → α := fun k => if k = j then v else f k
theorem up_eq {α : Type} {f : Nat → α} {j : Nat} {v : α} : up f j v j = v := if_pos rfl
theorem up_ne {α : Type} {f : Nat → α} {j k : Nat} {v : α} (h : k ≠ j) : up f j v k = f k := if_neg h
theorem yu_ne {α : Type} {f : Nat → Nat → α} {a b j : Nat} {v : α} (h : b ≠ a) : u2 f a j v b = f b := by
  funext y; unfold u2; rw [if_neg h]
theorem yu_eq {α : Type} {f : Nat → Nat → α} {a j : Nat} {v : α} : u2 f a j v a = up (f a) j v := by
  funext y; unfold u2 up; rw [if_pos rfl]
theorem yur_ne {α : Type} {f : Nat → Nat → α} {a b : Nat} {g : Nat → α} (h : b ≠ a) : u2r f a g b = f b := by
  funext y; unfold u2r; rw [if_neg h]
theorem yur_eq {α : Type} {f : Nat → Nat → α} {a : Nat} {g : Nat → α} : u2r f a g a = g := by
  funext y; unfold u2r; rw [if_pos rfl]
theorem y1_ne {α : Type} {f : Nat → α} {a b : Nat} {v : α} (h : b ≠ a) : u1 f a v b = f b := if_neg h
theorem y1_eq {α : Type} {f : Nat → α} {a : Nat} {v : α} : u1 f a v a = v := if_pos rfl
/-! ===== the class' events ===== -/
def cnote (f : Nat → Nat → Int32) (n : Nat) (a b c d : Int32) : Nat → Nat → Int32 := u2 (u2 (u2 (u2 (u2 f 32 (n % 120) a) 33 (n % 120) b) 34 (n % 120) c) 35 (n % 120) d) 31 4 (nI (n + 1))
theorem C_22 {μ : mMu} {f : Nat → Nat → Int32} {l : Nat → Nat → Int64} {r : Nat → Nat → Option Nat} (hs : Sh μ) (hr : Rf r) {n : Nat} {a b c d : Int32} (hn : f 31 4 = nI n) (hb : n < 2000000000) :
    CALL 22 [.ref 31, .int a, .int b, .int c, .int d] (st μ f l r) = some (.inl none, st μ (cnote f n a b c d) l r) := by
  have h31a : (mS μ 31).1 = 3 := by rw [hs 31 (by decide)]; rfl
  have h32a : (mS μ 32).1 = 20 := by rw [hs 32 (by decide)]; rfl
  have h32b : (mS μ 32).2 = 120 := by rw [hs 32 (by decide)]; rfl
  have h33a : (mS μ 33).1 = 20 := by rw [hs 33 (by decide)]; rfl
  have h33b : (mS μ 33).2 = 120 := by rw [hs 33 (by decide)]; rfl
  have h34a : (mS μ 34).1 = 20 := by rw [hs 34 (by decide)]; rfl
  have h34b : (mS μ 34).2 = 120 := by rw [hs 34 (by decide)]; rfl
  have h35a : (mS μ 35).1 = 20 := by rw [hs 35 (by decide)]; rfl
  have h35b : (mS μ 35).2 = 120 := by rw [hs 35 (by decide)]; rfl
  have r31_0 : r 31 0 = some 32 := hr 31 0 32 rfl
  have r31_1 : r 31 1 = some 33 := hr 31 1 33 rfl
  have r31_2 : r 31 2 = some 34 := hr 31 2 34 rfl
  have r31_3 : r 31 3 = some 35 := hr 31 3 35 rfl
  rw [B_22_0]
  simp (disch := omega) only [st_I, st_L, st_R, st_S, st_N, st_C, st_Z, st_X, st_D, st_st, st_sI, st_sIr, st_sL, st_sR, gfI_st, gfL_st, gfR_st, gfN_st, pfI_st, pfL_st, pfR_st, pfZ_st0, pfZ_st1, ldI_st, ldL_st, stoI_st, stoL_st, aln_st, cpA_st, bq_st, oI_s, oL_s, oD_s, oV_s, oR_s, oR_n, oI_e, oL_e, oD_e, Option.bind_some, fa_lit, fa_litL, nI_add, pk_mul, nI_m1, nI_lt', nI_le', nI_eq', lc_ge, lc_le, lc_gt, lc_lt, lc_eq, isZ_0, isZ_1, bI_0, bI_z, decide_eq_true_eq, Bool.not_eq_true', Bool.not_true, Bool.not_false, decide_eq_false_iff_not, if_true, if_false, ite_true, ite_false, eq_self, not_true, not_false_eq_true, C_95, C_96, C_97, C_99, C_100, C_102, C_106, C_107, C_109, C_168, C_171, C_172, C_173, C_174, C_175, yu_ne, yu_eq, up_eq, up_ne, yur_ne, yur_eq, Nat.mul_zero, Nat.zero_mul, Nat.add_zero, Nat.zero_add, Nat.mul_one, Nat.one_mul, r31_0, r31_1, r31_2, r31_3, hn, pk_rem, decide_false, cond_false, Nat.reduceEqDiff]
  rfl
