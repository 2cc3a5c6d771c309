/-! ===== the small machine: what the bytecode does to numbers, rows and objects, as a function ===== -/
abbrev mSt : Type := List Value
abbrev mLo : Type := List (Option Value)
/-- ints, longs, doubles, references by cell and place; shapes (kind, length); next cell; cells and slots used; the script -/
abbrev mMu : Type := (Nat → Nat → Int32) × (Nat → Nat → Int64) × (Nat → Nat → UInt64) × (Nat → Nat → Option Nat) × (Nat → Nat × Nat) × Nat × Nat × Nat × (Nat × (Nat → Int32))
abbrev mOut : Type := Option ((Option Value ⊕ Nat) × mMu)
def mI (μ : mMu) : Nat → Nat → Int32 := μ.1
def mL (μ : mMu) : Nat → Nat → Int64 := μ.2.1
def mD (μ : mMu) : Nat → Nat → UInt64 := μ.2.2.1
def mR (μ : mMu) : Nat → Nat → Option Nat := μ.2.2.2.1
def mS (μ : mMu) : Nat → Nat × Nat := μ.2.2.2.2.1
def mN (μ : mMu) : Nat := μ.2.2.2.2.2.1
def mC (μ : mMu) : Nat := μ.2.2.2.2.2.2.1
def mZ (μ : mMu) : Nat := μ.2.2.2.2.2.2.2.1
def mX (μ : mMu) : Nat × (Nat → Int32) := μ.2.2.2.2.2.2.2.2
def u2 {α : Type} (f : Nat → Nat → α) (a j : Nat) (v : α) : Nat → Nat → α := fun x y => if x = a then (if y = j then v else f x y) else f x y
def u1 {α : Type} (f : Nat → α) (a : Nat) (v : α) : Nat → α := fun x => if x = a then v else f x
/-- a whole row -/
def u2r {α : Type} (f : Nat → Nat → α) (a : Nat) (g : Nat → α) : Nat → Nat → α := fun x y => if x = a then g y else f x y
def sI (μ : mMu) (a j : Nat) (v : Int32) : mMu := (u2 (mI μ) a j v, μ.2)
def sIr (μ : mMu) (a : Nat) (g : Nat → Int32) : mMu := (u2r (mI μ) a g, μ.2)
def sL (μ : mMu) (a j : Nat) (v : Int64) : mMu := (μ.1, u2 (mL μ) a j v, μ.2.2)
def sD (μ : mMu) (a j : Nat) (v : UInt64) : mMu := (μ.1, μ.2.1, u2 (mD μ) a j v, μ.2.2.2)
def sR (μ : mMu) (a j : Nat) (v : Option Nat) : mMu := (μ.1, μ.2.1, μ.2.2.1, u2 (mR μ) a j v, μ.2.2.2.2)
/-- a new cell of a shape, with so many slots -/
def mNew (μ : mMu) (sh : Nat × Nat) (z : Nat) : mMu := (u2r (mI μ) (mN μ) (fun _ => 0), u2r (mL μ) (mN μ) (fun _ => 0), u2r (mD μ) (mN μ) (fun _ => 0), u2r (mR μ) (mN μ) (fun _ => none), u1 (mS μ) (mN μ) sh, mN μ + 1, mC μ + 1, mZ μ + z, mX μ)
/-- a cell of which nothing is known but that it counts -/
def mBurn (μ : mMu) (z : Nat) : mMu := (mI μ, mL μ, mD μ, mR μ, mS μ, mN μ, mC μ + 1, mZ μ + z, mX μ)
def isW (o : Option Value) : Bool := match o with
  | some (.long _) => true
  | some (.double _) => true
  | _ => false
def st1 (ls : mLo) (i : Nat) (v : Option Value) : mLo := ls.set i v
/-- a long or a double: the slot behind it is left empty; one whose slot behind is filled is never read -/
def st2 (ls : mLo) (i : Nat) (v : Option Value) : mLo := (ls.set i v).set (i + 1) none
def inb (i : Int32) (n : Nat) : Bool := !decide (i < 0) && decide (i.toNatClampNeg < n)
def ix (i : Int32) : Nat := i.toNatClampNeg
def ldI (μ : mMu) (a : Nat) (i : Int32) : Option Int32 := bif Nat.beq (mS μ a).1 20 && inb i (mS μ a).2 then some (mI μ a (ix i)) else none
def ldL (μ : mMu) (a : Nat) (i : Int32) : Option Int64 := bif Nat.beq (mS μ a).1 21 && inb i (mS μ a).2 then some (mL μ a (ix i)) else none
def ldR (μ : mMu) (a : Nat) (i : Int32) : Option Nat := bif (Nat.beq (mS μ a).1 23 || Nat.beq (mS μ a).1 24) && inb i (mS μ a).2 then mR μ a (ix i) else none
def ldX (μ : mMu) (i : Int32) : Option Int32 := bif inb i (mX μ).1 then some ((mX μ).2 (ix i)) else none
def aln (μ : mMu) (a : Nat) : Option Int32 := bif Nat.ble 20 (mS μ a).1 && Nat.ble (mS μ a).1 24 then some (Int32.ofNat (mS μ a).2) else none
def gfI (μ : mMu) (ci a j : Nat) : Option Int32 := bif Nat.beq (mS μ a).1 ci then some (mI μ a j) else none
def gfL (μ : mMu) (ci a j : Nat) : Option Int64 := bif Nat.beq (mS μ a).1 ci then some (mL μ a j) else none
def gfR (μ : mMu) (ci a j : Nat) : Option Nat := bif Nat.beq (mS μ a).1 ci then mR μ a j else none
def gfN (μ : mMu) (ci a j : Nat) : Option (Option Nat) := bif Nat.beq (mS μ a).1 ci then some (mR μ a j) else none
def isZ (x : Int32) : Bool := decide (x = 0) || decide (x = 1)
def pfI (μ : mMu) (ci a j : Nat) (x : Int32) : Option mMu := bif Nat.beq (mS μ a).1 ci then some (sI μ a j x) else none
def pfZ (μ : mMu) (ci a j : Nat) (x : Int32) : Option mMu := bif Nat.beq (mS μ a).1 ci && isZ x then some (sI μ a j x) else none
def pfL (μ : mMu) (ci a j : Nat) (x : Int64) : Option mMu := bif Nat.beq (mS μ a).1 ci then some (sL μ a j x) else none
def pfR (μ : mMu) (ci a j : Nat) (r : Nat) : Option mMu := bif Nat.beq (mS μ a).1 ci then some (sR μ a j (some r)) else none
def stoI (μ : mMu) (a : Nat) (i : Int32) (x : Int32) : Option mMu := bif Nat.beq (mS μ a).1 20 && inb i (mS μ a).2 then some (sI μ a (ix i) x) else none
def stoL (μ : mMu) (a : Nat) (i : Int32) (x : Int64) : Option mMu := bif Nat.beq (mS μ a).1 21 && inb i (mS μ a).2 then some (sL μ a (ix i) x) else none
/-- a track into a row of tracks, a row of ints into a row of such rows -/
def stoR (μ : mMu) (a : Nat) (i : Int32) (r : Nat) : Option mMu := bif inb i (mS μ a).2 && ((Nat.beq (mS μ a).1 23 && Nat.beq (mS μ r).1 7) || (Nat.beq (mS μ a).1 24 && Nat.beq (mS μ r).1 20)) then some (sR μ a (ix i) (some r)) else none
def nwA (μ : mMu) (tag : Nat) (n : Int32) : Option mMu := bif inb n 65536 then some (mNew μ (tag, ix n) (ix n)) else none
def cpF {α : Type} (f g : Nat → α) (sp dp n : Nat) : Nat → α := fun k => if dp ≤ k ∧ k < dp + n then f (sp + (k - dp)) else g k
def cpA (μ : mMu) (a : Nat) (sp : Int32) (b : Nat) (dp n : Int32) : Option mMu :=
  bif Nat.beq (mS μ a).1 20 && Nat.beq (mS μ b).1 20 && (!decide (sp < 0) && !decide (dp < 0) && !decide (n < 0)) && (Nat.ble (ix sp + ix n) (mS μ a).2 && Nat.ble (ix dp + ix n) (mS μ b).2) then some (sIr μ b (cpF (mI μ a) (mI μ b) (ix sp) (ix dp) (ix n))) else none
/-- what an instruction asks for: A go on; B a branch; C a value read; D a memory written; E a call; S a switch; Y an end; T a throw -/
abbrev mRq : Type := Option Int32 ⊕ Option Int64 ⊕ Option UInt64 ⊕ Option Nat ⊕ Option (Option Nat)
abbrev mAct : Type := (Nat × mLo × mSt) ⊕ (Bool × Nat × Nat × mSt) ⊕ (mRq × mSt) ⊕ (Option mMu × mSt) ⊕ (Nat × List Value × mSt × Nat × Bool) ⊕ (List (Int32 × Nat) × Nat × Int32 × mSt) ⊕ (Bool × Option Value) ⊕ Nat
def aA (pc : Nat) (ls : mLo) (st : mSt) : Option mAct := some (.inl (pc, ls, st))
def aB (c : Bool) (t f : Nat) (st : mSt) : Option mAct := some (.inr (.inl (c, t, f, st)))
def aC (q : mRq) (st : mSt) : Option mAct := some (.inr (.inr (.inl (q, st))))
def aD (q : Option mMu) (st : mSt) : Option mAct := some (.inr (.inr (.inr (.inl (q, st)))))
def aE (k : Nat) (as : List Value) (st : mSt) (rc : Nat) (ok : Bool) : Option mAct := some (.inr (.inr (.inr (.inr (.inl (k, as, st, rc, ok))))))
def aS (ts : List (Int32 × Nat)) (d : Nat) (x : Int32) (st : mSt) : Option mAct := some (.inr (.inr (.inr (.inr (.inr (.inl (ts, d, x, st)))))))
def aY (b : Bool) (v : Option Value) : Option mAct := some (.inr (.inr (.inr (.inr (.inr (.inr (.inl (b, v))))))))
def aT (E : Nat) : Option mAct := some (.inr (.inr (.inr (.inr (.inr (.inr (.inr E)))))))
def qI (o : Option Int32) : mRq := .inl o
def qL (o : Option Int64) : mRq := .inr (.inl o)
def qD (o : Option UInt64) : mRq := .inr (.inr (.inl o))
def qR (o : Option Nat) : mRq := .inr (.inr (.inr (.inl o)))
def qN (o : Option (Option Nat)) : mRq := .inr (.inr (.inr (.inr o)))
def icm (op : Jvm.ClassFile.Cond) (x y : Int32) : Bool := match op with
  | .eq => decide (x = y)
  | .ne => !decide (x = y)
  | .lt => decide (x < y)
  | .ge => decide (y ≤ x)
  | .gt => decide (y < x)
  | .le => decide (x ≤ y)
/-- a switch's keys and targets -/
def tsw (pc : Nat) : Nat → List Int → List (Int32 × Nat)
  | _, [] => []
  | k, o :: os => (Int32.ofNat k, ((pc : Int) + o).toNat) :: tsw pc (k + 1) os
def lsw (pc : Nat) : List (Int × Int) → List (Int32 × Nat)
  | [] => []
  | (k, o) :: os => (Int32.ofNat k.toNat, ((pc : Int) + o).toNat) :: lsw pc os
def act (pc : Nat) (e : mEnt) (ls : mLo) (st : mSt) (μ : mMu) : Option mAct :=
  match e with
  | (i, len, l1, l2, l3, l4) =>
  match i with
  | .iconst _ | .bipush _ | .sipush _ | .ldc _ | .ldc_w _ => aA (pc + len) ls (.int (cnI l1 l2) :: st)
  | .lconst _ => aA (pc + len) ls (.long (cnL l1 l2) :: st)
  | .ldc2_w _ => bif Nat.beq l3 0 then aA (pc + len) ls (.long (cnL l1 l2) :: st) else aA (pc + len) ls (.double (UInt64.ofNat l1) :: st)
  | .dconst _ => bif Nat.beq l1 0 then aA (pc + len) ls (.double FP.dconst0 :: st) else none
  | .aconst_null => aA (pc + len) ls (.null :: st)
  | .iload _ | .iload_n _ => match ls.getD l1 none with
    | some (.int x) => aA (pc + len) ls (.int x :: st)
    | _ => none
  | .lload _ | .lload_n _ => match ls.getD l1 none, ls.getD (l1 + 1) none with
    | some (.long x), none => aA (pc + len) ls (.long x :: st)
    | _, _ => none
  | .dload _ | .dload_n _ => match ls.getD l1 none, ls.getD (l1 + 1) none with
    | some (.double x), none => aA (pc + len) ls (.double x :: st)
    | _, _ => none
  | .aload _ | .aload_n _ => match ls.getD l1 none with
    | some (.ref x) => aA (pc + len) ls (.ref x :: st)
    | some (.null) => aA (pc + len) ls (.null :: st)
    | some (.retAddr x) => aA (pc + len) ls (.retAddr x :: st)
    | _ => none
  | .istore _ | .istore_n _ => match st with
    | .int x :: r => aA (pc + len) (st1 ls l1 (some (.int x))) r
    | _ => none
  | .lstore _ | .lstore_n _ => match st with
    | .long x :: r => aA (pc + len) (st2 ls l1 (some (.long x))) r
    | _ => none
  | .dstore _ | .dstore_n _ => match st with
    | .double x :: r => aA (pc + len) (st2 ls l1 (some (.double x))) r
    | _ => none
  | .astore _ | .astore_n _ => match st with
    | .ref x :: r => aA (pc + len) (st1 ls l1 (some (.ref x))) r
    | .null :: r => aA (pc + len) (st1 ls l1 (some .null)) r
    | _ => none
  | .iinc _ _ => match ls.getD l1 none with
    | some (.int x) => aA (pc + len) (st1 ls l1 (some (.int (x + cnI l2 l3)))) st
    | _ => none
  | .iadd => match st with
    | .int y :: .int x :: r => aA (pc + len) ls (.int (x + y) :: r)
    | _ => none
  | .isub => match st with
    | .int y :: .int x :: r => aA (pc + len) ls (.int (x - y) :: r)
    | _ => none
  | .imul => match st with
    | .int y :: .int x :: r => aA (pc + len) ls (.int (x * y) :: r)
    | _ => none
  | .iand => match st with
    | .int y :: .int x :: r => aA (pc + len) ls (.int (x &&& y) :: r)
    | _ => none
  | .ior => match st with
    | .int y :: .int x :: r => aA (pc + len) ls (.int (x ||| y) :: r)
    | _ => none
  | .ixor => match st with
    | .int y :: .int x :: r => aA (pc + len) ls (.int (x ^^^ y) :: r)
    | _ => none
  | .ishl => match st with
    | .int y :: .int x :: r => aA (pc + len) ls (.int (x <<< (y &&& 31)) :: r)
    | _ => none
  | .ishr => match st with
    | .int y :: .int x :: r => aA (pc + len) ls (.int (x >>> (y &&& 31)) :: r)
    | _ => none
  | .iushr => match st with
    | .int y :: .int x :: r => aA (pc + len) ls (.int (x.toUInt32 >>> (y.toUInt32 &&& Int32.toUInt32 31)).toInt32 :: r)
    | _ => none
  | .ladd => match st with
    | .long y :: .long x :: r => aA (pc + len) ls (.long (x + y) :: r)
    | _ => none
  | .lsub => match st with
    | .long y :: .long x :: r => aA (pc + len) ls (.long (x - y) :: r)
    | _ => none
  | .lmul => match st with
    | .long y :: .long x :: r => aA (pc + len) ls (.long (x * y) :: r)
    | _ => none
  | .lor => match st with
    | .long y :: .long x :: r => aA (pc + len) ls (.long (x ||| y) :: r)
    | _ => none
  | .lxor => match st with
    | .long y :: .long x :: r => aA (pc + len) ls (.long (x ^^^ y) :: r)
    | _ => none
  | .lneg => match st with
    | .long x :: r => aA (pc + len) ls (.long (-x) :: r)
    | _ => none
  | .ineg => match st with
    | .int x :: r => aA (pc + len) ls (.int (-x) :: r)
    | _ => none
  | .lshr => match st with
    | .int y :: .long x :: r => aA (pc + len) ls (.long (x >>> (y.toInt64 &&& 63)) :: r)
    | _ => none
  | .lushr => match st with
    | .int y :: .long x :: r => aA (pc + len) ls (.long (x.toUInt64 >>> (y.toInt64.toUInt64 &&& Int64.toUInt64 63)).toInt64 :: r)
    | _ => none
  | .i2l => match st with
    | .int x :: r => aA (pc + len) ls (.long x.toInt64 :: r)
    | _ => none
  | .l2i => match st with
    | .long x :: r => aA (pc + len) ls (.int x.toInt32 :: r)
    | _ => none
  | .l2d => match st with
    | .long x :: r => aA (pc + len) ls (.double (FP.l2d x) :: r)
    | _ => none
  | .lcmp => match st with
    | .long y :: .long x :: r => aA (pc + len) ls (.int (lg_cmp x y) :: r)
    | _ => none
  | .dcmp op => match st with
    | .double y :: .double x :: r => aA (pc + len) ls (.int (Op.cmpValue (FP.dcmp x y) op) :: r)
    | _ => none
  | .dup => match st with
    | .ref x :: r => aA (pc + len) ls (.ref x :: .ref x :: r)
    | .int x :: r => aA (pc + len) ls (.int x :: .int x :: r)
    | _ => none
  | .dup2 => match st with
    | .int y :: .ref x :: r => aA (pc + len) ls (.int y :: .ref x :: .int y :: .ref x :: r)
    | _ => none
  | .idiv => match st with
    | .int y :: .int x :: r => aC (qI (bif decide (y = 0) then none else some (x / y))) r
    | _ => none
  | .irem => match st with
    | .int y :: .int x :: r => aC (qI (bif decide (y = 0) then none else some (x - x / y * y))) r
    | _ => none
  | .ldiv => match st with
    | .long y :: .long x :: r => aC (qL (bif decide (y = 0) then none else some (x / y))) r
    | _ => none
  | .ddiv => match st with
    | .double y :: .double x :: r => aC (qD (bif decide (FP.ddiv x y &&& 0x7fffffffffffffff ≤ 0x7ff0000000000000) then some (FP.ddiv x y) else none)) r
    | _ => none
  | .goto _ => aA l1 ls st
  | .ifCond op _ => match st with
    | .int x :: r => aB (icm op x 0) l1 (pc + len) r
    | _ => none
  | .if_icmp op _ => match st with
    | .int y :: .int x :: r => aB (icm op x y) l1 (pc + len) r
    | _ => none
  | .ifnull _ => match st with
    | .ref _ :: r => aA (pc + len) ls r
    | .null :: r => aA l1 ls r
    | _ => none
  | .ifnonnull _ => match st with
    | .ref _ :: r => aA l1 ls r
    | .null :: r => aA (pc + len) ls r
    | _ => none
  | .tableswitch d _ _ offs => match st with
    | .int x :: r => aS (tsw pc 0 offs.toList) ((pc : Int) + d).toNat x r
    | _ => none
  | .lookupswitch d ps => match st with
    | .int x :: r => aS (lsw pc ps.toList) ((pc : Int) + d).toNat x r
    | _ => none
  | .arraylength => match st with
    | .ref a :: r => aC (qI (aln μ a)) r
    | .retAddr _ :: r => aC (qI (some (Int32.ofNat (mX μ).1))) r
    | _ => none
  | .iaload => match st with
    | .int j :: .ref a :: r => aC (qI (ldI μ a j)) r
    | .int j :: .retAddr _ :: r => aC (qI (ldX μ j)) r
    | _ => none
  | .laload => match st with
    | .int j :: .ref a :: r => aC (qL (ldL μ a j)) r
    | _ => none
  | .aaload => match st with
    | .int j :: .ref a :: r => aC (qR (ldR μ a j)) r
    | _ => none
  | .iastore => match st with
    | .int x :: .int j :: .ref a :: r => aD (stoI μ a j x) r
    | _ => none
  | .lastore => match st with
    | .long x :: .int j :: .ref a :: r => aD (stoL μ a j x) r
    | _ => none
  | .aastore => match st with
    | .ref x :: .int j :: .ref a :: r => aD (stoR μ a j x) r
    | _ => none
  | .getfield _ => match st with
    | .ref a :: r => match l3 with
      | 1 => aC (qL (gfL μ l1 a l2)) r
      | 2 => aC (qR (gfR μ l1 a l2)) r
      | 3 => aC (qN (gfN μ l1 a l2)) r
      | _ => aC (qI (gfI μ l1 a l2)) r
    | _ => none
  | .putfield _ => match st with
    | .int x :: .ref a :: r => match l3 with
      | 0 => aD (pfI μ l1 a l2 x) r
      | 4 => aD (pfZ μ l1 a l2 x) r
      | _ => none
    | .long x :: .ref a :: r => match l3 with
      | 1 => aD (pfL μ l1 a l2 x) r
      | _ => none
    | .ref x :: .ref a :: r => match l3 with
      | 2 => aD (pfR μ l1 a l2 x) r
      | 3 => aD (pfR μ l1 a l2 x) r
      | _ => none
    | _ => none
  | .new _ => match l3 with
    | 0 => aD (some (mNew μ (l1, 0) l4)) (.ref (mN μ) :: st)
    | _ => bif Nat.ble st.length 4 then aT l1 else none
  | .newarray _ => match st with
    | .int n :: r => aD (nwA μ l1 n) (.ref (mN μ) :: r)
    | _ => none
  | .anewarray _ => match st with
    | .int n :: r => aD (nwA μ l1 n) (.ref (mN μ) :: r)
    | _ => none
  | .invokespecial _ => match l3 with
    | 8 => match st with
      | .ref _ :: r => bif Nat.ble r.length 4 then aA (pc + len) ls r else none
      | _ => none
    | _ => bif Nat.ble l2 st.length then
      (match (st.take l2).reverse with
      | .ref a :: as => aE l1 (.ref a :: as) (st.drop l2) l4 true
      | _ => none) else none
  | .invokevirtual _ => bif Nat.ble l2 st.length then
      (match (st.take l2).reverse with
      | .ref a :: as => aE l1 (.ref a :: as) (st.drop l2) l4 (Nat.beq (mS μ a).1 l3)
      | _ => none) else none
  | .invokestatic _ => match l3 with
    | 9 => match st with
      | .int n :: .int dp :: .ref b :: .int sp :: .ref a :: r => bif Nat.ble r.length 4 then aD (cpA μ a sp b dp n) r else none
      | _ => none
    | _ => bif Nat.ble l2 st.length then aE l1 (st.take l2).reverse (st.drop l2) l4 true else none
  | .ireturn => match st with
    | [.int x] => aY (bif Nat.beq l1 1 then isZ x else true) (some (.int x))
    | _ => none
  | .lreturn => match st with
    | [.long x] => aY true (some (.long x))
    | _ => none
  | .dreturn => match st with
    | [.double x] => aY true (some (.double x))
    | _ => none
  | .areturn => match st with
    | [.ref x] => aY true (some (.ref x))
    | [.null] => aY true (some .null)
    | _ => none
  | .return_ => match st with
    | [] => aY true none
    | _ => none
  | _ => none

/-- what a call answers, handed on by its kind -/
def oI (o : mOut) (f : Int32 → mMu → mOut) (h : Nat → mMu → mOut) : mOut := match o with
  | some (.inl (some (.int x)), μ) => f x μ
  | some (.inr E, μ) => h E μ
  | _ => none
def oL (o : mOut) (f : Int64 → mMu → mOut) (h : Nat → mMu → mOut) : mOut := match o with
  | some (.inl (some (.long x)), μ) => f x μ
  | some (.inr E, μ) => h E μ
  | _ => none
def oD (o : mOut) (f : UInt64 → mMu → mOut) (h : Nat → mMu → mOut) : mOut := match o with
  | some (.inl (some (.double x)), μ) => f x μ
  | some (.inr E, μ) => h E μ
  | _ => none
def oV (o : mOut) (f : mMu → mOut) (h : Nat → mMu → mOut) : mOut := match o with
  | some (.inl none, μ) => f μ
  | some (.inr E, μ) => h E μ
  | _ => none
def oR (o : mOut) (f : Nat → mMu → mOut) (g : mMu → mOut) (h : Nat → mMu → mOut) : mOut := match o with
  | some (.inl (some (.ref x)), μ) => f x μ
  | some (.inl (some .null), μ) => g μ
  | some (.inr E, μ) => h E μ
  | _ => none
def pck (K : Nat → mOut) (d : Nat) (x : Int32) : List (Int32 × Nat) → mOut
  | [] => K d
  | (k, t) :: r => if x = k then K t else pck K d x r
/-- the handler of an exception number, by a method's table -/
def hsel (pc E : Nat) : List (Nat × Nat × Nat × Nat) → Option Nat
  | [] => none
  | (a, b, h, e) :: r => bif Nat.ble a pc && Nat.blt pc b && Nat.beq e E then some h else hsel pc E r
section MINI
variable (prog : Nat → Nat → Option mEnt) (hnd : Nat → List (Nat × Nat × Nat × Nat)) (mML : Nat → Nat)
def thN : Nat → mMu → mOut := fun E μ => some (.inr E, μ)
/-- an exception that comes to a method at pc -/
def thr (R : Nat → mLo → mSt → mMu → mOut) (k pc : Nat) (ls : mLo) (E : Nat) (μ : mMu) : mOut := match hsel pc E (hnd k) with
  | none => bif (hnd k).isEmpty then some (.inr E, μ) else none
  | some h => match prog k h with
    | some (.astore _, len, l1, _) => R (h + len) (ls.map fun _ => none) [] μ
    | some (.astore_n _, len, l1, _) => R (h + len) (ls.map fun _ => none) [] μ
    | _ => none
def exe (R : Nat → mLo → mSt → mMu → mOut) (F : Nat → List Value → mMu → mOut) (k pc : Nat) (len : Nat) (ls : mLo) (μ : mMu) : Option mAct → mOut
  | none => none
  | some (.inl (pc', ls', st')) => R pc' ls' st' μ
  | some (.inr (.inl (c, t, f, st'))) => if c = true then R t ls st' μ else R f ls st' μ
  | some (.inr (.inr (.inl (.inl o, st')))) => o.bind fun x => R (pc + len) ls (.int x :: st') μ
  | some (.inr (.inr (.inl (.inr (.inl o), st')))) => o.bind fun x => R (pc + len) ls (.long x :: st') μ
  | some (.inr (.inr (.inl (.inr (.inr (.inl o)), st')))) => o.bind fun x => R (pc + len) ls (.double x :: st') μ
  | some (.inr (.inr (.inl (.inr (.inr (.inr (.inl o))), st')))) => o.bind fun x => R (pc + len) ls (.ref x :: st') μ
  | some (.inr (.inr (.inl (.inr (.inr (.inr (.inr o))), st')))) => o.bind fun x => x.elim (R (pc + len) ls (.null :: st') μ) fun r => R (pc + len) ls (.ref r :: st') μ
  | some (.inr (.inr (.inr (.inl (o, st'))))) => o.bind fun μ' => R (pc + len) ls st' μ'
  | some (.inr (.inr (.inr (.inr (.inl (k', as, st', rc, ok)))))) => bif ok then bif Nat.ble st'.length 4 then
      (match rc with
      | 0 => oV (F k' as μ) (fun μ' => R (pc + len) ls st' μ') (thr prog hnd R k pc ls)
      | 1 => oI (F k' as μ) (fun x μ' => R (pc + len) ls (.int x :: st') μ') (thr prog hnd R k pc ls)
      | 2 => oL (F k' as μ) (fun x μ' => R (pc + len) ls (.long x :: st') μ') (thr prog hnd R k pc ls)
      | 3 => oD (F k' as μ) (fun x μ' => R (pc + len) ls (.double x :: st') μ') (thr prog hnd R k pc ls)
      | 4 => oR (F k' as μ) (fun x μ' => R (pc + len) ls (.ref x :: st') μ') (fun μ' => R (pc + len) ls (.null :: st') μ') (thr prog hnd R k pc ls)
      | _ => none) else none else none
  | some (.inr (.inr (.inr (.inr (.inr (.inl (ts, d, x, st'))))))) => pck (fun t => R t ls st' μ) d x ts
  | some (.inr (.inr (.inr (.inr (.inr (.inr (.inl (b, v)))))))) => if b = true then some (.inl v, μ) else none
  | some (.inr (.inr (.inr (.inr (.inr (.inr (.inr E))))))) => some (.inr E, mBurn μ 6)
def stp (R : Nat → mLo → mSt → mMu → mOut) (F : Nat → List Value → mMu → mOut) (k pc : Nat) (ls : mLo) (st : mSt) (μ : mMu) : mOut := match prog k pc with
  | none => none
  | some e => exe prog hnd R F k pc e.2.1 ls μ (act pc e ls st μ)
def xpd : List Value → mLo
  | [] => []
  | v :: r => bif isW (some v) then some v :: none :: xpd r else some v :: xpd r
def initL (n : Nat) (as : List Value) : mLo := xpd as ++ List.replicate (n - (xpd as).length) none
/-- a call's start, if its arguments have room -/
def cll (f : Nat → mLo → mOut) (k : Nat) (as : List Value) : mOut := bif Nat.ble (xpd as).length (mML k) then f k (initL (mML k) as) else none
theorem cll_imp {f g : Nat → mLo → mOut} {k : Nat} {as : List Value} {o : (Option Value ⊕ Nat) × mMu} (h : cll mML f k as = some o) (hi : ∀ k ls, f k ls = some o → g k ls = some o) : cll mML g k as = some o := by
  unfold cll at h ⊢
  cases hb : Nat.ble (xpd as).length (mML k) with
  | false => rw [hb] at h; cases h
  | true => rw [hb] at h; exact hi _ _ h
theorem cll_ex {f : Nat → mLo → mOut} {k : Nat} {as : List Value} {o : (Option Value ⊕ Nat) × mMu} (h : cll mML f k as = some o) : Nat.ble (xpd as).length (mML k) = true ∧ f k (initL (mML k) as) = some o := by
  unfold cll at h
  cases hb : Nat.ble (xpd as).length (mML k) with
  | false => rw [hb] at h; cases h
  | true => rw [hb] at h; exact ⟨rfl, h⟩
def run : Nat → Nat → Nat → mLo → mSt → mMu → mOut
  | 0, _, _, _, _, _ => none
  | n + 1, k, pc, ls, st, μ => stp prog hnd (run n k) (fun k' as μ' => cll mML (fun k ls => run n k 0 ls [] μ') k' as) k pc ls st μ
theorem pck_two {K : Nat → mOut} {d : Nat} {x : Int32} {r : (Option Value ⊕ Nat) × mMu} : ∀ (ts : List (Int32 × Nat)), pck K d x ts = some r → ∃ t, K t = some r ∧ ∀ K' : Nat → mOut, K' t = some r → pck K' d x ts = some r
  | [], h => ⟨d, h, fun _ h' => h'⟩
  | (k, t) :: ts, h => by
    by_cases hx : x = k
    · refine ⟨t, ?_, fun K' h' => ?_⟩
      · simpa [pck, hx] using h
      · simpa [pck, hx] using h'
    · obtain ⟨t', h1, h2⟩ := pck_two ts (by simpa [pck, hx] using h)
      exact ⟨t', h1, fun K' h' => by simpa [pck, hx] using h2 K' h'⟩
theorem thr_two {R : Nat → mLo → mSt → mMu → mOut} {k pc E : Nat} {ls : mLo} {μ : mMu} {r : (Option Value ⊕ Nat) × mMu} (h : thr prog hnd R k pc ls E μ = some r) :
    (∀ R', thr prog hnd R' k pc ls E μ = some r) ∨ (∃ p l s u, R p l s u = some r ∧ ∀ R' : Nat → mLo → mSt → mMu → mOut, R' p l s u = some r → thr prog hnd R' k pc ls E μ = some r) := by
  cases hh : hsel pc E (hnd k) with
  | none =>
    left
    intro R'
    unfold thr at h ⊢
    rw [hh] at h ⊢
    exact h
  | some hp =>
    cases hq : prog k hp with
    | none => simp [thr, hh, hq] at h
    | some e =>
      obtain ⟨i, len, l1, l2, l3, l4⟩ := e
      cases i
      case astore => exact Or.inr ⟨_, _, _, _, by simpa [thr, hh, hq] using h, fun R' h' => by simpa [thr, hh, hq] using h'⟩
      case astore_n => exact Or.inr ⟨_, _, _, _, by simpa [thr, hh, hq] using h, fun R' h' => by simpa [thr, hh, hq] using h'⟩
      all_goals (simp [thr, hh, hq] at h)
/-- one result says all that a step has used -/
theorem exe_two {R : Nat → mLo → mSt → mMu → mOut} {F : Nat → List Value → mMu → mOut} {k pc len : Nat} {ls : mLo} {μ : mMu} {a : Option mAct} {r : (Option Value ⊕ Nat) × mMu} (h : exe prog hnd R F k pc len ls μ a = some r) :
    (∀ R' F', exe prog hnd R' F' k pc len ls μ a = some r) ∨
    (∃ p l s u, R p l s u = some r ∧ ∀ R' F', R' p l s u = some r → exe prog hnd R' F' k pc len ls μ a = some r) ∨
    (∃ k' as u o, F k' as u = some o ∧ ∀ (R' : Nat → mLo → mSt → mMu → mOut) (F' : Nat → List Value → mMu → mOut), F' k' as u = some o → exe prog hnd R' F' k pc len ls μ a = some r) ∨
    (∃ k' as u o p l s u', F k' as u = some o ∧ R p l s u' = some r ∧ ∀ (R' : Nat → mLo → mSt → mMu → mOut) (F' : Nat → List Value → mMu → mOut), F' k' as u = some o → R' p l s u' = some r → exe prog hnd R' F' k pc len ls μ a = some r) := by
  rcases a with _ | (⟨pc', ls', st'⟩ | ⟨c, t, f, st'⟩ | ⟨(o | o | o | o | o), st'⟩ | ⟨o, st'⟩ | ⟨k', as, st', rc, ok⟩ | ⟨ts, d, x, st'⟩ | ⟨b, v⟩ | E)
  · cases h
  · exact Or.inr (Or.inl ⟨_, _, _, _, h, fun _ _ h' => h'⟩)
  · cases c
    · exact Or.inr (Or.inl ⟨_, _, _, _, h, fun _ _ h' => h'⟩)
    · exact Or.inr (Or.inl ⟨_, _, _, _, h, fun _ _ h' => h'⟩)
  · cases o with
    | none => cases h
    | some x => exact Or.inr (Or.inl ⟨_, _, _, _, h, fun _ _ h' => h'⟩)
  · cases o with
    | none => cases h
    | some x => exact Or.inr (Or.inl ⟨_, _, _, _, h, fun _ _ h' => h'⟩)
  · cases o with
    | none => cases h
    | some x => exact Or.inr (Or.inl ⟨_, _, _, _, h, fun _ _ h' => h'⟩)
  · cases o with
    | none => cases h
    | some x => exact Or.inr (Or.inl ⟨_, _, _, _, h, fun _ _ h' => h'⟩)
  · rcases o with _ | (_ | x)
    · cases h
    · exact Or.inr (Or.inl ⟨_, _, _, _, h, fun _ _ h' => h'⟩)
    · exact Or.inr (Or.inl ⟨_, _, _, _, h, fun _ _ h' => h'⟩)
  · cases o with
    | none => cases h
    | some x => exact Or.inr (Or.inl ⟨_, _, _, _, h, fun _ _ h' => h'⟩)
  · cases ok with
    | false => simp [exe] at h
    | true =>
    cases hl : Nat.ble st'.length 4 with
    | false => simp [exe, hl] at h
    | true =>
      cases hF : F k' as μ with
      | none =>
        rcases rc with _ | _ | _ | _ | _ | rc <;> simp [exe, hl, hF, oV, oI, oL, oD, oR] at h
      | some q =>
        obtain ⟨v, u⟩ := q
        rcases v with (v | E)
        · right; right; right
          rcases rc with _ | _ | _ | _ | _ | rc <;> rcases v with _ | v <;> (try cases v) <;> first
            | (simp [exe, hl, hF, oV, oI, oL, oD, oR] at h; done)
            | exact ⟨k', as, μ, _, _, _, _, _, hF, by simpa [exe, hl, hF, oV, oI, oL, oD, oR] using h, fun R' F' h1 h2 => by simpa [exe, hl, h1, oV, oI, oL, oD, oR] using h2⟩
        · have ht : rc < 5 ∧ thr prog hnd R k pc ls E u = some r := by
            rcases rc with _ | _ | _ | _ | _ | rc <;> simp [exe, hl, hF, oV, oI, oL, oD, oR] at h <;> exact ⟨by omega, h⟩
          have hb : ∀ (R' : Nat → mLo → mSt → mMu → mOut) (F' : Nat → List Value → mMu → mOut), F' k' as μ = some (.inr E, u) → thr prog hnd R' k pc ls E u = some r → exe prog hnd R' F' k pc len ls μ (some (.inr (.inr (.inr (.inr (.inl (k', as, st', rc, true))))))) = some r := by
            intro R' F' h1 h2
            obtain ⟨h3, -⟩ := ht
            rcases rc with _ | _ | _ | _ | _ | rc
            case succ.succ.succ.succ.succ => omega
            all_goals simpa [exe, hl, h1, oV, oI, oL, oD, oR] using h2
          rcases thr_two prog hnd ht.2 with h4 | ⟨p, l, s, u', h4, h5⟩
          · exact Or.inr (Or.inr (Or.inl ⟨k', as, μ, _, hF, fun R' F' h1 => hb R' F' h1 (h4 R')⟩))
          · exact Or.inr (Or.inr (Or.inr ⟨k', as, μ, _, _, _, _, _, hF, h4, fun R' F' h1 h2 => hb R' F' h1 (h5 R' h2)⟩))
  · obtain ⟨t, h1, h2⟩ := pck_two ts h
    exact Or.inr (Or.inl ⟨_, _, _, _, h1, fun R' _ h' => h2 (fun t => R' t ls st' μ) h'⟩)
  · exact Or.inl fun _ _ => h
  · exact Or.inl fun _ _ => h
theorem run_mono : ∀ (n : Nat) {k pc : Nat} {ls : mLo} {st : mSt} {μ : mMu} {r : (Option Value ⊕ Nat) × mMu}, run prog hnd mML n k pc ls st μ = some r → run prog hnd mML (n + 1) k pc ls st μ = some r
  | 0, _, _, _, _, _, _, h => by cases h
  | n + 1, k, pc, ls, st, μ, r, h => by
    unfold run stp at h ⊢
    cases hp : prog k pc with
    | none => rw [hp] at h; cases h
    | some e =>
      rw [hp] at h
      simp only at h ⊢
      rcases exe_two prog hnd h with h1 | ⟨p, l, s, u, h1, h2⟩ | ⟨k', as, u, o, h1, h2⟩ | ⟨k', as, u, o, p, l, s, u', h1, h2, h3⟩
      · exact h1 _ _
      · exact h2 _ _ (run_mono n h1)
      · exact h2 _ _ (cll_imp mML h1 (fun _ _ => run_mono n))
      · exact h3 _ _ (cll_imp mML h1 (fun _ _ => run_mono n)) (run_mono n h2)
theorem run_le {n m k pc : Nat} {ls : mLo} {st : mSt} {μ : mMu} {r : (Option Value ⊕ Nat) × mMu} (hl : n ≤ m) (h : run prog hnd mML n k pc ls st μ = some r) : run prog hnd mML m k pc ls st μ = some r := by
  induction m with
  | zero => rw [Nat.le_zero.mp hl] at h; exact h
  | succ m ih =>
    rcases Nat.lt_or_ge m n with h1 | h1
    · rw [show m + 1 = n by omega]; exact h
    · exact run_mono prog hnd mML m (ih h1)
/-- the run with as much fuel as it needs -/
noncomputable def Run (k pc : Nat) (ls : mLo) (st : mSt) (μ : mMu) : mOut := @dite mOut (∃ n, (run prog hnd mML n k pc ls st μ).isSome = true) (Classical.propDecidable _) (fun h => run prog hnd mML h.choose k pc ls st μ) (fun _ => none)
noncomputable def Call (k : Nat) (as : List Value) (μ : mMu) : mOut := cll mML (fun k ls => Run prog hnd mML k 0 ls [] μ) k as
theorem Run_of {n k pc : Nat} {ls : mLo} {st : mSt} {μ : mMu} {r : (Option Value ⊕ Nat) × mMu} (h : run prog hnd mML n k pc ls st μ = some r) : Run prog hnd mML k pc ls st μ = some r := by
  have hx : ∃ n, (run prog hnd mML n k pc ls st μ).isSome = true := ⟨n, by rw [h]; rfl⟩
  unfold Run
  rw [dif_pos hx]
  have h1 := hx.choose_spec
  obtain ⟨r', hr'⟩ := Option.isSome_iff_exists.mp h1
  rw [hr']
  rcases Nat.le_total n hx.choose with h2 | h2
  · rw [← hr', run_le prog hnd mML h2 h]
  · rw [← h, run_le prog hnd mML h2 hr']
theorem of_Run {k pc : Nat} {ls : mLo} {st : mSt} {μ : mMu} {r : (Option Value ⊕ Nat) × mMu} (h : Run prog hnd mML k pc ls st μ = some r) : ∃ n, run prog hnd mML n k pc ls st μ = some r := by
  unfold Run at h
  by_cases hx : ∃ n, (run prog hnd mML n k pc ls st μ).isSome = true
  · rw [dif_pos hx] at h
    exact ⟨_, h⟩
  · rw [dif_neg hx] at h
    cases h
theorem Run_eq (k pc : Nat) (ls : mLo) (st : mSt) (μ : mMu) : Run prog hnd mML k pc ls st μ = stp prog hnd (Run prog hnd mML k) (Call prog hnd mML) k pc ls st μ := by
  apply Option.ext
  intro r
  constructor
  · intro h
    obtain ⟨n, hn⟩ := of_Run prog hnd mML h
    cases n with
    | zero => cases hn
    | succ n =>
      unfold run stp at hn
      unfold stp
      cases hp : prog k pc with
      | none => rw [hp] at hn; cases hn
      | some e =>
        rw [hp] at hn
        simp only at hn ⊢
        rcases exe_two prog hnd hn with h1 | ⟨p, l, s, u, h1, h2⟩ | ⟨k', as, u, o, h1, h2⟩ | ⟨k', as, u, o, p, l, s, u', h1, h2, h3⟩
        · exact h1 _ _
        · exact h2 _ _ (Run_of prog hnd mML h1)
        · exact h2 _ _ (cll_imp mML h1 (fun _ _ => Run_of prog hnd mML))
        · exact h3 _ _ (cll_imp mML h1 (fun _ _ => Run_of prog hnd mML)) (Run_of prog hnd mML h2)
  · intro h
    unfold stp at h
    have key : ∃ n, run prog hnd mML (n + 1) k pc ls st μ = some r := by
      cases hp : prog k pc with
      | none => rw [hp] at h; cases h
      | some e =>
        rw [hp] at h
        simp only at h
        rcases exe_two prog hnd h with h1 | ⟨p, l, s, u, h1, h2⟩ | ⟨k', as, u, o, h1, h2⟩ | ⟨k', as, u, o, p, l, s, u', h1, h2, h3⟩
        · refine ⟨0, ?_⟩
          unfold run stp
          rw [hp]
          exact h1 _ _
        · obtain ⟨n, hn⟩ := of_Run prog hnd mML h1
          refine ⟨n, ?_⟩
          unfold run stp
          rw [hp]
          exact h2 _ _ hn
        · obtain ⟨hb, h5⟩ := cll_ex mML h1
          obtain ⟨n, hn⟩ := of_Run prog hnd mML h5
          refine ⟨n, ?_⟩
          unfold run stp
          rw [hp]
          refine h2 _ _ ?_
          unfold cll
          rw [hb]
          exact hn
        · obtain ⟨hb, h5⟩ := cll_ex mML h1
          obtain ⟨n, hn⟩ := of_Run prog hnd mML h5
          obtain ⟨n2, hn2⟩ := of_Run prog hnd mML h2
          refine ⟨max n n2, ?_⟩
          unfold run stp
          rw [hp]
          refine h3 _ _ ?_ (run_le prog hnd mML (Nat.le_max_right n n2) hn2)
          unfold cll
          rw [hb]
          exact run_le prog hnd mML (Nat.le_max_left n n2) hn
    obtain ⟨n, hn⟩ := key
    exact Run_of prog hnd mML hn
def memN : List Nat → Nat → Bool
  | [], _ => false
  | a :: l, b => bif Nat.beq a b then true else memN l b
/-- some steps at once, up to the places of cuts -/
def stpN (cuts : List Nat) (R : Nat → mLo → mSt → mMu → mOut) (F : Nat → List Value → mMu → mOut) (k : Nat) : Nat → Nat → mLo → mSt → mMu → mOut
  | 0, pc, ls, st, μ => R pc ls st μ
  | n + 1, pc, ls, st, μ => stp prog hnd (fun pc' ls' st' μ' => bif memN cuts pc' then R pc' ls' st' μ' else stpN cuts R F k n pc' ls' st' μ') F k pc ls st μ
theorem stpN_eq (cuts : List Nat) (k : Nat) : ∀ (n pc : Nat) (ls : mLo) (st : mSt) (μ : mMu), Run prog hnd mML k pc ls st μ = stpN prog hnd cuts (Run prog hnd mML k) (Call prog hnd mML) k n pc ls st μ
  | 0, _, _, _, _ => rfl
  | n + 1, pc, ls, st, μ => by
    rw [Run_eq]
    unfold stpN
    have he : (fun (pc' : Nat) (ls' : mLo) (st' : mSt) (μ' : mMu) => bif memN cuts pc' then Run prog hnd mML k pc' ls' st' μ' else stpN prog hnd cuts (Run prog hnd mML k) (Call prog hnd mML) k n pc' ls' st' μ') = Run prog hnd mML k := by
      funext pc' ls' st' μ'
      cases memN cuts pc' with
      | true => rfl
      | false => exact (stpN_eq cuts k n pc' ls' st' μ').symm
    rw [he]
end MINI
noncomputable abbrev RUN : Nat → Nat → mLo → mSt → mMu → mOut := Run prog hnd mML
noncomputable abbrev CALL : Nat → List Value → mMu → mOut := Call prog hnd mML
theorem blk (cuts : List Nat) (n k pc : Nat) (ls : mLo) (st : mSt) (μ : mMu) : RUN k pc ls st μ = stpN prog hnd cuts (RUN k) CALL k n pc ls st μ := stpN_eq prog hnd mML cuts k n pc ls st μ
