/-! ===== THE SMALL MACHINE: values as the JVM's, but a reference is the number of a cell of the pool (0, 1, 2 .. in the order in which they were made; from 1000000 on: what stood there before) ===== -/
abbrev mLV : Type := List (Nat × Value)
/-- the pool: frozen or not, cells and slots made so far, how many cells, what each is (kind, length), its ints, longs, references -/
abbrev mHX : Type := Bool × Nat × Nat × Nat × (Nat → Nat × Nat) × (Nat → Nat → Int32) × (Nat → Nat → Int64) × (Nat → Nat → Option Nat)
abbrev mFz (X : mHX) : Bool := X.1
abbrev mNc (X : mHX) : Nat := X.2.1
abbrev mNs (X : mHX) : Nat := X.2.2.1
abbrev mN (X : mHX) : Nat := X.2.2.2.1
abbrev mSh (X : mHX) : Nat → Nat × Nat := X.2.2.2.2.1
abbrev mI (X : mHX) : Nat → Nat → Int32 := X.2.2.2.2.2.1
abbrev mL (X : mHX) : Nat → Nat → Int64 := X.2.2.2.2.2.2.1
abbrev mP (X : mHX) : Nat → Nat → Option Nat := X.2.2.2.2.2.2.2
/-- one place of a table -/
def mUp {α : Type} (f : Nat → Nat → α) (a j : Nat) (v : α) : Nat → Nat → α := fun k => if k = a then (fun i => if i = j then v else f a i) else f k
def mRow {α : Type} (f : Nat → Nat → α) (a : Nat) (g : Nat → α) : Nat → Nat → α := fun k => if k = a then g else f k
abbrev mSetI (X : mHX) (f : Nat → Nat → Int32) : mHX := (X.1, X.2.1, X.2.2.1, X.2.2.2.1, X.2.2.2.2.1, f, X.2.2.2.2.2.2.1, X.2.2.2.2.2.2.2)
abbrev mSetL (X : mHX) (f : Nat → Nat → Int64) : mHX := (X.1, X.2.1, X.2.2.1, X.2.2.2.1, X.2.2.2.2.1, X.2.2.2.2.2.1, f, X.2.2.2.2.2.2.2)
abbrev mSetP (X : mHX) (f : Nat → Nat → Option Nat) : mHX := (X.1, X.2.1, X.2.2.1, X.2.2.2.1, X.2.2.2.2.1, X.2.2.2.2.2.1, X.2.2.2.2.2.2.1, f)
def mAll : List Prop → Prop
  | [] => True
  | p :: t => p ∧ mAll t
/-- a state within a method: place, locals, stack, pool -/
abbrev mSt : Type := Nat × mLV × List Value × mHX
abbrev mS1T : Type := Option (mSt × List Prop)
abbrev mIns : Type := Instr × List Nat
abbrev mCodeT : Type := List (Nat × mIns)
def mAt (c : mCodeT) (pc : Nat) : Option mIns := match c with
  | [] => none
  | e :: t => if e.1 = pc then some e.2 else mAt t pc
def mGet (lv : mLV) (i : Nat) : Option Value := match lv with
  | [] => none
  | e :: t => if e.1 = i then some e.2 else mGet t i
/-- the kinds of the fields: of class number c of the list, field j -/
def mTy (c : Nat) : Nat → FieldType := match c with
  | 0 => tyX1
  | 1 => tyX2
  | 2 => tyX3
  | 3 => tyX4
  | 4 => tyX5
  | 5 => tyX6
  | 6 => tyX7
  | 7 => tyX8
  | 8 => tyX9
  | 9 => tyX11
  | _ => tyX12
abbrev mCl : List vw_C := [(RX1, TX1, 12), (RX2, TX2, 3), (RX3, TX3, 11), (RX4, TX4, 14), (RX5, TX5, 7), (RX6, TX6, 6), (RX7, TX7, 8), (RX8, TX8, 10), (RX9, TX9, 6), (RX11, TX11, 16), (RX12, TX12, 87)]
/-! one instruction after another: what they do, and what must hold there -/
abbrev mPush (n : Nat) (v : Value) (pc : Nat) (lv : mLV) (st : List Value) (X : mHX) : mS1T := some ((pc + n, lv, v :: st, X), [])
def mIsI : Value → Bool
  | .int _ => true
  | _ => false
def mIsL : Value → Bool
  | .long _ => true
  | _ => false
def mIsA : Value → Bool
  | .ref _ => true
  | .null => true
  | _ => false
def mLoad (kd : Value → Bool) (n i : Nat) (pc : Nat) (lv : mLV) (st : List Value) (X : mHX) : mS1T := match mGet lv i with
  | some v => if kd v = true then some ((pc + n, lv, v :: st, X), []) else none
  | none => none
def mKeep1 (i : Nat) : Nat × Value → Bool := fun q => !(q.1 == i) && !(q.1 + 1 == i && q.2.category == 2)
def mKeep2 (i : Nat) : Nat × Value → Bool := fun q => !(q.1 == i) && (!(q.1 == i + 1) && !(q.1 + 1 == i && q.2.category == 2))
def mIst (n i nL : Nat) (pc : Nat) (lv : mLV) (st : List Value) (X : mHX) : mS1T := match st with
  | .int x :: t => if i < nL then some ((pc + n, (i, .int x) :: lv.filter (mKeep1 i), t, X), []) else none
  | _ => none
def mAst (n i nL : Nat) (pc : Nat) (lv : mLV) (st : List Value) (X : mHX) : mS1T := match st with
  | .ref x :: t => if i < nL then some ((pc + n, (i, .ref x) :: lv.filter (mKeep1 i), t, X), []) else none
  | .null :: t => if i < nL then some ((pc + n, (i, .null) :: lv.filter (mKeep1 i), t, X), []) else none
  | _ => none
def mLst (n i nL : Nat) (pc : Nat) (lv : mLV) (st : List Value) (X : mHX) : mS1T := match st with
  | .long x :: t => if i + 1 < nL then some ((pc + n, (i, .long x) :: lv.filter (mKeep2 i), t, X), []) else none
  | _ => none
def mI2 (f : Int32 → Int32 → Int32) (pc : Nat) (lv : mLV) (st : List Value) (X : mHX) : mS1T := match st with
  | .int y :: .int x :: t => some ((pc + 1, lv, .int (f x y) :: t, X), [])
  | _ => none
def mI2n (f : Int32 → Int32 → Int32) (pc : Nat) (lv : mLV) (st : List Value) (X : mHX) : mS1T := match st with
  | .int y :: .int x :: t => some ((pc + 1, lv, .int (f x y) :: t, X), [¬ y = 0])
  | _ => none
def mL2 (f : Int64 → Int64 → Int64) (pc : Nat) (lv : mLV) (st : List Value) (X : mHX) : mS1T := match st with
  | .long y :: .long x :: t => some ((pc + 1, lv, .long (f x y) :: t, X), [])
  | _ => none
def mLS (f : Int64 → Int32 → Int64) (pc : Nat) (lv : mLV) (st : List Value) (X : mHX) : mS1T := match st with
  | .int y :: .long x :: t => some ((pc + 1, lv, .long (f x y) :: t, X), [])
  | _ => none
def mI1 (f : Int32 → Int32) (pc : Nat) (lv : mLV) (st : List Value) (X : mHX) : mS1T := match st with
  | .int x :: t => some ((pc + 1, lv, .int (f x) :: t, X), [])
  | _ => none
def mI2L (pc : Nat) (lv : mLV) (st : List Value) (X : mHX) : mS1T := match st with
  | .int x :: t => some ((pc + 1, lv, .long x.toInt64 :: t, X), [])
  | _ => none
def mL2I (pc : Nat) (lv : mLV) (st : List Value) (X : mHX) : mS1T := match st with
  | .long x :: t => some ((pc + 1, lv, .int x.toInt32 :: t, X), [])
  | _ => none
def mLcmp (pc : Nat) (lv : mLV) (st : List Value) (X : mHX) : mS1T := match st with
  | .long y :: .long x :: t => some ((pc + 1, lv, .int (lg_cmp x y) :: t, X), [])
  | _ => none
def mDup (pc : Nat) (lv : mLV) (st : List Value) (X : mHX) : mS1T := match st with
  | v :: t => if v.category = 1 then some ((pc + 1, lv, v :: v :: t, X), []) else none
  | _ => none
def mPop (pc : Nat) (lv : mLV) (st : List Value) (X : mHX) : mS1T := match st with
  | v :: t => if v.category = 1 then some ((pc + 1, lv, t, X), []) else none
  | _ => none
def mDup2 (pc : Nat) (lv : mLV) (st : List Value) (X : mHX) : mS1T := match st with
  | v :: w :: t => if v.category = 1 ∧ w.category = 1 then some ((pc + 1, lv, v :: w :: v :: w :: t, X), []) else none
  | _ => none
def mIinc (i nL : Nat) (n : Int) (pc : Nat) (lv : mLV) (st : List Value) (X : mHX) : mS1T := match mGet lv i with
  | some (.int x) => if i < nL then some ((pc + 3, (i, .int (x + Int32.ofInt n)) :: lv.filter (mKeep1 i), st, X), []) else none
  | _ => none
/-- a jump's end -/
def mTo (pc : Nat) (off : Int) : Nat := ((pc : Int) + off).toNat
def mGoto (off : Int) (pc : Nat) (lv : mLV) (st : List Value) (X : mHX) : mS1T := if 0 ≤ (pc : Int) + off then some ((mTo pc off, lv, st, X), []) else none
def mIfnull (off : Int) (pc : Nat) (lv : mLV) (st : List Value) (X : mHX) : mS1T := match st with
  | .null :: t => if 0 ≤ (pc : Int) + off then some ((mTo pc off, lv, t, X), []) else none
  | .ref _ :: t => some ((pc + 3, lv, t, X), [])
  | _ => none
def mIfnonnull (off : Int) (pc : Nat) (lv : mLV) (st : List Value) (X : mHX) : mS1T := match st with
  | .ref _ :: t => if 0 ≤ (pc : Int) + off then some ((mTo pc off, lv, t, X), []) else none
  | .null :: t => some ((pc + 3, lv, t, X), [])
  | _ => none
/-- a field of an object of class ci -/
def mFld (X : mHX) (a j : Nat) (ty : FieldType) : Value := match ty with
  | .long => .long (mL X a j)
  | .object _ => va_rf (mP X a j)
  | .array _ => va_rf (mP X a j)
  | _ => .int (mI X a j)
def mGetf (ci j : Nat) (pc : Nat) (lv : mLV) (st : List Value) (X : mHX) : mS1T := match st with
  | .ref a :: t => if a < mN X ∧ (mSh X a).1 = ci ∧ j < (mSh X a).2 then some ((pc + 3, lv, mFld X a j (mTy ci j) :: t, X), []) else none
  | _ => none
def mPutv (X : mHX) (a j : Nat) (ty : FieldType) (v : Value) : Option (mHX × List Prop) := match ty, v with
  | .int, .int x => some (mSetI X (mUp (mI X) a j x), [])
  | .boolean, .int x => some (mSetI X (mUp (mI X) a j x), [x = 0 ∨ x = 1])
  | .long, .long x => some (mSetL X (mUp (mL X) a j x), [])
  | .object _, .ref x => some (mSetP X (mUp (mP X) a j (some x)), [])
  | .object _, .null => some (mSetP X (mUp (mP X) a j none), [])
  | .array _, .ref x => some (mSetP X (mUp (mP X) a j (some x)), [])
  | _, _ => none
def mPutf (ci j : Nat) (pc : Nat) (lv : mLV) (st : List Value) (X : mHX) : mS1T := match st with
  | v :: .ref a :: t => if a < mN X ∧ (mSh X a).1 = ci ∧ j < (mSh X a).2 then (match mPutv X a j (mTy ci j) v with
    | some (X', C) => some ((pc + 3, lv, t, X'), C)
    | none => none) else none
  | _ => none
/-! arrays: kinds 100 int, 101 byte, 102 boolean, 103 long, 104 int[] -/
def mIald (pc : Nat) (lv : mLV) (st : List Value) (X : mHX) : mS1T := match st with
  | .int i :: .ref a :: t => if a < mN X ∧ (mSh X a).1 = 100 then some ((pc + 1, lv, .int (mI X a i.toNatClampNeg) :: t, X), [vp_in i (mSh X a).2]) else none
  | _ => none
def mBald (pc : Nat) (lv : mLV) (st : List Value) (X : mHX) : mS1T := match st with
  | .int i :: .ref a :: t => if a < mN X ∧ ((mSh X a).1 = 101 ∨ (mSh X a).1 = 102) then some ((pc + 1, lv, .int (mI X a i.toNatClampNeg) :: t, X), [vp_in i (mSh X a).2]) else none
  | _ => none
def mLald (pc : Nat) (lv : mLV) (st : List Value) (X : mHX) : mS1T := match st with
  | .int i :: .ref a :: t => if a < mN X ∧ (mSh X a).1 = 103 then some ((pc + 1, lv, .long (mL X a i.toNatClampNeg) :: t, X), [vp_in i (mSh X a).2]) else none
  | _ => none
def mIast2 (pc : Nat) (lv : mLV) (st : List Value) (X : mHX) : mS1T := match st with
  | .int x :: .int i :: .ref a :: t => if a < mN X ∧ (mSh X a).1 = 100 then some ((pc + 1, lv, t, mSetI X (mUp (mI X) a i.toNatClampNeg x)), [vp_in i (mSh X a).2]) else none
  | _ => none
def mBast (pc : Nat) (lv : mLV) (st : List Value) (X : mHX) : mS1T := match st with
  | .int x :: .int i :: .ref a :: t => if a < mN X ∧ (mSh X a).1 = 101 then some ((pc + 1, lv, t, mSetI X (mUp (mI X) a i.toNatClampNeg (vp_nar .byte x))), [vp_in i (mSh X a).2])
      else if a < mN X ∧ (mSh X a).1 = 102 then some ((pc + 1, lv, t, mSetI X (mUp (mI X) a i.toNatClampNeg (vp_nar .boolean x))), [vp_in i (mSh X a).2]) else none
  | _ => none
def mLast2 (pc : Nat) (lv : mLV) (st : List Value) (X : mHX) : mS1T := match st with
  | .long x :: .int i :: .ref a :: t => if a < mN X ∧ (mSh X a).1 = 103 then some ((pc + 1, lv, t, mSetL X (mUp (mL X) a i.toNatClampNeg x)), [vp_in i (mSh X a).2]) else none
  | _ => none
def mAlen (pc : Nat) (lv : mLV) (st : List Value) (X : mHX) : mS1T := match st with
  | .ref a :: t => if a < mN X ∧ 100 ≤ (mSh X a).1 ∧ (mSh X a).1 ≤ 104 then some ((pc + 1, lv, .int (Int32.ofNat (mSh X a).2) :: t, X), []) else none
  | _ => none
/-- where a switch goes -/
def mTsw (dflt lo hi : Int) (offs : Array Int) (x : Int32) : Int := if x.toInt < lo ∨ hi < x.toInt then dflt else offs.toList.getD (x.toInt - lo).toNat 0
def mTswitch (dflt lo hi : Int) (offs : Array Int) (pc : Nat) (lv : mLV) (st : List Value) (X : mHX) : mS1T := match st with
  | .int x :: t => some ((mTo pc (mTsw dflt lo hi offs x), lv, t, X), [0 ≤ (pc : Int) + mTsw dflt lo hi offs x, (x.toInt - lo).toNat < offs.size ∨ x.toInt < lo ∨ hi < x.toInt])
  | _ => none
def mLswitch (dflt : Int) (ps : Array (Int × Int)) (pc : Nat) (lv : mLV) (st : List Value) (X : mHX) : mS1T := match st with
  | .int x :: t => if (ps.toList.zip (ps.toList.drop 1)).all (fun (a, next) => a.1 < next.1) = true then some ((mTo pc (Op.lookupswitch.offset ps.toList dflt x.toInt), lv, t, X), [0 ≤ (pc : Int) + Op.lookupswitch.offset ps.toList dflt x.toInt]) else none
  | _ => none
/-- the straight instructions -/
def mS1 (nL : Nat) (i : Instr) (rs : List Nat) : Nat → mLV → List Value → mHX → mS1T := match i with
  | .iconst n => mPush 1 (.int (Int32.ofInt n))
  | .bipush n => mPush 2 (.int (Int8.ofInt n).toInt32)
  | .sipush n => mPush 3 (.int (Int16.ofInt n).toInt32)
  | .lconst n => mPush 1 (.long (Int64.ofNat (n : Nat)))
  | .aconst_null => mPush 1 .null
  | .iload_n k => mLoad mIsI 1 k
  | .iload k => mLoad mIsI 2 k
  | .lload_n k => mLoad mIsL 1 k
  | .lload k => mLoad mIsL 2 k
  | .aload_n k => mLoad mIsA 1 k
  | .aload k => mLoad mIsA 2 k
  | .istore_n k => mIst 1 k nL
  | .istore k => mIst 2 k nL
  | .lstore_n k => mLst 1 k nL
  | .lstore k => mLst 2 k nL
  | .astore_n k => mAst 1 k nL
  | .astore k => mAst 2 k nL
  | .iadd => mI2 (fun x y => x + y)
  | .isub => mI2 (fun x y => x - y)
  | .imul => mI2 (fun x y => x * y)
  | .iand => mI2 (fun x y => x &&& y)
  | .ior => mI2 (fun x y => x ||| y)
  | .ixor => mI2 (fun x y => x ^^^ y)
  | .ishl => mI2 (fun x y => x <<< (y &&& 31))
  | .ishr => mI2 (fun x y => x >>> (y &&& 31))
  | .iushr => mI2 (fun x y => (x.toUInt32 >>> (y.toUInt32 &&& Int32.toUInt32 31)).toInt32)
  | .idiv => mI2n (fun x y => x / y)
  | .irem => mI2n (fun x y => x - x / y * y)
  | .ineg => mI1 (fun x => -x)
  | .i2b => mI1 (fun x => x.toInt8.toInt32)
  | .i2c => mI1 (fun x => (x.toUInt32 % 65536).toInt32)
  | .i2l => mI2L
  | .l2i => mL2I
  | .ladd => mL2 (fun x y => x + y)
  | .lsub => mL2 (fun x y => x - y)
  | .land => mL2 (fun x y => x &&& y)
  | .lor => mL2 (fun x y => x ||| y)
  | .lshl => mLS (fun x y => x <<< (y.toInt64 &&& 63))
  | .lshr => mLS (fun x y => x >>> (y.toInt64 &&& 63))
  | .lushr => mLS (fun x y => (x.toUInt64 >>> (y.toInt64.toUInt64 &&& Int64.toUInt64 63)).toInt64)
  | .lcmp => mLcmp
  | .dup => mDup
  | .pop => mPop
  | .dup2 => mDup2
  | .iinc k n => mIinc k nL n
  | .goto off => mGoto off
  | .ifnull off => mIfnull off
  | .ifnonnull off => mIfnonnull off
  | .iaload => mIald
  | .baload => mBald
  | .laload => mLald
  | .iastore => mIast2
  | .bastore => mBast
  | .lastore => mLast2
  | .arraylength => mAlen
  | .tableswitch d lo hi offs => mTswitch d lo hi offs
  | .lookupswitch d ps => mLswitch d ps
  | .getfield _ => if rs.getD 0 0 = 900 then (fun _ _ _ _ => none) else mGetf (rs.getD 0 0) (rs.getD 1 0)
  | .putfield _ => mPutf (rs.getD 0 0) (rs.getD 1 0)
  | _ => fun _ _ _ _ => none
