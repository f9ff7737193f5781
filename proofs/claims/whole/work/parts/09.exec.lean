/-! ===== a method's run: branches, calls, throws ===== -/
abbrev mOut : Type := Option Value ⊕ String
abbrev mRes : Type := mOut × mHX
/-- a method: name, bytes, locals, what it returns, its exception table, the classes that the table names, its instructions -/
abbrev mRec : Type := MethodName × ByteArray × Nat × Option FieldType × List (Nat × Nat × Nat × Nat) × List String × mCodeT
abbrev mrN (M : mRec) : MethodName := M.1
abbrev mrB (M : mRec) : ByteArray := M.2.1
abbrev mrL (M : mRec) : Nat := M.2.2.1
abbrev mrR (M : mRec) : Option FieldType := M.2.2.2.1
abbrev mrH (M : mRec) : List (Nat × Nat × Nat × Nat) := M.2.2.2.2.1
abbrev mrE (M : mRec) : List String := M.2.2.2.2.2.1
abbrev mrC (M : mRec) : mCodeT := M.2.2.2.2.2.2
/-! what needs more than the pool -/
def mCpy (pc : Nat) (lv : mLV) (st : List Value) (X : mHX) : mS1T := match st with
  | .int n :: .int dp :: .ref d :: .int sp :: .ref a :: t => if (mFz X = true ∧ (t.map fun v => v.category).sum ≤ 8) ∧ a < mN X ∧ d < mN X ∧ (mSh X a).1 = 100 ∧ (mSh X d).1 = 100 then
      some ((pc + 3, lv, t, mSetI X (mRow (mI X) d (va_cpy (mI X a) (mI X d) sp.toNatClampNeg dp.toNatClampNeg n.toNatClampNeg))), [¬ n < 0, ¬ sp < 0, ¬ dp < 0, sp.toNatClampNeg + n.toNatClampNeg ≤ (mSh X a).2, dp.toNatClampNeg + n.toNatClampNeg ≤ (mSh X d).2]) else none
  | _ => none
def mObj (pc : Nat) (lv : mLV) (st : List Value) (X : mHX) : mS1T := match st with
  | .ref _ :: t => if (t.map fun v => v.category).sum ≤ 8 then some ((pc + 3, lv, t, X), []) else none
  | _ => none
/-- Math.max, min, abs -/
def mMth (kd : Nat) (pc : Nat) (lv : mLV) (st : List Value) (X : mHX) : mS1T := match st with
  | .int y :: .int x :: t => if kd = 9010 ∧ (t.map fun v => v.category).sum ≤ 8 then some ((pc + 3, lv, .int (if x < y then y else x) :: t, X), []) else if kd = 9011 ∧ (t.map fun v => v.category).sum ≤ 8 then some ((pc + 3, lv, .int (if y < x then y else x) :: t, X), []) else none
  | _ => none
def mAbs (pc : Nat) (lv : mLV) (st : List Value) (X : mHX) : mS1T := match st with
  | .int x :: t => if (t.map fun v => v.category).sum ≤ 8 then some ((pc + 3, lv, .int (if 0 ≤ x then x else 0 - x) :: t, X), []) else none
  | _ => none
def mAald (pc : Nat) (lv : mLV) (st : List Value) (X : mHX) : mS1T := match st with
  | .int i :: .ref a :: t => if a < mN X ∧ (mSh X a).1 = 104 then some ((pc + 1, lv, va_rf (mP X a i.toNatClampNeg) :: t, X), [vp_in i (mSh X a).2]) else none
  | _ => none
/-! ===== the old world: what stood in the heap before: the enum's constants (1000000 + i), the array of them (1000100), the switch's map (1000101), the constants' letters (1000200 + i) and their bytes (1000300 + i) ===== -/
def oVal : List Int32 := [0, 0, 1, 0, 0, 0, 0, 0, 0, 0, 0, 0, 0, 0, 0, 0, 0, 2, 3, 4, 5, 6, 7, 8, 9]
def oRul : List Int32 := [0, 0, 3, 0, 0, 0, 0, 0, 0, 0, 0, 0, 0, 0, 0, 0, 3, 3, 3, 1, 2, 4, 4, 4, 4]
def oSwm : List Int32 := [0, 1, 2, 3, 4, 5, 6, 7, 8, 9, 10, 11, 0, 0, 0, 0, 0, 0, 0, 0, 0, 0, 0, 0, 0]
def oByt : List (List Int32) := [[112, 111, 111, 108], [100, 101, 101, 112], [103, 108, 97, 114, 101], [115, 119, 105, 109, 109, 101, 114], [99, 104, 97, 105, 114], [108, 111, 111, 107], [108, 97, 115, 116], [116, 105, 114, 101], [99, 97, 115, 101], [110, 101, 101, 100, 115], [116, 114, 111, 117, 98, 108, 101], [103, 97, 109, 101], [102, 117, 110], [111, 114], [97, 110, 100], [110, 111, 116], [100, 101, 112, 116, 104], [102, 97, 114], [99, 114, 111, 119, 100], [116, 105, 114, 101, 100], [115, 107, 105, 108, 108], [108, 101, 103, 115], [109, 111, 117, 116, 104], [119, 97, 118, 101, 115], [115, 99, 114, 101, 97, 109, 115]]
def oFk : Nat → String × String × String
  | 0 => ("java/lang/Enum", "ordinal", "I")
  | 1 => ("LaneEyes$Word", "value", "I")
  | 2 => ("LaneEyes$Word", "rules", "I")
  | 3 => ("LaneEyes$Word", "letters", "Ljava/lang/String;")
  | 4 => ("java/lang/String", "value", "[B")
  | _ => ("java/lang/String", "coder", "B")
def oEn (a : Nat) : Bool := Nat.ble 1000000 a && Nat.blt a 1000025
def oSt (a : Nat) : Bool := Nat.ble 1000200 a && Nat.blt a 1000225
def oF (f a : Nat) : Option Value := match f with
  | 0 => if oEn a = true then some (.int (Int32.ofNat (a - 1000000))) else none
  | 1 => if oEn a = true then some (.int (oVal.getD (a - 1000000) 0)) else none
  | 2 => if oEn a = true then some (.int (oRul.getD (a - 1000000) 0)) else none
  | 3 => if oEn a = true then some (.ref (a + 200)) else none
  | 4 => if oSt a = true then some (.ref (a + 100)) else none
  | _ => if oSt a = true then some (.int 0) else none
def oA (a : Nat) : Option (FieldType × Nat × (Nat → Value)) :=
  if a = 1000100 then some (.object "LaneEyes$Word", 25, fun j => .ref (1000000 + j))
  else if a = 1000101 then some (.int, 25, fun j => .int (oSwm.getD j 0))
  else if 1000300 ≤ a ∧ a < 1000325 then some (.byte, (oByt.getD (a - 1000300) []).length, fun j => .int ((oByt.getD (a - 1000300) []).getD j 0))
  else none
def oStat : List (String × String × String × Value) := [("LaneEyes$Word", "POOL", "LLaneEyes$Word;", .ref 1000000), ("LaneEyes$Word", "TROUBLE", "LLaneEyes$Word;", .ref 1000010), ("LaneEyes$Word", "FUN", "LLaneEyes$Word;", .ref 1000012), ("LaneEyes$Word", "OR", "LLaneEyes$Word;", .ref 1000013), ("LaneEyes$Word", "AND", "LLaneEyes$Word;", .ref 1000014), ("LaneEyes$Word", "NOT", "LLaneEyes$Word;", .ref 1000015), ("LaneEyes", "WORDS", "[LLaneEyes$Word;", .ref 1000100), ("LaneEyes$1", "$SwitchMap$LaneEyes$Word", "[I", .ref 1000101), ("java/lang/String", "COMPACT_STRINGS", "Z", .int 1), ("jdk/internal/util/Preconditions", "SIOOBE_FORMATTER", "Ljava/util/function/BiFunction;", .retAddr 0)]
def oOb (k b : Nat) : Bool := if k = 0 then oEn b else oSt b
def oCn (k : Nat) : String := if k = 0 then "LaneEyes$Word" else "java/lang/String"
abbrev oOrd : MethodName := ⟨"LaneEyes$Word", "ordinal", "()I"⟩
def mGst (k : Nat) (pc : Nat) (lv : mLV) (st : List Value) (X : mHX) : mS1T := match oStat[k]? with
  | some q => some ((pc + 3, lv, q.2.2.2 :: st, X), [])
  | none => none
def mGof (f : Nat) (pc : Nat) (lv : mLV) (st : List Value) (X : mHX) : mS1T := match st with
  | .ref a :: t => (match oF f a with
    | some v => some ((pc + 3, lv, v :: t, X), [])
    | none => none)
  | _ => none
def mOln (pc : Nat) (lv : mLV) (st : List Value) (X : mHX) : mS1T := match st with
  | .ref a :: t => if a = 2000000 then some ((pc + 1, lv, .int (Int32.ofNat (mSh X a).2) :: t, X), []) else (match oA a with
    | some q => some ((pc + 1, lv, .int (Int32.ofNat q.2.1) :: t, X), [])
    | none => none)
  | _ => none
def mOia (pc : Nat) (lv : mLV) (st : List Value) (X : mHX) : mS1T := match st with
  | .int i :: .ref a :: t => if a = 2000000 then some ((pc + 1, lv, .int (mI X a i.toNatClampNeg) :: t, X), [vp_in i (mSh X a).2]) else (match oA a with
    | some (.int, n, f) => some ((pc + 1, lv, f i.toNatClampNeg :: t, X), [vp_in i n])
    | _ => none)
  | _ => none
def mOba (pc : Nat) (lv : mLV) (st : List Value) (X : mHX) : mS1T := match st with
  | .int i :: .ref a :: t => (match oA a with
    | some (.byte, n, f) => some ((pc + 1, lv, f i.toNatClampNeg :: t, X), [vp_in i n])
    | _ => none)
  | _ => none
def mOaa (pc : Nat) (lv : mLV) (st : List Value) (X : mHX) : mS1T := match st with
  | .int i :: .ref a :: t => (match oA a with
    | some (.object _, n, f) => some ((pc + 1, lv, f i.toNatClampNeg :: t, X), [vp_in i n])
    | _ => none)
  | _ => none
def mAa2 (pc : Nat) (lv : mLV) (st : List Value) (X : mHX) : mS1T := match mAald pc lv st X with
  | some r => some r
  | none => mOaa pc lv st X
def mEo : Value → Option (Option Nat)
  | .null => some none
  | .ref a => if oEn a = true then some (some a) else none
  | _ => none
def mS2 (i : Instr) (rs : List Nat) : Nat → mLV → List Value → mHX → mS1T := match i with
  | .ldc _ => mPush 2 (.int (Int32.ofNat (rs.getD 0 0)))
  | .ldc_w _ => mPush 3 (.int (Int32.ofNat (rs.getD 0 0)))
  | .ldc2_w _ => mPush 3 (.long (Int64.ofNat (rs.getD 0 0)))
  | .aaload => mAa2
  | .getstatic _ => mGst (rs.getD 0 99)
  | .getfield _ => if rs.getD 0 0 = 900 then mGof (rs.getD 1 0) else fun _ _ _ _ => none
  | .arraylength => mOln
  | .iaload => mOia
  | .baload => mOba
  | .invokestatic _ => if rs.getD 0 0 = 9001 then mCpy else if rs.getD 0 0 = 9012 then mAbs else mMth (rs.getD 0 0)
  | .invokespecial _ => if rs.getD 0 0 = 9002 then mObj else fun _ _ _ _ => none
  | _ => fun _ _ _ _ => none
def mStr (nL : Nat) (i : Instr) (rs : List Nat) (pc : Nat) (lv : mLV) (st : List Value) (X : mHX) : mS1T := match mS1 nL i rs pc lv st X with
  | some r => some r
  | none => mS2 i rs pc lv st X
/-- a comparison -/
def mCmp (q : ClassFile.Cond) (x y : Int32) : Prop := match q with
  | .eq => x = y
  | .ne => ¬ x = y
  | .lt => x < y
  | .ge => y ≤ x
  | .gt => y < x
  | .le => x ≤ y
def mBrc (i : Instr) (st : List Value) : Option (Prop × Int × List Value) := match i with
  | .ifCond q off => (match st with
    | .int x :: t => some (mCmp q x 0, off, t)
    | _ => none)
  | .if_icmp q off => (match st with
    | .int y :: .int x :: t => some (mCmp q x y, off, t)
    | _ => none)
  | .if_acmp q off => (match st with
    | y :: x :: t => (match mEo x, mEo y with
      | some a, some b => (match q with
        | .eq => some (a = b, off, t)
        | .ne => some (¬ a = b, off, t))
      | _, _ => none)
    | _ => none)
  | _ => none
def mRet (ret : Option FieldType) (i : Instr) (st : List Value) : Option (Option Value × List Prop) := match i with
  | .ireturn => (match st with
    | [.int v] => if ret = some .int then some (some (.int v), []) else if ret = some .boolean then some (some (.int v), [v = 0 ∨ v = 1]) else if ret = some .byte then some (some (.int v), [narrow .byte (.int v) = .int v]) else if ret = some .char then some (some (.int v), [narrow .char (.int v) = .int v]) else none
    | _ => none)
  | .lreturn => (match st with
    | [.long v] => if ret = some .long then some (some (.long v), []) else none
    | _ => none)
  | .return_ => (match st with
    | [] => if ret = none then some (none, []) else none
    | _ => none)
  | .areturn => (match st, ret with
    | [.ref v], some (.object _) => some (some (.ref v), [])
    | _, _ => none)
  | _ => none
/-- a new cell -/
def mAdd (X : mHX) (kind len : Nat) (p : Nat → Option Nat) : mHX := (X.1, mNc X + 1, mNs X + len, mN X + 1, (fun k => if k = mN X then (kind, len) else mSh X k), mRow (mI X) (mN X) (fun _ => 0), mRow (mL X) (mN X) (fun _ => 0), mRow (mP X) (mN X) p)
def mAddN (X : mHX) (kind len : Nat) : Nat → mHX
  | 0 => X
  | n + 1 => mAdd (mAddN X kind len n) kind len (fun _ => none)
def mAlc (i : Instr) (rs : List Nat) (S : mSt) : mS1T := match i with
  | .new _ => if rs.getD 0 0 < 100 ∧ mFz S.2.2.2 = false then some ((S.1 + 3, S.2.1, .ref (mN S.2.2.2) :: S.2.2.1, mAdd S.2.2.2 (rs.getD 0 0) (rs.getD 1 0) (fun _ => none)), [mN S.2.2.2 < 1000000]) else none
  | .newarray _ => (match S.2.2.1 with
    | .int n :: t => if 100 ≤ rs.getD 0 0 ∧ rs.getD 0 0 < 104 ∧ mFz S.2.2.2 = false then some ((S.1 + 2, S.2.1, .ref (mN S.2.2.2) :: t, mAdd S.2.2.2 (rs.getD 0 0) n.toNatClampNeg (fun _ => none)), [¬ n < 0, n.toNatClampNeg ≤ 60000000, mN S.2.2.2 < 1000000]) else none
    | _ => none)
  | .multianewarray _ _ => (match S.2.2.1 with
    | .int k :: .int n :: t => if rs.getD 0 0 = 104 ∧ mFz S.2.2.2 = false then some ((S.1 + 4, S.2.1, .ref (mN S.2.2.2) :: t, mAddN (mAdd S.2.2.2 104 n.toNatClampNeg (fun j => if j < n.toNatClampNeg then some (mN S.2.2.2 + 1 + j) else none)) 100 k.toNatClampNeg n.toNatClampNeg), [¬ n < 0, ¬ k < 0, n.toNatClampNeg ≤ 60000000, k.toNatClampNeg ≤ 60000000, mN S.2.2.2 + (1 + n.toNatClampNeg) ≤ 1000000]) else none
    | _ => none)
  | _ => none
def mExN (e : Nat) : String := if e = 0 then "java/lang/IllegalArgumentException" else "java/util/NoSuchElementException"
def mThrX (X : mHX) : mHX := (X.1, mNc X + 1, mNs X + 6, X.2.2.2)
def mThr (i : Instr) (rs : List Nat) (st : List Value) (X : mHX) : Option (String × mHX) := match i with
  | .new _ => if rs.getD 0 0 = 777 ∧ mFz X = true ∧ (st.map fun v => v.category).sum ≤ 8 then some (mExN (rs.getD 1 0), mThrX X) else none
  | _ => none
/-- a call: whom, with what, what stays on the stack -/
def mInv (i : Instr) (rs : List Nat) (st : List Value) (X : mHX) : Option (Nat × List Value × List Value × Bool) := match i with
  | .invokestatic _ => if rs.getD 0 0 = 1 ∨ rs.getD 0 0 = 2 then (if rs.getD 2 0 ≤ st.length then some (rs.getD 1 0, (st.take (rs.getD 2 0)).reverse, st.drop (rs.getD 2 0), decide (rs.getD 0 0 = 1)) else none) else none
  | .invokevirtual _ => if rs.getD 0 0 = 0 then (if rs.getD 2 0 ≤ st.length then (match st.drop (rs.getD 2 0) with
    | .ref b :: t => if b < mN X ∧ (mSh X b).1 = rs.getD 3 0 then some (rs.getD 1 0, .ref b :: (st.take (rs.getD 2 0)).reverse, t, true) else none
    | _ => none) else none) else if rs.getD 0 0 = 5 then (if rs.getD 2 0 ≤ st.length then (match st.drop (rs.getD 2 0) with
    | .ref b :: t => if oOb (rs.getD 3 0) b = true then some (rs.getD 1 0, .ref b :: (st.take (rs.getD 2 0)).reverse, t, true) else none
    | _ => none) else none) else if rs.getD 0 0 = 6 then (match st with
    | .ref b :: t => if oEn b = true then some (rs.getD 1 0, [.ref b], t, false) else none
    | _ => none) else none
  | .invokespecial _ => if rs.getD 0 0 = 3 ∨ rs.getD 0 0 = 4 then (if rs.getD 2 0 ≤ st.length then (match st.drop (rs.getD 2 0) with
    | .ref b :: t => some (rs.getD 1 0, .ref b :: (st.take (rs.getD 2 0)).reverse, t, false)
    | _ => none) else none) else none
  | _ => none
/-- the handler of an exception of class E thrown at pc -/
def mHand (hh : List (Nat × Nat × Nat × Nat)) (hn : List String) (pc : Nat) (E : String) : Option Nat := match hh, hn with
  | h :: t, n :: ns => if h.1 ≤ pc ∧ pc < h.2.1 ∧ n = E then some h.2.2.1 else mHand t ns pc E
  | _, _ => none
def mAfter (M : mRec) (k : mSt → mRes → Prop) (S : mSt) (rest : List Value) (r1 r : mRes) : Prop := match r1.1 with
  | .inl v => k (S.1 + 3, S.2.1, v.toList ++ rest, r1.2) r
  | .inr E => (match mHand (mrH M) (mrE M) S.1 E with
    | none => mrH M = [] ∧ r = (.inr E, r1.2)
    | some h => (match mAt (mrC M) h with
      | some (.astore_n j, _) => (j : Nat) < mrL M ∧ k (h + 1, S.2.1.filter (mKeep1 j), [], r1.2) r
      | some (.astore j, _) => j < mrL M ∧ k (h + 2, S.2.1.filter (mKeep1 j), [], r1.2) r
      | _ => False))
def mStepR (call : Nat → List Value → mHX → mRes → Prop) (M : mRec) (k : mSt → mRes → Prop) (S : mSt) (r : mRes) : Prop := match mAt (mrC M) S.1 with
  | none => False
  | some (i, rs) => (match mStr (mrL M) i rs S.1 S.2.1 S.2.2.1 S.2.2.2 with
    | some (S', C) => mAll C ∧ k S' r
    | none => (match mBrc i S.2.2.1 with
      | some (q, off, t) => 0 ≤ (S.1 : Int) + off ∧ (q → k (mTo S.1 off, S.2.1, t, S.2.2.2) r) ∧ (¬ q → k (S.1 + 3, S.2.1, t, S.2.2.2) r)
      | none => (match mRet (mrR M) i S.2.2.1 with
        | some (v, C) => mAll C ∧ r = (.inl v, S.2.2.2)
        | none => (match mAlc i rs S with
          | some (S', C) => mAll C ∧ k S' r
          | none => (match mThr i rs S.2.2.1 S.2.2.2 with
            | some (E, X') => mrH M = [] ∧ r = (.inr E, X')
            | none => (match mInv i rs S.2.2.1 S.2.2.2 with
              | some (y, args, rest, fl) => (rest.map fun v => v.category).sum ≤ 8 ∧ ∃ r1 : mRes, call y args S.2.2.2 r1 ∧ (fl = true ∨ ∃ v, r1.1 = .inl v) ∧ mAfter M k S rest r1 r
              | none => False))))))
def mEx (call : Nat → List Value → mHX → mRes → Prop) (M : mRec) : Nat → mSt → mRes → Prop
  | 0 => fun _ _ => False
  | f + 1 => mStepR call M (mEx call M f)
/-- method y, called with these arguments, depth at most d -/
def mRun (tab : Nat → Option mRec) : Nat → Nat → List Value → mHX → mRes → Prop
  | 0 => fun _ _ _ _ => False
  | d + 1 => fun y args X r => ∃ M : mRec, tab y = some M ∧ (lg_sl args).length ≤ mrL M ∧ ∃ f : Nat, mEx (mRun tab d) M f (0, lv_args 0 args, [], X) r
