/-! ===== THE BEGINNING: the run of both constructors ===== -/
abbrev zT : Type := Nat × mLV × List Value × zP
def zFld (z : zP) (a j : Nat) (ty : FieldType) : Value := match ty with
  | .long => .long (lkp 0 a j z.2.2.2.2.1)
  | .object _ => va_rf (lkp none a j z.2.2.2.2.2)
  | .array _ => va_rf (lkp none a j z.2.2.2.2.2)
  | _ => .int (lkp 0 a j z.2.2.2.1)
/-- one straight instruction -/
def zS (nL : Nat) (i : Instr) (rs : List Nat) (pc : Nat) (lv : mLV) (st : List Value) (z : zP) : Option zT := match i with
  | .iconst n => some (pc + 1, lv, .int (Int32.ofInt n) :: st, z)
  | .bipush n => some (pc + 2, lv, .int (Int8.ofInt n).toInt32 :: st, z)
  | .sipush n => some (pc + 3, lv, .int (Int16.ofInt n).toInt32 :: st, z)
  | .lconst n => some (pc + 1, lv, .long (Int64.ofNat (n : Nat)) :: st, z)
  | .aconst_null => some (pc + 1, lv, .null :: st, z)
  | .iload_n k => (match mGet lv k with
    | some v => if mIsI v = true then some (pc + 1, lv, v :: st, z) else none
    | none => none)
  | .aload_n k => (match mGet lv k with
    | some v => if mIsA v = true then some (pc + 1, lv, v :: st, z) else none
    | none => none)
  | .istore_n k => (match st with
    | .int x :: t => if (k : Nat) < nL then some (pc + 1, ((k : Nat), .int x) :: lv.filter (mKeep1 k), t, z) else none
    | _ => none)
  | .istore k => (match st with
    | .int x :: t => if k < nL then some (pc + 2, (k, .int x) :: lv.filter (mKeep1 k), t, z) else none
    | _ => none)
  | .astore_n k => (match st with
    | .ref x :: t => if (k : Nat) < nL then some (pc + 1, ((k : Nat), .ref x) :: lv.filter (mKeep1 k), t, z) else none
    | _ => none)
  | .dup => (match st with
    | v :: t => if v.category = 1 then some (pc + 1, lv, v :: v :: t, z) else none
    | _ => none)
  | .iinc k n => (match mGet lv k with
    | some (.int x) => if k < nL then some (pc + 3, (k, .int (x + Int32.ofInt n)) :: lv.filter (mKeep1 k), st, z) else none
    | _ => none)
  | .goto off => if 0 ≤ (pc : Int) + off then some (mTo pc off, lv, st, z) else none
  | .arraylength => (match st with
    | .ref a :: t => if a < zN z ∧ 100 ≤ (zSh z a).1 ∧ (zSh z a).1 ≤ 104 then some (pc + 1, lv, .int (Int32.ofNat (zSh z a).2) :: t, z) else none
    | _ => none)
  | .getfield _ => if rs.getD 0 0 = 900 then none else (match st with
    | .ref a :: t => if a < zN z ∧ (zSh z a).1 = rs.getD 0 0 ∧ rs.getD 1 0 < (zSh z a).2 then some (pc + 3, lv, zFld z a (rs.getD 1 0) (mTy (rs.getD 0 0) (rs.getD 1 0)) :: t, z) else none
    | _ => none)
  | .putfield _ => (match st with
    | v :: .ref a :: t => if a < zN z ∧ (zSh z a).1 = rs.getD 0 0 ∧ rs.getD 1 0 < (zSh z a).2 then (match zPut z a (rs.getD 1 0) (mTy (rs.getD 0 0) (rs.getD 1 0)) v with
      | some z' => some (pc + 3, lv, t, z')
      | none => none) else none
    | _ => none)
  | .iastore => (match st with
    | .int x :: .int k :: .ref a :: t => if a < zN z ∧ (zSh z a).1 = 100 ∧ nG k (zSh z a).2 = true then some (pc + 1, lv, t, (z.1, z.2.1, z.2.2.1, (a, k.toNatClampNeg, x) :: z.2.2.2.1, z.2.2.2.2.1, z.2.2.2.2.2)) else none
    | _ => none)
  | .invokespecial _ => if rs.getD 0 0 = 9002 then (match st with
    | .ref _ :: t => if (t.map fun v => v.category).sum ≤ 8 then some (pc + 3, lv, t, z) else none
    | _ => none) else none
  | _ => none
section ZRUN
variable {L : Nat} {xs : Nat → Int32}
theorem zS_ok {nL : Nat} {i : Instr} {rs : List Nat} {pc : Nat} {lv : mLV} {st : List Value} {z : zP} {T : zT} (hz : zOk z) (h : zS nL i rs pc lv st z = some T) : zOk T.2.2.2 ∧ ∃ C, mStr nL i rs pc lv st (dX L xs z) = some ((T.1, T.2.1, T.2.2.1, dX L xs T.2.2.2), C) ∧ mAll C := by
  cases i <;> simp only [zS] at h
  all_goals try (cases h; done)
  case iconst n => cases h; exact ⟨hz, [], rfl, trivial⟩
  case bipush n => cases h; exact ⟨hz, [], rfl, trivial⟩
  case sipush n => cases h; exact ⟨hz, [], rfl, trivial⟩
  case lconst n => cases h; exact ⟨hz, [], rfl, trivial⟩
  case aconst_null => cases h; exact ⟨hz, [], rfl, trivial⟩
  case iload_n k =>
    split at h
    · rename_i v hv
      split at h
      · rename_i hc
        cases h
        exact ⟨hz, [], by simp [mStr, mS1, mLoad, hv, hc], trivial⟩
      · cases h
    · cases h
  case aload_n k =>
    split at h
    · rename_i v hv
      split at h
      · rename_i hc
        cases h
        exact ⟨hz, [], by simp [mStr, mS1, mLoad, hv, hc], trivial⟩
      · cases h
    · cases h
  case istore_n k =>
    split at h
    · split at h
      · rename_i hc
        cases h
        exact ⟨hz, [], by simp [mStr, mS1, mIst, hc], trivial⟩
      · cases h
    · cases h
  case istore k =>
    split at h
    · split at h
      · rename_i hc
        cases h
        exact ⟨hz, [], by simp [mStr, mS1, mIst, hc], trivial⟩
      · cases h
    · cases h
  case astore_n k =>
    split at h
    · split at h
      · rename_i hc
        cases h
        exact ⟨hz, [], by simp [mStr, mS1, mAst, hc], trivial⟩
      · cases h
    · cases h
  case dup =>
    split at h
    · split at h
      · rename_i hc
        cases h
        exact ⟨hz, [], by simp [mStr, mS1, mDup, hc], trivial⟩
      · cases h
    · cases h
  case iinc k n =>
    split at h
    · rename_i x hv
      split at h
      · rename_i hc
        cases h
        exact ⟨hz, [], by simp [mStr, mS1, mIinc, hv, hc], trivial⟩
      · cases h
    · cases h
  case goto off =>
    split at h
    · rename_i hc
      cases h
      exact ⟨hz, [], by simp [mStr, mS1, mGoto, hc], trivial⟩
    · cases h
  case arraylength =>
    split at h
    · rename_i a t
      split at h
      · rename_i hc
        cases h
        have e := dX_sh (L := L) (xs := xs) (z := z) (Nat.lt_of_lt_of_le hc.1 hz.1)
        refine ⟨hz, [], ?_, trivial⟩
        have hc' : a < mN (dX L xs z) ∧ 100 ≤ (mSh (dX L xs z) a).1 ∧ (mSh (dX L xs z) a).1 ≤ 104 := by rw [e]; exact hc
        have e1 : mAlen pc lv (.ref a :: t) (dX L xs z) = some ((pc + 1, lv, .int (Int32.ofNat (mSh (dX L xs z) a).2) :: t, dX L xs z), []) := if_pos hc'
        show (match mAlen pc lv (.ref a :: t) (dX L xs z) with | some r => some r | none => _) = _
        rw [e1, e]
      · cases h
    · cases h
  case getfield k =>
    split at h
    · cases h
    · rename_i h9
      split at h
      · rename_i a t
        split at h
        · rename_i hc
          cases h
          have h6 := Nat.lt_of_lt_of_le hc.1 hz.1
          have e := dX_sh (L := L) (xs := xs) (z := z) h6
          refine ⟨hz, [], ?_, trivial⟩
          have hc' : a < mN (dX L xs z) ∧ (mSh (dX L xs z) a).1 = rs.getD 0 0 ∧ rs.getD 1 0 < (mSh (dX L xs z) a).2 := by rw [e]; exact hc
          have ef : ∀ ty, mFld (dX L xs z) a (rs.getD 1 0) ty = zFld z a (rs.getD 1 0) ty := by
            intro ty
            have eI := dX_I (L := L) (xs := xs) (z := z) h6
            cases ty <;> simp only [mFld, zFld, eI] <;> rfl
          have e1 : mGetf (rs.getD 0 0) (rs.getD 1 0) pc lv (.ref a :: t) (dX L xs z) = some ((pc + 3, lv, mFld (dX L xs z) a (rs.getD 1 0) (mTy (rs.getD 0 0) (rs.getD 1 0)) :: t, dX L xs z), []) := if_pos hc'
          have e2 : mS1 nL (.getfield k) rs pc lv (.ref a :: t) (dX L xs z) = mGetf (rs.getD 0 0) (rs.getD 1 0) pc lv (.ref a :: t) (dX L xs z) := by
            show (if rs.getD 0 0 = 900 then (fun _ _ _ _ => none) else mGetf (rs.getD 0 0) (rs.getD 1 0)) pc lv (.ref a :: t) (dX L xs z) = _
            rw [if_neg h9]
          unfold mStr
          rw [e2, e1, ef]
        · cases h
      · cases h
  case putfield k =>
    split at h
    · rename_i v a t
      split at h
      · rename_i hc
        split at h
        · rename_i z' hp
          cases h
          have h6 := Nat.lt_of_lt_of_le hc.1 hz.1
          have e := dX_sh (L := L) (xs := xs) (z := z) h6
          obtain ⟨o1, C, o2, o3⟩ := zPut_ok (L := L) (xs := xs) hz hc.1 hp
          refine ⟨o1, C, ?_, o3⟩
          have hc' : a < mN (dX L xs z) ∧ (mSh (dX L xs z) a).1 = rs.getD 0 0 ∧ rs.getD 1 0 < (mSh (dX L xs z) a).2 := by rw [e]; exact hc
          have e1 : mPutf (rs.getD 0 0) (rs.getD 1 0) pc lv (v :: .ref a :: t) (dX L xs z) = some ((pc + 3, lv, t, dX L xs z'), C) := by
            show (if a < mN (dX L xs z) ∧ (mSh (dX L xs z) a).1 = rs.getD 0 0 ∧ rs.getD 1 0 < (mSh (dX L xs z) a).2 then (match mPutv (dX L xs z) a (rs.getD 1 0) (mTy (rs.getD 0 0) (rs.getD 1 0)) v with | some (X', C) => some ((pc + 3, lv, t, X'), C) | none => none) else none) = _
            rw [if_pos hc', o2]
          show (match mPutf (rs.getD 0 0) (rs.getD 1 0) pc lv (v :: .ref a :: t) (dX L xs z) with | some r => some r | none => _) = _
          rw [e1]
        · cases h
      · cases h
    · cases h
  case iastore =>
    split at h
    · rename_i x k a t
      split at h
      · rename_i hc
        cases h
        have h6 := Nat.lt_of_lt_of_le hc.1 hz.1
        have e := dX_sh (L := L) (xs := xs) (z := z) h6
        refine ⟨⟨hz.1, fun q hq => ?_, hz.2.2.1, hz.2.2.2⟩, [vp_in k (mSh (dX L xs z) a).2], ?_, ?_, trivial⟩
        · rcases List.mem_cons.mp hq with e | e
          · rw [e]; exact hc.1
          · exact hz.2.1 q e
        · have hc' : a < mN (dX L xs z) ∧ (mSh (dX L xs z) a).1 = 100 := by rw [e]; exact ⟨hc.1, hc.2.1⟩
          have e1 : mIast2 pc lv (.int x :: .int k :: .ref a :: t) (dX L xs z) = some ((pc + 1, lv, t, mSetI (dX L xs z) (mUp (mI (dX L xs z)) a k.toNatClampNeg x)), [vp_in k (mSh (dX L xs z) a).2]) := if_pos hc'
          show (match mIast2 pc lv (.int x :: .int k :: .ref a :: t) (dX L xs z) with | some r => some r | none => _) = _
          rw [e1, dX_setI h6]
        · rw [e]
          exact nG_in hc.2.2
      · cases h
    · cases h
  case invokespecial k =>
    split at h
    · rename_i h9
      split at h
      · rename_i a t
        split at h
        · rename_i hc
          cases h
          refine ⟨hz, [], ?_, trivial⟩
          have e1 : mS2 (.invokespecial k) rs pc lv (.ref a :: t) (dX L xs z) = mObj pc lv (.ref a :: t) (dX L xs z) := by
            show (if rs.getD 0 0 = 9002 then mObj else fun _ _ _ _ => none) pc lv (.ref a :: t) (dX L xs z) = _
            rw [if_pos h9]
          show mS2 (.invokespecial k) rs pc lv (.ref a :: t) (dX L xs z) = _
          rw [e1]
          exact if_pos hc
        · cases h
      · cases h
    · cases h
end ZRUN
