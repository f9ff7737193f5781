/-! ===== what a run makes only grows ===== -/
def mLe (X Y : mHX) : Prop := mNc X ≤ mNc Y ∧ mNs X ≤ mNs Y
def mEq (X Y : mHX) : Prop := mNc Y = mNc X ∧ mNs Y = mNs X
theorem mEq.le {X Y : mHX} (h : mEq X Y) : mLe X Y := ⟨Nat.le_of_eq h.1.symm, Nat.le_of_eq h.2.symm⟩
theorem mLe.rf (X : mHX) : mLe X X := ⟨Nat.le_refl _, Nat.le_refl _⟩
theorem mLe.trans {X Y Z : mHX} (h : mLe X Y) (g : mLe Y Z) : mLe X Z := ⟨Nat.le_trans h.1 g.1, Nat.le_trans h.2 g.2⟩
section MMO
variable {pc nL : Nat} {lv : mLV} {st : List Value} {X : mHX} {S' : mSt} {C : List Prop}
theorem mPutv_eq {X Y : mHX} {a j : Nat} {ty : FieldType} {v : Value} {C : List Prop} (h : mPutv X a j ty v = some (Y, C)) : mEq X Y := by
  unfold mPutv at h
  split at h <;> first | (cases h; exact ⟨rfl, rfl⟩) | cases h
theorem mPutf_eq {ci j : Nat} (h : mPutf ci j pc lv st X = some (S', C)) : mEq X S'.2.2.2 := by
  unfold mPutf at h
  split at h
  · split at h
    · split at h
      · rename_i hp
        cases h
        exact mPutv_eq hp
      · cases h
    · cases h
  · cases h
set_option maxHeartbeats 4000000 in
theorem mS1_eq {i : Instr} {rs : List Nat} (h : mS1 nL i rs pc lv st X = some (S', C)) : mEq X S'.2.2.2 := by
  cases i
  case putfield idx => exact mPutf_eq h
  case getfield idx =>
    have h9 : (if rs.getD 0 0 = 900 then (fun _ _ _ _ => none) else mGetf (rs.getD 0 0) (rs.getD 1 0)) pc lv st X = some (S', C) := h
    split at h9
    · cases h9
    · unfold mGetf at h9
      repeat' split at h9
      all_goals first | (cases h9; exact ⟨rfl, rfl⟩) | cases h9
  all_goals first
    | exact absurd (show (none : mS1T) = some (S', C) from h) (fun q => nomatch q)
    | (simp only [mS1, mPush, mLoad, mIst, mAst, mLst, mI2, mI2n, mL2, mLS, mI1, mI2L, mL2I, mLcmp, mDup, mPop, mDup2, mIinc, mGoto, mIfnull, mIfnonnull, mIald, mBald, mLald, mIast2, mBast, mLast2, mAlen, mTswitch, mLswitch] at h
       repeat' split at h
       all_goals first | (cases h; exact ⟨rfl, rfl⟩) | cases h)
theorem mS2_eq {i : Instr} {rs : List Nat} (h : mS2 i rs pc lv st X = some (S', C)) : mEq X S'.2.2.2 := by
  cases i
  case invokestatic idx =>
    have h9 : (if rs.getD 0 0 = 9001 then mCpy else if rs.getD 0 0 = 9012 then mAbs else mMth (rs.getD 0 0)) pc lv st X = some (S', C) := h
    split at h9
    · unfold mCpy at h9
      repeat' split at h9
      all_goals first | (cases h9; exact ⟨rfl, rfl⟩) | cases h9
    · split at h9
      · unfold mAbs at h9
        repeat' split at h9
        all_goals first | (cases h9; exact ⟨rfl, rfl⟩) | cases h9
      · unfold mMth at h9
        repeat' split at h9
        all_goals first | (cases h9; exact ⟨rfl, rfl⟩) | cases h9
  case invokespecial idx =>
    have h9 : (if rs.getD 0 0 = 9002 then mObj else fun _ _ _ _ => none) pc lv st X = some (S', C) := h
    split at h9
    · unfold mObj at h9
      repeat' split at h9
      all_goals first | (cases h9; exact ⟨rfl, rfl⟩) | cases h9
    · cases h9
  case getfield idx =>
    have h9 : (if rs.getD 0 0 = 900 then mGof (rs.getD 1 0) else fun _ _ _ _ => none) pc lv st X = some (S', C) := h
    split at h9
    · unfold mGof at h9
      repeat' split at h9
      all_goals first | (cases h9; exact ⟨rfl, rfl⟩) | cases h9
    · cases h9
  case aaload =>
    have h9 : mAa2 pc lv st X = some (S', C) := h
    unfold mAa2 at h9
    split at h9
    · rename_i r hr
      cases h9
      unfold mAald at hr
      repeat' split at hr
      all_goals first | (cases hr; exact ⟨rfl, rfl⟩) | cases hr
    · unfold mOaa at h9
      repeat' split at h9
      all_goals first | (cases h9; exact ⟨rfl, rfl⟩) | cases h9
  all_goals first
    | exact absurd (show (none : mS1T) = some (S', C) from h) (fun q => nomatch q)
    | (simp only [mS2, mPush, mGst, mOln, mOia, mOba] at h
       repeat' split at h
       all_goals first | (cases h; exact ⟨rfl, rfl⟩) | cases h)
theorem mStr_eq {i : Instr} {rs : List Nat} (h : mStr nL i rs pc lv st X = some (S', C)) : mEq X S'.2.2.2 := by
  unfold mStr at h
  split at h
  · rename_i r hr
    cases h
    exact mS1_eq hr
  · exact mS2_eq h
theorem mAdd_le {kind len : Nat} {q : Nat → Option Nat} : mLe X (mAdd X kind len q) := ⟨Nat.le_add_right _ _, Nat.le_add_right _ _⟩
theorem mAddN_le {kind len : Nat} : ∀ n, mLe X (mAddN X kind len n)
  | 0 => mLe.rf X
  | n + 1 => (mAddN_le n).trans mAdd_le
theorem mAlc_le {i : Instr} {rs : List Nat} {S : mSt} (h : mAlc i rs S = some (S', C)) : mLe S.2.2.2 S'.2.2.2 := by
  unfold mAlc at h
  repeat' split at h
  all_goals first | (cases h; first | exact mAdd_le | exact mAdd_le.trans (mAddN_le _)) | cases h
theorem mStepR_le {call : Nat → List Value → mHX → mRes → Prop} {M : mRec} {k : mSt → mRes → Prop} {S : mSt} {r : mRes} (hc : ∀ y args X r1, call y args X r1 → mLe X r1.2) (hk : ∀ S', k S' r → mLe S'.2.2.2 r.2) (h : mStepR call M k S r) : mLe S.2.2.2 r.2 := by
  unfold mStepR at h
  split at h
  · exact h.elim
  · split at h
    · rename_i hs
      exact (mStr_eq hs).le.trans (hk _ h.2)
    · split at h
      · obtain ⟨-, h1, h2⟩ := h
        rename_i q off t _
        by_cases hq : q
        · exact hk (mTo S.1 off, S.2.1, t, S.2.2.2) (h1 hq)
        · exact hk (S.1 + 3, S.2.1, t, S.2.2.2) (h2 hq)
      · split at h
        · rw [h.2]; exact mLe.rf _
        · split at h
          · rename_i ha
            exact (mAlc_le ha).trans (hk _ h.2)
          · split at h
            · rename_i ht
              rw [h.2]
              unfold mThr at ht
              repeat' split at ht
              all_goals first | (cases ht; exact ⟨Nat.le_add_right _ _, Nat.le_add_right _ _⟩) | cases ht
            · split at h
              · obtain ⟨-, r1, h1, -, h2⟩ := h
                refine (hc _ _ _ _ h1).trans ?_
                unfold mAfter at h2
                repeat' split at h2
                all_goals first | exact hk _ h2 | (rw [h2.2]; exact mLe.rf _) | exact hk _ h2.2 | exact h2.elim
              · exact h.elim
theorem mEx_le {call : Nat → List Value → mHX → mRes → Prop} {M : mRec} {r : mRes} (hc : ∀ y args X r1, call y args X r1 → mLe X r1.2) : ∀ (f : Nat) (S : mSt), mEx call M f S r → mLe S.2.2.2 r.2
  | 0, _, h => h.elim
  | f + 1, _, h => mStepR_le hc (mEx_le hc f) h
theorem mRun_le {tab : Nat → Option mRec} : ∀ (d y : Nat) (args : List Value) (X : mHX) (r : mRes), mRun tab d y args X r → mLe X r.2
  | 0, _, _, _, _, h => h.elim
  | d + 1, _, _, _, _, h => by
    obtain ⟨M, -, -, f, h⟩ := h
    exact mEx_le (mRun_le d) f _ h
end MMO
