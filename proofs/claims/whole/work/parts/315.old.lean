/-! ===== the old world in the pure functions ===== -/
def oOrdV (a : Nat) : Int32 := Int32.ofNat (a - 1000000)
def oValV (a : Nat) : Int32 := oVal.getD (a - 1000000) 0
def oRulV (a : Nat) : Int32 := oRul.getD (a - 1000000) 0
def oSwmV (i : Int32) : Int32 := oSwm.getD i.toNatClampNeg 0
def oLenN (a : Nat) : Nat := (oByt.getD (a - 1000000) []).length
def oLenV (a : Nat) : Int32 := Int32.ofNat (oLenN a)
def oBytV (a j : Nat) : Int32 := (oByt.getD (a - 1000000) []).getD j 0
def nOpt {γ : Type} (o : Option Nat) (A : Option γ) (B : Nat → Option γ) : Option γ := match o with
  | none => A
  | some k => B k
def nChr (v : Int32) : Bool := decide (vp_nar .char v = v)
def nByt (v : Int32) : Bool := decide (vp_nar .byte v = v)
theorem oEn_in {a : Nat} (h : oEn a = true) : 1000000 ≤ a ∧ a < 1000025 := by
  simp only [oEn, Bool.and_eq_true, Nat.ble_eq, Nat.blt_eq] at h
  exact h
theorem oEn_of {i : Int32} (h : nG i 25 = true) : oEn (1000000 + i.toNatClampNeg) = true := by
  have := nG_in h
  unfold vp_in at this
  simp only [oEn, Bool.and_eq_true, Nat.ble_eq, Nat.blt_eq]
  omega
theorem oSt_of {a : Nat} (h : oEn a = true) : oSt (a + 200) = true := by
  have := oEn_in h
  simp only [oSt, Bool.and_eq_true, Nat.ble_eq, Nat.blt_eq]
  omega
theorem oA_y {a : Nat} (h : oEn a = true) : oA (a + 200 + 100) = some (.byte, oLenN a, fun j => .int (oBytV a j)) := by
  have := oEn_in h
  unfold oA
  rw [if_neg (by omega), if_neg (by omega), if_pos (by omega)]
  have e : a + 200 + 100 - 1000300 = a - 1000000 := by omega
  rw [e]
  rfl
section NO
variable {α : Type} {d : Nat} {M : mRec} {q : α → mOut} {pc : Nat} {c : mCodeT} {rg : List (Option Value)} {st : List Value} {w : mW} {e : Option (α × mW)} {rs : List Nat}
theorem sGs {idx k : Nat} {v : Value} (h : (oStat[k]?).map (fun q => q.2.2.2) = some v) (kk : mRs d M q c (pc + 3) rg (v :: st) w e) : mRs d M q ((pc, .getstatic idx, [k]) :: c) pc rg st w e :=
  mRs_str (C := []) (fun lv hf => ⟨lv, hf, by
    show mGst k pc lv st (mK w) = _
    unfold mGst
    cases hq : oStat[k]? with
    | none => rw [hq] at h; cases h
    | some q9 =>
      rw [hq] at h
      cases h
      rfl⟩) trivial kk
theorem sOf {idx f a : Nat} {v : Value} (h : oF f a = some v) (kk : mRs d M q c (pc + 3) rg (v :: st) w e) : mRs d M q ((pc, .getfield idx, [900, f]) :: c) pc rg (.ref a :: st) w e :=
  mRs_str (C := []) (fun lv hf => ⟨lv, hf, by
    show mGof f pc lv (.ref a :: st) (mK w) = _
    unfold mGof
    simp only [h]⟩) trivial kk
theorem sO0 {idx a : Nat} (h : oEn a = true) (kk : mRs d M q c (pc + 3) rg (.int (oOrdV a) :: st) w e) : mRs d M q ((pc, .getfield idx, [900, 0]) :: c) pc rg (.ref a :: st) w e := sOf (if_pos h) kk
theorem sO1 {idx a : Nat} (h : oEn a = true) (kk : mRs d M q c (pc + 3) rg (.int (oValV a) :: st) w e) : mRs d M q ((pc, .getfield idx, [900, 1]) :: c) pc rg (.ref a :: st) w e := sOf (if_pos h) kk
theorem sO2 {idx a : Nat} (h : oEn a = true) (kk : mRs d M q c (pc + 3) rg (.int (oRulV a) :: st) w e) : mRs d M q ((pc, .getfield idx, [900, 2]) :: c) pc rg (.ref a :: st) w e := sOf (if_pos h) kk
theorem sO3 {idx a : Nat} (h : oEn a = true) (kk : mRs d M q c (pc + 3) rg (.ref (a + 200) :: st) w e) : mRs d M q ((pc, .getfield idx, [900, 3]) :: c) pc rg (.ref a :: st) w e := sOf (if_pos h) kk
theorem sO4 {idx a : Nat} (h : oEn a = true) (kk : mRs d M q c (pc + 3) rg (.ref (a + 200 + 100) :: st) w e) : mRs d M q ((pc, .getfield idx, [900, 4]) :: c) pc rg (.ref (a + 200) :: st) w e := sOf (if_pos (oSt_of h)) kk
theorem sO5 {idx a : Nat} (h : oEn a = true) (kk : mRs d M q c (pc + 3) rg (.int 0 :: st) w e) : mRs d M q ((pc, .getfield idx, [900, 5]) :: c) pc rg (.ref (a + 200) :: st) w e := sOf (if_pos (oSt_of h)) kk
theorem mAl_n {nL : Nat} {a : Nat} {lv : mLV} (h : nN ≤ a) : mS1 nL .arraylength rs pc lv (.ref a :: st) (mK w) = none := if_neg (fun g => absurd (show a < nN from g.1) (Nat.not_lt.mpr h))
theorem mIa_n {nL : Nat} {a : Nat} {i : Int32} {lv : mLV} (h : nN ≤ a) : mS1 nL .iaload rs pc lv (.int i :: .ref a :: st) (mK w) = none := if_neg (fun g => absurd (show a < nN from g.1) (Nat.not_lt.mpr h))
theorem mBa_n {nL : Nat} {a : Nat} {i : Int32} {lv : mLV} (h : nN ≤ a) : mS1 nL .baload rs pc lv (.int i :: .ref a :: st) (mK w) = none := if_neg (fun g => absurd (show a < nN from g.1) (Nat.not_lt.mpr h))
theorem mStr_2 {nL : Nat} {i : Instr} {lv : mLV} {X : mHX} {r : mSt × List Prop} (h1 : mS1 nL i rs pc lv st X = none) (h : mS2 i rs pc lv st X = some r) : mStr nL i rs pc lv st X = some r := by
  unfold mStr
  rw [h1]
  exact h
theorem nN_le {a : Nat} (h : 1000000 ≤ a) : nN ≤ a := Nat.le_trans (by decide) h
theorem sOlW (kk : mRs d M q c (pc + 1) rg (.int 25 :: st) w e) : mRs d M q ((pc, .arraylength, rs) :: c) pc rg (.ref 1000100 :: st) w e :=
  mRs_str (C := []) (fun lv hf => ⟨lv, hf, mStr_2 (mAl_n (nN_le (by decide))) rfl⟩) trivial kk
theorem sOlY {a : Nat} (h : oEn a = true) (kk : mRs d M q c (pc + 1) rg (.int (oLenV a) :: st) w e) : mRs d M q ((pc, .arraylength, rs) :: c) pc rg (.ref (a + 200 + 100) :: st) w e :=
  mRs_str (C := []) (fun lv hf => ⟨lv, hf, mStr_2 (mAl_n (nN_le (by have := oEn_in h; omega))) (by
    show mOln pc lv (.ref (a + 200 + 100) :: st) (mK w) = _
    unfold mOln
    simp only [oA_y h]
    rw [if_neg (show ¬ (a + 200 + 100 = 2000000) by have := oEn_in h; omega)]
    rfl)⟩) trivial kk
theorem sOaW {i : Int32} (k : nG i 25 = true → mRs d M q c (pc + 1) rg (.ref (1000000 + i.toNatClampNeg) :: st) w e) : mRs d M q ((pc, .aaload, rs) :: c) pc rg (.int i :: .ref 1000100 :: st) w (nGd (nG i 25) e) :=
  mRs_gd nG_in (fun lv => by
    have h : mAald pc lv (.int i :: .ref 1000100 :: st) (mK w) = none := by
      unfold mAald
      dsimp only
      rw [if_neg (show ¬ (1000100 < mN (mK w) ∧ (mSh (mK w) 1000100).1 = 104) from fun g => absurd (show 1000100 < nN from g.1) (by decide))]
    have h2 : mS2 .aaload rs pc lv (.int i :: .ref 1000100 :: st) (mK w) = some ((pc + 1, lv, .ref (1000000 + i.toNatClampNeg) :: st, mK w), [vp_in i 25]) := by
      show mAa2 pc lv (.int i :: .ref 1000100 :: st) (mK w) = _
      unfold mAa2
      rw [h]
      rfl
    exact mStr_2 rfl h2) k
theorem sOiS {i : Int32} (k : nG i 25 = true → mRs d M q c (pc + 1) rg (.int (oSwmV i) :: st) w e) : mRs d M q ((pc, .iaload, rs) :: c) pc rg (.int i :: .ref 1000101 :: st) w (nGd (nG i 25) e) :=
  mRs_gd nG_in (fun lv => mStr_2 (mIa_n (nN_le (by decide))) rfl) k
theorem sObY {a : Nat} {i : Int32} (h : oEn a = true) (k : nG i (oLenN a) = true → mRs d M q c (pc + 1) rg (.int (oBytV a i.toNatClampNeg) :: st) w e) : mRs d M q ((pc, .baload, rs) :: c) pc rg (.int i :: .ref (a + 200 + 100) :: st) w (nGd (nG i (oLenN a)) e) :=
  mRs_gd nG_in (fun lv => mStr_2 (mBa_n (nN_le (by have := oEn_in h; omega))) (by
    show mOba pc lv (.int i :: .ref (a + 200 + 100) :: st) (mK w) = _
    unfold mOba
    simp only [oA_y h])) k
/-! the script -/
theorem sXl (kk : mRs d M q c (pc + 1) rg (.int (Int32.ofNat (nLn w)) :: st) w e) : mRs d M q ((pc, .arraylength, rs) :: c) pc rg (.ref 2000000 :: st) w e :=
  mRs_str (C := []) (fun lv hf => ⟨lv, hf, mStr_2 (mAl_n (nN_le (by decide))) (by
    show mOln pc lv (.ref 2000000 :: st) (mK w) = _
    unfold mOln
    have h2 : (mSh (mK w) 2000000) = (100, nLn w) := by
      show (if (2000000 : Nat) = 2000000 then (100, nLn w) else nSh 2000000) = (100, nLn w)
      exact if_pos rfl
    simp only [h2]
    rw [if_pos trivial])⟩) trivial kk
theorem sXa {i : Int32} (k : nG i (nLn w) = true → mRs d M q c (pc + 1) rg (.int (wI w 2000000 i.toNatClampNeg) :: st) w e) : mRs d M q ((pc, .iaload, rs) :: c) pc rg (.int i :: .ref 2000000 :: st) w (nGd (nG i (nLn w)) e) :=
  mRs_gd nG_in (fun lv => mStr_2 (mIa_n (nN_le (by decide))) (by
    show mOia pc lv (.int i :: .ref 2000000 :: st) (mK w) = _
    unfold mOia
    have h2 : (mSh (mK w) 2000000) = (100, nLn w) := by
      show (if (2000000 : Nat) = 2000000 then (100, nLn w) else nSh 2000000) = (100, nLn w)
      exact if_pos rfl
    simp only [h2]
    rw [if_pos trivial]
    rfl)) k
/-! null and not null -/
theorem sNnR {off : Int} {t a : Nat} (h : (pc : Int) + off = (t : Int)) (k : mRt d M q t rg st w e) : mRs d M q ((pc, .ifnonnull off, rs) :: c) pc rg (.ref a :: st) w e := mRs_str (C := []) (c := c) (pc' := t) (fun lv hf => ⟨lv, hf, mStr_1 (by
  show mIfnonnull off pc lv (.ref a :: st) (mK w) = _
  unfold mIfnonnull
  simp only []
  rw [if_pos (by rw [h]; exact Int.natCast_nonneg t), mTo_of h])⟩) trivial (sT k)
theorem sNnN {off : Int} (k : mRs d M q c (pc + 3) rg st w e) : mRs d M q ((pc, .ifnonnull off, rs) :: c) pc rg (.null :: st) w e := mRs_str (C := []) (fun lv hf => ⟨lv, hf, rfl⟩) trivial k
theorem sNuN {off : Int} {t : Nat} (h : (pc : Int) + off = (t : Int)) (k : mRt d M q t rg st w e) : mRs d M q ((pc, .ifnull off, rs) :: c) pc rg (.null :: st) w e := mRs_str (C := []) (c := c) (pc' := t) (fun lv hf => ⟨lv, hf, mStr_1 (by
  show mIfnull off pc lv (.null :: st) (mK w) = _
  unfold mIfnull
  simp only []
  rw [if_pos (by rw [h]; exact Int.natCast_nonneg t), mTo_of h])⟩) trivial (sT k)
theorem sNuR {off : Int} {a : Nat} (k : mRs d M q c (pc + 3) rg st w e) : mRs d M q ((pc, .ifnull off, rs) :: c) pc rg (.ref a :: st) w e := mRs_str (C := []) (fun lv hf => ⟨lv, hf, rfl⟩) trivial k
theorem sNul (k : mRs d M q c (pc + 1) rg (.null :: st) w e) : mRs d M q ((pc, .aconst_null, rs) :: c) pc rg st w e := mRs_str (C := []) (fun lv hf => ⟨lv, hf, rfl⟩) trivial k
theorem sAsN {i : Fin 4} (rg' : List (Option Value)) (hi : Nat.blt i (mrL M) = true) (hn : nNl rg i = true) (hr : rg.set i (some .null) = rg') (k : mRs d M q c (pc + 1) rg' st w e) : mRs d M q ((pc, .astore_n i, rs) :: c) pc rg (.null :: st) w e := mRs_str (C := []) (fun lv hf => ⟨_, hr ▸ hf.st1 _ hn, mStr_1 (if_pos (Nat.blt_eq.mp hi))⟩) trivial k
theorem mEo_r {a : Nat} (h : oEn a = true) : mEo (.ref a) = some (some a) := if_pos h
theorem sAcR {off : Int} {t a b : Nat} {A B : Option (α × mW)} (ha : oEn a = true) (hb : oEn b = true) (h : (pc : Int) + off = (t : Int)) (kj : mRt d M q t rg st w B) (kf : mRs d M q c (pc + 3) rg st w A) : mRs d M q ((pc, .if_acmp .ne off, rs) :: c) pc rg (.ref b :: .ref a :: st) w (if a = b then A else B) :=
  mRs_br (st := st) (p := ¬ (some a = some b)) (fun _ => rfl) (by simp only [mBrc, mEo_r ha, mEo_r hb]) h (fun g => by rw [if_neg (fun z => g (by rw [z]))]; exact kj) (fun g => by rw [if_pos (Option.some.inj (Decidable.not_not.mp g))]; exact kf)
theorem sAcN {off : Int} {t b : Nat} (hb : oEn b = true) (h : (pc : Int) + off = (t : Int)) (kj : mRt d M q t rg st w e) : mRs d M q ((pc, .if_acmp .ne off, rs) :: c) pc rg (.ref b :: .null :: st) w e :=
  mRs_br (st := st) (p := ¬ ((none : Option Nat) = some b)) (fun _ => rfl) (by simp only [mBrc, mEo_r hb]; rfl) h (fun g => kj) (fun g => absurd (fun z => by cases z) g)
/-! the token's word and text -/
theorem nP_word (w : mW) (o : Option Nat) : mUp (nP w) 21 5 o = nP (nSW w o) := by
  funext a j
  unfold mUp nP
  by_cases ha : a = 21
  · subst ha
    by_cases hj : j = 5
    · subst hj
      rfl
    · simp only [hj, if_true, if_false, and_false, true_and]
      rfl
  · simp only [ha, if_false, false_and]
theorem nP_text (w : mW) (o : Option Nat) : mUp (nP w) 21 0 o = nP (nST w o) := by
  funext a j
  unfold mUp nP
  by_cases ha : a = 21
  · subst ha
    by_cases hj : j = 0
    · subst hj
      rfl
    · simp only [hj, if_true, if_false, and_false, true_and]
      rfl
  · simp only [ha, if_false, false_and]
theorem n21 (w : mW) : (21 < nN ∧ (mSh (mK w) 21).1 = 6 ∧ 5 < (mSh (mK w) 21).2) ∧ (21 < nN ∧ (mSh (mK w) 21).1 = 6 ∧ 0 < (mSh (mK w) 21).2) := by
  rw [nShw_lt (by decide)]
  decide +kernel
theorem sPw1 {idx x : Nat} (k : mRs d M q c (pc + 3) rg st (nSW w (some x)) e) : mRs d M q ((pc, .putfield idx, [6, 5]) :: c) pc rg (.ref x :: .ref 21 :: st) w e := by
  refine mRs_str (C := []) (fun lv hf => ⟨lv, hf, mStr_1 ?_⟩) trivial k
  show mPutf 6 5 pc lv (.ref x :: .ref 21 :: st) (mK w) = _
  have h7 : mPutf 6 5 pc lv (.ref x :: .ref 21 :: st) (mK w) = some ((pc + 3, lv, st, mSetP (mK w) (mUp (mP (mK w)) 21 5 (some x))), []) := by
    show (if (21 < mN (mK w) ∧ (mSh (mK w) 21).1 = 6 ∧ 5 < (mSh (mK w) 21).2) then some ((pc + 3, lv, st, mSetP (mK w) (mUp (mP (mK w)) 21 5 (some x))), ([] : List Prop)) else none) = _
    exact if_pos (n21 w).1
  rw [h7]
  have h8 : mSetP (mK w) (mUp (mP (mK w)) 21 5 (some x)) = mK (nSW w (some x)) := by
    show (true, _, _, nN, nShw w, w.1, w.2.1, mUp (nP w) 21 5 (some x)) = _
    rw [nP_word]
    rfl
  show some ((pc + 3, lv, st, mSetP (mK w) (mUp (mP (mK w)) 21 5 (some x))), ([] : List Prop)) = _
  rw [h8]
theorem sPw0 {idx : Nat} (k : mRs d M q c (pc + 3) rg st (nSW w none) e) : mRs d M q ((pc, .putfield idx, [6, 5]) :: c) pc rg (.null :: .ref 21 :: st) w e := by
  refine mRs_str (C := []) (fun lv hf => ⟨lv, hf, mStr_1 ?_⟩) trivial k
  show mPutf 6 5 pc lv (.null :: .ref 21 :: st) (mK w) = _
  have h7 : mPutf 6 5 pc lv (.null :: .ref 21 :: st) (mK w) = some ((pc + 3, lv, st, mSetP (mK w) (mUp (mP (mK w)) 21 5 none)), []) := by
    show (if (21 < mN (mK w) ∧ (mSh (mK w) 21).1 = 6 ∧ 5 < (mSh (mK w) 21).2) then some ((pc + 3, lv, st, mSetP (mK w) (mUp (mP (mK w)) 21 5 none)), ([] : List Prop)) else none) = _
    exact if_pos (n21 w).1
  rw [h7]
  have h8 : mSetP (mK w) (mUp (mP (mK w)) 21 5 none) = mK (nSW w none) := by
    show (true, _, _, nN, nShw w, w.1, w.2.1, mUp (nP w) 21 5 none) = _
    rw [nP_word]
    rfl
  show some ((pc + 3, lv, st, mSetP (mK w) (mUp (mP (mK w)) 21 5 none)), ([] : List Prop)) = _
  rw [h8]
theorem sPt {idx x : Nat} (k : mRs d M q c (pc + 3) rg st (nST w (some x)) e) : mRs d M q ((pc, .putfield idx, [6, 0]) :: c) pc rg (.ref x :: .ref 21 :: st) w e := by
  refine mRs_str (C := []) (fun lv hf => ⟨lv, hf, mStr_1 ?_⟩) trivial k
  show mPutf 6 0 pc lv (.ref x :: .ref 21 :: st) (mK w) = _
  have h7 : mPutf 6 0 pc lv (.ref x :: .ref 21 :: st) (mK w) = some ((pc + 3, lv, st, mSetP (mK w) (mUp (mP (mK w)) 21 0 (some x))), []) := by
    show (if (21 < mN (mK w) ∧ (mSh (mK w) 21).1 = 6 ∧ 0 < (mSh (mK w) 21).2) then some ((pc + 3, lv, st, mSetP (mK w) (mUp (mP (mK w)) 21 0 (some x))), ([] : List Prop)) else none) = _
    exact if_pos (n21 w).2
  rw [h7]
  have h8 : mSetP (mK w) (mUp (mP (mK w)) 21 0 (some x)) = mK (nST w (some x)) := by
    show (true, _, _, nN, nShw w, w.1, w.2.1, mUp (nP w) 21 0 (some x)) = _
    rw [nP_text]
    rfl
  show some ((pc + 3, lv, st, mSetP (mK w) (mUp (mP (mK w)) 21 0 (some x))), ([] : List Prop)) = _
  rw [h8]
theorem sGw {idx : Nat} {A : Option (α × mW)} {B : Nat → Option (α × mW)} (h0 : mRs d M q c (pc + 3) rg (.null :: st) w A) (h1 : ∀ k, oEn k = true → mRs d M q c (pc + 3) rg (.ref k :: st) w (B k)) : mRs d M q ((pc, .getfield idx, [6, 5]) :: c) pc rg (.ref 21 :: st) w (nOpt (nWd w) A (fun k => nGd (oEn k) (B k))) := by
  have hfa : nFa 21 6 5 = true := by decide +kernel
  have hfl : mFld (mK w) 21 5 (mTy 6 5) = va_rf (nWd w) := rfl
  cases ho : nWd w with
  | none =>
    rw [ho] at hfl
    exact mRs_str (C := []) (fun lv hf => ⟨lv, hf, mGf_eq hfa hfl⟩) trivial h0
  | some k =>
    rw [ho] at hfl
    show mRs d M q _ pc rg _ w (nGd (oEn k) (B k))
    intro hc lv hf z hz
    by_cases g : oEn k = true
    · rw [nGd, if_pos g] at hz
      exact mRs_str (C := []) (fun lv hf => ⟨lv, hf, mGf_eq hfa hfl⟩) trivial (h1 k g) hc lv hf z hz
    · rw [nGd, if_neg g] at hz
      cases hz
theorem sGt1 {idx : Nat} (k : mRs d M q c (pc + 3) rg (.ref 1 :: st) w e) : mRs d M q ((pc, .getfield idx, [6, 0]) :: c) pc rg (.ref 21 :: st) w (nGd (decide (nTx w = some 1)) e) := by
  have hfa : nFa 21 6 0 = true := by decide +kernel
  have hfl : mFld (mK w) 21 0 (mTy 6 0) = va_rf (nTx w) := rfl
  intro hc lv hf z hz
  by_cases g : nTx w = some 1
  · rw [nGd, if_pos (decide_eq_true g)] at hz
    rw [g] at hfl
    exact mRs_str (C := []) (fun lv hf => ⟨lv, hf, mGf_eq hfa hfl⟩) trivial k hc lv hf z hz
  · rw [nGd, if_neg (by simpa using g)] at hz
    cases hz
/-! the ends of char and byte -/
theorem nar_char (v : Int32) : ∃ y, narrow .char (.int v) = .int y := ⟨_, rfl⟩
theorem nar_byte (v : Int32) : ∃ y, narrow .byte (.int v) = .int y := ⟨_, rfl⟩
theorem sRtC {v : Int32} (hr : mrR M = some .char) : mRs d M nQi ((pc, .ireturn, rs) :: c) pc rg [.int v] w (nGd (nChr v) (some (v, w))) := by
  intro hc lv hf z hz
  by_cases h : nChr v = true
  · rw [nGd, if_pos h] at hz
    have h2 : vp_nar .char v = v := by simpa [nChr] using h
    have h3 : narrow .char (.int v) = .int v := by
      obtain ⟨y, hy⟩ := nar_char v
      unfold vp_nar at h2
      rw [hy] at h2 ⊢
      rw [← h2]
    have h4 : mRet (mrR M) .ireturn [.int v] = some (some (.int v), [narrow .char (.int v) = .int v]) := by
      rw [hr]
      rfl
    exact mRs_ret (q := nQi) (v := v) (fun _ => rfl) rfl h4 ⟨h3, trivial⟩ rfl hc lv hf z hz
  · rw [nGd, if_neg h] at hz
    cases hz
theorem sRtY {v : Int32} (hr : mrR M = some .byte) : mRs d M nQi ((pc, .ireturn, rs) :: c) pc rg [.int v] w (nGd (nByt v) (some (v, w))) := by
  intro hc lv hf z hz
  by_cases h : nByt v = true
  · rw [nGd, if_pos h] at hz
    have h2 : vp_nar .byte v = v := by simpa [nByt] using h
    have h3 : narrow .byte (.int v) = .int v := by
      obtain ⟨y, hy⟩ := nar_byte v
      unfold vp_nar at h2
      rw [hy] at h2 ⊢
      rw [← h2]
    have h4 : mRet (mrR M) .ireturn [.int v] = some (some (.int v), [narrow .byte (.int v) = .int v]) := by
      rw [hr]
      rfl
    exact mRs_ret (q := nQi) (v := v) (fun _ => rfl) rfl h4 ⟨h3, trivial⟩ rfl hc lv hf z hz
  · rw [nGd, if_neg h] at hz
    cases hz
theorem sI2c {x : Int32} (k : mRs d M q c (pc + 1) rg (.int ((x.toUInt32 % 65536).toInt32) :: st) w e) : mRs d M q ((pc, .i2c, rs) :: c) pc rg (.int x :: st) w e := mRs_str (C := []) (fun lv hf => ⟨lv, hf, rfl⟩) trivial k
/-! calls of old objects -/
theorem mIv_o5 {idx y n k b : Nat} {stk As rest : List Value} (hb : oOb k b = true) (hl : Nat.ble n stk.length = true) (hR : stk.drop n = .ref b :: rest) (hA : (stk.take n).reverse = As) : mIv (.invokevirtual idx) [5, y, n, k] stk y (.ref b :: As) rest true := by
  refine ⟨fun nL pc lv w => ⟨rfl, rfl⟩, rfl, fun r => rfl, fun w => ⟨rfl, ?_⟩⟩
  show (if n ≤ stk.length then (match stk.drop n with
    | .ref b :: t => if oOb k b = true then some (y, .ref b :: (stk.take n).reverse, t, true) else none
    | _ => none) else none) = _
  rw [if_pos (Nat.le_of_ble_eq_true hl), hR]
  simp only []
  rw [if_pos hb, hA]
theorem mIv_o6 {idx y b n k : Nat} {rest : List Value} (hb : oEn b = true) : mIv (.invokevirtual idx) [6, y, n, k] (.ref b :: rest) y [.ref b] rest false :=
  ⟨fun nL pc lv w => ⟨rfl, rfl⟩, rfl, fun r => rfl, fun w => ⟨rfl, if_pos hb⟩⟩
end NO
