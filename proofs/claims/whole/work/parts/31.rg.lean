/-! ===== fields, arrays, switches, calls of the pure functions ===== -/
def nTi : FieldType → Bool
  | .int => true
  | _ => false
def nTb : FieldType → Bool
  | .boolean => true
  | _ => false
def nTl : FieldType → Bool
  | .long => true
  | _ => false
def nTr : FieldType → Bool
  | .object _ => true
  | .array _ => true
  | _ => false
def nFa (a ci j : Nat) : Bool := Nat.blt a nN && (Nat.beq (nSh a).1 ci && (Nat.blt j (nSh a).2 && !(Nat.beq ci 900)))
def nFi (a ci j : Nat) : Bool := nFa a ci j && nTi (mTy ci j)
def nFb (a ci j : Nat) : Bool := nFa a ci j && nTb (mTy ci j)
def nFl (a ci j : Nat) : Bool := nFa a ci j && nTl (mTy ci j)
def nFr (a ci j b : Nat) : Bool := nFa a ci j && (nTr (mTy ci j) && ((nP0 a j == some b) && !(Nat.beq a 21 && (Nat.beq j 5 || Nat.beq j 0))))
def nCb (a kd n : Nat) : Bool := Nat.blt a nN && (Nat.beq (nSh a).1 kd && Nat.beq (nSh a).2 n)
theorem nCb_ok {a kd n : Nat} (h : nCb a kd n = true) : nC a kd n := by
  simp only [nCb, Bool.and_eq_true, Nat.blt_eq, Nat.beq_eq] at h
  exact ⟨h.1, Prod.ext h.2.1 h.2.2⟩
theorem nFa_ok {a ci j : Nat} (w : mW) (h : nFa a ci j = true) : a < nN ∧ (mSh (mK w) a).1 = ci ∧ j < (mSh (mK w) a).2 ∧ ¬ ci = 900 := by
  simp only [nFa, Bool.and_eq_true, Nat.blt_eq, Nat.beq_eq, Bool.not_eq_true'] at h
  rw [nShw_lt h.1]
  refine ⟨h.1, h.2.1, h.2.2.1, fun e => ?_⟩
  have := h.2.2.2
  rw [e] at this
  cases this
section NS
variable {α : Type} {d : Nat} {M : mRec} {q : α → mOut} {pc : Nat} {c : mCodeT} {rg : List (Option Value)} {st : List Value} {w : mW} {e : Option (α × mW)} {rs : List Nat}
theorem mGf_eq {a ci j idx nL : Nat} {lv : mLV} {v : Value} (h : nFa a ci j = true) (hv : mFld (mK w) a j (mTy ci j) = v) : mStr nL (.getfield idx) [ci, j] pc lv (.ref a :: st) (mK w) = some ((pc + 3, lv, v :: st, mK w), []) := by
  obtain ⟨h1, h2, h3, h4⟩ := nFa_ok w h
  refine mStr_1 ?_
  have h5 : mS1 nL (.getfield idx) [ci, j] pc lv (.ref a :: st) (mK w) = mGetf ci j pc lv (.ref a :: st) (mK w) := by
    show (if ci = 900 then (fun _ _ _ _ => none) else mGetf ci j : Nat → mLV → List Value → mHX → mS1T) pc lv (.ref a :: st) (mK w) = _
    rw [if_neg h4]
  rw [h5, ← hv]
  exact if_pos ⟨h1, h2, h3⟩
theorem nTi_ok {ty : FieldType} (h : nTi ty = true) : ty = .int := by
  unfold nTi at h
  split at h
  · rfl
  · cases h
theorem nTb_ok {ty : FieldType} (h : nTb ty = true) : ty = .boolean := by
  unfold nTb at h
  split at h
  · rfl
  · cases h
theorem nTl_ok {ty : FieldType} (h : nTl ty = true) : ty = .long := by
  unfold nTl at h
  split at h
  · rfl
  · cases h
theorem sGf {a ci j idx : Nat} (h : nFi a ci j = true) (k : mRs d M q c (pc + 3) rg (.int (wI w a j) :: st) w e) : mRs d M q ((pc, .getfield idx, [ci, j]) :: c) pc rg (.ref a :: st) w e := by
  have h2 := Bool.and_eq_true _ _ ▸ h
  exact mRs_str (C := []) (fun lv hf => ⟨lv, hf, mGf_eq h2.1 (by rw [nTi_ok h2.2]; rfl)⟩) trivial k
theorem sGfB {a ci j idx : Nat} (h : nFb a ci j = true) (k : mRs d M q c (pc + 3) rg (.int (wI w a j) :: st) w e) : mRs d M q ((pc, .getfield idx, [ci, j]) :: c) pc rg (.ref a :: st) w e := by
  have h2 := Bool.and_eq_true _ _ ▸ h
  exact mRs_str (C := []) (fun lv hf => ⟨lv, hf, mGf_eq h2.1 (by rw [nTb_ok h2.2]; rfl)⟩) trivial k
theorem sGfJ {a ci j idx : Nat} (h : nFl a ci j = true) (k : mRs d M q c (pc + 3) rg (.long (wJ w a j) :: st) w e) : mRs d M q ((pc, .getfield idx, [ci, j]) :: c) pc rg (.ref a :: st) w e := by
  have h2 := Bool.and_eq_true _ _ ▸ h
  exact mRs_str (C := []) (fun lv hf => ⟨lv, hf, mGf_eq h2.1 (by rw [nTl_ok h2.2]; rfl)⟩) trivial k
theorem nTr_fld {ty : FieldType} {X : mHX} {a j : Nat} (h : nTr ty = true) : mFld X a j ty = va_rf (mP X a j) := by
  unfold nTr at h
  split at h
  · rfl
  · rfl
  · cases h
theorem sGr {a ci j b idx : Nat} (h : nFr a ci j b = true) (k : mRs d M q c (pc + 3) rg (.ref b :: st) w e) : mRs d M q ((pc, .getfield idx, [ci, j]) :: c) pc rg (.ref a :: st) w e := by
  simp only [nFr, Bool.and_eq_true] at h
  obtain ⟨h1, h2, h3, h4⟩ := h
  refine mRs_str (C := []) (fun lv hf => ⟨lv, hf, mGf_eq h1 (v := .ref b) ?_⟩) trivial k
  rw [nTr_fld h2]
  have h5 : nP w a j = some b := by
    have h6 : nP0 a j = some b := by simpa using h3
    unfold nP
    by_cases ea : a = 21
    · subst ea
      have h7 : ¬ j = 5 ∧ ¬ j = 0 := by
        constructor <;> intro g <;> subst g <;> revert h4 <;> decide
      rw [if_neg (fun g => h7.1 g.2), if_neg (fun g => h7.2 g.2)]
      exact h6
    · rw [if_neg (fun g => ea g.1), if_neg (fun g => ea g.1)]
      exact h6
  show va_rf (nP w a j) = .ref b
  rw [h5]
  rfl
theorem sPf {a ci j idx : Nat} {x : Int32} (h : nFi a ci j = true) (k : mRs d M q c (pc + 3) rg st (nS w a j x) e) : mRs d M q ((pc, .putfield idx, [ci, j]) :: c) pc rg (.int x :: .ref a :: st) w e := by
  have h2 := Bool.and_eq_true _ _ ▸ h
  obtain ⟨h3, h4, h5, h6⟩ := nFa_ok w h2.1
  refine mRs_str (C := []) (fun lv hf => ⟨lv, hf, mStr_1 ?_⟩) trivial k
  show mPutf ci j pc lv (.int x :: .ref a :: st) (mK w) = _
  have h7 : mPutf ci j pc lv (.int x :: .ref a :: st) (mK w) = (match mPutv (mK w) a j (mTy ci j) (.int x) with
    | some (X', C) => some ((pc + 3, lv, st, X'), C)
    | none => none) := if_pos ⟨h3, h4, h5⟩
  rw [h7, nTi_ok h2.2]
  rfl
theorem sPfB {a ci j idx : Nat} {x : Int32} (h : nFb a ci j = true) (hx : x = 0 ∨ x = 1) (k : mRs d M q c (pc + 3) rg st (nS w a j x) e) : mRs d M q ((pc, .putfield idx, [ci, j]) :: c) pc rg (.int x :: .ref a :: st) w e := by
  have h2 := Bool.and_eq_true _ _ ▸ h
  obtain ⟨h3, h4, h5, h6⟩ := nFa_ok w h2.1
  refine mRs_str (C := [x = 0 ∨ x = 1]) (fun lv hf => ⟨lv, hf, mStr_1 ?_⟩) ⟨hx, trivial⟩ k
  show mPutf ci j pc lv (.int x :: .ref a :: st) (mK w) = _
  have h7 : mPutf ci j pc lv (.int x :: .ref a :: st) (mK w) = (match mPutv (mK w) a j (mTy ci j) (.int x) with
    | some (X', C) => some ((pc + 3, lv, st, X'), C)
    | none => none) := if_pos ⟨h3, h4, h5⟩
  rw [h7, nTb_ok h2.2]
  rfl
theorem sPfG {a ci j idx : Nat} {x : Int32} (h : nFb a ci j = true) (k : mRs d M q c (pc + 3) rg st (nS w a j x) e) : mRs d M q ((pc, .putfield idx, [ci, j]) :: c) pc rg (.int x :: .ref a :: st) w (nGd (nB01 x) e) := by
  intro hc lv hf z hz
  by_cases g : nB01 x = true
  · rw [nGd, if_pos g] at hz
    exact sPfB h (by simpa [nB01] using g) k hc lv hf z hz
  · rw [nGd, if_neg g] at hz
    cases hz
theorem sPfJ {a ci j idx : Nat} {x : Int64} (h : nFl a ci j = true) (k : mRs d M q c (pc + 3) rg st (nSJ w a j x) e) : mRs d M q ((pc, .putfield idx, [ci, j]) :: c) pc rg (.long x :: .ref a :: st) w e := by
  have h2 := Bool.and_eq_true _ _ ▸ h
  obtain ⟨h3, h4, h5, h6⟩ := nFa_ok w h2.1
  refine mRs_str (C := []) (fun lv hf => ⟨lv, hf, mStr_1 ?_⟩) trivial k
  show mPutf ci j pc lv (.long x :: .ref a :: st) (mK w) = _
  have h7 : mPutf ci j pc lv (.long x :: .ref a :: st) (mK w) = (match mPutv (mK w) a j (mTy ci j) (.long x) with
    | some (X', C) => some ((pc + 3, lv, st, X'), C)
    | none => none) := if_pos ⟨h3, h4, h5⟩
  rw [h7, nTl_ok h2.2]
  rfl
/-! arrays -/
theorem sIaG {a n : Nat} {i : Int32} (h : nC a 100 n) (k : nG i n = true → mRs d M q c (pc + 1) rg (.int (wI w a i.toNatClampNeg) :: st) w e) : mRs d M q ((pc, .iaload, rs) :: c) pc rg (.int i :: .ref a :: st) w (nGd (nG i n) e) :=
  mRs_gd nG_in (fun lv => mStr_1 (by
    show mIald pc lv (.int i :: .ref a :: st) (mK w) = _
    have h2 : (mSh (mK w) a) = (100, n) := h.sh w
    unfold mIald
    simp only [h2]
    rw [if_pos ⟨h.1, trivial⟩]
    rfl)) k
theorem sIa {a n : Nat} {i : Int32} (h : nC a 100 n) (hg : nG i n = true) (k : mRs d M q c (pc + 1) rg (.int (wI w a i.toNatClampNeg) :: st) w e) : mRs d M q ((pc, .iaload, rs) :: c) pc rg (.int i :: .ref a :: st) w e := by
  have h2 := sIaG (rs := rs) h (fun _ => k)
  rw [nGd, if_pos hg] at h2
  exact h2
theorem sBaG {a n : Nat} {i : Int32} (h : nC a 101 n ∨ nC a 102 n) (k : nG i n = true → mRs d M q c (pc + 1) rg (.int (wI w a i.toNatClampNeg) :: st) w e) : mRs d M q ((pc, .baload, rs) :: c) pc rg (.int i :: .ref a :: st) w (nGd (nG i n) e) :=
  mRs_gd nG_in (fun lv => mStr_1 (by
    show mBald pc lv (.int i :: .ref a :: st) (mK w) = _
    unfold mBald
    rcases h with h | h
    · have h2 : (mSh (mK w) a) = (101, n) := h.sh w
      simp only [h2]
      rw [if_pos ⟨h.1, by simp⟩]
      rfl
    · have h2 : (mSh (mK w) a) = (102, n) := h.sh w
      simp only [h2]
      rw [if_pos ⟨h.1, by simp⟩]
      rfl)) k
theorem sLaG {a n : Nat} {i : Int32} (h : nC a 103 n) (k : nG i n = true → mRs d M q c (pc + 1) rg (.long (wJ w a i.toNatClampNeg) :: st) w e) : mRs d M q ((pc, .laload, rs) :: c) pc rg (.int i :: .ref a :: st) w (nGd (nG i n) e) :=
  mRs_gd nG_in (fun lv => mStr_1 (by
    show mLald pc lv (.int i :: .ref a :: st) (mK w) = _
    have h2 : (mSh (mK w) a) = (103, n) := h.sh w
    unfold mLald
    simp only [h2]
    rw [if_pos ⟨h.1, trivial⟩]
    rfl)) k
theorem sLa {a n : Nat} {i : Int32} (h : nC a 103 n) (hg : nG i n = true) (k : mRs d M q c (pc + 1) rg (.long (wJ w a i.toNatClampNeg) :: st) w e) : mRs d M q ((pc, .laload, rs) :: c) pc rg (.int i :: .ref a :: st) w e := by
  have h2 := sLaG (rs := rs) h (fun _ => k)
  rw [nGd, if_pos hg] at h2
  exact h2
theorem sItG {a n : Nat} {i x : Int32} (h : nC a 100 n) (k : nG i n = true → mRs d M q c (pc + 1) rg st (nS w a i.toNatClampNeg x) e) : mRs d M q ((pc, .iastore, rs) :: c) pc rg (.int x :: .int i :: .ref a :: st) w (nGd (nG i n) e) :=
  mRs_gd nG_in (fun lv => mStr_1 (by
    show mIast2 pc lv (.int x :: .int i :: .ref a :: st) (mK w) = _
    have h2 : (mSh (mK w) a) = (100, n) := h.sh w
    unfold mIast2
    simp only [h2]
    rw [if_pos ⟨h.1, trivial⟩]
    rfl)) k
theorem sIt {a n : Nat} {i x : Int32} (h : nC a 100 n) (hg : nG i n = true) (k : mRs d M q c (pc + 1) rg st (nS w a i.toNatClampNeg x) e) : mRs d M q ((pc, .iastore, rs) :: c) pc rg (.int x :: .int i :: .ref a :: st) w e := by
  have h2 := sItG (rs := rs) (x := x) h (fun _ => k)
  rw [nGd, if_pos hg] at h2
  exact h2
theorem sLt2 {a n : Nat} {i : Int32} {x : Int64} (h : nC a 103 n) (hg : nG i n = true) (k : mRs d M q c (pc + 1) rg st (nSJ w a i.toNatClampNeg x) e) : mRs d M q ((pc, .lastore, rs) :: c) pc rg (.long x :: .int i :: .ref a :: st) w e :=
  mRs_str (C := [vp_in i n]) (fun lv hf => ⟨lv, hf, mStr_1 (by
    show mLast2 pc lv (.long x :: .int i :: .ref a :: st) (mK w) = _
    have h2 : (mSh (mK w) a) = (103, n) := h.sh w
    unfold mLast2
    simp only [h2]
    rw [if_pos ⟨h.1, trivial⟩]
    rfl)⟩) ⟨nG_in hg, trivial⟩ k
theorem sBtG {a n : Nat} {i x : Int32} (h : nC a 101 n) (k : nG i n = true → mRs d M q c (pc + 1) rg st (nS w a i.toNatClampNeg (vp_nar .byte x)) e) : mRs d M q ((pc, .bastore, rs) :: c) pc rg (.int x :: .int i :: .ref a :: st) w (nGd (nG i n) e) :=
  mRs_gd nG_in (fun lv => mStr_1 (by
    show mBast pc lv (.int x :: .int i :: .ref a :: st) (mK w) = _
    have h2 : (mSh (mK w) a) = (101, n) := h.sh w
    unfold mBast
    simp only [h2]
    rw [if_pos ⟨h.1, trivial⟩]
    rfl)) k
theorem sZtG {a n : Nat} {i x : Int32} (h : nC a 102 n) (k : nG i n = true → mRs d M q c (pc + 1) rg st (nS w a i.toNatClampNeg (vp_nar .boolean x)) e) : mRs d M q ((pc, .bastore, rs) :: c) pc rg (.int x :: .int i :: .ref a :: st) w (nGd (nG i n) e) :=
  mRs_gd nG_in (fun lv => mStr_1 (by
    show mBast pc lv (.int x :: .int i :: .ref a :: st) (mK w) = _
    have h2 : (mSh (mK w) a) = (102, n) := h.sh w
    unfold mBast
    simp only [h2]
    rw [if_neg (fun g => absurd g.2 (by decide)), if_pos ⟨h.1, trivial⟩]
    rfl)) k
theorem sAn {a kd n : Nat} {x : Int32} (h : nC a kd n) (hk : Nat.ble 100 kd = true) (hk2 : Nat.ble kd 104 = true) (hx : Int32.ofNat n = x) (k : mRs d M q c (pc + 1) rg (.int x :: st) w e) : mRs d M q ((pc, .arraylength, rs) :: c) pc rg (.ref a :: st) w e :=
  mRs_str (C := []) (fun lv hf => ⟨lv, hf, mStr_1 (by
    show mAlen pc lv (.ref a :: st) (mK w) = _
    have h2 : (mSh (mK w) a) = (kd, n) := h.sh w
    unfold mAlen
    simp only [h2]
    rw [if_pos ⟨h.1, Nat.le_of_ble_eq_true hk, Nat.le_of_ble_eq_true hk2⟩, hx])⟩) trivial k
def nGc (n sp dp : Int32) (la lb : Nat) : Bool := !decide (n < 0) && (!decide (sp < 0) && (!decide (dp < 0) && (Nat.ble (sp.toNatClampNeg + n.toNatClampNeg) la && Nat.ble (dp.toNatClampNeg + n.toNatClampNeg) lb)))
theorem sCp {a b la lb idx z : Nat} {n sp dp : Int32} (ha : nC a 100 la) (hb : nC b 100 lb) (hs : nC2 st = true) (hg : nGc n sp dp la lb = true) (k : mRs d M q c (pc + 3) rg st (nCpy w a sp.toNatClampNeg b dp.toNatClampNeg n.toNatClampNeg) e) : mRs d M q ((pc, .invokestatic idx, [9001, z]) :: c) pc rg (.int n :: .int dp :: .ref b :: .int sp :: .ref a :: st) w e := by
  simp only [nGc, Bool.and_eq_true, Bool.not_eq_true', decide_eq_false_iff_not, Nat.ble_eq] at hg
  obtain ⟨g1, g2, g3, g4, g5⟩ := hg
  refine mRs_str (C := [¬ n < 0, ¬ sp < 0, ¬ dp < 0, sp.toNatClampNeg + n.toNatClampNeg ≤ la, dp.toNatClampNeg + n.toNatClampNeg ≤ lb]) (fun lv hf => ⟨lv, hf, ?_⟩) ⟨g1, g2, g3, g4, g5, trivial⟩ k
  show mCpy pc lv (.int n :: .int dp :: .ref b :: .int sp :: .ref a :: st) (mK w) = _
  have h2 : (mSh (mK w) a) = (100, la) := ha.sh w
  have h3 : (mSh (mK w) b) = (100, lb) := hb.sh w
  unfold mCpy
  simp only [h2, h3]
  rw [if_pos ⟨⟨rfl, Nat.le_of_ble_eq_true hs⟩, ha.1, hb.1, trivial, trivial⟩]
  rfl
theorem sCpG {a b la lb idx z : Nat} {n sp dp : Int32} (ha : nC a 100 la) (hb : nC b 100 lb) (hs : nC2 st = true) (k : mRs d M q c (pc + 3) rg st (nCpy w a sp.toNatClampNeg b dp.toNatClampNeg n.toNatClampNeg) e) : mRs d M q ((pc, .invokestatic idx, [9001, z]) :: c) pc rg (.int n :: .int dp :: .ref b :: .int sp :: .ref a :: st) w (nGd (nGc n sp dp la lb) e) := by
  intro hc lv hf zz hz
  by_cases g : nGc n sp dp la lb = true
  · rw [nGd, if_pos g] at hz
    exact sCp ha hb hs g k hc lv hf zz hz
  · rw [nGd, if_neg g] at hz
    cases hz
/-! switches -/
theorem sTc {df lo hi : Int} {offs : Array Int} {x : Int32} {t : Nat} (key : Int32) {A B : Option (α × mW)} (ht : (pc : Int) + mTsw df lo hi offs key = (t : Int)) (hk : (key.toInt - lo).toNat < offs.size) (kA : mRt d M q t rg st w A) (kB : mRs d M q ((pc, .tableswitch df lo hi offs, rs) :: c) pc rg (.int x :: st) w B) : mRs d M q ((pc, .tableswitch df lo hi offs, rs) :: c) pc rg (.int x :: st) w (if x = key then A else B) := by
  by_cases e : x = key
  · rw [if_pos e]
    subst e
    refine mRs_str (c := c) (pc' := t) (C := [0 ≤ (pc : Int) + mTsw df lo hi offs x, (x.toInt - lo).toNat < offs.size ∨ x.toInt < lo ∨ hi < x.toInt]) (fun lv hf => ⟨lv, hf, mStr_1 ?_⟩) ⟨by rw [ht]; exact Int.natCast_nonneg t, .inl hk, trivial⟩ (sT kA)
    show mTswitch df lo hi offs pc lv (.int x :: st) (mK w) = _
    simp only [mTswitch, mTo_of ht]
  · rw [if_neg e]
    exact kB
def nOut (x lo hi : Int32) : Bool := decide (x < lo) || decide (hi < x)
theorem sTd {df lo hi : Int} {offs : Array Int} {x l2 h2 : Int32} {t : Nat} (ht : (pc : Int) + df = (t : Int)) (hl : l2.toInt = lo) (hh : h2.toInt = hi) (k : mRt d M q t rg st w e) : mRs d M q ((pc, .tableswitch df lo hi offs, rs) :: c) pc rg (.int x :: st) w (nGd (nOut x l2 h2) e) := by
  intro hc lv hf z hz
  by_cases g : nOut x l2 h2 = true
  · rw [nGd, if_pos g] at hz
    have g2 : x.toInt < lo ∨ hi < x.toInt := by
      rw [← hl, ← hh, ← Int32.lt_iff_toInt_lt, ← Int32.lt_iff_toInt_lt]
      simpa [nOut] using g
    have h3 : mTsw df lo hi offs x = df := if_pos g2
    refine mRs_str (c := c) (pc' := t) (C := [0 ≤ (pc : Int) + mTsw df lo hi offs x, (x.toInt - lo).toNat < offs.size ∨ x.toInt < lo ∨ hi < x.toInt]) (fun lv hf => ⟨lv, hf, mStr_1 ?_⟩) ⟨by rw [h3, ht]; exact Int.natCast_nonneg t, .inr g2, trivial⟩ (sT k) hc lv hf z hz
    show mTswitch df lo hi offs pc lv (.int x :: st) (mK w) = _
    have h4 : mTo pc (mTsw df lo hi offs x) = t := mTo_of (by rw [h3]; exact ht)
    simp only [mTswitch, h4]
  · rw [nGd, if_neg g] at hz
    cases hz
theorem sKc {df : Int} {ps : Array (Int × Int)} {x : Int32} {t : Nat} (key : Int32) {A B : Option (α × mW)} (hs : (ps.toList.zip (ps.toList.drop 1)).all (fun (a, next) => a.1 < next.1) = true) (ht : (pc : Int) + Op.lookupswitch.offset ps.toList df key.toInt = (t : Int)) (kA : mRt d M q t rg st w A) (kB : mRs d M q ((pc, .lookupswitch df ps, rs) :: c) pc rg (.int x :: st) w B) : mRs d M q ((pc, .lookupswitch df ps, rs) :: c) pc rg (.int x :: st) w (if x = key then A else B) := by
  by_cases e : x = key
  · rw [if_pos e]
    subst e
    refine mRs_str (c := c) (pc' := t) (C := [0 ≤ (pc : Int) + Op.lookupswitch.offset ps.toList df x.toInt]) (fun lv hf => ⟨lv, hf, mStr_1 ?_⟩) ⟨by rw [ht]; exact Int.natCast_nonneg t, trivial⟩ (sT kA)
    show mLswitch df ps pc lv (.int x :: st) (mK w) = _
    unfold mLswitch
    simp only []
    rw [if_pos hs, mTo_of ht]
  · rw [if_neg e]
    exact kB
theorem sKd {df : Int} {ps : Array (Int × Int)} {x : Int32} {t : Nat} {g : Bool} (hs : (ps.toList.zip (ps.toList.drop 1)).all (fun (a, next) => a.1 < next.1) = true) (ht : (pc : Int) + df = (t : Int)) (hg : g = true → Op.lookupswitch.offset ps.toList df x.toInt = df) (k : mRt d M q t rg st w e) : mRs d M q ((pc, .lookupswitch df ps, rs) :: c) pc rg (.int x :: st) w (nGd g e) := by
  intro hc lv hf z hz
  by_cases g2 : g = true
  · rw [nGd, if_pos g2] at hz
    have h3 := hg g2
    refine mRs_str (c := c) (pc' := t) (C := [0 ≤ (pc : Int) + Op.lookupswitch.offset ps.toList df x.toInt]) (fun lv hf => ⟨lv, hf, mStr_1 ?_⟩) ⟨by rw [h3, ht]; exact Int.natCast_nonneg t, trivial⟩ (sT k) hc lv hf z hz
    show mLswitch df ps pc lv (.int x :: st) (mK w) = _
    unfold mLswitch
    simp only []
    rw [if_pos hs, mTo_of (off := Op.lookupswitch.offset ps.toList df x.toInt) (by rw [h3]; exact ht)]
  · rw [nGd, if_neg g2] at hz
    cases hz
/-! calls -/
def nB {β γ : Type} (f : Option (β × mW)) (K : β → mW → Option γ) : Option γ := f.bind fun z => K z.1 z.2
def nXb {β γ : Type} (f : Option ((β ⊕ Nat) × mW)) (K : β → mW → Option ((γ ⊕ Nat) × mW)) : Option ((γ ⊕ Nat) × mW) := f.bind fun z => match z.1 with
  | .inl v => K v z.2
  | .inr x => some (.inr x, z.2)
def nXh {β γ : Type} (f : Option ((β ⊕ Nat) × mW)) (K : β → mW → Option γ) (H : Nat → mW → Option γ) : Option γ := f.bind fun z => match z.1 with
  | .inl v => K v z.2
  | .inr x => H x z.2
def mIv (i : Instr) (rs : List Nat) (stk : List Value) (y : Nat) (As rest : List Value) (fl : Bool) : Prop :=
  (∀ (nL pc : Nat) (lv : mLV) (w : mW), mStr nL i rs pc lv stk (mK w) = none ∧ mAlc i rs (pc, lv, stk, mK w) = none) ∧ mBrc i stk = none ∧ (∀ r, mRet r i stk = none) ∧ (∀ w, mThr i rs stk (mK w) = none ∧ mInv i rs stk (mK w) = some (y, As, rest, fl))
theorem mIv_st {idx kd y n : Nat} {stk As rest : List Value} (hk : kd = 1 ∨ kd = 2) (hl : Nat.ble n stk.length = true) (hA : (stk.take n).reverse = As) (hR : stk.drop n = rest) : mIv (.invokestatic idx) [kd, y, n] stk y As rest (decide (kd = 1)) := by
  refine ⟨fun nL pc lv w => ⟨?_, rfl⟩, rfl, fun r => rfl, fun w => ⟨rfl, ?_⟩⟩
  · have h : mS2 (.invokestatic idx) [kd, y, n] pc lv stk (mK w) = none := by
      show (if kd = 9001 then mCpy else if kd = 9012 then mAbs else mMth kd) pc lv stk (mK w) = none
      rw [if_neg (by omega), if_neg (by omega)]
      unfold mMth
      split
      · rw [if_neg (by omega), if_neg (by omega)]
      · rfl
    exact h
  · show (if kd = 1 ∨ kd = 2 then (if n ≤ stk.length then some (y, (stk.take n).reverse, stk.drop n, decide (kd = 1)) else none) else none) = _
    rw [if_pos hk, if_pos (Nat.le_of_ble_eq_true hl), hA, hR]
theorem mIv_vt {idx y n ci b m : Nat} {stk As rest : List Value} (hc : nC b ci m) (hl : Nat.ble n stk.length = true) (hR : stk.drop n = .ref b :: rest) (hA : (stk.take n).reverse = As) : mIv (.invokevirtual idx) [0, y, n, ci] stk y (.ref b :: As) rest true := by
  refine ⟨fun nL pc lv w => ⟨rfl, rfl⟩, rfl, fun r => rfl, fun w => ⟨rfl, ?_⟩⟩
  show (if n ≤ stk.length then (match stk.drop n with
    | .ref b :: t => if b < mN (mK w) ∧ (mSh (mK w) b).1 = ci then some (y, .ref b :: (stk.take n).reverse, t, true) else none
    | _ => none) else none) = _
  have h2 : (mSh (mK w) b) = (ci, m) := hc.sh w
  rw [if_pos (Nat.le_of_ble_eq_true hl), hR]
  simp only [h2]
  rw [if_pos ⟨hc.1, trivial⟩, hA]
theorem mRs_call {β : Type} {i : Instr} {y : Nat} {stk As rest : List Value} {fl : Bool} {f : Option (β × mW)} {K : β → mW → Option (α × mW)} {qc : β → mOut} {o : β → Option Value} (hi : mIv i rs stk y As rest fl) (h2 : nC2 rest = true) (hq : ∀ v, qc v = .inl (o v)) (hf : ∀ z, f = some z → mRun mTab d y As (mK w) (qc z.1, mK z.2)) (k : ∀ v w', mRs d M q c (pc + 3) rg ((o v).toList ++ rest) w' (K v w')) : mRs d M q ((pc, i, rs) :: c) pc rg stk w (nB f K) := by
  intro hc lv hfit z hz
  have ha : mAt (mrC M) pc = some (i, rs) := hc _ List.mem_cons_self
  obtain ⟨h3, h4, h5, h6⟩ := hi
  have h3a := (h3 (mrL M) pc lv w).1
  have h3b := (h3 (mrL M) pc lv w).2
  have h6a := (h6 w).1
  have h6b := (h6 w).2
  unfold nB at hz
  obtain ⟨z1, hz1, hz2⟩ := Option.bind_eq_some_iff.mp hz
  obtain ⟨f9, hx⟩ := k z1.1 z1.2 (fun x hx => hc x (List.mem_cons_of_mem _ hx)) lv hfit z hz2
  refine ⟨f9 + 1, ?_⟩
  show mStepR _ M _ _ _
  unfold mStepR
  simp only [ha, h3a, h3b, h4, h5, h6a, h6b]
  refine ⟨Nat.le_of_ble_eq_true h2, _, hf z1 hz1, .inr ⟨_, hq _⟩, ?_⟩
  unfold mAfter
  rw [hq]
  exact hx
theorem mRs_xb {β γ : Type} {q : γ ⊕ Nat → mOut} {i : Instr} {y : Nat} {stk As rest : List Value} {f : Option ((β ⊕ Nat) × mW)} {K : β → mW → Option ((γ ⊕ Nat) × mW)} {qc : β ⊕ Nat → mOut} {o : β → Option Value} (hi : mIv i rs stk y As rest true) (h2 : nC2 rest = true) (hh : mrH M = []) (hq : ∀ v, qc (.inl v) = .inl (o v)) (hqx : ∀ x, qc (.inr x) = .inr (mExN x)) (hqy : ∀ x, q (.inr x) = .inr (mExN x)) (hf : ∀ z, f = some z → mRun mTab d y As (mK w) (qc z.1, mK z.2)) (k : ∀ v w', mRs d M q c (pc + 3) rg ((o v).toList ++ rest) w' (K v w')) : mRs d M q ((pc, i, rs) :: c) pc rg stk w (nXb f K) := by
  intro hc lv hfit z hz
  have ha : mAt (mrC M) pc = some (i, rs) := hc _ List.mem_cons_self
  obtain ⟨h3, h4, h5, h6⟩ := hi
  have h3a := (h3 (mrL M) pc lv w).1
  have h3b := (h3 (mrL M) pc lv w).2
  have h6a := (h6 w).1
  have h6b := (h6 w).2
  unfold nXb at hz
  obtain ⟨⟨v1, w1⟩, hz1, hz2⟩ := Option.bind_eq_some_iff.mp hz
  cases v1 with
  | inl v =>
    obtain ⟨f9, hx⟩ := k v w1 (fun x hx => hc x (List.mem_cons_of_mem _ hx)) lv hfit z hz2
    refine ⟨f9 + 1, ?_⟩
    show mStepR _ M _ _ _
    unfold mStepR
    simp only [ha, h3a, h3b, h4, h5, h6a, h6b]
    refine ⟨Nat.le_of_ble_eq_true h2, _, hf _ hz1, .inl trivial, ?_⟩
    unfold mAfter
    simp only [hq]
    exact hx
  | inr x =>
    cases hz2
    refine ⟨1, ?_⟩
    show mStepR _ M _ _ _
    unfold mStepR
    simp only [ha, h3a, h3b, h4, h5, h6a, h6b]
    refine ⟨Nat.le_of_ble_eq_true h2, _, hf _ hz1, .inl trivial, ?_⟩
    unfold mAfter
    simp only [hqx, hqy]
    rw [hh]
    exact ⟨rfl, trivial⟩
def nHn (M : mRec) (pc : Nat) (rg : List (Option Value)) (d : Nat) (q : α → mOut) (x : Nat) (A : mW → Option (α × mW)) : Prop := (∀ w, A w = none) ∨ ∃ h j n : Nat, ∃ rs : List Nat, mHand (mrH M) (mrE M) pc (mExN x) = some h ∧ ((n = 1 ∧ ∃ j4 : Fin 4, (j4 : Nat) = j ∧ mAt (mrC M) h = some (.astore_n j4, rs)) ∨ (n = 2 ∧ mAt (mrC M) h = some (.astore j, rs))) ∧ j < mrL M ∧ nNl rg j = true ∧ ∀ w, mRt d M q (h + n) (rg.set j none) [] w (A w)
theorem mRs_xh {β : Type} {i : Instr} {y : Nat} {stk As rest : List Value} {f : Option ((β ⊕ Nat) × mW)} {K : β → mW → Option (α × mW)} {H : Nat → mW → Option (α × mW)} {qc : β ⊕ Nat → mOut} {o : β → Option Value} (hi : mIv i rs stk y As rest true) (h2 : nC2 rest = true) (hq : ∀ v, qc (.inl v) = .inl (o v)) (hqx : ∀ x, qc (.inr x) = .inr (mExN x)) (hf : ∀ z, f = some z → mRun mTab d y As (mK w) (qc z.1, mK z.2)) (k : ∀ v w', mRs d M q c (pc + 3) rg ((o v).toList ++ rest) w' (K v w')) (kh : ∀ x, nHn M pc rg d q x (H x)) : mRs d M q ((pc, i, rs) :: c) pc rg stk w (nXh f K H) := by
  intro hc lv hfit z hz
  have ha : mAt (mrC M) pc = some (i, rs) := hc _ List.mem_cons_self
  obtain ⟨h3, h4, h5, h6⟩ := hi
  have h3a := (h3 (mrL M) pc lv w).1
  have h3b := (h3 (mrL M) pc lv w).2
  have h6a := (h6 w).1
  have h6b := (h6 w).2
  unfold nXh at hz
  obtain ⟨⟨v1, w1⟩, hz1, hz2⟩ := Option.bind_eq_some_iff.mp hz
  cases v1 with
  | inl v =>
    obtain ⟨f9, hx⟩ := k v w1 (fun x hx => hc x (List.mem_cons_of_mem _ hx)) lv hfit z hz2
    refine ⟨f9 + 1, ?_⟩
    show mStepR _ M _ _ _
    unfold mStepR
    simp only [ha, h3a, h3b, h4, h5, h6a, h6b]
    refine ⟨Nat.le_of_ble_eq_true h2, _, hf _ hz1, .inl trivial, ?_⟩
    unfold mAfter
    simp only [hq]
    exact hx
  | inr x =>
    have hz3 : H x w1 = some z := hz2
    rcases kh x with g | ⟨h, j, n9, rs9, g1, g2, g4, g5, g6⟩
    · rw [g] at hz3
      cases hz3
    · obtain ⟨f9, hx⟩ := g6 w1 _ (hfit.st0 g5) z hz3
      refine ⟨f9 + 1, ?_⟩
      show mStepR _ M _ _ _
      unfold mStepR
      simp only [ha, h3a, h3b, h4, h5, h6a, h6b]
      refine ⟨Nat.le_of_ble_eq_true h2, _, hf _ hz1, .inl trivial, ?_⟩
      unfold mAfter
      rcases g2 with ⟨rfl, j4, g2, g3⟩ | ⟨rfl, g3⟩
      · simp only [hqx, g1, g3]
        rw [g2]
        exact ⟨g4, hx⟩
      · simp only [hqx, g1, g3]
        exact ⟨g4, hx⟩
section NC
variable {i : Instr} {y : Nat} {stk As rest : List Value} {fl : Bool}
theorem sCi {f : Option (Int32 × mW)} {K : Int32 → mW → Option (α × mW)} (hf : ∀ z, f = some z → mRun mTab d y As (mK w) (nQi z.1, mK z.2)) (hi : mIv i rs stk y As rest fl) (h2 : nC2 rest = true) (k : ∀ v w', mRs d M q c (pc + 3) rg (.int v :: rest) w' (K v w')) : mRs d M q ((pc, i, rs) :: c) pc rg stk w (nB f K) := mRs_call (o := fun v => some (.int v)) hi h2 (fun _ => rfl) hf k
theorem sCj {f : Option (Int64 × mW)} {K : Int64 → mW → Option (α × mW)} (hf : ∀ z, f = some z → mRun mTab d y As (mK w) (nQj z.1, mK z.2)) (hi : mIv i rs stk y As rest fl) (h2 : nC2 rest = true) (k : ∀ v w', mRs d M q c (pc + 3) rg (.long v :: rest) w' (K v w')) : mRs d M q ((pc, i, rs) :: c) pc rg stk w (nB f K) := mRs_call (o := fun v => some (.long v)) hi h2 (fun _ => rfl) hf k
theorem sCr {f : Option (Nat × mW)} {K : Nat → mW → Option (α × mW)} (hf : ∀ z, f = some z → mRun mTab d y As (mK w) (nQr z.1, mK z.2)) (hi : mIv i rs stk y As rest fl) (h2 : nC2 rest = true) (k : ∀ v w', mRs d M q c (pc + 3) rg (.ref v :: rest) w' (K v w')) : mRs d M q ((pc, i, rs) :: c) pc rg stk w (nB f K) := mRs_call (o := fun v => some (.ref v)) hi h2 (fun _ => rfl) hf k
theorem sCv {f : Option (Unit × mW)} {K : Unit → mW → Option (α × mW)} (hf : ∀ z, f = some z → mRun mTab d y As (mK w) (nQv z.1, mK z.2)) (hi : mIv i rs stk y As rest fl) (h2 : nC2 rest = true) (k : ∀ v w', mRs d M q c (pc + 3) rg rest w' (K v w')) : mRs d M q ((pc, i, rs) :: c) pc rg stk w (nB f K) := mRs_call (o := fun v => none) hi h2 (fun _ => rfl) hf k
theorem sXi {γ : Type} {q : γ ⊕ Nat → mOut} {f : Option ((Int32 ⊕ Nat) × mW)} {K : Int32 → mW → Option ((γ ⊕ Nat) × mW)} (hf : ∀ z, f = some z → mRun mTab d y As (mK w) (nQxi z.1, mK z.2)) (hi : mIv i rs stk y As rest true) (h2 : nC2 rest = true) (hh : mrH M = []) (hq : ∀ x, q (.inr x) = .inr (mExN x)) (k : ∀ v w', mRs d M q c (pc + 3) rg (.int v :: rest) w' (K v w')) : mRs d M q ((pc, i, rs) :: c) pc rg stk w (nXb f K) := mRs_xb (o := fun v => some (.int v)) hi h2 hh (fun _ => rfl) (fun _ => rfl) hq hf k
theorem sXv {γ : Type} {q : γ ⊕ Nat → mOut} {f : Option ((Unit ⊕ Nat) × mW)} {K : Unit → mW → Option ((γ ⊕ Nat) × mW)} (hf : ∀ z, f = some z → mRun mTab d y As (mK w) (nQxv z.1, mK z.2)) (hi : mIv i rs stk y As rest true) (h2 : nC2 rest = true) (hh : mrH M = []) (hq : ∀ x, q (.inr x) = .inr (mExN x)) (k : ∀ v w', mRs d M q c (pc + 3) rg rest w' (K v w')) : mRs d M q ((pc, i, rs) :: c) pc rg stk w (nXb f K) := mRs_xb (o := fun v => none) hi h2 hh (fun _ => rfl) (fun _ => rfl) hq hf k
theorem sXh {f : Option ((Int32 ⊕ Nat) × mW)} {K : Int32 → mW → Option (α × mW)} {H : Nat → mW → Option (α × mW)} (hf : ∀ z, f = some z → mRun mTab d y As (mK w) (nQxi z.1, mK z.2)) (hi : mIv i rs stk y As rest true) (h2 : nC2 rest = true) (k : ∀ v w', mRs d M q c (pc + 3) rg (.int v :: rest) w' (K v w')) (kh : ∀ x, nHn M pc rg d q x (H x)) : mRs d M q ((pc, i, rs) :: c) pc rg stk w (nXh f K H) := mRs_xh (o := fun v => some (.int v)) hi h2 (fun _ => rfl) (fun _ => rfl) hf k kh
end NC
end NS
/-! a method's run out of its body -/
theorem mRun_of {α : Type} {d y : Nat} {M : mRec} {q : α → mOut} {args : List Value} {rg : List (Option Value)} {w : mW} {e : Option (α × mW)} (hM : mTab y = some M) (hl : Nat.ble (lg_sl args).length (mrL M) = true) (hf : mFit rg (lv_args 0 args)) (k : mRt d M q 0 rg [] w e) : ∀ z, e = some z → mRun mTab (d + 1) y args (mK w) (q z.1, mK z.2) := by
  intro z hz
  obtain ⟨f, hx⟩ := k _ hf z hz
  exact ⟨M, hM, Nat.le_of_ble_eq_true hl, f, hx⟩
def mFitL (lv : mLV) : List (Option Value) → Nat → Prop
  | [], _ => True
  | none :: t, i => mFitL lv t (i + 1)
  | some v :: t, i => mGet lv i = some v ∧ mFitL lv t (i + 1)
theorem mFitL_use {lv : mLV} : ∀ {rg : List (Option Value)} {b : Nat}, mFitL lv rg b → ∀ (i : Nat) (v : Value), rg[i]? = some (some v) → mGet lv (b + i) = some v
  | [], _, _, i, v, h => by simp at h
  | none :: t, b, h, i, v, hi => by
    match i, hi with
    | 0, hi => simp at hi
    | i + 1, hi =>
      have h2 : mFitL lv t (b + 1) := h
      have := mFitL_use h2 i v (by simpa using hi)
      rwa [Nat.add_assoc, Nat.add_comm 1] at this
  | some x :: t, b, h, i, v, hi => by
    match i, hi with
    | 0, hi =>
      simp at hi
      subst hi
      exact h.1
    | i + 1, hi =>
      have h2 : mFitL lv t (b + 1) := h.2
      have := mFitL_use h2 i v (by simpa using hi)
      rwa [Nat.add_assoc, Nat.add_comm 1] at this
theorem mFit_of {lv : mLV} {rg : List (Option Value)} (h : mFitL lv rg 0) : mFit rg lv := fun i v hi => by
  have := mFitL_use h i v hi
  rwa [Nat.zero_add] at this
/-! the code's blocks -/
def mInc : mCodeT → Bool
  | [] => true
  | [_] => true
  | x :: y :: t => Nat.blt x.1 y.1 && mInc (y :: t)
theorem mInc_lt : ∀ {c : mCodeT} {x : Nat × mIns}, mInc (x :: c) = true → ∀ y ∈ c, x.1 < y.1
  | [], _, _, _, hy => nomatch hy
  | z :: t, x, h, y, hy => by
    simp only [mInc, Bool.and_eq_true, Nat.blt_eq] at h
    rcases List.mem_cons.mp hy with rfl | hy
    · exact h.1
    · exact Nat.lt_trans h.1 (mInc_lt h.2 y hy)
theorem mInc_at : ∀ {c : mCodeT}, mInc c = true → ∀ x ∈ c, mAt c x.1 = some x.2
  | [], _, _, hx => nomatch hx
  | z :: t, h, x, hx => by
    rcases List.mem_cons.mp hx with rfl | hx
    · simp [mAt]
    · have h1 := mInc_lt h x hx
      simp only [mAt]
      rw [if_neg (by omega)]
      refine mInc_at ?_ x hx
      cases t with
      | nil => rfl
      | cons y t => simp only [mInc, Bool.and_eq_true] at h; exact h.2
section NT
variable {α : Type} {d : Nat} {M : mRec} {q : α → mOut} {pc : Nat} {c : mCodeT} {rg : List (Option Value)} {st : List Value} {w : mW} {e : Option (α × mW)} {rs : List Nat}
theorem nHn_mk {x h : Nat} {j : Fin 4} {rs : List Nat} {A : mW → Option (α × mW)} (rg' : List (Option Value)) (hh : mHand (mrH M) (mrE M) pc (mExN x) = some h) (ha : mAt (mrC M) h = some (.astore_n j, rs)) (hj : Nat.blt j (mrL M) = true) (hn : nNl rg j = true) (hr : rg.set j none = rg') (k : ∀ w, mRt d M q (h + 1) rg' [] w (A w)) : nHn M pc rg d q x A := .inr ⟨h, j, 1, rs, hh, .inl ⟨rfl, j, rfl, ha⟩, Nat.blt_eq.mp hj, hn, by rw [hr]; exact k⟩
theorem nHn_mk2 {x h j : Nat} {rs : List Nat} {A : mW → Option (α × mW)} (rg' : List (Option Value)) (hh : mHand (mrH M) (mrE M) pc (mExN x) = some h) (ha : mAt (mrC M) h = some (.astore j, rs)) (hj : Nat.blt j (mrL M) = true) (hn : nNl rg j = true) (hr : rg.set j none = rg') (k : ∀ w, mRt d M q (h + 2) rg' [] w (A w)) : nHn M pc rg d q x A := .inr ⟨h, j, 2, rs, hh, .inr ⟨rfl, ha⟩, Nat.blt_eq.mp hj, hn, by rw [hr]; exact k⟩
theorem nHn1 {x0 : Nat} {A : mW → Option (α × mW)} (h : nHn M pc rg d q x0 A) : ∀ x, nHn M pc rg d q x (fun w => if x = x0 then A w else none) := by
  intro x
  by_cases e : x = x0
  · subst e
    simpa using h
  · exact .inl (fun w => if_neg e)
theorem nHn2 {x0 x1 : Nat} {A B : mW → Option (α × mW)} (h : nHn M pc rg d q x0 A) (g : nHn M pc rg d q x1 B) : ∀ x, nHn M pc rg d q x (fun w => if x = x0 then A w else if x = x1 then B w else none) := by
  intro x
  by_cases e : x = x0
  · subst e
    simpa using h
  · by_cases e2 : x = x1
    · subst e2
      simpa [e] using g
    · exact .inl (fun w => by simp [e, e2])
theorem sIsL1 {i : Fin 4} {x : Int32} {K : Int32 → Option (α × mW)} (rg' : Int32 → List (Option Value)) (hi : Nat.blt i (mrL M) = true) (hn : nNl rg i = true) (hr : ∀ v, rg.set i (some (.int v)) = rg' v) (k : ∀ v, mRs d M q c (pc + 1) (rg' v) st w (K v)) : mRs d M q ((pc, .istore_n i, rs) :: c) pc rg (.int x :: st) w (nLet x K) := sIs1 _ hi hn (hr x) (k x)
theorem sIsL {i : Nat} {x : Int32} {K : Int32 → Option (α × mW)} (rg' : Int32 → List (Option Value)) (hi : Nat.blt i (mrL M) = true) (hn : nNl rg i = true) (hr : ∀ v, rg.set i (some (.int v)) = rg' v) (k : ∀ v, mRs d M q c (pc + 2) (rg' v) st w (K v)) : mRs d M q ((pc, .istore i, rs) :: c) pc rg (.int x :: st) w (nLet x K) := sIs _ hi hn (hr x) (k x)
theorem sLsL1 {i : Fin 4} {x : Int64} {K : Int64 → Option (α × mW)} (rg' : Int64 → List (Option Value)) (hi : Nat.blt (i + 1) (mrL M) = true) (hn : nNl rg i = true) (hr : ∀ v, (rg.set i (some (.long v))).set (i + 1) none = rg' v) (k : ∀ v, mRs d M q c (pc + 1) (rg' v) st w (K v)) : mRs d M q ((pc, .lstore_n i, rs) :: c) pc rg (.long x :: st) w (nLet x K) := sLs1 _ hi hn (hr x) (k x)
theorem sLsL {i : Nat} {x : Int64} {K : Int64 → Option (α × mW)} (rg' : Int64 → List (Option Value)) (hi : Nat.blt (i + 1) (mrL M) = true) (hn : nNl rg i = true) (hr : ∀ v, (rg.set i (some (.long v))).set (i + 1) none = rg' v) (k : ∀ v, mRs d M q c (pc + 2) (rg' v) st w (K v)) : mRs d M q ((pc, .lstore i, rs) :: c) pc rg (.long x :: st) w (nLet x K) := sLs _ hi hn (hr x) (k x)
theorem sAaG {a n b : Nat} {i : Int32} (h : nC a 104 n) (hp : ∀ j, j < n → ∀ w, nP w a j = some (b + j)) (k : nG i n = true → mRs d M q c (pc + 1) rg (.ref (b + i.toNatClampNeg) :: st) w e) : mRs d M q ((pc, .aaload, rs) :: c) pc rg (.int i :: .ref a :: st) w (nGd (nG i n) e) := by
  intro hc lv hf z hz
  by_cases g : nG i n = true
  · rw [nGd, if_pos g] at hz
    have g2 : i.toNatClampNeg < n := by
      have := nG_in g
      unfold vp_in at this
      omega
    refine mRs_str (C := [vp_in i n]) (fun lv hf => ⟨lv, hf, ?_⟩) ⟨nG_in g, trivial⟩ (k g) hc lv hf z hz
    have h2 : (mSh (mK w) a) = (104, n) := h.sh w
    have h3 : mP (mK w) a i.toNatClampNeg = some (b + i.toNatClampNeg) := hp _ g2 w
    have h4 : mAald pc lv (.int i :: .ref a :: st) (mK w) = some ((pc + 1, lv, .ref (b + i.toNatClampNeg) :: st, mK w), [vp_in i n]) := by
      unfold mAald
      simp only [h2, h3]
      rw [if_pos ⟨h.1, trivial⟩]
      rfl
    show mAa2 pc lv (.int i :: .ref a :: st) (mK w) = _
    unfold mAa2
    rw [h4]
  · rw [nGd, if_neg g] at hz
    cases hz
end NT
