/-! ===== a method's table, checked by the kernel ===== -/
def mWk (p : Nat × Nat) (w : Cond) : Bool := decide ((mCh p.1)[p.2]? = some w)
theorem mWk_in {p : Nat × Nat} {w : Cond} (h : mWk p w = true) : w ∈ lw_tbl := mIn_at (of_decide_eq_true h)
def mChD (cc : ByteArray) (pc : Nat) (i : Instr) : Bool := match i with
  | .tableswitch _ _ _ _ => (match decode cc pc with
    | .ok (j, _) => decide (j = i)
    | _ => false)
  | .lookupswitch _ _ => (match decode cc pc with
    | .ok (j, _) => decide (j = i)
    | _ => false)
  | _ => decide (decode cc pc = .ok (i, mLen i))
theorem mChD_ok {cc : ByteArray} {pc : Nat} {i : Instr} (h : mChD cc pc i = true) : mOkD cc pc i := by
  cases i
  case tableswitch d lo hi offs =>
    simp only [mChD] at h
    split at h
    · rename_i j len hd
      rw [of_decide_eq_true h] at hd
      exact ⟨len, hd⟩
    · cases h
  case lookupswitch d ps =>
    simp only [mChD] at h
    split at h
    · rename_i j len hd
      rw [of_decide_eq_true h] at hd
      exact ⟨len, hd⟩
    · cases h
  all_goals (have h9 := of_decide_eq_true (p := decode cc pc = .ok (_, mLen _)) h; exact h9)
def mChF (M : mRec) (idx ci j : Nat) (p : Nat × Nat) (put : Bool) : Bool := match mCl[ci]? with
  | some q => decide (j < q.2.2) && mWk p (Cond.fieldLink (mrN M).cls idx (q.2.1 j).1 (q.2.1 j).2.1 (q.2.1 j).2.2.1) && (!put || !(q.2.1 j).2.2.2 || (decide ((mrN M).name = "<init>") && decide ((q.2.1 j).1 = (mrN M).cls)))
  | none => false
/-- throws whose words were looked up: class, index of the constructor's link, which exception -/
abbrev mAtL : List (String × Nat × Nat) := [("LaneEyes", 92, 0), ("LaneEyes", 220, 1)]
def mAtB (q : String × Nat × Nat) : Bool := (mAtS q.1 q.2.1 q.2.2).all (fun w => (decide (w ∈ lw_tbl) && goodWord w) || decide (w = .castable (mExN q.2.2) (mExN q.2.2)) || mDecl.any (fun x => decide (w = .declares x)))
theorem mAtB_ok {q : String × Nat × Nat} (h : mAtB q = true) : ∀ w ∈ mAtS q.1 q.2.1 q.2.2, (w ∈ lw_tbl ∧ goodWord w = true) ∨ w = .castable (mExN q.2.2) (mExN q.2.2) ∨ ∃ x ∈ mDecl, w = .declares x := by
  intro w hw
  have h1 := List.all_eq_true.mp h w hw
  simp only [Bool.or_eq_true, Bool.and_eq_true, decide_eq_true_eq, List.any_eq_true] at h1
  rcases h1 with (h1 | h1) | ⟨x, h1, h2⟩
  · exact Or.inl h1
  · exact Or.inr (Or.inl h1)
  · exact Or.inr (Or.inr ⟨x, h1, h2⟩)
def mChT (M : mRec) (pc idx : Nat) (rs : List Nat) (hs : List (Nat × Nat)) : Bool :=
  mStrs.any (fun q => decide (q.1 = (mrN M).cls) && decide (q.2.1 = rs.getD 3 0)) && mWk (hs.getD 0 (0, 0)) (.classLink (mrN M).cls idx (mExN (rs.getD 1 0))) && mWk (hs.getD 1 (0, 0)) (.initialized (mExN (rs.getD 1 0))) && decide (((mrN M).cls, rs.getD 2 0, rs.getD 1 0) ∈ mAtL) &&
  (if rs.getD 4 0 = 0 then decide (decode (mrB M) (pc + 3) = .ok (.dup, 1)) && decide (decode (mrB M) (pc + 4) = .ok (.ldc (rs.getD 3 0), 2)) && decide (decode (mrB M) (pc + 6) = .ok (.invokespecial (rs.getD 2 0), 3)) && decide (decode (mrB M) (pc + 9) = .ok (.athrow, 1))
   else decide (decode (mrB M) (pc + 3) = .ok (.dup, 1)) && decide (decode (mrB M) (pc + 4) = .ok (.ldc_w (rs.getD 3 0), 3)) && decide (decode (mrB M) (pc + 7) = .ok (.invokespecial (rs.getD 2 0), 3)) && decide (decode (mrB M) (pc + 10) = .ok (.athrow, 1)))
theorem mChT_ok {M : mRec} {pc idx : Nat} {rs : List Nat} {hs : List (Nat × Nat)} (hAt : ∀ q ∈ mAtL, mAtB q = true) (h : mChT M pc idx rs hs = true) : mOkT M pc idx (rs.getD 1 0) := by
  unfold mChT at h
  simp only [Bool.and_eq_true] at h
  obtain ⟨⟨⟨⟨h1, h2⟩, h3⟩, h4⟩, h5⟩ := h
  obtain ⟨⟨o, is, tx⟩, g1, g2⟩ := List.any_eq_true.mp h1
  rw [Bool.and_eq_true] at g2
  have e1 : o = (mrN M).cls := of_decide_eq_true g2.1
  have e2 : is = rs.getD 3 0 := of_decide_eq_true g2.2
  have g3 : ((mrN M).cls, rs.getD 3 0, tx) ∈ mStrs := by rw [← e1, ← e2]; exact g1
  have h6 : ((mrN M).cls, rs.getD 2 0, rs.getD 1 0) ∈ mAtL := of_decide_eq_true h4
  have h7 := mAtB_ok (hAt _ h6)
  refine ⟨rs.getD 2 0, rs.getD 3 0, tx, g3, mWk_in h2, mWk_in h3, h7, ?_⟩
  clear h7 h6 h4 h3 h2 h1 g1 g3 hAt
  split at h5
  · simp only [Bool.and_eq_true, decide_eq_true_eq] at h5
    obtain ⟨⟨⟨a, b⟩, c⟩, d⟩ := h5
    exact Or.inl ⟨a, b, c, d⟩
  · simp only [Bool.and_eq_true, decide_eq_true_eq] at h5
    obtain ⟨⟨⟨a, b⟩, c⟩, d⟩ := h5
    exact Or.inr ⟨a, b, c, d⟩
/-- what a method is to its callers: how many parameters, how it is called (0 by an object, 1 static, 2 a constructor), the number of its class -/
def mSelfOk (tab : Nat → Option mRec) (self : Nat → Option (Nat × Nat × Nat)) : Prop := ∀ (y : Nat) (M' : mRec) (n kd ci : Nat), tab y = some M' → self y = some (n, kd, ci) → mOkC0 M' n ∧ (kd = 0 → mrH M' = [] ∧ Cond.instanceMethod (mrN M') ∈ lw_tbl ∧ Cond.selects (mrN M').cls (mrN M') (mrN M') ∈ lw_tbl ∧ ∃ q : vw_C, mCl[ci]? = some q ∧ q.1 = (mrN M').cls) ∧
  (kd = 1 → Cond.static (mrN M') ∈ lw_tbl) ∧ (kd = 2 → mrH M' = [] ∧ mrR M' = none ∧ (mrN M').name = "<init>" ∧ Cond.instanceMethod (mrN M') ∈ lw_tbl) ∧ (kd = 3 → mrH M' = [] ∧ Cond.instanceMethod (mrN M') ∈ lw_tbl ∧ Cond.selects (mrN M').cls (mrN M') (mrN M') ∈ lw_tbl ∧ oCn ci = (mrN M').cls) ∧
  (kd = 4 → n = 0 ∧ mrH M' = [] ∧ Cond.instanceMethod (mrN M') ∈ lw_tbl ∧ Cond.sameMethod oOrd.cls (mrN M').cls oOrd.name oOrd.desc ∈ lw_tbl ∧ Cond.selects "LaneEyes$Word" oOrd (mrN M') ∈ lw_tbl ∧ mrN M' = ⟨(mrN M').cls, oOrd.name, oOrd.desc⟩)
def mChI (tab : Nat → Option mRec) (self : Nat → Option (Nat × Nat × Nat)) (M : mRec) (i : Instr) (rs : List Nat) (p : Nat × Nat) : Bool := match tab (rs.getD 1 0), self (rs.getD 1 0) with
  | some M', some (n, kd, ci) => decide (n = rs.getD 2 0) && (match i with
    | .invokevirtual idx => if rs.getD 0 0 = 0 then decide (kd = 0) && decide (ci = rs.getD 3 0) && mWk p (.methodLink (mrN M).cls idx (mrN M')) else if rs.getD 0 0 = 5 then decide (kd = 3) && decide (ci = rs.getD 3 0) && mWk p (.methodLink (mrN M).cls idx (mrN M')) else if rs.getD 0 0 = 6 then decide (kd = 4) && mWk p (.methodLink (mrN M).cls idx oOrd) else false
    | .invokestatic idx => decide (kd = 1) && (if rs.getD 0 0 = 1 then mWk p (.methodLink (mrN M).cls idx (mrN M')) else if rs.getD 0 0 = 2 then decide (mrH M' = []) && mNest.any (fun q => decide (q.1 = (mrN M).cls) && decide (q.2.1 = idx) && decide (q.2.2.1 = mrN M')) else false)
    | .invokespecial idx => decide (kd = 2) && (if rs.getD 0 0 = 3 then mWk p (.methodLink (mrN M).cls idx (mrN M')) else if rs.getD 0 0 = 4 then mNest.any (fun q => decide (q.1 = (mrN M).cls) && decide (q.2.1 = idx) && decide (q.2.2.1 = mrN M')) else false)
    | _ => true)
  | none, _ => true
  | _, _ => false
theorem mNest_any {own : String} {idx : Nat} {y : MethodName} (h : mNest.any (fun q => decide (q.1 = own) && decide (q.2.1 = idx) && decide (q.2.2.1 = y)) = true) : ∃ host : String, (own, idx, y, host) ∈ mNest := by
  obtain ⟨⟨a, b, c, d⟩, g1, g2⟩ := List.any_eq_true.mp h
  simp only [Bool.and_eq_true, decide_eq_true_eq] at g2
  obtain ⟨⟨rfl, rfl⟩, rfl⟩ := g2
  exact ⟨d, g1⟩
theorem mChI_ok {tab : Nat → Option mRec} {self : Nat → Option (Nat × Nat × Nat)} {M : mRec} {i : Instr} {rs : List Nat} {p : Nat × Nat} (hs : mSelfOk tab self) (h : mChI tab self M i rs p = true) : ∀ M', tab (rs.getD 1 0) = some M' → mOkI M i rs M' := by
  intro M' hM
  unfold mChI at h
  rw [hM] at h
  cases hse : self (rs.getD 1 0) with
  | none => rw [hse] at h; cases h
  | some q =>
    obtain ⟨n, kd, ci⟩ := q
    rw [hse] at h
    simp only [Bool.and_eq_true, decide_eq_true_eq] at h
    obtain ⟨rfl, h⟩ := h
    obtain ⟨s0, s1, s2, s3, s4, s5⟩ := hs _ _ _ _ _ hM hse
    cases i
    case invokevirtual idx =>
      replace h : (if rs.getD 0 0 = 0 then decide (kd = 0) && decide (ci = rs.getD 3 0) && mWk p (.methodLink (mrN M).cls idx (mrN M')) else if rs.getD 0 0 = 5 then decide (kd = 3) && decide (ci = rs.getD 3 0) && mWk p (.methodLink (mrN M).cls idx (mrN M')) else if rs.getD 0 0 = 6 then decide (kd = 4) && mWk p (.methodLink (mrN M).cls idx oOrd) else false) = true := h
      split at h
      · rename_i hr
        simp only [Bool.and_eq_true, decide_eq_true_eq] at h
        obtain ⟨⟨rfl, rfl⟩, h⟩ := h
        obtain ⟨a, b, c, d⟩ := s1 rfl
        exact ⟨s0, a, b, fun _ => ⟨mWk_in h, c, d⟩, fun h5 => by omega, fun h6 => by omega⟩
      · split at h
        · rename_i hr0 hr
          simp only [Bool.and_eq_true, decide_eq_true_eq] at h
          obtain ⟨⟨rfl, rfl⟩, h⟩ := h
          obtain ⟨a, b, c, d⟩ := s4 rfl
          exact ⟨s0, a, b, fun h0 => absurd h0 hr0, fun _ => ⟨mWk_in h, c, d⟩, fun h6 => by omega⟩
        · split at h
          · rename_i hr0 hr5 hr
            simp only [Bool.and_eq_true, decide_eq_true_eq] at h
            obtain ⟨rfl, h⟩ := h
            obtain ⟨z, a, b, c, d, g⟩ := s5 rfl
            exact ⟨s0, a, b, fun h0 => absurd h0 hr0, fun h5 => absurd h5 hr5, fun _ => ⟨mWk_in h, c, d, g, z⟩⟩
          · cases h
    case invokestatic idx =>
      simp only [Bool.and_eq_true, decide_eq_true_eq] at h
      obtain ⟨rfl, h⟩ := h
      refine ⟨s0, s2 rfl, fun h1 => ?_, fun h1 => ?_⟩
      · rw [if_pos h1] at h; exact mWk_in h
      · rw [if_neg (by omega), if_pos h1] at h
        simp only [Bool.and_eq_true, decide_eq_true_eq] at h
        exact ⟨h.1, mNest_any h.2⟩
    case invokespecial idx =>
      simp only [Bool.and_eq_true, decide_eq_true_eq] at h
      obtain ⟨rfl, h⟩ := h
      obtain ⟨a, b, c, d⟩ := s3 rfl
      refine ⟨s0, a, b, c, d, fun h1 => ?_, fun h1 => ?_⟩
      · rw [if_pos h1] at h; exact mWk_in h
      · rw [if_neg (by omega), if_pos h1] at h
        exact mNest_any h
    all_goals trivial
def mChA (aty : ArrayType) (kind : Nat) (p : Nat × Nat) : Bool := ((decide (aty = .int) && decide (kind = 100)) || (decide (aty = .byte) && decide (kind = 101)) || (decide (aty = .boolean) && decide (kind = 102)) || (decide (aty = .long) && decide (kind = 103))) && mWk p (.arrayClass (newarray.typeOf aty))
def mChN (M : mRec) (idx ci N : Nat) (hs : List (Nat × Nat)) : Bool := match mCl[ci]? with
  | some q => decide (q.2.2 = N) && mWk (hs.getD 0 (0, 0)) (.classLink (mrN M).cls idx q.1) && mWk (hs.getD 1 (0, 0)) (.instantiable q.1 N) && mWk (hs.getD 2 (0, 0)) (.initialized q.1)
  | none => false
def mChE (tab : Nat → Option mRec) (self : Nat → Option (Nat × Nat × Nat)) (M : mRec) (pc : Nat) (i : Instr) (rs : List Nat) (hs : List (Nat × Nat)) : Bool := mChD (mrB M) pc i && (match i with
  | .getfield idx => if rs.getD 0 0 = 900 then mWk (hs.getD 0 (0, 0)) (.fieldLink (mrN M).cls idx (oFk (rs.getD 1 0)).1 (oFk (rs.getD 1 0)).2.1 (oFk (rs.getD 1 0)).2.2) else mChF M idx (rs.getD 0 0) (rs.getD 1 0) (hs.getD 0 (0, 0)) false
  | .getstatic idx => (match oStat[rs.getD 0 99]? with
    | some q => mWk (hs.getD 0 (0, 0)) (.fieldLink (mrN M).cls idx q.1 q.2.1 q.2.2.1) || decide (Cond.fieldLinkNest (mrN M).cls idx q.1 q.2.1 q.2.2.1 "LaneEyes" = oWds)
    | none => true)
  | .putfield idx => mChF M idx (rs.getD 0 0) (rs.getD 1 0) (hs.getD 0 (0, 0)) true
  | .ldc idx => mWk (hs.getD 0 (0, 0)) (.constant (mrN M).cls idx (Int32.ofNat (rs.getD 0 0)))
  | .ldc_w idx => mWk (hs.getD 0 (0, 0)) (.constant (mrN M).cls idx (Int32.ofNat (rs.getD 0 0)))
  | .ldc2_w idx => mWk (hs.getD 0 (0, 0)) (.constantLong (mrN M).cls idx (Int64.ofNat (rs.getD 0 0)))
  | .invokestatic idx => mChI tab self M i rs (hs.getD 0 (0, 0)) && (!decide (rs.getD 0 0 = 9001) || mWk (hs.getD 0 (0, 0)) (.methodLink (mrN M).cls idx arraycopyName)) && (!decide (rs.getD 0 0 = 9010) || mWk (hs.getD 0 (0, 0)) (.methodLink (mrN M).cls idx Lib.Math.max.name)) && (!decide (rs.getD 0 0 = 9011) || mWk (hs.getD 0 (0, 0)) (.methodLink (mrN M).cls idx Lib.Math.min.name)) && (!decide (rs.getD 0 0 = 9012) || mWk (hs.getD 0 (0, 0)) (.methodLink (mrN M).cls idx Lib.Math.abs.name))
  | .invokespecial idx => mChI tab self M i rs (hs.getD 0 (0, 0)) && (!decide (rs.getD 0 0 = 9002) || mWk (hs.getD 0 (0, 0)) (.methodLink (mrN M).cls idx Lib.objectInit))
  | .invokevirtual _ => mChI tab self M i rs (hs.getD 0 (0, 0))
  | .new idx => (!decide (rs.getD 0 0 < 100) || mChN M idx (rs.getD 0 0) (rs.getD 1 0) hs) && (!decide (rs.getD 0 0 = 777) || mChT M pc idx rs hs)
  | .newarray aty => mChA aty (rs.getD 0 0) (hs.getD 0 (0, 0))
  | .multianewarray idx dims => decide (dims = 2) && mWk (hs.getD 0 (0, 0)) (.classLink (mrN M).cls idx "[[I")
  | _ => true)
theorem mChF_ok {M : mRec} {idx ci j : Nat} {p : Nat × Nat} {put : Bool} (h : mChF M idx ci j p put = true) : ∃ q : vw_C, mCl[ci]? = some q ∧ j < q.2.2 ∧ Cond.fieldLink (mrN M).cls idx (q.2.1 j).1 (q.2.1 j).2.1 (q.2.1 j).2.2.1 ∈ lw_tbl ∧ (put = true → ((q.2.1 j).2.2.2 = false ∨ ((mrN M).name = "<init>" ∧ (q.2.1 j).1 = (mrN M).cls))) := by
  unfold mChF at h
  split at h
  · rename_i q hq
    simp only [Bool.and_eq_true, decide_eq_true_eq, Bool.or_eq_true, Bool.not_eq_true'] at h
    obtain ⟨⟨h1, h2⟩, h3⟩ := h
    refine ⟨q, hq, h1, mWk_in h2, fun hp => ?_⟩
    rcases h3 with (h3 | h3) | h3
    · rw [hp] at h3; cases h3
    · exact Or.inl h3
    · exact Or.inr h3
  · cases h
theorem mChE_ok {tab : Nat → Option mRec} {self : Nat → Option (Nat × Nat × Nat)} {M : mRec} {pc : Nat} {i : Instr} {rs : List Nat} {hs : List (Nat × Nat)} (hse : mSelfOk tab self) (hAt : ∀ q ∈ mAtL, mAtB q = true) (h : mChE tab self M pc i rs hs = true) : mOkX tab M pc i rs := by
  unfold mChE at h
  rw [Bool.and_eq_true] at h
  obtain ⟨h1, h2⟩ := h
  have hd := mChD_ok h1
  cases i
  case getfield idx =>
    replace h2 : (if rs.getD 0 0 = 900 then mWk (hs.getD 0 (0, 0)) (.fieldLink (mrN M).cls idx (oFk (rs.getD 1 0)).1 (oFk (rs.getD 1 0)).2.1 (oFk (rs.getD 1 0)).2.2) else mChF M idx (rs.getD 0 0) (rs.getD 1 0) (hs.getD 0 (0, 0)) false) = true := h2
    split at h2
    · rename_i hr
      exact ⟨hd, fun hne => absurd hr hne, fun _ => mWk_in h2, fun _ _ => trivial, trivial⟩
    · rename_i hr
      refine ⟨hd, fun hne => ?_, fun h9 => absurd h9 hr, fun _ _ => trivial, trivial⟩
      obtain ⟨q, a, b, c, -⟩ := mChF_ok h2
      exact ⟨q, a, b, c⟩
  case getstatic idx =>
    refine ⟨hd, trivial, fun q hq => ?_, fun _ _ => trivial, trivial⟩
    replace h2 : (match oStat[rs.getD 0 99]? with
      | some q => mWk (hs.getD 0 (0, 0)) (.fieldLink (mrN M).cls idx q.1 q.2.1 q.2.2.1) || decide (Cond.fieldLinkNest (mrN M).cls idx q.1 q.2.1 q.2.2.1 "LaneEyes" = oWds)
      | none => true) = true := h2
    rw [hq] at h2
    simp only [Bool.or_eq_true, decide_eq_true_eq] at h2
    rcases h2 with h2 | h2
    · exact .inl (mWk_in h2)
    · exact .inr h2
  case putfield idx =>
    obtain ⟨q, a, b, c, d⟩ := mChF_ok h2
    exact ⟨hd, ⟨q, a, b, c, d rfl⟩, trivial, fun _ _ => trivial, trivial⟩
  case ldc idx => exact ⟨hd, trivial, mWk_in h2, fun _ _ => trivial, trivial⟩
  case ldc_w idx => exact ⟨hd, trivial, mWk_in h2, fun _ _ => trivial, trivial⟩
  case ldc2_w idx => exact ⟨hd, trivial, mWk_in h2, fun _ _ => trivial, trivial⟩
  case invokestatic idx =>
    simp only [Bool.and_eq_true, Bool.or_eq_true, Bool.not_eq_true', decide_eq_false_iff_not] at h2
    obtain ⟨⟨⟨⟨g0, g1⟩, g2⟩, g3⟩, g4⟩ := h2
    exact ⟨hd, trivial, ⟨fun hr => mWk_in (g1.resolve_left (fun n => n hr)), fun hr => mWk_in (g2.resolve_left (fun n => n hr)), fun hr => mWk_in (g3.resolve_left (fun n => n hr)), fun hr => mWk_in (g4.resolve_left (fun n => n hr))⟩, mChI_ok hse g0, trivial⟩
  case invokespecial idx =>
    simp only [Bool.and_eq_true, Bool.or_eq_true, Bool.not_eq_true', decide_eq_false_iff_not] at h2
    refine ⟨hd, trivial, fun hr => ?_, mChI_ok hse h2.1, trivial⟩
    rcases h2.2 with h3 | h3
    · exact absurd hr h3
    · exact mWk_in h3
  case invokevirtual idx => exact ⟨hd, trivial, trivial, mChI_ok hse h2, trivial⟩
  case new idx =>
    simp only [Bool.and_eq_true, Bool.or_eq_true, Bool.not_eq_true', decide_eq_false_iff_not] at h2
    refine ⟨hd, trivial, trivial, fun _ _ => trivial, fun hr => ?_, fun hr => ?_⟩
    · rcases h2.1 with h3 | h3
      · exact absurd hr h3
      · unfold mChN at h3
        split at h3
        · rename_i q hq
          simp only [Bool.and_eq_true, decide_eq_true_eq] at h3
          obtain ⟨⟨⟨a, b⟩, c⟩, d⟩ := h3
          exact ⟨q, hq, a, mWk_in b, mWk_in c, mWk_in d⟩
        · cases h3
    · rcases h2.2 with h3 | h3
      · exact absurd hr h3
      · exact mChT_ok hAt h3
  case newarray aty =>
    refine ⟨hd, trivial, trivial, fun _ _ => trivial, ?_⟩
    simp only [mChA, Bool.and_eq_true, Bool.or_eq_true, decide_eq_true_eq] at h2
    obtain ⟨h3, h4⟩ := h2
    refine ⟨?_, mWk_in h4⟩
    rcases h3 with ((h3 | h3) | h3) | h3
    · exact Or.inl h3
    · exact Or.inr (Or.inl h3)
    · exact Or.inr (Or.inr (Or.inl h3))
    · exact Or.inr (Or.inr (Or.inr h3))
  case multianewarray idx dims =>
    simp only [Bool.and_eq_true, decide_eq_true_eq] at h2
    exact ⟨hd, trivial, trivial, fun _ _ => trivial, h2.1, mWk_in h2.2⟩
  all_goals exact ⟨hd, trivial, trivial, fun _ _ => trivial, trivial⟩
def mChC (tab : Nat → Option mRec) (self : Nat → Option (Nat × Nat × Nat)) (M : mRec) (c : mCodeT) (hs : List (List (Nat × Nat))) : Bool := match c, hs with
  | [], _ => true
  | e :: t, h :: hs => mChE tab self M e.1 e.2.1 e.2.2 h && mChC tab self M t hs
  | e :: t, [] => mChE tab self M e.1 e.2.1 e.2.2 [] && mChC tab self M t []
theorem mChC_ok {tab : Nat → Option mRec} {self : Nat → Option (Nat × Nat × Nat)} {M : mRec} (hse : mSelfOk tab self) (hAt : ∀ q ∈ mAtL, mAtB q = true) : ∀ (c : mCodeT) (hs : List (List (Nat × Nat))), mChC tab self M c hs = true → ∀ (pc : Nat) (i : Instr) (rs : List Nat), mAt c pc = some (i, rs) → mOkX tab M pc i rs
  | [], _, _, _, _, _, h => by simp [mAt] at h
  | (e1, i9, rs9) :: t, hs, h, pc, i, rs, ha => by
    have h2 : ∃ (h9 : List (Nat × Nat)) (hs9 : List (List (Nat × Nat))), mChE tab self M e1 i9 rs9 h9 = true ∧ mChC tab self M t hs9 = true := by
      cases hs with
      | nil => simp only [mChC, Bool.and_eq_true] at h; exact ⟨_, _, h⟩
      | cons a b => simp only [mChC, Bool.and_eq_true] at h; exact ⟨_, _, h⟩
    obtain ⟨h9, hs9, g1, g2⟩ := h2
    simp only [mAt] at ha
    split at ha
    · rename_i hp
      cases ha
      rw [← hp]
      exact mChE_ok hse hAt g1
    · exact mChC_ok hse hAt t hs9 g2 pc i rs ha
def mChH (M : mRec) (hs : List (Nat × Nat)) : Bool := decide ((mrE M).length = (mrH M).length) && ((mrH M).zip ((mrE M).zip hs)).all (fun q => decide (q.1.2.2.2 ≠ 0) && mWk q.2.2 (.classLink (mrN M).cls q.1.2.2.2 q.2.1) && (decide (q.2.1 = mIAE) || decide (q.2.1 = mNSE))) && decide (hs.length = (mrH M).length)
theorem mChH_ok {M : mRec} {hs : List (Nat × Nat)} (h : mChH M hs = true) : mOkHd M := by
  unfold mChH at h
  simp only [Bool.and_eq_true, decide_eq_true_eq] at h
  obtain ⟨⟨h1, h2⟩, h3⟩ := h
  refine ⟨h1, fun j x n hx hn => ?_⟩
  have hj : j < hs.length := by rw [h3]; exact (List.getElem?_eq_some_iff.mp hx).1
  have hm : (x, n, hs[j]) ∈ (mrH M).zip ((mrE M).zip hs) := by
    apply List.mem_of_getElem? (i := j)
    rw [List.getElem?_zip_eq_some]
    refine ⟨hx, ?_⟩
    rw [List.getElem?_zip_eq_some]
    exact ⟨hn, List.getElem?_eq_getElem hj⟩
  have h4 := List.all_eq_true.mp h2 _ hm
  simp only [Bool.and_eq_true, Bool.or_eq_true, decide_eq_true_eq] at h4
  exact ⟨h4.1.1, mWk_in h4.1.2, h4.2⟩
theorem mAt_app {a b : mCodeT} {pc : Nat} {x : mIns} (h : mAt (a ++ b) pc = some x) : mAt a pc = some x ∨ mAt b pc = some x := by
  induction a with
  | nil => exact Or.inr h
  | cons e t ih =>
    simp only [List.cons_append, mAt] at h ⊢
    split at h
    · rename_i hp
      rw [if_pos hp]
      exact Or.inl h
    · rename_i hp
      rw [if_neg hp]
      exact ih h
theorem mChM_ok {tab : Nat → Option mRec} {self : Nat → Option (Nat × Nat × Nat)} {M : mRec} (hse : mSelfOk tab self) (hAt : ∀ q ∈ mAtL, mAtB q = true) (hn : plainName (mrN M).cls = true) {hh : List (Nat × Nat)} (h1 : mChH M hh = true) {hs : List (List (Nat × Nat))} (h2 : mChC tab self M (mrC M) hs = true) : mOkM tab M :=
  ⟨hn, mChH_ok h1, fun pc i rs h => mChC_ok hse hAt _ hs h2 pc i rs h⟩
