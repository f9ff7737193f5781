/-! ===== THE BEGINNING: branches, new cells, calls ===== -/
def zCmp (q : ClassFile.Cond) (x y : Int32) : Bool := match q with
  | .eq => decide (x = y)
  | .ne => !decide (x = y)
  | .lt => decide (x < y)
  | .ge => decide (y ≤ x)
  | .gt => decide (y < x)
  | .le => decide (x ≤ y)
theorem zCmp_ok (q : ClassFile.Cond) (x y : Int32) : (zCmp q x y = true) = mCmp q x y := by
  cases q <;> simp [zCmp, mCmp]
def zAddN (z : zP) (kind len : Nat) : Nat → zP
  | 0 => z
  | n + 1 => zAdd (zAddN z kind len n) kind len []
def zE1 (call : Nat → List Value → zP → Option zP) (M : mRec) (S : zT) : Option (zT ⊕ zP) := match mAt (mrC M) S.1 with
  | none => none
  | some (i, rs) => (match zS (mrL M) i rs S.1 S.2.1 S.2.2.1 S.2.2.2 with
    | some T => some (.inl T)
    | none => (match i, S.2.2.1 with
      | .if_icmp q off, .int y :: .int x :: t => if 0 ≤ (S.1 : Int) + off then (if zCmp q x y = true then some (.inl (mTo S.1 off, S.2.1, t, S.2.2.2)) else some (.inl (S.1 + 3, S.2.1, t, S.2.2.2))) else none
      | .return_, [] => if mrR M = none then some (.inr S.2.2.2) else none
      | .new _, st => if rs.getD 0 0 < 100 ∧ zN S.2.2.2 < 1000000 then some (.inl (S.1 + 3, S.2.1, .ref (zN S.2.2.2) :: st, zAdd S.2.2.2 (rs.getD 0 0) (rs.getD 1 0) [])) else none
      | .newarray _, .int n :: t => if 100 ≤ rs.getD 0 0 ∧ rs.getD 0 0 < 104 ∧ ¬ n < 0 ∧ n.toNatClampNeg ≤ 60000000 ∧ zN S.2.2.2 < 1000000 then some (.inl (S.1 + 2, S.2.1, .ref (zN S.2.2.2) :: t, zAdd S.2.2.2 (rs.getD 0 0) n.toNatClampNeg [])) else none
      | .multianewarray _ _, .int k :: .int n :: t => if rs.getD 0 0 = 104 ∧ ¬ n < 0 ∧ ¬ k < 0 ∧ n.toNatClampNeg ≤ 60000000 ∧ k.toNatClampNeg ≤ 60000000 ∧ zN S.2.2.2 + (1 + n.toNatClampNeg) ≤ 1000000 then some (.inl (S.1 + 4, S.2.1, .ref (zN S.2.2.2) :: t, zAddN (zAdd S.2.2.2 104 n.toNatClampNeg ((List.range n.toNatClampNeg).map fun j => (zN S.2.2.2, j, some (zN S.2.2.2 + 1 + j)))) 100 k.toNatClampNeg n.toNatClampNeg)) else none
      | .invokespecial _, st => if (rs.getD 0 0 = 3 ∨ rs.getD 0 0 = 4) ∧ rs.getD 2 0 ≤ st.length then (match st.drop (rs.getD 2 0) with
        | .ref b :: t => if (t.map fun v => v.category).sum ≤ 8 then (match call (rs.getD 1 0) (.ref b :: (st.take (rs.getD 2 0)).reverse) S.2.2.2 with
          | some z' => some (.inl (S.1 + 3, S.2.1, t, z'))
          | none => none) else none
        | _ => none) else none
      | .invokestatic _, st => if rs.getD 0 0 = 1 ∧ rs.getD 2 0 ≤ st.length ∧ ((st.drop (rs.getD 2 0)).map fun v => v.category).sum ≤ 8 then (match call (rs.getD 1 0) ((st.take (rs.getD 2 0)).reverse) S.2.2.2 with
        | some z' => some (.inl (S.1 + 3, S.2.1, st.drop (rs.getD 2 0), z'))
        | none => none) else none
      | _, _ => none))
def zEx (call : Nat → List Value → zP → Option zP) (M : mRec) : Nat → zT → Option zP
  | 0, _ => none
  | f + 1, S => match zE1 call M S with
    | some (.inl T) => zEx call M f T
    | some (.inr z) => some z
    | none => none
def zRun : Nat → Nat → List Value → zP → Option zP
  | 0 => fun _ _ _ => none
  | d + 1 => fun y args z => match mTab y with
    | none => none
    | some M => if (lg_sl args).length ≤ mrL M then zEx (zRun d) M 2000 (0, lv_args 0 args, [], z) else none
def zPre (call : Nat → List Value → zP → Option zP) (M : mRec) (stop : Nat) : Nat → zT → Option zT
  | 0, _ => none
  | f + 1, S => if S.1 = stop then some S else match zE1 call M S with
    | some (.inl T) => zPre call M stop f T
    | _ => none
section ZMAKE
variable {L : Nat} {xs : Nat → Int32}
abbrev dSt (L : Nat) (xs : Nat → Int32) (S : zT) : mSt := (S.1, S.2.1, S.2.2.1, dX L xs S.2.2.2)
theorem zAddN_ok {z : zP} {kind len : Nat} (hz : zOk z) : ∀ n, zN z + n ≤ 1000000 → zOk (zAddN z kind len n) ∧ zN (zAddN z kind len n) = zN z + n ∧ mAddN (dX L xs z) kind len n = dX L xs (zAddN z kind len n)
  | 0, _ => ⟨hz, rfl, rfl⟩
  | n + 1, h => by
    obtain ⟨a, b, c⟩ := zAddN_ok hz n (by omega)
    obtain ⟨d, e⟩ := zAdd_ok (L := L) (xs := xs) (kind := kind) (len := len) (ps := []) a (by omega) (fun q hq => by cases hq)
    refine ⟨d, ?_, ?_⟩
    · show zN (zAddN z kind len n) + 1 = _
      omega
    · show mAdd (mAddN (dX L xs z) kind len n) kind len (fun _ => none) = _
      rw [c]
      exact e
theorem lkp_map (N n j : Nat) : lkp none N j ((List.range n).map fun j => (N, j, some (N + 1 + j))) = if j < n then some (N + 1 + j) else none := by
  have key : ∀ (l : List Nat), lkp none N j (l.map fun j => (N, j, some (N + 1 + j))) = if j ∈ l then some (N + 1 + j) else none := by
    intro l
    induction l with
    | nil => rfl
    | cons a t ih =>
      show (if N = N then (if a = j then some (N + 1 + a) else lkp none N j (t.map fun j => (N, j, some (N + 1 + j)))) else _) = _
      rw [if_pos rfl, ih]
      by_cases e : a = j
      · rw [if_pos e, if_pos (by rw [e]; exact List.mem_cons_self ..), e]
      · rw [if_neg e]
        by_cases e2 : j ∈ t
        · rw [if_pos e2, if_pos (List.mem_cons_of_mem _ e2)]
        · rw [if_neg e2, if_neg (fun h => by rcases List.mem_cons.mp h with h | h; exact e h.symm; exact e2 h)]
  rw [key]
  by_cases e : j < n
  · rw [if_pos e, if_pos (List.mem_range.mpr e)]
  · rw [if_neg e, if_neg (fun h => e (List.mem_range.mp h))]
theorem zE1_ok {zc : Nat → List Value → zP → Option zP} {call : Nat → List Value → mHX → mRes → Prop} {M : mRec} {S : zT} {k : mSt → mRes → Prop} (hc : ∀ y As z z', zOk z → zc y As z = some z' → zOk z' ∧ call y As (dX L xs z) (.inl none, dX L xs z')) (hz : zOk S.2.2.2) :
    (∀ T r, zE1 zc M S = some (.inl T) → zOk T.2.2.2 ∧ (k (dSt L xs T) r → mStepR call M k (dSt L xs S) r)) ∧ (∀ z', zE1 zc M S = some (.inr z') → zOk z' ∧ mStepR call M k (dSt L xs S) (.inl none, dX L xs z')) := by
  obtain ⟨pc, lv, st, z⟩ := S
  have hz : zOk z := hz
  unfold zE1 mStepR
  dsimp only
  cases ha : mAt (mrC M) pc with
  | none => exact ⟨fun T r h => (by cases h), fun z' h => (by cases h)⟩
  | some q =>
    obtain ⟨i, rs⟩ := q
    dsimp only
    cases hs : zS (mrL M) i rs pc lv st z with
    | some T' =>
      obtain ⟨o1, C, o2, o3⟩ := zS_ok (L := L) (xs := xs) hz hs
      dsimp only
      rw [o2]
      refine ⟨fun T r h => ?_, fun z' h => by cases h⟩
      have e : T' = T := Sum.inl.inj (Option.some.inj h)
      subst e
      exact ⟨o1, fun hk => ⟨o3, hk⟩⟩
    | none =>
      dsimp only
      split
      · -- a comparison
        rename_i q off y x t
        have e1 : mStr (mrL M) (.if_icmp q off) rs pc lv (.int y :: .int x :: t) (dX L xs z) = none := rfl
        have e2 : mBrc (.if_icmp q off) (.int y :: .int x :: t) = some (mCmp q x y, off, t) := rfl
        rw [e1, e2]
        split
        · rename_i h0
          split
          · rename_i hcm
            rw [zCmp_ok] at hcm
            refine ⟨fun T r h => ?_, fun z' h => by cases h⟩
            have e := Sum.inl.inj (Option.some.inj h)
            subst e
            exact ⟨hz, fun hk => ⟨h0, fun _ => hk, fun hn => absurd hcm hn⟩⟩
          · rename_i hcm
            rw [zCmp_ok] at hcm
            refine ⟨fun T r h => ?_, fun z' h => by cases h⟩
            have e := Sum.inl.inj (Option.some.inj h)
            subst e
            exact ⟨hz, fun hk => ⟨h0, fun hy => absurd hy hcm, fun _ => hk⟩⟩
        · exact ⟨fun T r h => (by cases h), fun z' h => (by cases h)⟩
      · -- the end
        have e1 : mStr (mrL M) .return_ rs pc lv [] (dX L xs z) = none := rfl
        have e2 : mBrc .return_ [] = none := rfl
        rw [e1, e2]
        split
        · rename_i hr
          refine ⟨fun T r h => (by cases h), fun z' h => ?_⟩
          have e := Sum.inr.inj (Option.some.inj h)
          subst e
          have e3 : mRet (mrR M) .return_ [] = some (none, []) := if_pos hr
          refine ⟨hz, ?_⟩
          rw [e3]
          exact ⟨trivial, rfl⟩
        · exact ⟨fun T r h => (by cases h), fun z' h => (by cases h)⟩
      · -- a new object
        rename_i k9
        have e1 : mStr (mrL M) (.new k9) rs pc lv st (dX L xs z) = none := rfl
        have e2 : mBrc (.new k9) st = none := rfl
        have e3 : mRet (mrR M) (.new k9) st = none := rfl
        rw [e1, e2, e3]
        split
        · rename_i hc0
          refine ⟨fun T r h => ?_, fun z' h => by cases h⟩
          have e := Sum.inl.inj (Option.some.inj h)
          subst e
          obtain ⟨d, e⟩ := zAdd_ok (L := L) (xs := xs) (kind := rs.getD 0 0) (len := rs.getD 1 0) (ps := []) hz hc0.2 (fun q hq => by cases hq)
          have e4 : mAlc (.new k9) rs (pc, lv, st, dX L xs z) = some ((pc + 3, lv, .ref (zN z) :: st, mAdd (dX L xs z) (rs.getD 0 0) (rs.getD 1 0) (fun _ => none)), [zN z < 1000000]) := if_pos ⟨hc0.1, rfl⟩
          refine ⟨d, fun hk => ?_⟩
          rw [e4]
          refine ⟨⟨hc0.2, trivial⟩, ?_⟩
          have e5 : mAdd (dX L xs z) (rs.getD 0 0) (rs.getD 1 0) (fun _ => none) = dX L xs (zAdd z (rs.getD 0 0) (rs.getD 1 0) []) := e
          rw [e5]
          exact hk
        · exact ⟨fun T r h => (by cases h), fun z' h => (by cases h)⟩
      · -- a new array
        rename_i k9 n t
        have e1 : mStr (mrL M) (.newarray k9) rs pc lv (.int n :: t) (dX L xs z) = none := rfl
        have e2 : mBrc (.newarray k9) (.int n :: t) = none := rfl
        have e3 : mRet (mrR M) (.newarray k9) (.int n :: t) = none := rfl
        rw [e1, e2, e3]
        split
        · rename_i hc0
          refine ⟨fun T r h => ?_, fun z' h => by cases h⟩
          have e := Sum.inl.inj (Option.some.inj h)
          subst e
          obtain ⟨d, e⟩ := zAdd_ok (L := L) (xs := xs) (kind := rs.getD 0 0) (len := n.toNatClampNeg) (ps := []) hz hc0.2.2.2.2 (fun q hq => by cases hq)
          have e4 : mAlc (.newarray k9) rs (pc, lv, .int n :: t, dX L xs z) = some ((pc + 2, lv, .ref (zN z) :: t, mAdd (dX L xs z) (rs.getD 0 0) n.toNatClampNeg (fun _ => none)), [¬ n < 0, n.toNatClampNeg ≤ 60000000, zN z < 1000000]) := if_pos ⟨hc0.1, hc0.2.1, rfl⟩
          refine ⟨d, fun hk => ?_⟩
          rw [e4]
          refine ⟨⟨hc0.2.2.1, hc0.2.2.2.1, hc0.2.2.2.2, trivial⟩, ?_⟩
          have e5 : mAdd (dX L xs z) (rs.getD 0 0) n.toNatClampNeg (fun _ => none) = dX L xs (zAdd z (rs.getD 0 0) n.toNatClampNeg []) := e
          rw [e5]
          exact hk
        · exact ⟨fun T r h => (by cases h), fun z' h => (by cases h)⟩
      · -- an array of arrays
        rename_i a9 b9 k n t
        have e1 : mStr (mrL M) (.multianewarray a9 b9) rs pc lv (.int k :: .int n :: t) (dX L xs z) = none := rfl
        have e2 : mBrc (.multianewarray a9 b9) (.int k :: .int n :: t) = none := rfl
        have e3 : mRet (mrR M) (.multianewarray a9 b9) (.int k :: .int n :: t) = none := rfl
        rw [e1, e2, e3]
        split
        · rename_i hc0
          refine ⟨fun T r h => ?_, fun z' h => by cases h⟩
          have e := Sum.inl.inj (Option.some.inj h)
          subst e
          have hc1 : zN z + (1 + n.toNatClampNeg) ≤ 1000000 := hc0.2.2.2.2.2
          obtain ⟨d, e⟩ := zAdd_ok (L := L) (xs := xs) (z := z) (kind := 104) (len := n.toNatClampNeg) (ps := (List.range n.toNatClampNeg).map fun j => (zN z, j, some (zN z + 1 + j))) hz (show zN z < 1000000 by omega) (fun q hq => by obtain ⟨j, _, rfl⟩ := List.mem_map.mp hq; rfl)
          obtain ⟨d2, _, e6⟩ := zAddN_ok (L := L) (xs := xs) (kind := 100) (len := k.toNatClampNeg) d n.toNatClampNeg (by show zN z + 1 + _ ≤ _; omega)
          have ef : (fun j => lkp none (zN z) j ((List.range n.toNatClampNeg).map fun j => (zN z, j, some (zN z + 1 + j)))) = fun j => if j < n.toNatClampNeg then some (zN z + 1 + j) else none := by
            funext j
            exact lkp_map _ _ _
          rw [ef] at e
          have e4 : mAlc (.multianewarray a9 b9) rs (pc, lv, .int k :: .int n :: t, dX L xs z) = some ((pc + 4, lv, .ref (zN z) :: t, mAddN (mAdd (dX L xs z) 104 n.toNatClampNeg (fun j => if j < n.toNatClampNeg then some (zN z + 1 + j) else none)) 100 k.toNatClampNeg n.toNatClampNeg), [¬ n < 0, ¬ k < 0, n.toNatClampNeg ≤ 60000000, k.toNatClampNeg ≤ 60000000, zN z + (1 + n.toNatClampNeg) ≤ 1000000]) := if_pos ⟨hc0.1, rfl⟩
          refine ⟨d2, fun hk => ?_⟩
          rw [e4]
          refine ⟨⟨hc0.2.1, hc0.2.2.1, hc0.2.2.2.1, hc0.2.2.2.2.1, hc0.2.2.2.2.2, trivial⟩, ?_⟩
          rw [e, e6]
          exact hk
        · exact ⟨fun T r h => (by cases h), fun z' h => (by cases h)⟩
      · -- a constructor
        rename_i k9
        split
        · rename_i hc0
          have n9 : ¬ rs.getD 0 0 = 9002 := by rcases hc0.1 with h | h <;> omega
          have e1 : mStr (mrL M) (.invokespecial k9) rs pc lv st (dX L xs z) = none := by
            show (if rs.getD 0 0 = 9002 then mObj else fun _ _ _ _ => none) pc lv st (dX L xs z) = none
            rw [if_neg n9]
          have e2 : mBrc (.invokespecial k9) st = none := rfl
          have e3 : mRet (mrR M) (.invokespecial k9) st = none := rfl
          have e4 : mAlc (.invokespecial k9) rs (pc, lv, st, dX L xs z) = none := rfl
          have e5 : mThr (.invokespecial k9) rs st (dX L xs z) = none := rfl
          rw [e1, e2, e3, e4, e5]
          split
          · rename_i b t hd
            split
            · rename_i hsum
              cases hcl : zc (rs.getD 1 0) (.ref b :: (st.take (rs.getD 2 0)).reverse) z with
              | none => exact ⟨fun T r h => (by cases h), fun z' h => (by cases h)⟩
              | some z1 =>
                obtain ⟨o1, o2⟩ := hc _ _ _ _ hz hcl
                refine ⟨fun T r h => ?_, fun z' h => by cases h⟩
                have e := Sum.inl.inj (Option.some.inj h)
                subst e
                have e6 : mInv (.invokespecial k9) rs st (dX L xs z) = some (rs.getD 1 0, .ref b :: (st.take (rs.getD 2 0)).reverse, t, false) := by
                  show (if rs.getD 0 0 = 3 ∨ rs.getD 0 0 = 4 then (if rs.getD 2 0 ≤ st.length then (match st.drop (rs.getD 2 0) with | .ref b :: t => some (rs.getD 1 0, .ref b :: (st.take (rs.getD 2 0)).reverse, t, false) | _ => none) else none) else none) = _
                  rw [if_pos hc0.1, if_pos hc0.2, hd]
                refine ⟨o1, fun hk => ?_⟩
                rw [e6]
                exact ⟨hsum, (.inl none, dX L xs z1), o2, .inr ⟨none, rfl⟩, hk⟩
            · exact ⟨fun T r h => (by cases h), fun z' h => (by cases h)⟩
          · exact ⟨fun T r h => (by cases h), fun z' h => (by cases h)⟩
        · exact ⟨fun T r h => (by cases h), fun z' h => (by cases h)⟩
      · -- Arrays.fill
        rename_i k9
        split
        · rename_i hc0
          have e1 : mStr (mrL M) (.invokestatic k9) rs pc lv st (dX L xs z) = none := by
            show (if rs.getD 0 0 = 9001 then mCpy else if rs.getD 0 0 = 9012 then mAbs else mMth (rs.getD 0 0)) pc lv st (dX L xs z) = none
            rw [hc0.1, if_neg (by decide), if_neg (by decide)]
            unfold mMth
            split
            · rw [if_neg (fun h => absurd h.1 (by decide)), if_neg (fun h => absurd h.1 (by decide))]
            · rfl
          have e2 : mBrc (.invokestatic k9) st = none := rfl
          have e3 : mRet (mrR M) (.invokestatic k9) st = none := rfl
          have e4 : mAlc (.invokestatic k9) rs (pc, lv, st, dX L xs z) = none := rfl
          have e5 : mThr (.invokestatic k9) rs st (dX L xs z) = none := rfl
          rw [e1, e2, e3, e4, e5]
          cases hcl : zc (rs.getD 1 0) (st.take (rs.getD 2 0)).reverse z with
          | none => exact ⟨fun T r h => (by cases h), fun z' h => (by cases h)⟩
          | some z1 =>
            obtain ⟨o1, o2⟩ := hc _ _ _ _ hz hcl
            refine ⟨fun T r h => ?_, fun z' h => by cases h⟩
            have e := Sum.inl.inj (Option.some.inj h)
            subst e
            have e6 : mInv (.invokestatic k9) rs st (dX L xs z) = some (rs.getD 1 0, (st.take (rs.getD 2 0)).reverse, st.drop (rs.getD 2 0), decide (rs.getD 0 0 = 1)) := by
              show (if rs.getD 0 0 = 1 ∨ rs.getD 0 0 = 2 then (if rs.getD 2 0 ≤ st.length then some (rs.getD 1 0, (st.take (rs.getD 2 0)).reverse, st.drop (rs.getD 2 0), decide (rs.getD 0 0 = 1)) else none) else none) = _
              rw [if_pos (.inl hc0.1), if_pos hc0.2.1]
            refine ⟨o1, fun hk => ?_⟩
            rw [e6]
            exact ⟨hc0.2.2, (.inl none, dX L xs z1), o2, .inr ⟨none, rfl⟩, hk⟩
        · exact ⟨fun T r h => (by cases h), fun z' h => (by cases h)⟩
      · exact ⟨fun T r h => (by cases h), fun z' h => (by cases h)⟩
theorem zEx_ok {zc : Nat → List Value → zP → Option zP} {call : Nat → List Value → mHX → mRes → Prop} {M : mRec} (hc : ∀ y As z z', zOk z → zc y As z = some z' → zOk z' ∧ call y As (dX L xs z) (.inl none, dX L xs z')) : ∀ f S z', zOk S.2.2.2 → zEx zc M f S = some z' → zOk z' ∧ mEx call M f (dSt L xs S) (.inl none, dX L xs z')
  | 0, _, _, _, h => by cases h
  | f + 1, S, z', hz, h => by
    unfold zEx at h
    have K := zE1_ok (L := L) (xs := xs) (M := M) (S := S) (k := mEx call M f) hc hz
    cases he : zE1 zc M S with
    | none => rw [he] at h; cases h
    | some q =>
      rw [he] at h
      cases q with
      | inl T =>
        obtain ⟨o1, o2⟩ := K.1 T (.inl none, dX L xs z') he
        obtain ⟨p1, p2⟩ := zEx_ok hc f T z' o1 h
        exact ⟨p1, o2 p2⟩
      | inr z9 =>
        have e : z9 = z' := Option.some.inj h
        subst e
        exact K.2 z9 he
theorem zRun_ok : ∀ d y As z z', zOk z → zRun d y As z = some z' → zOk z' ∧ mRun mTab d y As (dX L xs z) (.inl none, dX L xs z')
  | 0, _, _, _, _, _, h => by cases h
  | d + 1, y, As, z, z', hz, h => by
    unfold zRun at h
    cases hm : mTab y with
    | none => rw [hm] at h; cases h
    | some M =>
      rw [hm] at h
      dsimp only at h
      by_cases hl : (lg_sl As).length ≤ mrL M
      · rw [if_pos hl] at h
        obtain ⟨p1, p2⟩ := zEx_ok (L := L) (xs := xs) (call := mRun mTab d) (M := M) (zRun_ok d) 2000 (0, lv_args 0 As, [], z) z' hz h
        exact ⟨p1, M, hm, hl, 2000, p2⟩
      · rw [if_neg hl] at h; cases h
end ZMAKE
