/-! ===== THE BEGINNING: both are made; a pool of lists, to be reckoned by the kernel ===== -/
abbrev zP : Type := Nat × Nat × List (Nat × Nat) × List (Nat × Nat × Int32) × List (Nat × Nat × Int64) × List (Nat × Nat × Option Nat)
def lkp {α : Type} (d : α) (a j : Nat) : List (Nat × Nat × α) → α
  | [] => d
  | q :: t => if q.1 = a then (if q.2.1 = j then q.2.2 else lkp d a j t) else lkp d a j t
abbrev zN (z : zP) : Nat := z.2.2.1.length
def zSh (z : zP) (k : Nat) : Nat × Nat := if k < zN z then z.2.2.1.getD (zN z - 1 - k) (0, 0) else (0, 0)
/-- the pool that the lists stand for, with a script of L ints -/
def dX (L : Nat) (xs : Nat → Int32) (z : zP) : mHX := (false, z.1, z.2.1, zN z, (fun k => if k = 2000000 then (100, L) else zSh z k), (fun a => if a = 2000000 then xs else fun j => lkp 0 a j z.2.2.2.1), (fun a j => lkp 0 a j z.2.2.2.2.1), (fun a j => lkp none a j z.2.2.2.2.2))
def zOk (z : zP) : Prop := zN z ≤ 1000000 ∧ (∀ q ∈ z.2.2.2.1, q.1 < zN z) ∧ (∀ q ∈ z.2.2.2.2.1, q.1 < zN z) ∧ (∀ q ∈ z.2.2.2.2.2, q.1 < zN z)
theorem lkp_no {α : Type} {d : α} {a j : Nat} : ∀ {l : List (Nat × Nat × α)}, (∀ q ∈ l, ¬ q.1 = a) → lkp d a j l = d
  | [], _ => rfl
  | q :: t, h => by
    show (if q.1 = a then _ else lkp d a j t) = d
    rw [if_neg (h q (List.mem_cons_self ..)), lkp_no (fun r hr => h r (List.mem_cons_of_mem _ hr))]
theorem lkp_up {α : Type} {d : α} (l : List (Nat × Nat × α)) (a j : Nat) (v : α) : (fun b k => lkp d b k ((a, j, v) :: l)) = mUp (fun b k => lkp d b k l) a j v := by
  funext b
  unfold mUp
  by_cases e : b = a
  · subst e
    rw [if_pos rfl]
    funext k
    show (if b = b then (if j = k then v else lkp d b k l) else lkp d b k l) = _
    rw [if_pos rfl]
    by_cases e2 : k = j
    · rw [if_pos e2, if_pos e2.symm]
    · rw [if_neg e2, if_neg (fun h => e2 h.symm)]
  · rw [if_neg e]
    funext k
    show (if a = b then _ else lkp d b k l) = _
    rw [if_neg (fun h => e h.symm)]
/-- a value put into a field -/
def zPut (z : zP) (a j : Nat) (ty : FieldType) (v : Value) : Option zP := match ty, v with
  | .int, .int x => some (z.1, z.2.1, z.2.2.1, (a, j, x) :: z.2.2.2.1, z.2.2.2.2.1, z.2.2.2.2.2)
  | .boolean, .int x => if x = 0 ∨ x = 1 then some (z.1, z.2.1, z.2.2.1, (a, j, x) :: z.2.2.2.1, z.2.2.2.2.1, z.2.2.2.2.2) else none
  | .long, .long x => some (z.1, z.2.1, z.2.2.1, z.2.2.2.1, (a, j, x) :: z.2.2.2.2.1, z.2.2.2.2.2)
  | .object _, .ref x => some (z.1, z.2.1, z.2.2.1, z.2.2.2.1, z.2.2.2.2.1, (a, j, some x) :: z.2.2.2.2.2)
  | .object _, .null => some (z.1, z.2.1, z.2.2.1, z.2.2.2.1, z.2.2.2.2.1, (a, j, none) :: z.2.2.2.2.2)
  | .array _, .ref x => some (z.1, z.2.1, z.2.2.1, z.2.2.2.1, z.2.2.2.2.1, (a, j, some x) :: z.2.2.2.2.2)
  | _, _ => none
def zAdd (z : zP) (kind len : Nat) (ps : List (Nat × Nat × Option Nat)) : zP := (z.1 + 1, z.2.1 + len, (kind, len) :: z.2.2.1, z.2.2.2.1, z.2.2.2.2.1, ps ++ z.2.2.2.2.2)
section MAKE
variable {L : Nat} {xs : Nat → Int32}
theorem dX_I {z : zP} {a : Nat} (ha : a < 1000000) : mI (dX L xs z) a = fun j => lkp 0 a j z.2.2.2.1 := if_neg (by omega)
theorem dX_sh {z : zP} {a : Nat} (ha : a < 1000000) : mSh (dX L xs z) a = zSh z a := if_neg (by omega)
theorem dX_setI {z : zP} {a j : Nat} {x : Int32} (ha : a < 1000000) : mSetI (dX L xs z) (mUp (mI (dX L xs z)) a j x) = dX L xs (z.1, z.2.1, z.2.2.1, (a, j, x) :: z.2.2.2.1, z.2.2.2.2.1, z.2.2.2.2.2) := by
  have e : mUp (mI (dX L xs z)) a j x = fun b => if b = 2000000 then xs else fun k => lkp 0 b k ((a, j, x) :: z.2.2.2.1) := by
    have h := lkp_up (d := (0 : Int32)) z.2.2.2.1 a j x
    funext b
    by_cases e : b = 2000000
    · rw [if_pos e]
      unfold mUp
      rw [if_neg (by omega)]
      exact if_pos e
    · rw [if_neg e]
      have h2 := congrFun h b
      have h3 : (fun k => lkp 0 b k ((a, j, x) :: z.2.2.2.1)) = mUp (fun b k => lkp 0 b k z.2.2.2.1) a j x b := h2
      rw [h3]
      unfold mUp
      by_cases e2 : b = a
      · rw [if_pos e2, if_pos e2]
        have : mI (dX L xs z) a = fun j => lkp 0 a j z.2.2.2.1 := dX_I ha
        rw [this]
      · rw [if_neg e2, if_neg e2]
        exact if_neg e
  show (false, z.1, z.2.1, zN z, _, mUp (mI (dX L xs z)) a j x, _, _) = _
  rw [e]
  rfl
theorem zPut_ok {z z' : zP} {a j : Nat} {ty : FieldType} {v : Value} (hz : zOk z) (ha : a < zN z) (h : zPut z a j ty v = some z') : zOk z' ∧ ∃ C, mPutv (dX L xs z) a j ty v = some (dX L xs z', C) ∧ mAll C := by
  have h6 : a < 1000000 := Nat.lt_of_lt_of_le ha hz.1
  have mem : ∀ {α : Type} {l : List (Nat × Nat × α)} {x : α}, (∀ q ∈ l, q.1 < zN z) → ∀ q ∈ (a, j, x) :: l, q.1 < zN z := fun hl q hq => by
    rcases List.mem_cons.mp hq with e | e
    · rw [e]; exact ha
    · exact hl q e
  have okI : ∀ x, zOk (z.1, z.2.1, z.2.2.1, (a, j, x) :: z.2.2.2.1, z.2.2.2.2.1, z.2.2.2.2.2) := fun x => ⟨hz.1, mem hz.2.1, hz.2.2.1, hz.2.2.2⟩
  have okL : ∀ x, zOk (z.1, z.2.1, z.2.2.1, z.2.2.2.1, (a, j, x) :: z.2.2.2.2.1, z.2.2.2.2.2) := fun x => ⟨hz.1, hz.2.1, mem hz.2.2.1, hz.2.2.2⟩
  have okP : ∀ x, zOk (z.1, z.2.1, z.2.2.1, z.2.2.2.1, z.2.2.2.2.1, (a, j, x) :: z.2.2.2.2.2) := fun x => ⟨hz.1, hz.2.1, hz.2.2.1, mem hz.2.2.2⟩
  have eL : ∀ x, mSetL (dX L xs z) (mUp (mL (dX L xs z)) a j x) = dX L xs (z.1, z.2.1, z.2.2.1, z.2.2.2.1, (a, j, x) :: z.2.2.2.2.1, z.2.2.2.2.2) := fun x => by
    have := lkp_up (d := (0 : Int64)) z.2.2.2.2.1 a j x
    show (false, z.1, z.2.1, zN z, _, _, mUp (fun a j => lkp 0 a j z.2.2.2.2.1) a j x, _) = _
    rw [← this]
    rfl
  have eP : ∀ x, mSetP (dX L xs z) (mUp (mP (dX L xs z)) a j x) = dX L xs (z.1, z.2.1, z.2.2.1, z.2.2.2.1, z.2.2.2.2.1, (a, j, x) :: z.2.2.2.2.2) := fun x => by
    have := lkp_up (d := (none : Option Nat)) z.2.2.2.2.2 a j x
    show (false, z.1, z.2.1, zN z, _, _, _, mUp (fun a j => lkp none a j z.2.2.2.2.2) a j x) = _
    rw [← this]
    rfl
  unfold zPut at h
  split at h
  · cases h; exact ⟨okI _, [], congrArg (fun Y => some (Y, ([] : List Prop))) (dX_setI h6), trivial⟩
  · rename_i x
    split at h
    · rename_i hx
      cases h
      exact ⟨okI _, [x = 0 ∨ x = 1], congrArg (fun Y => some (Y, [x = 0 ∨ x = 1])) (dX_setI h6), hx, trivial⟩
    · cases h
  · cases h; exact ⟨okL _, [], congrArg (fun Y => some (Y, ([] : List Prop))) (eL _), trivial⟩
  · cases h; exact ⟨okP _, [], congrArg (fun Y => some (Y, ([] : List Prop))) (eP _), trivial⟩
  · cases h; exact ⟨okP _, [], congrArg (fun Y => some (Y, ([] : List Prop))) (eP _), trivial⟩
  · cases h; exact ⟨okP _, [], congrArg (fun Y => some (Y, ([] : List Prop))) (eP _), trivial⟩
  · cases h
theorem zAdd_ok {z : zP} {kind len : Nat} {ps : List (Nat × Nat × Option Nat)} (hz : zOk z) (hn : zN z < 1000000) (hp : ∀ q ∈ ps, q.1 = zN z) : zOk (zAdd z kind len ps) ∧ mAdd (dX L xs z) kind len (fun j => lkp none (zN z) j ps) = dX L xs (zAdd z kind len ps) := by
  have hlen : zN (zAdd z kind len ps) = zN z + 1 := rfl
  refine ⟨⟨by rw [hlen]; omega, fun q hq => ?_, fun q hq => ?_, fun q hq => ?_⟩, ?_⟩
  · have := hz.2.1 q hq; rw [hlen]; omega
  · have := hz.2.2.1 q hq; rw [hlen]; omega
  · rcases List.mem_append.mp hq with e | e
    · rw [hlen, hp q e]; omega
    · have := hz.2.2.2 q e; rw [hlen]; omega
  · have e1 : (fun k => if k = zN z then (kind, len) else (if k = 2000000 then (100, L) else zSh z k)) = fun k => if k = 2000000 then (100, L) else zSh (zAdd z kind len ps) k := by
      funext k
      by_cases h2 : k = 2000000
      · rw [if_pos h2, if_pos h2, if_neg (by omega)]
      · rw [if_neg h2, if_neg h2]
        unfold zSh
        rw [hlen]
        by_cases h3 : k = zN z
        · rw [if_pos h3, if_pos (by omega), h3, show zN z + 1 - 1 - zN z = 0 by omega]
          rfl
        · rw [if_neg h3]
          by_cases h4 : k < zN z
          · rw [if_pos h4, if_pos (by omega), show zN z + 1 - 1 - k = (zN z - 1 - k) + 1 by omega]
            rfl
          · rw [if_neg h4, if_neg (by omega)]
    have e2 : mRow (mI (dX L xs z)) (zN z) (fun _ => 0) = mI (dX L xs z) := by
      funext k
      unfold mRow
      by_cases h3 : k = zN z
      · rw [if_pos h3, h3, dX_I hn]
        funext j
        exact (lkp_no (fun q hq => by have := hz.2.1 q hq; omega)).symm
      · rw [if_neg h3]
    have e3 : mRow (mL (dX L xs z)) (zN z) (fun _ => 0) = mL (dX L xs z) := by
      funext k
      unfold mRow
      by_cases h3 : k = zN z
      · rw [if_pos h3, h3]
        funext j
        exact (lkp_no (fun q hq => by have := hz.2.2.1 q hq; omega)).symm
      · rw [if_neg h3]
    have ap : ∀ (a j : Nat) (l1 l2 : List (Nat × Nat × Option Nat)), (∀ q ∈ l1, q.1 = zN z) → (∀ q ∈ l2, q.1 < zN z) → lkp none a j (l1 ++ l2) = if a = zN z then lkp none a j l1 else lkp none a j l2 := by
      intro a j l1 l2 h1 h2
      induction l1 with
      | nil =>
        show lkp none a j l2 = _
        by_cases e : a = zN z
        · rw [if_pos e]
          exact lkp_no (fun q hq => by have := h2 q hq; omega)
        · rw [if_neg e]
      | cons q t ih =>
        have hq := h1 q (List.mem_cons_self ..)
        have ih' := ih (fun r hr => h1 r (List.mem_cons_of_mem _ hr))
        show (if q.1 = a then (if q.2.1 = j then q.2.2 else lkp none a j (t ++ l2)) else lkp none a j (t ++ l2)) = _
        rw [ih']
        by_cases e : a = zN z
        · simp only [if_pos e]
          rfl
        · simp only [if_neg e]
          rw [if_neg (fun h => e (h.symm.trans hq))]
    have e4 : mRow (mP (dX L xs z)) (zN z) (fun j => lkp none (zN z) j ps) = fun a j => lkp none a j (ps ++ z.2.2.2.2.2) := by
      funext k
      unfold mRow
      by_cases h3 : k = zN z
      · rw [if_pos h3, h3]
        funext j
        rw [ap _ _ _ _ hp hz.2.2.2, if_pos rfl]
      · rw [if_neg h3]
        funext j
        rw [ap _ _ _ _ hp hz.2.2.2, if_neg h3]
        rfl
    unfold mAdd
    show (false, z.1 + 1, z.2.1 + len, zN z + 1, (fun k => if k = zN z then (kind, len) else (if k = 2000000 then (100, L) else zSh z k)), mRow (mI (dX L xs z)) (zN z) (fun _ => 0), mRow (mL (dX L xs z)) (zN z) (fun _ => 0), mRow (mP (dX L xs z)) (zN z) (fun j => lkp none (zN z) j ps)) = _
    rw [e1, e2, e3, e4]
    rfl
end MAKE
