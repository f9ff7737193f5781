/-! ===== PURE FUNCTIONS: the pool once made (its cells and their references stand), what changes: ints, longs, the token's word and text, the room used ===== -/
abbrev mW : Type := (Nat → Nat → Int32) × (Nat → Nat → Int64) × Option Nat × Option Nat × Nat × Nat × Nat
def wI (w : mW) (a j : Nat) : Int32 := w.1 a j
def wJ (w : mW) (a j : Nat) : Int64 := w.2.1 a j
def nWd (w : mW) : Option Nat := w.2.2.1
def nTx (w : mW) : Option Nat := w.2.2.2.1
def nS (w : mW) (a j : Nat) (v : Int32) : mW := (mUp w.1 a j v, w.2)
def nSJ (w : mW) (a j : Nat) (v : Int64) : mW := (w.1, mUp w.2.1 a j v, w.2.2)
def nSW (w : mW) (o : Option Nat) : mW := (w.1, w.2.1, o, w.2.2.2)
def nST (w : mW) (o : Option Nat) : mW := (w.1, w.2.1, w.2.2.1, o, w.2.2.2.2)
/-- the script's length -/
def nLn (w : mW) : Nat := w.2.2.2.2.2.2
def nThr (w : mW) : mW := (w.1, w.2.1, w.2.2.1, w.2.2.2.1, w.2.2.2.2.1 + 1, w.2.2.2.2.2.1 + 6, w.2.2.2.2.2.2)
def nCpy (w : mW) (a sp b dp n : Nat) : mW := (mRow w.1 b (va_cpy (w.1 a) (w.1 b) sp dp n), w.2)
def nN : Nat := 117
def nShL : List (Nat × Nat) := [(9, 16), (101, 700), (2, 11), (3, 14), (100, 40), (100, 40), (100, 12), (100, 40), (5, 6), (100, 700), (100, 6), (100, 6), (100, 64), (0, 12), (100, 12), (100, 12), (100, 12), (100, 120), (100, 12), (100, 8), (100, 8), (6, 8), (101, 0), (7, 10), (3, 14), (100, 40), (100, 40), (100, 12), (100, 40), (5, 6), (100, 700), (100, 6), (100, 6), (100, 64), (0, 12), (100, 12), (100, 12), (100, 12), (100, 120), (100, 12), (100, 8), (100, 8), (4, 7), (100, 13), (100, 13), (100, 108), (4, 7), (100, 13), (100, 13), (100, 108), (100, 10), (100, 12), (100, 12), (100, 108), (100, 12), (0, 12), (100, 12), (100, 12), (100, 12), (100, 120), (100, 12), (100, 8), (100, 8), (8, 6), (104, 12), (100, 108), (100, 108), (100, 108), (100, 108), (100, 108), (100, 108), (100, 108), (100, 108), (100, 108), (100, 108), (100, 108), (100, 108), (100, 12), (1, 3), (100, 12), (10, 87), (100, 40), (100, 40), (100, 12), (100, 50), (100, 4), (100, 4000), (100, 700), (100, 3), (100, 40), (100, 40), (100, 12), (100, 12), (100, 12), (100, 12), (100, 50), (100, 4), (100, 4000), (100, 950), (102, 9), (100, 38), (100, 38), (100, 1520), (100, 10), (100, 950), (100, 210), (100, 210), (100, 450), (100, 12), (100, 12), (100, 12), (100, 16), (100, 38), (100, 1520), (100, 12), (100, 16), (103, 1)]
def nSh (k : Nat) : Nat × Nat := nShL.getD k (0, 0)
def nPL : List (Nat × Nat × Nat) := [(0, 0, 1), (0, 6, 2), (0, 7, 23), (0, 8, 24), (0, 9, 34), (0, 10, 55), (0, 12, 63), (0, 13, 78), (0, 14, 79), (2, 0, 3), (2, 1, 13), (2, 4, 21), (3, 2, 4), (3, 3, 5), (3, 5, 6), (3, 11, 7), (3, 13, 8), (8, 0, 9), (8, 2, 10), (8, 3, 11), (8, 4, 12), (13, 0, 14), (13, 2, 15), (13, 3, 16), (13, 6, 17), (13, 8, 18), (13, 10, 19), (13, 11, 20), (23, 0, 24), (23, 1, 34), (23, 2, 42), (23, 3, 46), (23, 4, 50), (23, 5, 51), (23, 6, 52), (23, 8, 53), (23, 9, 54), (24, 2, 25), (24, 3, 26), (24, 5, 27), (24, 11, 28), (24, 13, 29), (29, 0, 30), (29, 2, 31), (29, 3, 32), (29, 4, 33), (34, 0, 35), (34, 2, 36), (34, 3, 37), (34, 6, 38), (34, 8, 39), (34, 10, 40), (34, 11, 41), (42, 0, 43), (42, 1, 44), (42, 3, 45), (46, 0, 47), (46, 1, 48), (46, 3, 49), (55, 0, 56), (55, 2, 57), (55, 3, 58), (55, 6, 59), (55, 8, 60), (55, 10, 61), (55, 11, 62), (63, 4, 64), (63, 5, 77), (64, 0, 65), (64, 1, 66), (64, 2, 67), (64, 3, 68), (64, 4, 69), (64, 5, 70), (64, 6, 71), (64, 7, 72), (64, 8, 73), (64, 9, 74), (64, 10, 75), (64, 11, 76), (80, 11, 81), (80, 12, 82), (80, 13, 83), (80, 14, 84), (80, 15, 85), (80, 16, 86), (80, 17, 87), (80, 21, 88), (80, 49, 89), (80, 50, 90), (80, 51, 91), (80, 52, 92), (80, 53, 93), (80, 54, 94), (80, 55, 95), (80, 56, 96), (80, 57, 97), (80, 58, 98), (80, 59, 99), (80, 60, 100), (80, 61, 101), (80, 62, 102), (80, 64, 103), (80, 65, 104), (80, 67, 105), (80, 68, 106), (80, 69, 107), (80, 72, 108), (80, 73, 109), (80, 76, 110), (80, 77, 111), (80, 83, 112), (80, 84, 113), (80, 85, 114), (80, 86, 115)]
def nP0 (a j : Nat) : Option Nat := (nPL.find? (fun q => Nat.beq q.1 a && Nat.beq q.2.1 j)).map (fun q => q.2.2)
def nP (w : mW) (a j : Nat) : Option Nat := if a = 21 ∧ j = 5 then nWd w else if a = 21 ∧ j = 0 then nTx w else nP0 a j
def nShw (w : mW) (k : Nat) : Nat × Nat := if k = 2000000 then (100, nLn w) else nSh k
def mK (w : mW) : mHX := (true, w.2.2.2.2.1, w.2.2.2.2.2.1, nN, nShw w, w.1, w.2.1, nP w)
theorem nShw_lt {a : Nat} (h : a < nN) (w : mW) : mSh (mK w) a = nSh a := if_neg (fun e => by subst e; revert h; decide)
def nC (a kd n : Nat) : Prop := a < nN ∧ nSh a = (kd, n)
theorem nC.sh {a kd n : Nat} (h : nC a kd n) (w : mW) : mSh (mK w) a = (kd, n) := (nShw_lt h.1 w).trans h.2
/-! the registers: what the method knows of its locals -/
def mFit (rg : List (Option Value)) (lv : mLV) : Prop := ∀ i v, rg[i]? = some (some v) → mGet lv i = some v
theorem mGet_filter {lv : mLV} {p : Nat × Value → Bool} {i : Nat} {u : Value} (h : mGet lv i = some u) (hp : p (i, u) = true) : mGet (lv.filter p) i = some u := by
  induction lv with
  | nil => cases h
  | cons e t ih =>
    obtain ⟨e1, e2⟩ := e
    simp only [mGet] at h
    by_cases q : e1 = i
    · rw [if_pos q] at h
      cases h
      subst q
      rw [List.filter_cons_of_pos hp]
      simp [mGet]
    · rw [if_neg q] at h
      by_cases hq : p (e1, e2) = true
      · rw [List.filter_cons_of_pos hq]
        simp only [mGet, if_neg q]
        exact ih h
      · rw [List.filter_cons_of_neg hq]
        exact ih h
def nNl (rg : List (Option Value)) (k : Nat) : Bool := match k with
  | 0 => true
  | k + 1 => (match rg[k]? with
    | some (some v) => v.category != 2
    | _ => true)
theorem nNl_use {rg : List (Option Value)} {k i : Nat} {u : Value} (hk : nNl rg k = true) (hu : rg[i]? = some (some u)) : (i + 1 == k && u.category == 2) = false := by
  by_cases e : i + 1 = k
  · subst e
    simp only [nNl, hu] at hk
    simpa using hk
  · simp [e]
theorem mFit.st1 {rg : List (Option Value)} {lv : mLV} {k : Nat} (v : Value) (h : mFit rg lv) (hk : nNl rg k = true) : mFit (rg.set k (some v)) ((k, v) :: lv.filter (mKeep1 k)) := by
  intro i u hu
  by_cases e : i = k
  · subst e
    rw [List.getElem?_set_self'] at hu
    have : u = v := by
      cases hx : rg[i]? with
      | none => rw [hx] at hu; cases hu
      | some y => rw [hx] at hu; cases hu; rfl
    simp [mGet, this]
  · rw [List.getElem?_set_ne (fun h => e h.symm)] at hu
    have hg := h i u hu
    simp only [mGet]
    rw [if_neg (fun h => e h.symm)]
    refine mGet_filter hg ?_
    simp only [mKeep1, nNl_use hk hu]
    simp [e]
theorem mFit.st0 {rg : List (Option Value)} {lv : mLV} {k : Nat} (h : mFit rg lv) (hk : nNl rg k = true) : mFit (rg.set k none) (lv.filter (mKeep1 k)) := by
  intro i u hu
  by_cases e : i = k
  · subst e
    rw [List.getElem?_set_self'] at hu
    cases hx : rg[i]? with
    | none => rw [hx] at hu; cases hu
    | some y => rw [hx] at hu; cases hu
  · rw [List.getElem?_set_ne (fun h => e h.symm)] at hu
    have hg := h i u hu
    refine mGet_filter hg ?_
    simp only [mKeep1, nNl_use hk hu]
    simp [e]
theorem mFit.st2 {rg : List (Option Value)} {lv : mLV} {k : Nat} (v : Value) (h : mFit rg lv) (hk : nNl rg k = true) : mFit ((rg.set k (some v)).set (k + 1) none) ((k, v) :: lv.filter (mKeep2 k)) := by
  intro i u hu
  by_cases e2 : i = k + 1
  · subst e2
    rw [List.getElem?_set_self'] at hu
    cases hx : (rg.set k (some v))[k + 1]? with
    | none => rw [hx] at hu; cases hu
    | some y => rw [hx] at hu; cases hu
  rw [List.getElem?_set_ne (fun h => e2 h.symm)] at hu
  by_cases e : i = k
  · subst e
    rw [List.getElem?_set_self'] at hu
    have : u = v := by
      cases hx : rg[i]? with
      | none => rw [hx] at hu; cases hu
      | some y => rw [hx] at hu; cases hu; rfl
    simp [mGet, this]
  · rw [List.getElem?_set_ne (fun h => e h.symm)] at hu
    have hg := h i u hu
    simp only [mGet]
    rw [if_neg (fun h => e h.symm)]
    refine mGet_filter hg ?_
    simp only [mKeep2, nNl_use hk hu]
    simp [e, e2]
def nLeR : List (Option Value) → List (Option Value) → Prop
  | [], _ => True
  | none :: t, _ :: t' => nLeR t t'
  | some v :: t, x :: t' => x = some v ∧ nLeR t t'
  | _ :: _, [] => False
theorem nLeR_use : ∀ {r s : List (Option Value)}, nLeR r s → ∀ (i : Nat) (v : Value), r[i]? = some (some v) → s[i]? = some (some v)
  | [], _, _, i, v, h => by simp at h
  | none :: t, [], h, _, _, _ => h.elim
  | some v :: t, [], h, _, _, _ => h.elim
  | none :: t, y :: t', h, i, v, hi => by
    match i, hi with
    | 0, hi => simp at hi
    | i + 1, hi =>
      have h2 : nLeR t t' := h
      simpa using nLeR_use h2 i v (by simpa using hi)
  | some x :: t, y :: t', h, i, v, hi => by
    match i, hi with
    | 0, hi =>
      have h2 : y = some x := h.1
      simp at hi
      subst hi
      simp [h2]
    | i + 1, hi =>
      have h2 : nLeR t t' := h.2
      simpa using nLeR_use h2 i v (by simpa using hi)
/-! ===== a piece of a method comes to the end that a pure term says ===== -/
def mRt {α : Type} (d : Nat) (M : mRec) (q : α → mOut) (pc : Nat) (rg : List (Option Value)) (st : List Value) (w : mW) (e : Option (α × mW)) : Prop :=
  ∀ lv, mFit rg lv → ∀ z, e = some z → ∃ f, mEx (mRun mTab d) M f (pc, lv, st, mK w) (q z.1, mK z.2)
def mRs {α : Type} (d : Nat) (M : mRec) (q : α → mOut) (c : mCodeT) (pc : Nat) (rg : List (Option Value)) (st : List Value) (w : mW) (e : Option (α × mW)) : Prop :=
  (∀ x ∈ c, mAt (mrC M) x.1 = some x.2) → mRt d M q pc rg st w e
def nGd {β : Type} (b : Bool) (e : Option β) : Option β := if b = true then e else none
def nG (i : Int32) (n : Nat) : Bool := !(decide (i < 0) || decide (n ≤ i.toNatClampNeg))
theorem nG_in {i : Int32} {n : Nat} (h : nG i n = true) : vp_in i n := by
  unfold vp_in
  simpa [nG] using h
def nLet {β γ : Type} (x : β) (k : β → γ) : γ := k x
def mLoop {σ β : Type} (body : (σ → Option β) → σ → Option β) : Nat → σ → Option β
  | 0 => fun _ => none
  | F + 1 => body (mLoop body F)
def nF : Nat := 20000
def nQi : Int32 → mOut := fun v => .inl (some (.int v))
def nQj : Int64 → mOut := fun v => .inl (some (.long v))
def nQr : Nat → mOut := fun v => .inl (some (.ref v))
def nQv : Unit → mOut := fun _ => .inl none
def nQxi : Int32 ⊕ Nat → mOut
  | .inl v => .inl (some (.int v))
  | .inr x => .inr (mExN x)
def nQxv : Unit ⊕ Nat → mOut
  | .inl _ => .inl none
  | .inr x => .inr (mExN x)
def nRm (x y : Int32) : Int32 := x - x / y * y
def nShl (x y : Int32) : Int32 := x <<< (y &&& 31)
def nShr (x y : Int32) : Int32 := x >>> (y &&& 31)
def nUsr (x y : Int32) : Int32 := (x.toUInt32 >>> (y.toUInt32 &&& Int32.toUInt32 31)).toInt32
def nLsl (x : Int64) (y : Int32) : Int64 := x <<< (y.toInt64 &&& 63)
def nLsr (x : Int64) (y : Int32) : Int64 := x >>> (y.toInt64 &&& 63)
def nLus (x : Int64) (y : Int32) : Int64 := (x.toUInt64 >>> (y.toInt64.toUInt64 &&& Int64.toUInt64 63)).toInt64
def nMax (x y : Int32) : Int32 := if x < y then y else x
def nMin (x y : Int32) : Int32 := if y < x then y else x
def nAbs (x : Int32) : Int32 := if 0 ≤ x then x else 0 - x
def nC2 (st : List Value) : Bool := Nat.ble (st.map fun v => v.category).sum 8
section NR
variable {α : Type} {d : Nat} {M : mRec} {q : α → mOut} {pc : Nat} {c : mCodeT} {rg : List (Option Value)} {st : List Value} {w : mW} {e : Option (α × mW)} {rs : List Nat}
theorem sNone : mRt d M q pc rg st w none := fun _ _ _ hz => by cases hz
theorem sGo {c : mCodeT} (hc : ∀ x ∈ c, mAt (mrC M) x.1 = some x.2) (k : mRs d M q c pc rg st w e) : mRt d M q pc rg st w e := k hc
theorem sT {c : mCodeT} (k : mRt d M q pc rg st w e) : mRs d M q c pc rg st w e := fun _ => k
theorem sWk {rg' : List (Option Value)} (h : nLeR rg' rg) (k : mRt d M q pc rg' st w e) : mRt d M q pc rg st w e :=
  fun lv hf z hz => k lv (fun i v hi => hf i v (nLeR_use h i v hi)) z hz
theorem sLet {β : Type} {x : β} {K : β → Option (α × mW)} (k : mRs d M q c pc rg st w (K x)) : mRs d M q c pc rg st w (nLet x K) := k
theorem sLetW {K : mW → Option (α × mW)} (k : ∀ w1, mRs d M q c pc rg st w1 (K w1)) : mRs d M q c pc rg st w (nLet w K) := k w
theorem mLoop_ok {σ β : Type} {body : (σ → Option β) → σ → Option β} {P : σ → Option β → Prop} (h0 : ∀ s, P s none) (h : ∀ rec, (∀ s, P s (rec s)) → ∀ s, P s (body rec s)) : ∀ F s, P s (mLoop body F s)
  | 0, s => h0 s
  | F + 1, s => h _ (mLoop_ok h0 h F) s
theorem mRs_str {i : Instr} {pc' : Nat} {rg' : List (Option Value)} {st' : List Value} {w' : mW} {C : List Prop} (hs : ∀ lv, mFit rg lv → ∃ lv', mFit rg' lv' ∧ mStr (mrL M) i rs pc lv st (mK w) = some ((pc', lv', st', mK w'), C)) (hC : mAll C) (k : mRs d M q c pc' rg' st' w' e) : mRs d M q ((pc, i, rs) :: c) pc rg st w e := by
  intro hc lv hf z hz
  obtain ⟨lv', hf', h1⟩ := hs lv hf
  obtain ⟨f, hx⟩ := k (fun x hx => hc x (List.mem_cons_of_mem _ hx)) lv' hf' z hz
  refine ⟨f + 1, ?_⟩
  show mStepR _ M _ _ _
  unfold mStepR
  rw [show mAt (mrC M) pc = some (i, rs) from hc _ List.mem_cons_self]
  simp only [h1]
  exact ⟨hC, hx⟩
theorem mRs_gd {i : Instr} {pc' : Nat} {st' : List Value} {w' : mW} {P : Prop} {b : Bool} (hb : b = true → P) (hs : ∀ lv, mStr (mrL M) i rs pc lv st (mK w) = some ((pc', lv, st', mK w'), [P])) (k : b = true → mRs d M q c pc' rg st' w' e) : mRs d M q ((pc, i, rs) :: c) pc rg st w (nGd b e) := by
  intro hc lv hf z hz
  by_cases h : b = true
  · rw [nGd, if_pos h] at hz
    exact mRs_str (fun lv hf => ⟨lv, hf, hs lv⟩) (show mAll [P] from ⟨hb h, trivial⟩) (k h) hc lv hf z hz
  · rw [nGd, if_neg h] at hz
    cases hz
/-! constants and locals -/
theorem sIc {n : Int} {x : Int32} (hx : Int32.ofInt n = x) (k : mRs d M q c (pc + 1) rg (.int x :: st) w e) : mRs d M q ((pc, .iconst n, rs) :: c) pc rg st w e := mRs_str (C := []) (fun lv hf => ⟨lv, hf, by subst hx; rfl⟩) trivial k
theorem sBi {n : Int} {x : Int32} (hx : (Int8.ofInt n).toInt32 = x) (k : mRs d M q c (pc + 2) rg (.int x :: st) w e) : mRs d M q ((pc, .bipush n, rs) :: c) pc rg st w e := mRs_str (C := []) (fun lv hf => ⟨lv, hf, by subst hx; rfl⟩) trivial k
theorem sSi {n : Int} {x : Int32} (hx : (Int16.ofInt n).toInt32 = x) (k : mRs d M q c (pc + 3) rg (.int x :: st) w e) : mRs d M q ((pc, .sipush n, rs) :: c) pc rg st w e := mRs_str (C := []) (fun lv hf => ⟨lv, hf, by subst hx; rfl⟩) trivial k
theorem sLc {n : Fin 2} {x : Int64} (hx : Int64.ofNat (n : Nat) = x) (k : mRs d M q c (pc + 1) rg (.long x :: st) w e) : mRs d M q ((pc, .lconst n, rs) :: c) pc rg st w e := mRs_str (C := []) (fun lv hf => ⟨lv, hf, by subst hx; rfl⟩) trivial k
theorem sLd {idx v : Nat} {x : Int32} (hx : Int32.ofNat v = x) (k : mRs d M q c (pc + 2) rg (.int x :: st) w e) : mRs d M q ((pc, .ldc idx, [v]) :: c) pc rg st w e := mRs_str (C := []) (fun lv hf => ⟨lv, hf, by subst hx; rfl⟩) trivial k
theorem sLdw {idx v : Nat} {x : Int32} (hx : Int32.ofNat v = x) (k : mRs d M q c (pc + 3) rg (.int x :: st) w e) : mRs d M q ((pc, .ldc_w idx, [v]) :: c) pc rg st w e := mRs_str (C := []) (fun lv hf => ⟨lv, hf, by subst hx; rfl⟩) trivial k
theorem sLd2 {idx v : Nat} {x : Int64} (hx : Int64.ofNat v = x) (k : mRs d M q c (pc + 3) rg (.long x :: st) w e) : mRs d M q ((pc, .ldc2_w idx, [v]) :: c) pc rg st w e := mRs_str (C := []) (fun lv hf => ⟨lv, hf, by subst hx; rfl⟩) trivial k
theorem mStr_1 {nL : Nat} {i : Instr} {lv : mLV} {X : mHX} {r : mSt × List Prop} (h : mS1 nL i rs pc lv st X = some r) : mStr nL i rs pc lv st X = some r := by
  unfold mStr
  rw [h]
theorem mLoad_eq {kd : Value → Bool} {n i : Nat} {lv : mLV} {X : mHX} {v : Value} (h : mGet lv i = some v) (hk : kd v = true) : mLoad kd n i pc lv st X = some ((pc + n, lv, v :: st, X), []) := by
  unfold mLoad
  rw [h]
  exact if_pos hk
theorem sIl1 {i : Fin 4} {x : Int32} (h : rg[(i : Nat)]? = some (some (.int x))) (k : mRs d M q c (pc + 1) rg (.int x :: st) w e) : mRs d M q ((pc, .iload_n i, rs) :: c) pc rg st w e := mRs_str (C := []) (fun lv hf => ⟨lv, hf, mStr_1 (mLoad_eq (hf _ _ h) rfl)⟩) trivial k
theorem sIl {i : Nat} {x : Int32} (h : rg[i]? = some (some (.int x))) (k : mRs d M q c (pc + 2) rg (.int x :: st) w e) : mRs d M q ((pc, .iload i, rs) :: c) pc rg st w e := mRs_str (C := []) (fun lv hf => ⟨lv, hf, mStr_1 (mLoad_eq (hf _ _ h) rfl)⟩) trivial k
theorem sLl1 {i : Fin 4} {x : Int64} (h : rg[(i : Nat)]? = some (some (.long x))) (k : mRs d M q c (pc + 1) rg (.long x :: st) w e) : mRs d M q ((pc, .lload_n i, rs) :: c) pc rg st w e := mRs_str (C := []) (fun lv hf => ⟨lv, hf, mStr_1 (mLoad_eq (hf _ _ h) rfl)⟩) trivial k
theorem sLl {i : Nat} {x : Int64} (h : rg[i]? = some (some (.long x))) (k : mRs d M q c (pc + 2) rg (.long x :: st) w e) : mRs d M q ((pc, .lload i, rs) :: c) pc rg st w e := mRs_str (C := []) (fun lv hf => ⟨lv, hf, mStr_1 (mLoad_eq (hf _ _ h) rfl)⟩) trivial k
theorem sAl1 {i : Fin 4} {x : Value} (h : rg[(i : Nat)]? = some (some x)) (hx : mIsA x = true) (k : mRs d M q c (pc + 1) rg (x :: st) w e) : mRs d M q ((pc, .aload_n i, rs) :: c) pc rg st w e := mRs_str (C := []) (fun lv hf => ⟨lv, hf, mStr_1 (mLoad_eq (hf _ _ h) hx)⟩) trivial k
theorem sAl {i : Nat} {x : Value} (h : rg[i]? = some (some x)) (hx : mIsA x = true) (k : mRs d M q c (pc + 2) rg (x :: st) w e) : mRs d M q ((pc, .aload i, rs) :: c) pc rg st w e := mRs_str (C := []) (fun lv hf => ⟨lv, hf, mStr_1 (mLoad_eq (hf _ _ h) hx)⟩) trivial k
theorem sIs1 {i : Fin 4} {x : Int32} (rg' : List (Option Value)) (hi : Nat.blt i (mrL M) = true) (hn : nNl rg i = true) (hr : rg.set i (some (.int x)) = rg') (k : mRs d M q c (pc + 1) rg' st w e) : mRs d M q ((pc, .istore_n i, rs) :: c) pc rg (.int x :: st) w e := mRs_str (C := []) (fun lv hf => ⟨_, hr ▸ hf.st1 _ hn, mStr_1 (if_pos (Nat.blt_eq.mp hi))⟩) trivial k
theorem sIs {i : Nat} {x : Int32} (rg' : List (Option Value)) (hi : Nat.blt i (mrL M) = true) (hn : nNl rg i = true) (hr : rg.set i (some (.int x)) = rg') (k : mRs d M q c (pc + 2) rg' st w e) : mRs d M q ((pc, .istore i, rs) :: c) pc rg (.int x :: st) w e := mRs_str (C := []) (fun lv hf => ⟨_, hr ▸ hf.st1 _ hn, mStr_1 (if_pos (Nat.blt_eq.mp hi))⟩) trivial k
theorem sAs1 {i : Fin 4} {x : Nat} (rg' : List (Option Value)) (hi : Nat.blt i (mrL M) = true) (hn : nNl rg i = true) (hr : rg.set i (some (.ref x)) = rg') (k : mRs d M q c (pc + 1) rg' st w e) : mRs d M q ((pc, .astore_n i, rs) :: c) pc rg (.ref x :: st) w e := mRs_str (C := []) (fun lv hf => ⟨_, hr ▸ hf.st1 _ hn, mStr_1 (if_pos (Nat.blt_eq.mp hi))⟩) trivial k
theorem sAs {i x : Nat} (rg' : List (Option Value)) (hi : Nat.blt i (mrL M) = true) (hn : nNl rg i = true) (hr : rg.set i (some (.ref x)) = rg') (k : mRs d M q c (pc + 2) rg' st w e) : mRs d M q ((pc, .astore i, rs) :: c) pc rg (.ref x :: st) w e := mRs_str (C := []) (fun lv hf => ⟨_, hr ▸ hf.st1 _ hn, mStr_1 (if_pos (Nat.blt_eq.mp hi))⟩) trivial k
theorem sLs1 {i : Fin 4} {x : Int64} (rg' : List (Option Value)) (hi : Nat.blt (i + 1) (mrL M) = true) (hn : nNl rg i = true) (hr : (rg.set i (some (.long x))).set (i + 1) none = rg') (k : mRs d M q c (pc + 1) rg' st w e) : mRs d M q ((pc, .lstore_n i, rs) :: c) pc rg (.long x :: st) w e := mRs_str (C := []) (fun lv hf => ⟨_, hr ▸ hf.st2 _ hn, mStr_1 (if_pos (Nat.blt_eq.mp hi))⟩) trivial k
theorem sLs {i : Nat} {x : Int64} (rg' : List (Option Value)) (hi : Nat.blt (i + 1) (mrL M) = true) (hn : nNl rg i = true) (hr : (rg.set i (some (.long x))).set (i + 1) none = rg') (k : mRs d M q c (pc + 2) rg' st w e) : mRs d M q ((pc, .lstore i, rs) :: c) pc rg (.long x :: st) w e := mRs_str (C := []) (fun lv hf => ⟨_, hr ▸ hf.st2 _ hn, mStr_1 (if_pos (Nat.blt_eq.mp hi))⟩) trivial k
theorem sInc {i : Nat} {n : Int} {x y : Int32} (rg' : List (Option Value)) (h : rg[i]? = some (some (.int x))) (hy : Int32.ofInt n = y) (hi : Nat.blt i (mrL M) = true) (hn : nNl rg i = true) (hr : rg.set i (some (.int (x + y))) = rg') (k : mRs d M q c (pc + 3) rg' st w e) : mRs d M q ((pc, .iinc i n, rs) :: c) pc rg st w e := mRs_str (C := []) (fun lv hf => ⟨_, hr ▸ hf.st1 _ hn, mStr_1 (by
  subst hy
  show mIinc i (mrL M) n pc lv st (mK w) = _
  unfold mIinc
  rw [hf _ _ h]
  exact if_pos (Nat.blt_eq.mp hi))⟩) trivial k
/-! numbers -/
theorem sAdd {x y : Int32} (k : mRs d M q c (pc + 1) rg (.int (x + y) :: st) w e) : mRs d M q ((pc, .iadd, rs) :: c) pc rg (.int y :: .int x :: st) w e := mRs_str (C := []) (fun lv hf => ⟨lv, hf, rfl⟩) trivial k
theorem sSub {x y : Int32} (k : mRs d M q c (pc + 1) rg (.int (x - y) :: st) w e) : mRs d M q ((pc, .isub, rs) :: c) pc rg (.int y :: .int x :: st) w e := mRs_str (C := []) (fun lv hf => ⟨lv, hf, rfl⟩) trivial k
theorem sMul {x y : Int32} (k : mRs d M q c (pc + 1) rg (.int (x * y) :: st) w e) : mRs d M q ((pc, .imul, rs) :: c) pc rg (.int y :: .int x :: st) w e := mRs_str (C := []) (fun lv hf => ⟨lv, hf, rfl⟩) trivial k
theorem sAnd {x y : Int32} (k : mRs d M q c (pc + 1) rg (.int (x &&& y) :: st) w e) : mRs d M q ((pc, .iand, rs) :: c) pc rg (.int y :: .int x :: st) w e := mRs_str (C := []) (fun lv hf => ⟨lv, hf, rfl⟩) trivial k
theorem sOr {x y : Int32} (k : mRs d M q c (pc + 1) rg (.int (x ||| y) :: st) w e) : mRs d M q ((pc, .ior, rs) :: c) pc rg (.int y :: .int x :: st) w e := mRs_str (C := []) (fun lv hf => ⟨lv, hf, rfl⟩) trivial k
theorem sXor {x y : Int32} (k : mRs d M q c (pc + 1) rg (.int (x ^^^ y) :: st) w e) : mRs d M q ((pc, .ixor, rs) :: c) pc rg (.int y :: .int x :: st) w e := mRs_str (C := []) (fun lv hf => ⟨lv, hf, rfl⟩) trivial k
theorem sShl {x y : Int32} (k : mRs d M q c (pc + 1) rg (.int (nShl x y) :: st) w e) : mRs d M q ((pc, .ishl, rs) :: c) pc rg (.int y :: .int x :: st) w e := mRs_str (C := []) (fun lv hf => ⟨lv, hf, rfl⟩) trivial k
theorem sShr {x y : Int32} (k : mRs d M q c (pc + 1) rg (.int (nShr x y) :: st) w e) : mRs d M q ((pc, .ishr, rs) :: c) pc rg (.int y :: .int x :: st) w e := mRs_str (C := []) (fun lv hf => ⟨lv, hf, rfl⟩) trivial k
theorem sUsr {x y : Int32} (k : mRs d M q c (pc + 1) rg (.int (nUsr x y) :: st) w e) : mRs d M q ((pc, .iushr, rs) :: c) pc rg (.int y :: .int x :: st) w e := mRs_str (C := []) (fun lv hf => ⟨lv, hf, rfl⟩) trivial k
theorem sNeg {x : Int32} (k : mRs d M q c (pc + 1) rg (.int (-x) :: st) w e) : mRs d M q ((pc, .ineg, rs) :: c) pc rg (.int x :: st) w e := mRs_str (C := []) (fun lv hf => ⟨lv, hf, rfl⟩) trivial k
theorem sI2b {x : Int32} (k : mRs d M q c (pc + 1) rg (.int (x.toInt8.toInt32) :: st) w e) : mRs d M q ((pc, .i2b, rs) :: c) pc rg (.int x :: st) w e := mRs_str (C := []) (fun lv hf => ⟨lv, hf, rfl⟩) trivial k
theorem sDiv {x y : Int32} (h : ¬ y = 0) (k : mRs d M q c (pc + 1) rg (.int (x / y) :: st) w e) : mRs d M q ((pc, .idiv, rs) :: c) pc rg (.int y :: .int x :: st) w e := mRs_str (C := [¬ y = 0]) (fun lv hf => ⟨lv, hf, rfl⟩) ⟨h, trivial⟩ k
theorem sRem {x y : Int32} (h : ¬ y = 0) (k : mRs d M q c (pc + 1) rg (.int (nRm x y) :: st) w e) : mRs d M q ((pc, .irem, rs) :: c) pc rg (.int y :: .int x :: st) w e := mRs_str (C := [¬ y = 0]) (fun lv hf => ⟨lv, hf, rfl⟩) ⟨h, trivial⟩ k
theorem sDivG {x y : Int32} (k : mRs d M q c (pc + 1) rg (.int (x / y) :: st) w e) : mRs d M q ((pc, .idiv, rs) :: c) pc rg (.int y :: .int x :: st) w (nGd (!decide (y = 0)) e) := mRs_gd (P := ¬ y = 0) (fun h => by simpa using h) (fun lv => rfl) (fun _ => k)
theorem sRemG {x y : Int32} (k : mRs d M q c (pc + 1) rg (.int (nRm x y) :: st) w e) : mRs d M q ((pc, .irem, rs) :: c) pc rg (.int y :: .int x :: st) w (nGd (!decide (y = 0)) e) := mRs_gd (P := ¬ y = 0) (fun h => by simpa using h) (fun lv => rfl) (fun _ => k)
theorem sI2l {x : Int32} (k : mRs d M q c (pc + 1) rg (.long x.toInt64 :: st) w e) : mRs d M q ((pc, .i2l, rs) :: c) pc rg (.int x :: st) w e := mRs_str (C := []) (fun lv hf => ⟨lv, hf, rfl⟩) trivial k
theorem sL2i {x : Int64} (k : mRs d M q c (pc + 1) rg (.int x.toInt32 :: st) w e) : mRs d M q ((pc, .l2i, rs) :: c) pc rg (.long x :: st) w e := mRs_str (C := []) (fun lv hf => ⟨lv, hf, rfl⟩) trivial k
theorem sLad {x y : Int64} (k : mRs d M q c (pc + 1) rg (.long (x + y) :: st) w e) : mRs d M q ((pc, .ladd, rs) :: c) pc rg (.long y :: .long x :: st) w e := mRs_str (C := []) (fun lv hf => ⟨lv, hf, rfl⟩) trivial k
theorem sLsb {x y : Int64} (k : mRs d M q c (pc + 1) rg (.long (x - y) :: st) w e) : mRs d M q ((pc, .lsub, rs) :: c) pc rg (.long y :: .long x :: st) w e := mRs_str (C := []) (fun lv hf => ⟨lv, hf, rfl⟩) trivial k
theorem sLan {x y : Int64} (k : mRs d M q c (pc + 1) rg (.long (x &&& y) :: st) w e) : mRs d M q ((pc, .land, rs) :: c) pc rg (.long y :: .long x :: st) w e := mRs_str (C := []) (fun lv hf => ⟨lv, hf, rfl⟩) trivial k
theorem sLor {x y : Int64} (k : mRs d M q c (pc + 1) rg (.long (x ||| y) :: st) w e) : mRs d M q ((pc, .lor, rs) :: c) pc rg (.long y :: .long x :: st) w e := mRs_str (C := []) (fun lv hf => ⟨lv, hf, rfl⟩) trivial k
theorem sLsl {x : Int64} {y : Int32} (k : mRs d M q c (pc + 1) rg (.long (nLsl x y) :: st) w e) : mRs d M q ((pc, .lshl, rs) :: c) pc rg (.int y :: .long x :: st) w e := mRs_str (C := []) (fun lv hf => ⟨lv, hf, rfl⟩) trivial k
theorem sLsr {x : Int64} {y : Int32} (k : mRs d M q c (pc + 1) rg (.long (nLsr x y) :: st) w e) : mRs d M q ((pc, .lshr, rs) :: c) pc rg (.int y :: .long x :: st) w e := mRs_str (C := []) (fun lv hf => ⟨lv, hf, rfl⟩) trivial k
theorem sLus {x : Int64} {y : Int32} (k : mRs d M q c (pc + 1) rg (.long (nLus x y) :: st) w e) : mRs d M q ((pc, .lushr, rs) :: c) pc rg (.int y :: .long x :: st) w e := mRs_str (C := []) (fun lv hf => ⟨lv, hf, rfl⟩) trivial k
theorem sLcm {x y : Int64} (k : mRs d M q c (pc + 1) rg (.int (lg_cmp x y) :: st) w e) : mRs d M q ((pc, .lcmp, rs) :: c) pc rg (.long y :: .long x :: st) w e := mRs_str (C := []) (fun lv hf => ⟨lv, hf, rfl⟩) trivial k
theorem sDupI {x : Int32} (k : mRs d M q c (pc + 1) rg (.int x :: .int x :: st) w e) : mRs d M q ((pc, .dup, rs) :: c) pc rg (.int x :: st) w e := mRs_str (C := []) (fun lv hf => ⟨lv, hf, rfl⟩) trivial k
theorem sDupR {x : Nat} (k : mRs d M q c (pc + 1) rg (.ref x :: .ref x :: st) w e) : mRs d M q ((pc, .dup, rs) :: c) pc rg (.ref x :: st) w e := mRs_str (C := []) (fun lv hf => ⟨lv, hf, rfl⟩) trivial k
theorem sPopI {x : Int32} (k : mRs d M q c (pc + 1) rg st w e) : mRs d M q ((pc, .pop, rs) :: c) pc rg (.int x :: st) w e := mRs_str (C := []) (fun lv hf => ⟨lv, hf, rfl⟩) trivial k
theorem sDup2 {x : Int32} {y : Nat} (k : mRs d M q c (pc + 1) rg (.int x :: .ref y :: .int x :: .ref y :: st) w e) : mRs d M q ((pc, .dup2, rs) :: c) pc rg (.int x :: .ref y :: st) w e := mRs_str (C := []) (fun lv hf => ⟨lv, hf, rfl⟩) trivial k
theorem sMax {idx z : Nat} {x y : Int32} (h : nC2 st = true) (k : mRs d M q c (pc + 3) rg (.int (nMax x y) :: st) w e) : mRs d M q ((pc, .invokestatic idx, [9010, z]) :: c) pc rg (.int y :: .int x :: st) w e := mRs_str (C := []) (fun lv hf => ⟨lv, hf, if_pos (c := 9010 = 9010 ∧ (st.map fun v => v.category).sum ≤ 8) ⟨rfl, Nat.le_of_ble_eq_true h⟩⟩) trivial k
theorem sMin {idx z : Nat} {x y : Int32} (h : nC2 st = true) (k : mRs d M q c (pc + 3) rg (.int (nMin x y) :: st) w e) : mRs d M q ((pc, .invokestatic idx, [9011, z]) :: c) pc rg (.int y :: .int x :: st) w e := mRs_str (C := []) (fun lv hf => ⟨lv, hf, if_pos (c := 9011 = 9011 ∧ (st.map fun v => v.category).sum ≤ 8) ⟨rfl, Nat.le_of_ble_eq_true h⟩⟩) trivial k
theorem sAbs {idx z : Nat} {x : Int32} (h : nC2 st = true) (k : mRs d M q c (pc + 3) rg (.int (nAbs x) :: st) w e) : mRs d M q ((pc, .invokestatic idx, [9012, z]) :: c) pc rg (.int x :: st) w e := mRs_str (C := []) (fun lv hf => ⟨lv, hf, if_pos (c := (st.map fun v => v.category).sum ≤ 8) (Nat.le_of_ble_eq_true h)⟩) trivial k
/-! jumps -/
theorem mTo_of {off : Int} {t : Nat} (h : (pc : Int) + off = (t : Int)) : mTo pc off = t := by
  unfold mTo
  rw [h]
  rfl
theorem sGt {off : Int} {t : Nat} (h : (pc : Int) + off = (t : Int)) (k : mRt d M q t rg st w e) : mRs d M q ((pc, .goto off, rs) :: c) pc rg st w e := mRs_str (C := []) (c := c) (pc' := t) (fun lv hf => ⟨lv, hf, mStr_1 (by
  show mGoto off pc lv st (mK w) = _
  unfold mGoto
  rw [if_pos (by rw [h]; exact Int.natCast_nonneg t), mTo_of h])⟩) trivial (sT k)
theorem mRs_br {i : Instr} {off : Int} {t : Nat} {p : Prop} {stk : List Value} (hn : ∀ lv, mStr (mrL M) i rs pc lv stk (mK w) = none) (hb : mBrc i stk = some (p, off, st)) (h : (pc : Int) + off = (t : Int)) (kj : p → mRt d M q t rg st w e) (kf : ¬ p → mRs d M q c (pc + 3) rg st w e) : mRs d M q ((pc, i, rs) :: c) pc rg stk w e := by
  intro hc lv hf z hz
  have ha : mAt (mrC M) pc = some (i, rs) := hc _ List.mem_cons_self
  by_cases hp : p
  · obtain ⟨f, hx⟩ := kj hp lv hf z hz
    refine ⟨f + 1, ?_⟩
    show mStepR _ M _ _ _
    unfold mStepR
    simp only [ha, hn lv, hb]
    exact ⟨by rw [h]; exact Int.natCast_nonneg t, fun _ => by rw [mTo_of h]; exact hx, fun g => absurd hp g⟩
  · obtain ⟨f, hx⟩ := kf hp (fun x hx => hc x (List.mem_cons_of_mem _ hx)) lv hf z hz
    refine ⟨f + 1, ?_⟩
    show mStepR _ M _ _ _
    unfold mStepR
    simp only [ha, hn lv, hb]
    exact ⟨by rw [h]; exact Int.natCast_nonneg t, fun g => absurd g hp, fun _ => hx⟩
theorem mNb1 {q : ClassFile.Cond} {off : Int} {stk : List Value} {lv : mLV} {X : mHX} : mStr (mrL M) (.ifCond q off) rs pc lv stk X = none := rfl
theorem mNb2 {q : ClassFile.Cond} {off : Int} {stk : List Value} {lv : mLV} {X : mHX} : mStr (mrL M) (.if_icmp q off) rs pc lv stk X = none := rfl
section NB
variable {off : Int} {t : Nat} {x y : Int32} {A B : Option (α × mW)}
theorem sEqz (h : (pc : Int) + off = (t : Int)) (kj : mRt d M q t rg st w A) (kf : mRs d M q c (pc + 3) rg st w B) : mRs d M q ((pc, .ifCond .eq off, rs) :: c) pc rg (.int x :: st) w (if x = 0 then A else B) :=
  mRs_br (p := x = 0) (fun _ => mNb1) rfl h (fun g => by rw [if_pos g]; exact kj) (fun g => by rw [if_neg g]; exact kf)
theorem sNez (h : (pc : Int) + off = (t : Int)) (kj : mRt d M q t rg st w B) (kf : mRs d M q c (pc + 3) rg st w A) : mRs d M q ((pc, .ifCond .ne off, rs) :: c) pc rg (.int x :: st) w (if x = 0 then A else B) :=
  mRs_br (p := ¬ x = 0) (fun _ => mNb1) rfl h (fun g => by rw [if_neg g]; exact kj) (fun g => by rw [if_pos (Decidable.not_not.mp g)]; exact kf)
theorem sLtz (h : (pc : Int) + off = (t : Int)) (kj : mRt d M q t rg st w A) (kf : mRs d M q c (pc + 3) rg st w B) : mRs d M q ((pc, .ifCond .lt off, rs) :: c) pc rg (.int x :: st) w (if x < 0 then A else B) :=
  mRs_br (p := x < 0) (fun _ => mNb1) rfl h (fun g => by rw [if_pos g]; exact kj) (fun g => by rw [if_neg g]; exact kf)
theorem sGez (h : (pc : Int) + off = (t : Int)) (kj : mRt d M q t rg st w B) (kf : mRs d M q c (pc + 3) rg st w A) : mRs d M q ((pc, .ifCond .ge off, rs) :: c) pc rg (.int x :: st) w (if x < 0 then A else B) :=
  mRs_br (p := 0 ≤ x) (fun _ => mNb1) rfl h (fun g => by rw [if_neg (Int32.not_lt.mpr g)]; exact kj) (fun g => by rw [if_pos (Int32.not_le.mp g)]; exact kf)
theorem sGtz (h : (pc : Int) + off = (t : Int)) (kj : mRt d M q t rg st w A) (kf : mRs d M q c (pc + 3) rg st w B) : mRs d M q ((pc, .ifCond .gt off, rs) :: c) pc rg (.int x :: st) w (if 0 < x then A else B) :=
  mRs_br (p := 0 < x) (fun _ => mNb1) rfl h (fun g => by rw [if_pos g]; exact kj) (fun g => by rw [if_neg g]; exact kf)
theorem sLez (h : (pc : Int) + off = (t : Int)) (kj : mRt d M q t rg st w B) (kf : mRs d M q c (pc + 3) rg st w A) : mRs d M q ((pc, .ifCond .le off, rs) :: c) pc rg (.int x :: st) w (if 0 < x then A else B) :=
  mRs_br (p := x ≤ 0) (fun _ => mNb1) rfl h (fun g => by rw [if_neg (Int32.not_lt.mpr g)]; exact kj) (fun g => by rw [if_pos (Int32.not_le.mp g)]; exact kf)
theorem sEq (h : (pc : Int) + off = (t : Int)) (kj : mRt d M q t rg st w A) (kf : mRs d M q c (pc + 3) rg st w B) : mRs d M q ((pc, .if_icmp .eq off, rs) :: c) pc rg (.int y :: .int x :: st) w (if x = y then A else B) :=
  mRs_br (p := x = y) (fun _ => mNb2) rfl h (fun g => by rw [if_pos g]; exact kj) (fun g => by rw [if_neg g]; exact kf)
theorem sNe (h : (pc : Int) + off = (t : Int)) (kj : mRt d M q t rg st w B) (kf : mRs d M q c (pc + 3) rg st w A) : mRs d M q ((pc, .if_icmp .ne off, rs) :: c) pc rg (.int y :: .int x :: st) w (if x = y then A else B) :=
  mRs_br (p := ¬ x = y) (fun _ => mNb2) rfl h (fun g => by rw [if_neg g]; exact kj) (fun g => by rw [if_pos (Decidable.not_not.mp g)]; exact kf)
theorem sLt (h : (pc : Int) + off = (t : Int)) (kj : mRt d M q t rg st w A) (kf : mRs d M q c (pc + 3) rg st w B) : mRs d M q ((pc, .if_icmp .lt off, rs) :: c) pc rg (.int y :: .int x :: st) w (if x < y then A else B) :=
  mRs_br (p := x < y) (fun _ => mNb2) rfl h (fun g => by rw [if_pos g]; exact kj) (fun g => by rw [if_neg g]; exact kf)
theorem sGe (h : (pc : Int) + off = (t : Int)) (kj : mRt d M q t rg st w B) (kf : mRs d M q c (pc + 3) rg st w A) : mRs d M q ((pc, .if_icmp .ge off, rs) :: c) pc rg (.int y :: .int x :: st) w (if x < y then A else B) :=
  mRs_br (p := y ≤ x) (fun _ => mNb2) rfl h (fun g => by rw [if_neg (Int32.not_lt.mpr g)]; exact kj) (fun g => by rw [if_pos (Int32.not_le.mp g)]; exact kf)
theorem sGtt (h : (pc : Int) + off = (t : Int)) (kj : mRt d M q t rg st w A) (kf : mRs d M q c (pc + 3) rg st w B) : mRs d M q ((pc, .if_icmp .gt off, rs) :: c) pc rg (.int y :: .int x :: st) w (if y < x then A else B) :=
  mRs_br (p := y < x) (fun _ => mNb2) rfl h (fun g => by rw [if_pos g]; exact kj) (fun g => by rw [if_neg g]; exact kf)
theorem sLe (h : (pc : Int) + off = (t : Int)) (kj : mRt d M q t rg st w B) (kf : mRs d M q c (pc + 3) rg st w A) : mRs d M q ((pc, .if_icmp .le off, rs) :: c) pc rg (.int y :: .int x :: st) w (if y < x then A else B) :=
  mRs_br (p := x ≤ y) (fun _ => mNb2) rfl h (fun g => by rw [if_neg (Int32.not_lt.mpr g)]; exact kj) (fun g => by rw [if_pos (Int32.not_le.mp g)]; exact kf)
end NB
/-! the ends -/
theorem mRs_ret {i : Instr} {o : Option Value} {C : List Prop} {v : α} {stk : List Value} (hn : ∀ lv, mStr (mrL M) i rs pc lv stk (mK w) = none) (hb : mBrc i stk = none) (hr : mRet (mrR M) i stk = some (o, C)) (hC : mAll C) (hq : q v = .inl o) : mRs d M q ((pc, i, rs) :: c) pc rg stk w (some (v, w)) := by
  intro hc lv hf z hz
  have ha : mAt (mrC M) pc = some (i, rs) := hc _ List.mem_cons_self
  cases hz
  refine ⟨1, ?_⟩
  show mStepR _ M _ _ _
  unfold mStepR
  simp only [ha, hn lv, hb, hr]
  exact ⟨hC, by rw [hq]⟩
theorem sRt {v : Int32} (hr : mrR M = some .int) : mRs d M nQi ((pc, .ireturn, rs) :: c) pc rg [.int v] w (some (v, w)) := mRs_ret (o := some (.int v)) (C := []) (fun _ => rfl) rfl (by simp only [mRet, hr]; rfl) trivial rfl
theorem sRtB {v : Int32} (hr : mrR M = some .boolean) (hv : v = 0 ∨ v = 1) : mRs d M nQi ((pc, .ireturn, rs) :: c) pc rg [.int v] w (some (v, w)) := mRs_ret (o := some (.int v)) (C := [v = 0 ∨ v = 1]) (fun _ => rfl) rfl (by simp only [mRet, hr]; rfl) ⟨hv, trivial⟩ rfl
def nB01 (v : Int32) : Bool := decide (v = 0) || decide (v = 1)
theorem sRtG {v : Int32} (hr : mrR M = some .boolean) : mRs d M nQi ((pc, .ireturn, rs) :: c) pc rg [.int v] w (nGd (nB01 v) (some (v, w))) := by
  intro hc lv hf z hz
  by_cases h : nB01 v = true
  · rw [nGd, if_pos h] at hz
    exact sRtB hr (by simpa [nB01] using h) hc lv hf z hz
  · rw [nGd, if_neg h] at hz
    cases hz
theorem sRtJ {v : Int64} (hr : mrR M = some .long) : mRs d M nQj ((pc, .lreturn, rs) :: c) pc rg [.long v] w (some (v, w)) := mRs_ret (o := some (.long v)) (C := []) (fun _ => rfl) rfl (by simp only [mRet, hr]; rfl) trivial rfl
theorem sRtV (hr : mrR M = none) : mRs d M nQv ((pc, .return_, rs) :: c) pc rg [] w (some ((), w)) := mRs_ret (o := none) (C := []) (fun _ => rfl) rfl (by simp only [mRet, hr]; rfl) trivial rfl
theorem sRtR {v : Nat} {s : String} (hr : mrR M = some (.object s)) : mRs d M nQr ((pc, .areturn, rs) :: c) pc rg [.ref v] w (some (v, w)) := mRs_ret (o := some (.ref v)) (C := []) (fun _ => rfl) rfl (by simp only [mRet, hr]) trivial rfl
theorem sXt {v : Int32} (hr : mrR M = some .int) : mRs d M nQxi ((pc, .ireturn, rs) :: c) pc rg [.int v] w (some (.inl v, w)) := mRs_ret (o := some (.int v)) (C := []) (fun _ => rfl) rfl (by simp only [mRet, hr]; rfl) trivial rfl
theorem sXtV (hr : mrR M = none) : mRs d M nQxv ((pc, .return_, rs) :: c) pc rg [] w (some (.inl (), w)) := mRs_ret (o := none) (C := []) (fun _ => rfl) rfl (by simp only [mRet, hr]; rfl) trivial rfl
theorem mRs_thr {idx x a b g : Nat} {v : α} (hh : mrH M = []) (hs : nC2 st = true) (hq : q v = .inr (mExN x)) : mRs d M q ((pc, .new idx, [777, x, a, b, g]) :: c) pc rg st w (some (v, nThr w)) := by
  intro hc lv hf z hz
  have ha : mAt (mrC M) pc = some (.new idx, [777, x, a, b, g]) := hc _ List.mem_cons_self
  cases hz
  refine ⟨1, ?_⟩
  show mStepR _ M _ _ _
  unfold mStepR
  have h1 : ∀ X, mStr (mrL M) (.new idx) [777, x, a, b, g] pc lv st X = none := fun _ => rfl
  have h4 : mAlc (.new idx) [777, x, a, b, g] (pc, lv, st, mK w) = none := rfl
  have h5 : mThr (.new idx) [777, x, a, b, g] st (mK w) = some (mExN x, mThrX (mK w)) := if_pos ⟨rfl, rfl, Nat.le_of_ble_eq_true hs⟩
  simp only [ha, h1, h4, h5, mBrc, mRet]
  exact ⟨hh, by rw [hq]; rfl⟩
theorem sTh {idx x a b g : Nat} (hh : mrH M = []) (hs : nC2 st = true) : mRs d M nQxi ((pc, .new idx, [777, x, a, b, g]) :: c) pc rg st w (some (.inr x, nThr w)) := mRs_thr hh hs rfl
theorem sThV {idx x a b g : Nat} (hh : mrH M = []) (hs : nC2 st = true) : mRs d M nQxv ((pc, .new idx, [777, x, a, b, g]) :: c) pc rg st w (some (.inr x, nThr w)) := mRs_thr hh hs rfl
end NR
