/-! ===== new cells ===== -/
theorem mHR.add {D : va_G} {cA : Nat → ClassId} {ad : Nat → Nat} {h0 : Nat} {X : mHX} {H H1 : Heap} {kind len : Nat} {q : Nat → Option Nat} (hA : mAd ad h0) (h : mHR D cA ad h0 X H) (hf : mFz X = false) (hn : mN X < 1000000) (hz : H1.size = H.size + 1) (o1 : ∀ x : Nat, x < H.size → H1[x]? = H[x]?)
    (hk : kind < 100 → ∃ w : vw_C, mCl[kind]? = some w ∧ w.2.2 = len) (he : va_at D mCl (ad (mN X), mEnc cA ad (mAdd X kind len q) (mN X)) H1) : mHR D cA ad h0 (mAdd X kind len q) H1 := by
  obtain ⟨h1, h2, h3, h4⟩ := h
  have hsz := h4 hf
  refine ⟨fun k hk9 => ?_, ⟨by show mN X + 1 ≤ 1000000; omega, (if_neg (by omega)).trans h2.2.1, (mRow_ne (by omega)).trans h2.2.2⟩, fun k hk9 => ?_, fun _ => ?_⟩
  · have hk9 : k < mN X + 1 := hk9
    by_cases e : k = mN X
    · subst e; exact he
    · have hlt : k < mN X := by omega
      rw [mEnc_congr (X := X) (Y := mAdd X kind len q) (by show (if k = mN X then _ else _) = _; rw [if_neg e]) (mRow_ne e) (mRow_ne e) (mRow_ne e)]
      exact (h1 k hlt).kept (o1 _ (h1 k hlt).lt)
  · have hk9 : k < mN X + 1 := hk9
    show (if k = mN X then (kind, len) else mSh X k).1 < 100 → ∃ w : vw_C, mCl[(if k = mN X then (kind, len) else mSh X k).1]? = some w ∧ w.2.2 = (if k = mN X then (kind, len) else mSh X k).2
    by_cases e : k = mN X
    · rw [if_pos e]; exact hk
    · rw [if_neg e]; exact h3 k (by omega)
  · show H1.size = h0 + (mN X + 1)
    omega
def mOkN (M : mRec) (idx ci N : Nat) : Prop := ∃ q : vw_C, mCl[ci]? = some q ∧ q.2.2 = N ∧ Cond.classLink (mrN M).cls idx q.1 ∈ lw_tbl ∧ Cond.instantiable q.1 N ∈ lw_tbl ∧ Cond.initialized q.1 ∈ lw_tbl
def mOkA (aty : ArrayType) (kind : Nat) : Prop := ((aty = .int ∧ kind = 100) ∨ (aty = .byte ∧ kind = 101) ∨ (aty = .boolean ∧ kind = 102) ∨ (aty = .long ∧ kind = 103)) ∧ Cond.arrayClass (newarray.typeOf aty) ∈ lw_tbl
theorem mDef_fs {ci : Nat} {ad : Nat → Nat} {Y : mHX} {a N : Nat} (hI : mI Y a = fun _ => 0) (hL : mL Y a = fun _ => 0) (hP : mP Y a = fun _ => none) (hty : ∀ j, j < N → mTy ci j = .int ∨ mTy ci j = .boolean ∨ mTy ci j = .long ∨ (∃ o, mTy ci j = .object o) ∨ ∃ o, mTy ci j = .array o) :
    ∀ j, j < N → defaultValue (mTy ci j) = vp_V ((List.range N).map (fun j => mTau ad (mFld Y a j (mTy ci j)))) j := by
  intro j hj
  have e : vp_V ((List.range N).map (fun j => mTau ad (mFld Y a j (mTy ci j)))) j = mTau ad (mFld Y a j (mTy ci j)) := by simp [vp_V, hj]
  rw [e]
  rcases hty j hj with h | h | h | ⟨o, h⟩ | ⟨o, h⟩ <;> rw [h] <;> simp only [mFld, hI, hL, hP] <;> rfl
set_option maxRecDepth 20000 in
theorem mTy_all : ∀ ci, ci < 11 → ∀ j, j < 100 → (match mTy ci j with | .int => true | .boolean => true | .long => true | .object _ => true | .array _ => true | _ => false) = true := by decide +kernel
theorem mTy_some {ci j : Nat} (hc : ci < 11) (hj : j < 100) : mTy ci j = .int ∨ mTy ci j = .boolean ∨ mTy ci j = .long ∨ (∃ o, mTy ci j = .object o) ∨ ∃ o, mTy ci j = .array o := by
  have h := mTy_all ci hc j hj
  split at h
  · rename_i e; exact Or.inl e
  · rename_i e; exact Or.inr (Or.inl e)
  · rename_i e; exact Or.inr (Or.inr (Or.inl e))
  · rename_i o e; exact Or.inr (Or.inr (Or.inr (Or.inl ⟨o, e⟩)))
  · rename_i o e; exact Or.inr (Or.inr (Or.inr (Or.inr ⟨o, e⟩)))
  · cases h
theorem mAdd_row {X : mHX} {kind len : Nat} {q : Nat → Option Nat} : mSh (mAdd X kind len q) (mN X) = (kind, len) ∧ mI (mAdd X kind len q) (mN X) = (fun _ => 0) ∧ mL (mAdd X kind len q) (mN X) = (fun _ => 0) ∧ mP (mAdd X kind len q) (mN X) = q :=
  ⟨if_pos rfl, mRow_eq, mRow_eq, mRow_eq⟩
section MSN
variable {p : Program} {l : Launch} {e : Env} {R : Room} {s : State} {m : MethodId} {args : Array Value} {below : List Frame} {meth : Method} {c : Code} {c0 s0 : Nat} {Q : State → Prop}
variable {pc : Nat} {M : mRec} {D : va_G} {cA : Nat → ClassId} {ad : Nat → Nat} {h0 : Nat} {X : mHX} {lv : mLV} {st : List Value} {S' : mSt} {C : List Prop}
theorem mk_new {idx ci N : Nat} (hx : p.tables.exec = Jvm.exec) (hb : c.code = mrB M) (hts : ∀ w ∈ mT, w.before args s = true) (hown : s.vm.findClass (mrN M).cls = some m.cls) (hK : va_K D mCl (mTys cA) s) (hA : mAd ad h0) (hok : mOkN M idx ci N) (hd : decode (mrB M) pc = .ok (.new idx, 3))
    (hf : mFz X = false) (hn : mN X < 1000000) (hc0 : c0 ≤ mNc X) (hs0 : s0 ≤ mNs X) (hRc : mNc X + 1 - c0 ≤ R.cells) (hRs : mNs X + N - s0 ≤ R.slots)
    (k : mKK p l e R s m args below meth c Q (mrL M) D cA ad h0 c0 s0 (pc + 3, lv, .ref (mN X) :: st, mAdd X ci N (fun _ => none))) : mKK p l e R s m args below meth c Q (mrL M) D cA ad h0 c0 s0 (pc, lv, st, X) := by
  obtain ⟨⟨Cn, T, N9⟩, hq, hN, w1, w2, w3⟩ := hok
  cases hN
  have hRs : mNs X + N9 - s0 ≤ R.slots := hRs
  intro H locs ls hH hS hl
  have hKn := hK.1 ci _ hq
  have hsz := hH.2.2.2 hf
  have hci := mCl_lt hq
  have had : ad (mN X) = H.size := by rw [hA _ hn, hsz]
  refine W.newcK hx hb hown (hts _ (mT_in w1 rfl)) (hts _ (mT_in w2 rfl)) (hts _ (mT_in w3 rfl)) rfl hd (by show mNc X - c0 + 1 ≤ _; omega) (by show mNs X - s0 + N9 ≤ _; omega) hKn.2.1 rfl fun H1 kC hkC e1 z1 o1 => ?_
  have hci11 : ci < 11 := (List.getElem?_eq_some_iff.mp hq).1
  have hN87 : N9 < 100 := by
    match ci, hq with
    | 0, h => cases h; decide
    | 1, h => cases h; decide
    | 2, h => cases h; decide
    | 3, h => cases h; decide
    | 4, h => cases h; decide
    | 5, h => cases h; decide
    | 6, h => cases h; decide
    | 7, h => cases h; decide
    | 8, h => cases h; decide
    | 9, h => cases h; decide
    | 10, h => cases h; decide
  obtain ⟨r1, r2, r3, r4⟩ := mAdd_row (X := X) (kind := ci) (len := N9) (q := fun _ => none)
  have hH1 : mHR D cA ad h0 (mAdd X ci N9 (fun _ => none)) H1 := by
    refine hH.add hA hf hn z1 (fun x hx => o1 x hx) (fun _ => ⟨_, hq, rfl⟩) ?_
    rw [mEnc_o (by rw [r1]; exact hci), r1, had]
    exact ⟨_, hq, (u_born (mTy ci) hts (mCl_in hq) hKn hkC e1 (mCl_ty hq)).to (mDef_fs r2 r3 r4 (fun j hj => mTy_some hci11 (by show j < 100; have : j < N9 := hj; omega)))⟩
  have k9 := k H1 locs ls hH1 ⟨Nat.le_trans hS.1 (by omega), fun x h1 h2 => (o1 x (Nat.lt_of_lt_of_le h1 hS.1)).trans (hS.2.1 x h1 h2), hS.2.2⟩ hl
  have e8 : mNc X + 1 - c0 = mNc X - c0 + 1 := by omega
  have e9 : mNs X + N9 - s0 = mNs X - s0 + N9 := by omega
  have k10 : W p l e R s m args below meth c H1 locs (mNc X + 1 - c0) (mNs X + N9 - s0) Q (F0 m (pc + 3) ls (.ref (ad (mN X)) :: st.map (mTau ad))) := k9
  rw [e8, e9, had] at k10
  exact k10
theorem mk_newa {aty : ArrayType} {kind : Nat} {n : Int32} (hx : p.tables.exec = Jvm.exec) (hb : c.code = mrB M) (hts : ∀ w ∈ mT, w.before args s = true) (hK : va_K D mCl (mTys cA) s) (hA : mAd ad h0) (hok : mOkA aty kind) (hd : decode (mrB M) pc = .ok (.newarray aty, 2))
    (hf : mFz X = false) (hn : mN X < 1000000) (hc0 : c0 ≤ mNc X) (hs0 : s0 ≤ mNs X) (hRc : mNc X + 1 - c0 ≤ R.cells) (hRs : mNs X + n.toNatClampNeg - s0 ≤ R.slots) (hn0 : ¬ n < 0) (hnb : n.toNatClampNeg ≤ 60000000)
    (k : mKK p l e R s m args below meth c Q (mrL M) D cA ad h0 c0 s0 (pc + 2, lv, .ref (mN X) :: st, mAdd X kind n.toNatClampNeg (fun _ => none))) : mKK p l e R s m args below meth c Q (mrL M) D cA ad h0 c0 s0 (pc, lv, .int n :: st, X) := by
  obtain ⟨hkd, w1⟩ := hok
  intro H locs ls hH hS hl
  have hsz := hH.2.2.2 hf
  have had : ad (mN X) = H.size := by rw [hA _ hn, hsz]
  have hcb : componentBytes (newarray.typeOf aty) ≤ 8 := by rcases hkd with ⟨rfl, -⟩ | ⟨rfl, -⟩ | ⟨rfl, -⟩ | ⟨rfl, -⟩ <;> decide
  refine va_newaK hx hb (hts _ (mT_in w1 rfl)) rfl hd rfl hn0 rfl (by have := Nat.mul_le_mul hnb hcb; omega) (by show mNc X - c0 + 1 ≤ _; omega) (by show mNs X - s0 + _ ≤ _; omega) rfl fun H1 cx e1 z1 o1 _ hNm => ?_
  obtain ⟨r1, r2, r3, r4⟩ := mAdd_row (X := X) (kind := kind) (len := n.toNatClampNeg) (q := fun _ => none)
  have hH1 : mHR D cA ad h0 (mAdd X kind n.toNatClampNeg (fun _ => none)) H1 := by
    refine hH.add hA hf hn z1 (fun x hx => o1 x hx) (fun h => ?_) ?_
    · exfalso; rcases hkd with ⟨-, rfl⟩ | ⟨-, rfl⟩ | ⟨-, rfl⟩ | ⟨-, rfl⟩ <;> omega
    · rcases hkd with ⟨rfl, rfl⟩ | ⟨rfl, rfl⟩ | ⟨rfl, rfl⟩ | ⟨rfl, rfl⟩
      · have hcx : cx = cA 0 := by have := (hK.2 0 _ rfl).2; exact Option.some.inj (hNm.symm.trans this)
        subst hcx
        rw [mEnc_i (t := 0) (by omega) (by rw [r1]), r1, r2, had]
        exact e1
      · have hcx : cx = cA 1 := by have := (hK.2 1 _ rfl).2; exact Option.some.inj (hNm.symm.trans this)
        subst hcx
        rw [mEnc_i (t := 1) (by omega) (by rw [r1]), r1, r2, had]
        exact e1
      · have hcx : cx = cA 2 := by have := (hK.2 2 _ rfl).2; exact Option.some.inj (hNm.symm.trans this)
        subst hcx
        rw [mEnc_i (t := 2) (by omega) (by rw [r1]), r1, r2, had]
        exact e1
      · have hcx : cx = cA 3 := by have := (hK.2 3 _ rfl).2; exact Option.some.inj (hNm.symm.trans this)
        subst hcx
        rw [mEnc_l (by rw [r1]), r1, r3, had]
        exact e1
  have k9 := k H1 locs ls hH1 ⟨Nat.le_trans hS.1 (by omega), fun x h1 h2 => (o1 x (Nat.lt_of_lt_of_le h1 hS.1)).trans (hS.2.1 x h1 h2), hS.2.2⟩ hl
  have e8 : mNc X + 1 - c0 = mNc X - c0 + 1 := by omega
  have e9 : mNs X + n.toNatClampNeg - s0 = mNs X - s0 + n.toNatClampNeg := by omega
  have k10 : W p l e R s m args below meth c H1 locs (mNc X + 1 - c0) (mNs X + n.toNatClampNeg - s0) Q (F0 m (pc + 2) ls (.ref (ad (mN X)) :: st.map (mTau ad))) := k9
  rw [e8, e9, had] at k10
  exact k10
/-! new int[n][k] -/
theorem mAddN_facts {X : mHX} {kind len : Nat} : ∀ n, mN (mAddN X kind len n) = mN X + n ∧ mNc (mAddN X kind len n) = mNc X + n ∧ mNs (mAddN X kind len n) = mNs X + n * len ∧ mFz (mAddN X kind len n) = mFz X ∧
    (∀ k, mN X ≤ k → k < mN X + n → mSh (mAddN X kind len n) k = (kind, len) ∧ mI (mAddN X kind len n) k = (fun _ => 0)) ∧ (∀ k, k < mN X ∨ mN X + n ≤ k → mSh (mAddN X kind len n) k = mSh X k ∧ mI (mAddN X kind len n) k = mI X k ∧ mL (mAddN X kind len n) k = mL X k ∧ mP (mAddN X kind len n) k = mP X k)
  | 0 => ⟨rfl, rfl, (by show mNs X = mNs X + 0 * len; omega), rfl, fun k h1 h2 => by omega, fun k _ => ⟨rfl, rfl, rfl, rfl⟩⟩
  | n + 1 => by
    obtain ⟨h1, h2, h3, h4, h5, h6⟩ := mAddN_facts (X := X) (kind := kind) (len := len) n
    refine ⟨by show mN (mAddN X kind len n) + 1 = _; omega, by show mNc (mAddN X kind len n) + 1 = _; omega, by show mNs (mAddN X kind len n) + len = _; rw [h3, Nat.succ_mul]; omega, h4, fun k g1 g2 => ?_, fun k g => ?_⟩
    · by_cases e : k = mN (mAddN X kind len n)
      · subst e
        obtain ⟨r1, r2, -, -⟩ := mAdd_row (X := mAddN X kind len n) (kind := kind) (len := len) (q := fun _ => none)
        exact ⟨r1, r2⟩
      · have := h5 k g1 (by omega)
        exact ⟨(if_neg e).trans this.1, (mRow_ne e).trans this.2⟩
    · have e : k ≠ mN (mAddN X kind len n) := by omega
      obtain ⟨g1, g2, g3, g4⟩ := h6 k (by omega)
      exact ⟨(if_neg e).trans g1, (mRow_ne e).trans g2, (mRow_ne e).trans g3, (mRow_ne e).trans g4⟩
theorem mW_multi : Cond.arrayClass (.int : FieldType) ∈ mT := mT_in (mIn_at (c := 1) (i := 76) (by decide +kernel)) rfl
theorem m_outer (c : ClassId) (N h0 : Nat) : ∀ i : Nat, Jvm.Free.Multi.outerC c N h0 i = arrV c N (fun j => va_rf (if j < i then some (h0 + 1 + j) else none))
  | 0 => by
    show ({ cls := c, slots := Array.replicate N .null, vm := .none } : Cell) = _
    rw [arrV_new]
    refine congrArg (arrV c N) (funext fun j => ?_)
    simp [va_rf]
  | i + 1 => by
    show (Jvm.Free.Multi.outerC c N h0 i).setSlot i (.ref (h0 + 1 + i)) = _
    rw [m_outer c N h0 i, arrV_store]
    refine congrArg (arrV c N) (funext fun j => ?_)
    by_cases e : j = i
    · subst e
      simp [updV, va_rf]
    · by_cases h : j < i
      · simp [updV, e, h, Nat.lt_succ_of_lt h]
      · simp [updV, e, h, show ¬ j < i + 1 by omega]
theorem mk_multi {idx : Nat} {n k9 : Int32} (hx : p.tables.exec = Jvm.exec) (hb : c.code = mrB M) (hts : ∀ w ∈ mT, w.before args s = true) (hown : s.vm.findClass (mrN M).cls = some m.cls) (hK : va_K D mCl (mTys cA) s) (hA : mAd ad h0) (hlk : Cond.classLink (mrN M).cls idx "[[I" ∈ lw_tbl) (hov : mAO s) (hd : decode (mrB M) pc = .ok (.multianewarray idx 2, 4))
    (hf : mFz X = false) (hc0 : c0 ≤ mNc X) (hs0 : s0 ≤ mNs X) (hn0 : ¬ n < 0) (hk0 : ¬ k9 < 0) (hnb : n.toNatClampNeg ≤ 60000000) (hkb : k9.toNatClampNeg ≤ 60000000) (hN6 : mN X + (1 + n.toNatClampNeg) ≤ 1000000)
    (hRc : mNc X + (1 + n.toNatClampNeg) - c0 ≤ R.cells) (hRs : mNs X + (n.toNatClampNeg + n.toNatClampNeg * k9.toNatClampNeg) - s0 ≤ R.slots)
    (k : mKK p l e R s m args below meth c Q (mrL M) D cA ad h0 c0 s0 (pc + 4, lv, .ref (mN X) :: st, mAddN (mAdd X 104 n.toNatClampNeg (fun j => if j < n.toNatClampNeg then some (mN X + 1 + j) else none)) 100 k9.toNatClampNeg n.toNatClampNeg)) : mKK p l e R s m args below meth c Q (mrL M) D cA ad h0 c0 s0 (pc, lv, .int k9 :: .int n :: st, X) := by
  intro H locs ls hH hS hl
  show W p l e R s m args below meth c H locs (mNc X - c0) (mNs X - s0) Q (F0 m pc ls (.int k9 :: .int n :: st.map (mTau ad)))
  intro T hT Xs
  have hH : mHR D cA ad h0 X H := hH
  have hsz : H.size = h0 + mN X := hH.2.2.2 hf
  obtain ⟨vm₁, cB, comp, -, fA, fC, hO, -, X', step⟩ := Stand.multianewarray2F Xs hx hown (hts _ (mT_in hlk rfl)) hov.use (hts _ mW_multi) (g := F0 m pc ls (.int k9 :: .int n :: st.map (mTau ad))) rfl (by rw [hb]; exact hd) rfl hn0 hk0 (by omega) (by have : componentBytes (.int : FieldType) = 4 := rfl; rw [this]; omega) (by omega) rfl rfl (by omega) (by omega)
  have hcB : cB = cA 4 := Option.some.inj (fA.symm.trans (hK.2 4 _ rfl).2)
  have hcomp : comp = cA 0 := Option.some.inj (fC.symm.trans (hK.2 0 _ rfl).2)
  subst hcB; subst hcomp
  generalize hF : Jvm.Free.Multi.fill (T.setVm vm₁) (cA 4) (cA 0) n.toNatClampNeg k9.toNatClampNeg (defaultValue .int) n.toNatClampNeg = F at X' step
  have hTh : (T.setVm vm₁).heap = H := hT
  obtain ⟨f1, f2, -, -⟩ := Jvm.Free.Multi.fill_facts (T.setVm vm₁) (cA 4) (cA 0) n.toNatClampNeg k9.toNatClampNeg (defaultValue .int) n.toNatClampNeg
  rw [hF, hTh] at f1 f2
  have hold : ∀ x : Nat, x < H.size → F.heap[x]? = H[x]? := fun x hx => by
    have := Jvm.Free.Multi.fill_old (T.setVm vm₁) (cA 4) (cA 0) n.toNatClampNeg k9.toNatClampNeg (defaultValue .int) (a := x) (by rw [hTh]; exact hx) n.toNatClampNeg
    rw [hF, hTh] at this
    exact this
  have hrow : ∀ j : Nat, j < n.toNatClampNeg → F.heap[H.size + 1 + j]? = some (vp_cell (cA 0) (k9.toNatClampNeg, .inl (fun _ => 0))) := fun j hj => by
    have := Jvm.Free.Multi.fill_inner (T.setVm vm₁) (cA 4) (cA 0) n.toNatClampNeg k9.toNatClampNeg (defaultValue .int) n.toNatClampNeg j hj
    rw [hF, hTh] at this
    rw [this]
    congr 1
    exact arrV_new _ _ _
  obtain ⟨a1, a2, a3, a4, a5, a6⟩ := mAddN_facts (X := mAdd X 104 n.toNatClampNeg (fun j => if j < n.toNatClampNeg then some (mN X + 1 + j) else none)) (kind := 100) (len := k9.toNatClampNeg) n.toNatClampNeg
  generalize hY : mAddN (mAdd X 104 n.toNatClampNeg (fun j => if j < n.toNatClampNeg then some (mN X + 1 + j) else none)) 100 k9.toNatClampNeg n.toNatClampNeg = Y at k a1 a2 a3 a4 a5 a6
  obtain ⟨r1, r2, r3, r4⟩ := mAdd_row (X := X) (kind := 104) (len := n.toNatClampNeg) (q := fun j => if j < n.toNatClampNeg then some (mN X + 1 + j) else none)
  have e1 : mN (mAdd X 104 n.toNatClampNeg (fun j => if j < n.toNatClampNeg then some (mN X + 1 + j) else none)) = mN X + 1 := rfl
  have e2 : mNc (mAdd X 104 n.toNatClampNeg (fun j => if j < n.toNatClampNeg then some (mN X + 1 + j) else none)) = mNc X + 1 := rfl
  have e3 : mNs (mAdd X 104 n.toNatClampNeg (fun j => if j < n.toNatClampNeg then some (mN X + 1 + j) else none)) = mNs X + n.toNatClampNeg := rfl
  rw [e1] at a1 a5 a6
  rw [e2] at a2
  rw [e3] at a3
  have had : ∀ q, q < 1000000 → ad q = h0 + q := hA
  have oldY : ∀ q, q < mN X → mSh Y q = mSh X q ∧ mEnc cA ad Y q = mEnc cA ad X q := by
    intro q hq
    obtain ⟨b1, b2, b3, b4⟩ := a6 q (by omega)
    have hne : q ≠ mN X := by omega
    have b1' : mSh Y q = mSh X q := b1.trans (if_neg hne)
    exact ⟨b1', mEnc_congr b1' (b2.trans (mRow_ne hne)) (b3.trans (mRow_ne hne)) (b4.trans (mRow_ne hne))⟩
  have hHY : mHR D cA ad h0 Y F.heap := by
    refine ⟨fun q hq => ?_, ⟨by rw [a1]; omega, ?_⟩, fun q hq => ?_, fun _ => by rw [f1, a1, hsz]; omega⟩
    rotate_left
    · obtain ⟨b1, b2, -, -⟩ := a6 2000000 (.inr (by omega))
      exact ⟨b1.trans ((if_neg (by omega)).trans hH.2.1.2.1), b2.trans ((mRow_ne (by omega)).trans hH.2.1.2.2)⟩
    rotate_right
    · rw [a1] at hq
      by_cases c1 : q < mN X
      · rw [(oldY q c1).2]
        exact (hH.1 q c1).kept (hold _ (hH.1 q c1).lt)
      · by_cases c2 : q = mN X
        · subst c2
          obtain ⟨b1, b2, b3, b4⟩ := a6 (mN X) (by omega)
          have s1 : mSh Y (mN X) = (104, n.toNatClampNeg) := b1.trans r1
          have s4 : mP Y (mN X) = fun j => if j < n.toNatClampNeg then some (mN X + 1 + j) else none := b4.trans r4
          have en : mEnc cA ad Y (mN X) = .inl (cA 4, n.toNatClampNeg, .inr (.inr (.inr (.inr (fun j => (if j < n.toNatClampNeg then some (mN X + 1 + j) else none).map ad))))) := by
            unfold mEnc
            rw [s1, s4]
            simp
          rw [en, had _ (by omega), ← hsz]
          show F.heap[H.size]? = some (vp_cell _ _)
          rw [f2, m_outer, vp_cell_q]
          congr 2
          funext j
          congr 1
          by_cases hj : j < n.toNatClampNeg
          · simp only [hj, if_true, Option.map_some]
            rw [had _ (by omega), hsz]
            congr 1
            omega
          · simp [hj]
        · have c3 : mN X + 1 ≤ q := by omega
          obtain ⟨b1, b2⟩ := a5 q c3 (by omega)
          rw [mEnc_i (t := 0) (by omega) (by rw [b1]), b1, b2, had _ (by omega)]
          have := hrow (q - (mN X + 1)) (by omega)
          rw [show H.size + 1 + (q - (mN X + 1)) = h0 + q by rw [hsz]; omega] at this
          exact this
    · rw [a1] at hq
      by_cases c1 : q < mN X
      · rw [(oldY q c1).1]; exact hH.2.2.1 q c1
      · by_cases c2 : q = mN X
        · subst c2
          obtain ⟨b1, -⟩ := a6 (mN X) (by omega)
          rw [b1.trans r1]; intro h; exact absurd (show (104 : Nat) < 100 from h) (by decide)
        · obtain ⟨b1, -⟩ := a5 q (by omega) (by omega)
          rw [b1]; intro h; exact absurd (show (100 : Nat) < 100 from h) (by decide)
  have kY := k F.heap locs ls hHY ⟨Nat.le_trans hS.1 (by rw [f1]; omega), fun x h1 h2 => (hold x (Nat.lt_of_lt_of_le h1 hS.1)).trans (hS.2.1 x h1 h2), hS.2.2⟩ hl
  have k10 : W p l e R s m args below meth c F.heap locs (mNc Y - c0) (mNs Y - s0) Q (F0 m (pc + 4) ls (.ref (ad (mN X)) :: st.map (mTau ad))) := kY
  rw [a2, a3, show mNc X + 1 + n.toNatClampNeg - c0 = mNc X - c0 + 1 + n.toNatClampNeg by omega, show mNs X + n.toNatClampNeg + n.toNatClampNeg * k9.toNatClampNeg - s0 = mNs X - s0 + n.toNatClampNeg + n.toNatClampNeg * k9.toNatClampNeg by omega, had _ (by omega), ← hsz] at k10
  obtain ⟨t, t1, t2⟩ := k10 F rfl X'
  refine ⟨t, step t ?_, t2⟩
  have e : T.heap.size = H.size := by rw [hT]
  rw [e]
  exact t1
end MSN
