/-! ===== the rest of the instructions: constants, copies, branches, returns ===== -/
theorem mNat_words : nativeFrameWords "java/lang/System" "arraycopy" 5 + 11 ≤ 100 := by decide +kernel
def mOkL (M : mRec) (i : Instr) (rs : List Nat) : Prop := match i with
  | .ldc idx => Cond.constant (mrN M).cls idx (Int32.ofNat (rs.getD 0 0)) ∈ lw_tbl
  | .ldc_w idx => Cond.constant (mrN M).cls idx (Int32.ofNat (rs.getD 0 0)) ∈ lw_tbl
  | .ldc2_w idx => Cond.constantLong (mrN M).cls idx (Int64.ofNat (rs.getD 0 0)) ∈ lw_tbl
  | .invokestatic idx => (rs.getD 0 0 = 9001 → Cond.methodLink (mrN M).cls idx arraycopyName ∈ lw_tbl) ∧ (rs.getD 0 0 = 9010 → Cond.methodLink (mrN M).cls idx Lib.Math.max.name ∈ lw_tbl) ∧ (rs.getD 0 0 = 9011 → Cond.methodLink (mrN M).cls idx Lib.Math.min.name ∈ lw_tbl) ∧ (rs.getD 0 0 = 9012 → Cond.methodLink (mrN M).cls idx Lib.Math.abs.name ∈ lw_tbl)
  | .invokespecial idx => rs.getD 0 0 = 9002 → Cond.methodLink (mrN M).cls idx Lib.objectInit ∈ lw_tbl
  | .getstatic idx => ∀ q, oStat[rs.getD 0 99]? = some q → Cond.fieldLink (mrN M).cls idx q.1 q.2.1 q.2.2.1 ∈ lw_tbl ∨ Cond.fieldLinkNest (mrN M).cls idx q.1 q.2.1 q.2.2.1 "LaneEyes" = oWds
  | .getfield idx => rs.getD 0 0 = 900 → Cond.fieldLink (mrN M).cls idx (oFk (rs.getD 1 0)).1 (oFk (rs.getD 1 0)).2.1 (oFk (rs.getD 1 0)).2.2 ∈ lw_tbl
  | _ => True
theorem mW_copy : Cond.native arraycopyName ∈ mT ∧ Cond.static arraycopyName ∈ mT ∧ Cond.initialized "java/lang/System" ∈ mT := ⟨mT_in (mIn_at (c := 3) (i := 25) (by decide +kernel)) rfl, mT_in (mIn_at (c := 3) (i := 24) (by decide +kernel)) rfl, mT_in (mIn_at (c := 1) (i := 25) (by decide +kernel)) rfl⟩
theorem mW_math : Cond.initialized "java/lang/Math" ∈ mT ∧ (Cond.static Lib.Math.max.name ∈ mT ∧ Cond.code Lib.Math.max.name Lib.Math.max.code 2 (some .int) ∈ mT) ∧ (Cond.static Lib.Math.min.name ∈ mT ∧ Cond.code Lib.Math.min.name Lib.Math.min.code 2 (some .int) ∈ mT) ∧ (Cond.static Lib.Math.abs.name ∈ mT ∧ Cond.code Lib.Math.abs.name Lib.Math.abs.code 1 (some .int) ∈ mT) :=
  ⟨mT_in (mIn_at (c := 1) (i := 17) (by decide +kernel)) rfl, ⟨mT_in (mIn_at (c := 3) (i := 93) (by decide +kernel)) rfl, mT_in (mIn_at (c := 3) (i := 94) (by decide +kernel)) rfl⟩, ⟨mT_in (mIn_at (c := 3) (i := 90) (by decide +kernel)) rfl, mT_in (mIn_at (c := 3) (i := 91) (by decide +kernel)) rfl⟩, ⟨mT_in (mIn_at (c := 3) (i := 76) (by decide +kernel)) rfl, mT_in (mIn_at (c := 3) (i := 77) (by decide +kernel)) rfl⟩⟩
theorem mW_obj : Cond.instanceMethod Lib.objectInit ∈ mT ∧ Cond.code Lib.objectInit ⟨#[0xb1]⟩ 1 none ∈ mT := ⟨mT_in (mIn_at (c := 1) (i := 35) (by decide +kernel)) rfl, mT_in (mIn_at (c := 1) (i := 36) (by decide +kernel)) rfl⟩
theorem mTau_sum (ad : Nat → Nat) (t : List Value) : ((t.map (mTau ad)).map fun v => v.category).sum = (t.map fun v => v.category).sum := by
  rw [List.map_map]
  congr 1
  apply List.map_congr_left
  intro v _
  exact mTau_cat ad v
theorem mRow_ne {α : Type} {f : Nat → Nat → α} {a k : Nat} {g : Nat → α} (h : k ≠ a) : mRow f a g k = f k := by simp [mRow, h]
theorem mRow_eq {α : Type} {f : Nat → Nat → α} {a : Nat} {g : Nat → α} : mRow f a g a = g := by simp [mRow]
def mWl (cA : Nat → ClassId) (ad : Nat → Nat) (X : mHX) : va_W := (List.range (mN X)).map (fun k => (ad k, mEnc cA ad X k))
theorem mWl_at {cA : Nat → ClassId} {ad : Nat → Nat} {X : mHX} {k : Nat} (h : k < mN X) : (mWl cA ad X)[k]? = some (ad k, mEnc cA ad X k) := by simp [mWl, h]
theorem mWl_of {cA : Nat → ClassId} {ad : Nat → Nat} {X : mHX} {k : Nat} {q : Nat × va_E} (h : (mWl cA ad X)[k]? = some q) : k < mN X ∧ q = (ad k, mEnc cA ad X k) := by
  have hk : k < mN X := by
    have := (List.getElem?_eq_some_iff.mp h).1
    simpa [mWl] using this
  rw [mWl_at hk] at h
  exact ⟨hk, (Option.some.inj h).symm⟩
theorem mWl_P {D : va_G} {cA : Nat → ClassId} {ad : Nat → Nat} {h0 : Nat} {X : mHX} {H : Heap} (h : mHR D cA ad h0 X H) : va_P D mCl (mWl cA ad X) H := by
  intro k q hq
  obtain ⟨hk, rfl⟩ := mWl_of hq
  exact h.1 k hk
theorem mWl_D {cA : Nat → ClassId} {ad : Nat → Nat} {h0 : Nat} {X : mHX} (hA : mAd ad h0) (hn : mN X ≤ 1000000) : va_D (mAA h0) (mWl cA ad X) := by
  refine ⟨fun i j x y hi hj e => ?_, fun k q hq => ?_⟩
  · obtain ⟨h1, rfl⟩ := mWl_of hi
    obtain ⟨h2, rfl⟩ := mWl_of hj
    by_cases q : i = j
    · exact q
    · exact absurd e (hA.ne (by omega) (by omega) q)
  · obtain ⟨h1, rfl⟩ := mWl_of hq
    show h0 ≤ ad k
    rw [hA k (by omega)]; omega
section MSE
variable {p : Program} {l : Launch} {e : Env} {R : Room} {s : State} {m : MethodId} {args : Array Value} {below : List Frame} {meth : Method} {c : Code} {c0 s0 : Nat} {Q : State → Prop}
variable {pc : Nat} {M : mRec} {D : va_G} {cA : Nat → ClassId} {ad : Nat → Nat} {h0 : Nat} {X : mHX} {lv : mLV} {st : List Value} {S' : mSt} {C : List Prop}
theorem mk_cpy {idx : Nat} (h : mCpy pc lv st X = some (S', C)) (hC : mAll C) (hx : p.tables.exec = Jvm.exec) (hb : c.code = mrB M) (hml : c.maxLocals = mrL M) (hts : ∀ w ∈ mT, w.before args s = true) (hown : s.vm.findClass (mrN M).cls = some m.cls) (hK : va_K D mCl (mTys cA) s) (hA : mAd ad h0)
    (hlk : Cond.methodLink (mrN M).cls idx arraycopyName ∈ lw_tbl) (hRf : 6 ≤ R.frames) (hRl : 120 ≤ R.locals) (hd : decode (mrB M) pc = .ok (.invokestatic idx, 3))
    (k : mKK p l e R s m args below meth c Q (mrL M) D cA ad h0 c0 s0 S') : mKK p l e R s m args below meth c Q (mrL M) D cA ad h0 c0 s0 (pc, lv, st, X) := by
  unfold mCpy at h
  split at h
  · rename_i n dp d sp a t
    split at h
    · rename_i hc
      obtain ⟨⟨hf, hsum⟩, ha, hd9, hka, hkd⟩ := hc
      cases h
      obtain ⟨g1, g2, g3, g4, g5, -⟩ := hC
      intro H locs ls hH hS hl
      have hea : mEnc cA ad X a = .inl (cA 0, (mSh X a).2, .inl (mI X a)) := mEnc_i (t := 0) (by omega) hka
      have hed : mEnc cA ad X d = .inl (cA 0, (mSh X d).2, .inl (mI X d)) := mEnc_i (t := 0) (by omega) hkd
      have hsz := hH.2.1
      have hsum2 : ((t.map (mTau ad)).map fun v => v.category).sum + (nativeFrameWords "java/lang/System" "arraycopy" 5 + 11) ≤ R.locals := by
        rw [mTau_sum]; have := mNat_words; omega
      have hls : c.maxLocals = ls.size := by rw [hml, hl.1]
      refine va_copyi hx hb hls hown (hts _ (mT_in hlk rfl)) (hts _ mW_copy.1) (hts _ mW_copy.2.1) (hts _ mW_copy.2.2) hK (mWl_P hH) (mWl_D hA hsz.1) hS a d 0 0 (ty := .int) (by rw [mWl_at ha, hea]) (by rw [mWl_at hd9, hed]) rfl rfl rfl g2 g3 g1 g4 g5 (fun _ _ => rfl) (by omega) hsum2 hd (fun H1 locs1 hP1 _ hS1 => ?_)
      refine k H1 locs1 ls ⟨fun q hq => ?_, ⟨hsz.1, hsz.2.1, (mRow_ne (Nat.ne_of_gt (Nat.lt_of_lt_of_le hd9 (Nat.le_trans hsz.1 (by decide))))).trans hsz.2.2⟩, hH.2.2.1, fun hz => by rw [show mFz X = false from hz] at hf; cases hf⟩ hS1 hl
      by_cases e9 : q = d
      · subst e9
        have h9 := hP1 q _ (by rw [List.getElem?_set, if_pos rfl, if_pos (by simpa [mWl] using hd9)])
        rw [show mEnc cA ad (mSetI X (mRow (mI X) q (va_cpy (mI X a) (mI X q) sp.toNatClampNeg dp.toNatClampNeg n.toNatClampNeg))) q = .inl (cA 0, (mSh X q).2, .inl (va_cpy (mI X a) (mI X q) sp.toNatClampNeg dp.toNatClampNeg n.toNatClampNeg)) from
          (mEnc_i (X := mSetI X (mRow (mI X) q (va_cpy (mI X a) (mI X q) sp.toNatClampNeg dp.toNatClampNeg n.toNatClampNeg))) (t := 0) (by omega) hkd).trans (by show Sum.inl (cA 0, (mSh X q).2, Sum.inl (mRow (mI X) q _ q)) = _; rw [mRow_eq])]
        exact h9
      · rw [mEnc_congr (X := X) (Y := mSetI X (mRow (mI X) d (va_cpy (mI X a) (mI X d) sp.toNatClampNeg dp.toNatClampNeg n.toNatClampNeg))) rfl (mRow_ne e9) rfl rfl]
        exact hP1 q _ (by rw [List.getElem?_set, if_neg (Ne.symm e9)]; exact mWl_at hq)
    · cases h
  · cases h
theorem mk_aald (h : mAald pc lv st X = some (S', C)) (hC : mAll C) (hx : p.tables.exec = Jvm.exec) (hb : c.code = mrB M) (hK : va_K D mCl (mTys cA) s) (hd : decode (mrB M) pc = .ok (.aaload, 1))
    (k : mKK p l e R s m args below meth c Q (mrL M) D cA ad h0 c0 s0 S') : mKK p l e R s m args below meth c Q (mrL M) D cA ad h0 c0 s0 (pc, lv, st, X) := by
  unfold mAald at h
  split at h
  · rename_i i a t
    split at h
    · rename_i hc
      cases h
      intro H locs ls hH hS hl
      have he : mEnc cA ad X a = .inl (cA 4, (mSh X a).2, .inr (.inr (.inr (.inr (fun j => (mP X a j).map ad))))) := by simp [mEnc, hc.2]
      obtain ⟨h1, h2⟩ := mk_arr (t := 4) hK hH hc.1 he rfl
      have hin : vp_in i (mSh X a).2 := hC.1
      have hlt : i.toNatClampNeg < (mSh X a).2 := Nat.not_le.mp fun q => hin (Or.inr q)
      have k9 := k H locs ls hH hS hl
      refine W.aald (v := va_rf ((mP X a i.toNatClampNeg).map ad)) (ty := .array .int) hx hb h1 (h2 _ (fun j => va_rf ((mP X a j).map ad))) rfl (fun q => by cases q) (by show ¬ (i < 0 ∨ (arrV _ _ _).slots.size ≤ _); rw [arrV_size]; exact hin) (by show (arrV _ _ _).slots[_]? = _; rw [arrV_read _ _ hlt]) rfl rfl hd ?_
      rw [← mTau_rf]
      exact k9
    · cases h
  · cases h
theorem mTau_int {ad : Nat → Nat} {x : Int32} : mTau ad (.int x) = .int x := rfl
theorem mk_oln (h : mOln pc lv st X = some (S', C)) (hO : mOld ad (mAA h0) s s.heap) (hx : p.tables.exec = Jvm.exec) (hb : c.code = mrB M) (hd : decode (mrB M) pc = .ok (.arraylength, 1))
    (k : mKK p l e R s m args below meth c Q (mrL M) D cA ad h0 c0 s0 S') : mKK p l e R s m args below meth c Q (mrL M) D cA ad h0 c0 s0 (pc, lv, st, X) := by
  unfold mOln at h
  split at h
  · rename_i a t
    split at h
    · rename_i ha
      cases h
      subst ha
      intro H locs ls hH hS hl
      exact va_tlen hx hb hO.2.2.2.2.1 hS (by rw [hH.2.1.2.1]) hd (k H locs ls hH hS hl)
    · split at h
      · rename_i q hq
        obtain ⟨ty, n, f⟩ := q
        cases h
        intro H locs ls hH hS hl
        exact va_tlen hx hb (hO.2.2.2.1 a ty n f hq) hS rfl hd (k H locs ls hH hS hl)
      · cases h
  · cases h
theorem mk_oia (h : mOia pc lv st X = some (S', C)) (hC : mAll C) (hO : mOld ad (mAA h0) s s.heap) (hx : p.tables.exec = Jvm.exec) (hb : c.code = mrB M) (hd : decode (mrB M) pc = .ok (.iaload, 1))
    (k : mKK p l e R s m args below meth c Q (mrL M) D cA ad h0 c0 s0 S') : mKK p l e R s m args below meth c Q (mrL M) D cA ad h0 c0 s0 (pc, lv, st, X) := by
  unfold mOia at h
  split at h
  · rename_i i a t
    split at h
    · rename_i ha
      cases h
      subst ha
      intro H locs ls hH hS hl
      have hin : vp_in i (ad 3000000) := by have := hC.1; rw [hH.2.1.2.1] at this; exact this
      refine va_ti hx hb hO.2.2.2.2.1 hS hin (v := .int (mI X 2000000 i.toNatClampNeg)) (by rw [hH.2.1.2.2]) hd (k H locs ls hH hS hl)
    · split at h
      · rename_i n f hq
        cases h
        intro H locs ls hH hS hl
        exact va_ti hx hb (hO.2.2.2.1 a .int n f hq) hS hC.1 rfl hd (k H locs ls hH hS hl)
      · cases h
  · cases h
theorem mk_oba (h : mOba pc lv st X = some (S', C)) (hC : mAll C) (hO : mOld ad (mAA h0) s s.heap) (hx : p.tables.exec = Jvm.exec) (hb : c.code = mrB M) (hd : decode (mrB M) pc = .ok (.baload, 1))
    (k : mKK p l e R s m args below meth c Q (mrL M) D cA ad h0 c0 s0 S') : mKK p l e R s m args below meth c Q (mrL M) D cA ad h0 c0 s0 (pc, lv, st, X) := by
  unfold mOba at h
  split at h
  · rename_i i a t
    split at h
    · rename_i n f hq
      cases h
      intro H locs ls hH hS hl
      exact va_tb hx hb (hO.2.2.2.1 a .byte n f hq) hS hC.1 rfl hd (k H locs ls hH hS hl)
    · cases h
  · cases h
theorem mk_oaa (h : mOaa pc lv st X = some (S', C)) (hC : mAll C) (hO : mOld ad (mAA h0) s s.heap) (hx : p.tables.exec = Jvm.exec) (hb : c.code = mrB M) (hd : decode (mrB M) pc = .ok (.aaload, 1))
    (k : mKK p l e R s m args below meth c Q (mrL M) D cA ad h0 c0 s0 S') : mKK p l e R s m args below meth c Q (mrL M) D cA ad h0 c0 s0 (pc, lv, st, X) := by
  unfold mOaa at h
  split at h
  · rename_i i a t
    split at h
    · rename_i o n f hq
      cases h
      intro H locs ls hH hS hl
      exact vb_tq hx hb (hO.2.2.2.1 a (.object o) n f hq) hS hC.1 rfl hd (k H locs ls hH hS hl)
    · cases h
  · cases h
theorem mS2_ok {i : Instr} {rs : List Nat} (hO : mOld ad (mAA h0) s s.heap) (hNF : va_Nw oWds s) (hx : p.tables.exec = Jvm.exec) (hb : c.code = mrB M) (hml : c.maxLocals = mrL M) (hts : ∀ w ∈ mT, w.before args s = true) (hown : s.vm.findClass (mrN M).cls = some m.cls) (hK : va_K D mCl (mTys cA) s) (hA : mAd ad h0) (hRf : 6 ≤ R.frames) (hRl : 120 ≤ R.locals) (hcR : mNc X - c0 ≤ R.cells) (hsR : mNs X - s0 ≤ R.slots)
    (hd : mOkD (mrB M) pc i) (hok : mOkL M i rs) (h : mS2 i rs pc lv st X = some (S', C)) (hC : mAll C)
    (k : mKK p l e R s m args below meth c Q (mrL M) D cA ad h0 c0 s0 S') : mKK p l e R s m args below meth c Q (mrL M) D cA ad h0 c0 s0 (pc, lv, st, X) := by
  cases i
  case ldc idx => cases h; exact mk_same (fun H locs ls hl w => lv_ldc hx hb hown (hts _ (mT_in hok rfl)) hd w) k
  case ldc_w idx => cases h; exact mk_same (fun H locs ls hl w => lv_ldcw hx hb hown (hts _ (mT_in hok rfl)) hd w) k
  case ldc2_w idx => cases h; exact mk_same (fun H locs ls hl w => lv_ldc2 hx hb hown (hts _ (mT_in hok rfl)) hd w) k
  case aaload =>
    have h9 : mAa2 pc lv st X = some (S', C) := h
    unfold mAa2 at h9
    split at h9
    · rename_i r9 hr
      cases h9
      exact mk_aald hr hC hx hb hK hd k
    · exact mk_oaa h9 hC hO hx hb hd k
  case arraylength => exact mk_oln h hO hx hb hd k
  case iaload => exact mk_oia h hC hO hx hb hd k
  case baload => exact mk_oba h hC hO hx hb hd k
  case getstatic idx =>
    have h9 : mGst (rs.getD 0 99) pc lv st X = some (S', C) := h
    unfold mGst at h9
    split at h9
    · rename_i q hq
      cases h9
      have hZ := hO.1 q (List.mem_of_getElem? hq)
      intro H locs ls hH hS hl
      rcases hok q hq with w | w
      · exact va_gets hx hb hZ hS hown (hts _ (mT_in w rfl)) (fun _ h => h) hd (k H locs ls hH hS hl)
      · refine va_getsN hx hb hZ hS hown (host := "LaneEyes") ?_ (fun _ h => h) hd (k H locs ls hH hS hl)
        rw [w]
        exact va_Nw.use rfl hNF
    · cases h9
  case getfield idx =>
    have h9 : (if rs.getD 0 0 = 900 then mGof (rs.getD 1 0) else fun _ _ _ _ => none) pc lv st X = some (S', C) := h
    split at h9
    · rename_i hr
      unfold mGof at h9
      split at h9
      · rename_i a t
        split at h9
        · rename_i v hv
          cases h9
          intro H locs ls hH hS hl
          exact vk_getf hx hb (hO.2.2.1 _ a v hv) hS hown (hts _ (mT_in (hok hr) rfl)) (fun _ h => h) hd (k H locs ls hH hS hl)
        · cases h9
      · cases h9
    · cases h9
  case invokestatic idx =>
    have h9 : (if rs.getD 0 0 = 9001 then mCpy else if rs.getD 0 0 = 9012 then mAbs else mMth (rs.getD 0 0)) pc lv st X = some (S', C) := h
    obtain ⟨ok1, ok2, ok3, ok4⟩ := hok
    have hls : ∀ ls : Array Slot, lv_has ls (mrL M) (mTl ad lv) → c.maxLocals = ls.size := fun ls hl => by rw [hml, hl.1]
    split at h9
    · rename_i hr
      exact mk_cpy h9 hC hx hb hml hts hown hK hA (ok1 hr) hRf hRl hd k
    · split at h9
      · rename_i hr
        unfold mAbs at h9
        split at h9
        · split at h9
          · rename_i hsum
            cases h9
            intro H locs ls hH hS hl
            exact va_mabs hx hb (hls ls hl) hown (hts _ (mT_in (ok4 hr) rfl)) (hts _ mW_math.2.2.2.1) (hts _ mW_math.1) (hts _ mW_math.2.2.2.2) (by omega) (by rw [mTau_sum]; omega) hcR hsR hd (k H locs ls hH hS hl)
          · cases h9
        · cases h9
      · unfold mMth at h9
        split at h9
        · split at h9
          · rename_i hr
            cases h9
            intro H locs ls hH hS hl
            exact va_mmax hx hb (hls ls hl) hown (hts _ (mT_in (ok2 hr.1) rfl)) (hts _ mW_math.2.1.1) (hts _ mW_math.1) (hts _ mW_math.2.1.2) (by omega) (by rw [mTau_sum]; omega) hcR hsR hd (k H locs ls hH hS hl)
          · split at h9
            · rename_i hr
              cases h9
              intro H locs ls hH hS hl
              exact va_mmin hx hb (hls ls hl) hown (hts _ (mT_in (ok3 hr.1) rfl)) (hts _ mW_math.2.2.1.1) (hts _ mW_math.1) (hts _ mW_math.2.2.1.2) (by omega) (by rw [mTau_sum]; omega) hcR hsR hd (k H locs ls hH hS hl)
            · cases h9
        · cases h9
  case invokespecial idx =>
    have h9 : (if rs.getD 0 0 = 9002 then mObj else fun _ _ _ _ => none) pc lv st X = some (S', C) := h
    split at h9
    · rename_i hr
      unfold mObj at h9
      split at h9
      · rename_i a t
        split at h9
        · rename_i hsum
          cases h9
          intro H locs ls hH hS hl
          exact W.objInit hx hb hown (hts _ (mT_in (hok hr) rfl)) (hts _ mW_obj.1) (hts _ mW_obj.2) (g := F0 m pc ls ((Value.ref a :: t).map (mTau ad))) rfl (by rw [hml]; exact hl.1) rfl hd (by omega) (by
            show 2 * 0 + ((t.map (mTau ad)).map fun v => v.category).sum + 12 ≤ R.locals
            rw [mTau_sum]; omega) (k H locs ls hH hS hl)
        · cases h9
      · cases h9
    · cases h9
  all_goals exact absurd (show (none : mS1T) = some (S', C) from h) (fun q => nomatch q)
/-! branches -/
theorem mEo_tau {ad : Nat → Nat} {v : Value} {o : Option Nat} (h : mEo v = some o) : mTau ad v = va_rf (o.map ad) ∧ ∀ a, o = some a → oEn a = true := by
  unfold mEo at h
  split at h
  · cases h; exact ⟨rfl, fun a h => by cases h⟩
  · split at h
    · rename_i g; cases h; exact ⟨rfl, fun a h => by cases h; exact g⟩
    · cases h
  · cases h
theorem mk_brc {i : Instr} {q : Prop} {off : Int} {t : List Value} (hO : mOld ad (mAA h0) s s.heap) (hx : p.tables.exec = Jvm.exec) (hb : c.code = mrB M) (hd : mOkD (mrB M) pc i) (h : mBrc i st = some (q, off, t)) (hto : 0 ≤ (pc : Int) + off)
    (k1 : q → mKK p l e R s m args below meth c Q (mrL M) D cA ad h0 c0 s0 (mTo pc off, lv, t, X)) (k2 : ¬ q → mKK p l e R s m args below meth c Q (mrL M) D cA ad h0 c0 s0 (pc + 3, lv, t, X)) : mKK p l e R s m args below meth c Q (mrL M) D cA ad h0 c0 s0 (pc, lv, st, X) := by
  cases i
  case ifCond w o =>
    simp only [mBrc] at h
    split at h
    · cases h
      intro H locs ls hH hS hl
      have g1 := fun z => k1 z H locs ls hH hS hl
      have g2 := fun z => k2 z H locs ls hH hS hl
      cases w
      · exact lv_if_eq hx hb hd (mTo_eq hto) g1 g2
      · exact lv_if_ne hx hb hd (mTo_eq hto) g1 (fun z => g2 (fun y => y z))
      · exact lv_if_lt hx hb hd (mTo_eq hto) g1 g2
      · exact lv_if_ge hx hb hd (mTo_eq hto) g1 g2
      · exact lv_if_gt hx hb hd (mTo_eq hto) g1 g2
      · exact lv_if_le hx hb hd (mTo_eq hto) g1 g2
    · cases h
  case if_icmp w o =>
    simp only [mBrc] at h
    split at h
    · cases h
      intro H locs ls hH hS hl
      have g1 := fun z => k1 z H locs ls hH hS hl
      have g2 := fun z => k2 z H locs ls hH hS hl
      cases w
      · exact lv_icmp_eq hx hb hd (mTo_eq hto) g1 g2
      · exact lv_icmp_ne hx hb hd (mTo_eq hto) g1 (fun z => g2 (fun y => y z))
      · exact lv_icmp_lt hx hb hd (mTo_eq hto) g1 g2
      · exact lv_icmp_ge hx hb hd (mTo_eq hto) g1 g2
      · exact lv_icmp_gt hx hb hd (mTo_eq hto) g1 g2
      · exact lv_icmp_le hx hb hd (mTo_eq hto) g1 g2
    · cases h
  case if_acmp w o =>
    simp only [mBrc] at h
    split at h
    · rename_i y x t9
      split at h
      · rename_i a b ha hb9
        obtain ⟨e1, f1⟩ := mEo_tau (ad := ad) ha
        obtain ⟨e2, f2⟩ := mEo_tau (ad := ad) hb9
        have inj : a.map ad = b.map ad → a = b := fun z => by
          cases a with
          | none => cases b with
            | none => rfl
            | some b => cases z
          | some a => cases b with
            | none => cases z
            | some b => rw [hO.2.2.2.2.2 a b (f1 a rfl) (f2 b rfl) (Option.some.inj z)]
        cases w
        · cases h
          intro H locs ls hH hS hl
          show W p l e R s m args below meth c H locs _ _ Q (F0 m pc ls (mTau ad y :: mTau ad x :: t.map (mTau ad)))
          rw [e1, e2]
          exact lv_acmp_eq hx hb hd (mTo_eq hto) (fun z => k1 (inj z) H locs ls hH hS hl) (fun z => k2 (fun g => z (by rw [g])) H locs ls hH hS hl)
        · cases h
          intro H locs ls hH hS hl
          show W p l e R s m args below meth c H locs _ _ Q (F0 m pc ls (mTau ad y :: mTau ad x :: t.map (mTau ad)))
          rw [e1, e2]
          exact lv_acmp_ne hx hb hd (mTo_eq hto) (fun z => k1 (fun g => z (by rw [g])) H locs ls hH hS hl) (fun z => k2 (fun g => g (inj z)) H locs ls hH hS hl)
      · cases h
    · cases h
  all_goals exact absurd (show (none : Option (Prop × Int × List Value)) = some (q, off, t) from h) (fun q => nomatch q)
end MSE
