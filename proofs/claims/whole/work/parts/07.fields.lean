/-! ===== fields ===== -/
def mOkF (own : String) (idx ci j : Nat) : Prop := ∃ q : vw_C, mCl[ci]? = some q ∧ j < q.2.2 ∧ Cond.fieldLink own idx (q.2.1 j).1 (q.2.1 j).2.1 (q.2.1 j).2.2.1 ∈ lw_tbl
def mOkP (own nm : String) (idx ci j : Nat) : Prop := ∃ q : vw_C, mCl[ci]? = some q ∧ j < q.2.2 ∧ Cond.fieldLink own idx (q.2.1 j).1 (q.2.1 j).2.1 (q.2.1 j).2.2.1 ∈ lw_tbl ∧ ((q.2.1 j).2.2.2 = false ∨ (nm = "<init>" ∧ (q.2.1 j).1 = own))
theorem mCl_lt {ci : Nat} {q : vw_C} (h : mCl[ci]? = some q) : ci < 100 := by
  have := (List.getElem?_eq_some_iff.mp h).1
  have h2 : mCl.length = 11 := rfl
  omega
theorem mEnc_o {cA : Nat → ClassId} {ad : Nat → Nat} {X : mHX} {a : Nat} (h : (mSh X a).1 < 100) : mEnc cA ad X a = .inr ((mSh X a).1, (List.range (mSh X a).2).map (fun j => mTau ad (mFld X a j (mTy (mSh X a).1 j)))) := by
  unfold mEnc
  rw [if_neg (by omega), if_neg (by omega), if_neg (by omega), if_neg (by omega), if_neg (by omega)]
theorem mSet_fs {N j : Nat} {f g : Nat → Value} {v : Value} (h1 : ∀ i, i ≠ j → g i = f i) (h2 : g j = v) : ((List.range N).map f).set j v = (List.range N).map g := by
  apply List.ext_getElem?
  intro i
  rw [List.getElem?_set]
  by_cases e : j = i
  · subst e
    rw [if_pos rfl]
    by_cases hl : j < N
    · simp [hl, h2]
    · simp [hl]
  · rw [if_neg e]
    by_cases hl : i < N
    · simp [hl, h1 i (Ne.symm e)]
    · simp [hl]
section MSF
variable {p : Program} {l : Launch} {e : Env} {R : Room} {s : State} {m : MethodId} {args : Array Value} {below : List Frame} {meth : Method} {c : Code} {c0 s0 : Nat} {Q : State → Prop}
variable {cc : ByteArray} {nL pc : Nat} {own : String} {D : va_G} {cA : Nat → ClassId} {ad : Nat → Nat} {h0 : Nat} {X : mHX} {lv : mLV} {st : List Value} {S' : mSt} {C : List Prop}
theorem mk_getf {ci j idx : Nat} (h : mGetf ci j pc lv st X = some (S', C)) (hx : p.tables.exec = Jvm.exec) (hb : c.code = cc) (hts : ∀ w ∈ mT, w.before args s = true) (hown : s.vm.findClass own = some m.cls) (hK : va_K D mCl (mTys cA) s) (hok : mOkF own idx ci j) (hd : decode cc pc = .ok (.getfield idx, 3))
    (k : mKK p l e R s m args below meth c Q nL D cA ad h0 c0 s0 S') : mKK p l e R s m args below meth c Q nL D cA ad h0 c0 s0 (pc, lv, st, X) := by
  unfold mGetf at h
  split at h
  · rename_i a t
    split at h
    · rename_i hc
      cases h
      obtain ⟨q, hq, hj, hlk⟩ := hok
      intro H locs ls hH hS hl
      have hlt : (mSh X a).1 < 100 := by rw [hc.2.1]; exact mCl_lt hq
      have h1 := hH.1 a hc.1
      obtain ⟨q', hq', hN⟩ := hH.2.2.1 a hc.1 hlt
      have he := mEnc_o (cA := cA) (ad := ad) hlt
      rw [hc.2.1] at he hq'
      cases hq.symm.trans hq'
      refine va_get hx hb hts (mCl_in hq) hown hK (ws := [(ad a, mEnc cA ad X a)]) (fun k q9 hq9 => ?_) 0 (ci := ci) (fs := (List.range (mSh X a).2).map (fun j => mTau ad (mFld X a j (mTy ci j)))) (by rw [he]; rfl) hq j hj (hts _ (mT_in hlk rfl)) (fun x h => h) (v := mTau ad (mFld X a j (mTy ci j))) (by simp [hc.2.2]) hd (k H locs ls hH hS hl)
      have h0 : k < 1 := (List.getElem?_eq_some_iff.mp hq9).1
      rw [show k = 0 by omega] at hq9
      cases hq9
      exact h1
    · cases h
  · cases h
theorem mk_put0 {Y : mHX} {ci j idx a : Nat} {t : List Value} {v : Value} (hx : p.tables.exec = Jvm.exec) (hb : c.code = cc) (hts : ∀ w ∈ mT, w.before args s = true) (hown : s.vm.findClass own = some m.cls) (hK : va_K D mCl (mTys cA) s) (hA : mAd ad h0) (hok : mOkP own meth.name idx ci j) (hd : decode cc pc = .ok (.putfield idx, 3))
    (ha : a < mN X) (hci : (mSh X a).1 = ci) (hj9 : j < (mSh X a).2) (hn : narrow (mTy ci j) v = v) (hfit : fits (mTy ci j) v = true)
    (hYc : mNc Y = mNc X) (hYt : mNs Y = mNs X) (hYn : mN Y = mN X) (hYf : mFz Y = mFz X) (hYs : mSh Y = mSh X) (hI : ∀ k, k ≠ a → mI Y k = mI X k) (hL : ∀ k, k ≠ a → mL Y k = mL X k) (hP : ∀ k, k ≠ a → mP Y k = mP X k)
    (h1 : ∀ i, i ≠ j → mFld Y a i (mTy ci i) = mFld X a i (mTy ci i)) (h2 : mTau ad (mFld Y a j (mTy ci j)) = v)
    (k : mKK p l e R s m args below meth c Q nL D cA ad h0 c0 s0 (pc + 3, lv, t, Y)) {H : Heap} {locs : List Loc} {ls : Array Slot} (hH : mHR D cA ad h0 X H) (hS : va_S (fun q => h0 ≤ q) s.heap H locs) (hl : lv_has ls nL (mTl ad lv)) :
    W p l e R s m args below meth c H locs (mNc X - c0) (mNs X - s0) Q (F0 m pc ls (v :: .ref (ad a) :: t.map (mTau ad))) := by
  obtain ⟨q, hq, hj, hlk, hfin⟩ := hok
  obtain ⟨Cn, T, N⟩ := q
  have hlt : (mSh X a).1 < 100 := by rw [hci]; exact mCl_lt hq
  have he := mEnc_o (cA := cA) (ad := ad) hlt
  have heY : mEnc cA ad Y a = .inr (ci, ((List.range (mSh X a).2).map (fun j => mTau ad (mFld X a j (mTy ci j)))).set j v) := by
    have h9 := mEnc_o (cA := cA) (ad := ad) (X := Y) (a := a) (by rw [hYs]; exact hlt)
    rw [h9, hYs, hci]
    congr 2
    exact (mSet_fs (fun i hi => by rw [h1 i hi]) h2).symm
  rw [hci] at he
  have hat := hH.1 a ha
  rw [he] at hat
  have hin := mCl_in hq
  have hap := va_apart (own := own) hts hin (mTy ci) (mCl_ty hq) (mCl_nm hq) hK hq
  obtain ⟨r, g1, cell, q1, q2, q3, q4⟩ := hat
  have hr : r = (Cn, T, N) := Option.some.inj (g1.symm.trans hq)
  subst hr
  obtain ⟨hSl, hfc, kC, hkC, hkind⟩ := hK.1 ci _ hq
  obtain ⟨cf, kf, fi, f, hi, hsl⟩ := hSl j hj
  have hlay := u_lays hts hin hj
  have hst := (u_facts hfc hkC hlay hi).1
  have hlink := hts _ (mT_in hlk rfl)
  have hdd := mCl_ty hq j hj
  have fin : ∀ H' : Heap, H'[ad a]? = some (cell.setSlot f.slot v) → H'.size = H.size → (∀ q : Nat, q ≠ ad a → H'[q]? = H[q]?) → W p l e R s m args below meth c H' (locs ++ [⟨ad a, f.slot⟩]) (mNc X - c0) (mNs X - s0) Q (F0 m (pc + 3) ls (t.map (mTau ad))) := by
    intro H' e1 e2 e3
    rw [hsl] at e1
    have k9 : W p l e R s m args below meth c H' (locs ++ [⟨ad a, f.slot⟩]) (mNc Y - c0) (mNs Y - s0) Q (F0 m (pc + 3) ls (t.map (mTau ad))) := by
      refine k H' _ ls (hH.put hA ha e2 e3 hYn hYf hYs hI hL hP ?_) (hS.put e2 e3 ?_) hl
      · rw [heY]
        exact ⟨_, hq, t_OB.to (V := updV (vp_V ((List.range (mSh X a).2).map (fun j => mTau ad (mFld X a j (mTy ci j))))) j v) ⟨_, e1, q2, q3, t_set q4 hap hj v⟩ (fun i _ => vp_updV_set (by simp [hj9]) v i)⟩
      · show h0 ≤ ad a
        rw [hA a (by have := hH.2.1; omega)]
        omega
    rw [hYc, hYt] at k9
    exact k9
  rcases hfin with hfin | ⟨hin2, hdecl⟩
  · have hlay2 := hts _ (hin _ (u_in_lay hj))
    unfold u_lay at hlay2
    rw [if_neg (by rw [hfin]; decide)] at hlay2
    have h6 := u_store hfc hkC hkind hlay2 hi hdd hn hfit
    exact W.putK hx hb (f := f) ⟨hown, hlink, ⟨_, _, _, hi⟩, hst⟩ (by rw [q2]; exact h6) q1 q3 (by rw [hsl]; exact k2_hasslot (q4 j hj)) rfl rfl hd fin
  · by_cases hfin : (T j).2.2.2 = true
    · have hlay2 := hts _ (hin _ (u_in_lay hj))
      unfold u_lay at hlay2
      rw [if_pos hfin] at hlay2
      have hcf : m.cls = cf := by
        obtain ⟨_, _, c', _, _, _, -, -, hf', -, -, -, hown2, -⟩ := Cond.laysFinal_spec hlay2
        have e1 : c' = cf := by have := hi.symm.trans hf'; simp at this; exact this.1.symm
        rw [hdecl] at hown2
        rw [← e1]; exact Option.some.inj (hown.symm.trans hown2)
      have h6 := u_fits hfc hkC hkind (Or.inr hlay2) hi hdd hn hfit
      exact W.putFinK hx hb hown hlink hi hst hcf hin2 (by rw [q2]; exact h6) q1 q3 (by rw [hsl]; exact k2_hasslot (q4 j hj)) rfl rfl hd fin
    · have hlay2 := hts _ (hin _ (u_in_lay hj))
      unfold u_lay at hlay2
      rw [if_neg hfin] at hlay2
      have h6 := u_store hfc hkC hkind hlay2 hi hdd hn hfit
      exact W.putK hx hb (f := f) ⟨hown, hlink, ⟨_, _, _, hi⟩, hst⟩ (by rw [q2]; exact h6) q1 q3 (by rw [hsl]; exact k2_hasslot (q4 j hj)) rfl rfl hd fin
theorem mFld_I {f : Nat → Nat → Int32} {a i : Nat} {ty : FieldType} (h : f a i = mI X a i) : mFld (mSetI X f) a i ty = mFld X a i ty := by
  cases ty <;> simp only [mFld] <;> first | rfl | exact congrArg Value.int h
theorem mFld_L {f : Nat → Nat → Int64} {a i : Nat} {ty : FieldType} (h : f a i = mL X a i) : mFld (mSetL X f) a i ty = mFld X a i ty := by
  cases ty <;> simp only [mFld] <;> first | rfl | exact congrArg Value.long h
theorem mFld_P {f : Nat → Nat → Option Nat} {a i : Nat} {ty : FieldType} (h : f a i = mP X a i) : mFld (mSetP X f) a i ty = mFld X a i ty := by
  cases ty <;> simp only [mFld] <;> first | rfl | exact congrArg va_rf h
theorem mUp_at {α : Type} {f : Nat → Nat → α} {a j i : Nat} {v : α} (h : i ≠ j) : mUp f a j v a i = f a i := by
  simp [mUp, h]
theorem mUp_it {α : Type} {f : Nat → Nat → α} {a j : Nat} {v : α} : mUp f a j v a j = v := by
  simp [mUp]
theorem mk_putf {ci j idx : Nat} (h : mPutf ci j pc lv st X = some (S', C)) (hC : mAll C) (hx : p.tables.exec = Jvm.exec) (hb : c.code = cc) (hts : ∀ w ∈ mT, w.before args s = true) (hown : s.vm.findClass own = some m.cls) (hK : va_K D mCl (mTys cA) s) (hA : mAd ad h0) (hok : mOkP own meth.name idx ci j) (hd : decode cc pc = .ok (.putfield idx, 3))
    (k : mKK p l e R s m args below meth c Q nL D cA ad h0 c0 s0 S') : mKK p l e R s m args below meth c Q nL D cA ad h0 c0 s0 (pc, lv, st, X) := by
  unfold mPutf at h
  split at h
  · rename_i v a t
    split at h
    · rename_i hc
      obtain ⟨ha, hci, hj9⟩ := hc
      split at h
      · rename_i Y C' hp
        cases h
        intro H locs ls hH hS hl
        unfold mPutv at hp
        split at hp
        · rename_i x hty
          cases hp
          exact mk_put0 (Y := mSetI X (mUp (mI X) a j x)) (v := .int x) hx hb hts hown hK hA hok hd ha hci hj9 (by rw [hty]; rfl) (by rw [hty]; rfl) rfl rfl rfl rfl rfl (fun k hk => mUp_ne hk) (fun _ _ => rfl) (fun _ _ => rfl) (fun i hi => mFld_I (mUp_at hi)) (by rw [hty]; simp only [mFld]; show Value.int (mUp (mI X) a j x a j) = _; rw [mUp_it]) k hH hS hl
        · rename_i x hty
          cases hp
          have hb01 : x = 0 ∨ x = 1 := hC.1
          exact mk_put0 (Y := mSetI X (mUp (mI X) a j x)) (v := .int x) hx hb hts hown hK hA hok hd ha hci hj9 (by rw [hty]; rcases hb01 with rfl | rfl <;> rfl) (by rw [hty]; rcases hb01 with rfl | rfl <;> rfl) rfl rfl rfl rfl rfl (fun k hk => mUp_ne hk) (fun _ _ => rfl) (fun _ _ => rfl) (fun i hi => mFld_I (mUp_at hi)) (by rw [hty]; simp only [mFld]; show Value.int (mUp (mI X) a j x a j) = _; rw [mUp_it]) k hH hS hl
        · rename_i x hty
          cases hp
          exact mk_put0 (Y := mSetL X (mUp (mL X) a j x)) (v := .long x) hx hb hts hown hK hA hok hd ha hci hj9 (by rw [hty]; rfl) (by rw [hty]; rfl) rfl rfl rfl rfl rfl (fun _ _ => rfl) (fun k hk => mUp_ne hk) (fun _ _ => rfl) (fun i hi => mFld_L (mUp_at hi)) (by rw [hty]; simp only [mFld]; show Value.long (mUp (mL X) a j x a j) = _; rw [mUp_it]) k hH hS hl
        · rename_i o x hty
          cases hp
          exact mk_put0 (Y := mSetP X (mUp (mP X) a j (some x))) (v := .ref (ad x)) hx hb hts hown hK hA hok hd ha hci hj9 (by rw [hty]; rfl) (by rw [hty]; rfl) rfl rfl rfl rfl rfl (fun _ _ => rfl) (fun _ _ => rfl) (fun k hk => mUp_ne hk) (fun i hi => mFld_P (mUp_at hi)) (by rw [hty]; simp only [mFld]; show mTau ad (va_rf (mUp (mP X) a j (some x) a j)) = _; rw [mUp_it]; rfl) k hH hS hl
        · rename_i o hty
          cases hp
          exact mk_put0 (Y := mSetP X (mUp (mP X) a j none)) (v := .null) hx hb hts hown hK hA hok hd ha hci hj9 (by rw [hty]; rfl) (by rw [hty]; rfl) rfl rfl rfl rfl rfl (fun _ _ => rfl) (fun _ _ => rfl) (fun k hk => mUp_ne hk) (fun i hi => mFld_P (mUp_at hi)) (by rw [hty]; simp only [mFld]; show mTau ad (va_rf (mUp (mP X) a j none a j)) = _; rw [mUp_it]; rfl) k hH hS hl
        · rename_i o x hty
          cases hp
          exact mk_put0 (Y := mSetP X (mUp (mP X) a j (some x))) (v := .ref (ad x)) hx hb hts hown hK hA hok hd ha hci hj9 (by rw [hty]; rfl) (by rw [hty]; rfl) rfl rfl rfl rfl rfl (fun _ _ => rfl) (fun _ _ => rfl) (fun k hk => mUp_ne hk) (fun i hi => mFld_P (mUp_at hi)) (by rw [hty]; simp only [mFld]; show mTau ad (va_rf (mUp (mP X) a j (some x) a j)) = _; rw [mUp_it]; rfl) k hH hS hl
        · cases hp
      · cases h
    · cases h
  · cases h
end MSF
