/-! ===== the straight instructions of the small machine are the JVM's ===== -/
/-- from the state S of the small machine, in whatever heap that holds its pool, the method comes to its end -/
def mKK (p : Program) (l : Launch) (e : Env) (R : Room) (s : State) (m : MethodId) (args : Array Value) (below : List Frame) (meth : Method) (c : Code) (Q : State → Prop) (nL : Nat) (D : va_G) (cA : Nat → ClassId) (ad : Nat → Nat) (h0 : Nat) (c0 s0 : Nat) (S : mSt) : Prop :=
  ∀ (H : Heap) (locs : List Loc) (ls : Array Slot), mHR D cA ad h0 S.2.2.2 H → va_S (fun q => h0 ≤ q) s.heap H locs → lv_has ls nL (mTl ad S.2.1) → W p l e R s m args below meth c H locs (mNc S.2.2.2 - c0) (mNs S.2.2.2 - s0) Q (F0 m S.1 ls (S.2.2.1.map (mTau ad)))
theorem mEnc_i {cA : Nat → ClassId} {ad : Nat → Nat} {X : mHX} {a t : Nat} (ht : t < 3) (h : (mSh X a).1 = 100 + t) : mEnc cA ad X a = .inl (cA t, (mSh X a).2, .inl (mI X a)) := by
  rcases (show t = 0 ∨ t = 1 ∨ t = 2 by omega) with rfl | rfl | rfl <;> simp [mEnc, h]
theorem mEnc_l {cA : Nat → ClassId} {ad : Nat → Nat} {X : mHX} {a : Nat} (h : (mSh X a).1 = 103) : mEnc cA ad X a = .inl (cA 3, (mSh X a).2, .inr (.inl (mL X a))) := by
  simp [mEnc, h]
section MSA
variable {p : Program} {l : Launch} {e : Env} {R : Room} {s : State} {m : MethodId} {args : Array Value} {below : List Frame} {meth : Method} {c : Code} {c0 s0 : Nat} {Q : State → Prop}
variable {cc : ByteArray} {nL pc : Nat} {own : String} {D : va_G} {cA : Nat → ClassId} {ad : Nat → Nat} {h0 : Nat} {X : mHX} {lv : mLV} {st : List Value} {S' : mSt} {C : List Prop}
/-- one row of the kit that leaves heap and locals -/
theorem mk_same {st' : List Value} {pc' : Nat} (row : ∀ (H : Heap) (locs : List Loc) (ls : Array Slot), lv_has ls nL (mTl ad lv) → W p l e R s m args below meth c H locs (mNc X - c0) (mNs X - s0) Q (F0 m pc' ls (st'.map (mTau ad))) → W p l e R s m args below meth c H locs (mNc X - c0) (mNs X - s0) Q (F0 m pc ls (st.map (mTau ad))))
    (k : mKK p l e R s m args below meth c Q nL D cA ad h0 c0 s0 (pc', lv, st', X)) : mKK p l e R s m args below meth c Q nL D cA ad h0 c0 s0 (pc, lv, st, X) :=
  fun H locs ls hH hS hl => row H locs ls hl (k H locs ls hH hS hl)
theorem mk_load {kd : Value → Bool} {n i : Nat} (h : mLoad kd n i pc lv st X = some (S', C))
    (row : ∀ (H : Heap) (locs : List Loc) (ls : Array Slot) (v : Value), kd v = true → ls[i]? = some (.val (mTau ad v)) → W p l e R s m args below meth c H locs (mNc X - c0) (mNs X - s0) Q (F0 m (pc + n) ls (mTau ad v :: st.map (mTau ad))) → W p l e R s m args below meth c H locs (mNc X - c0) (mNs X - s0) Q (F0 m pc ls (st.map (mTau ad))))
    (k : mKK p l e R s m args below meth c Q nL D cA ad h0 c0 s0 S') : mKK p l e R s m args below meth c Q nL D cA ad h0 c0 s0 (pc, lv, st, X) := by
  unfold mLoad at h
  split at h
  · rename_i v hv
    split at h
    · rename_i hk
      cases h
      exact fun H locs ls hH hS hl => row H locs ls v hk (mTl_at hl hv) (k H locs ls hH hS hl)
    · cases h
  · cases h
theorem mk_ist {n i : Nat} (h : mIst n i nL pc lv st X = some (S', C))
    (row : ∀ (H : Heap) (locs : List Loc) (ls : Array Slot) (x : Int32) (rest : List Value), lv_has ls nL (mTl ad lv) → i < nL → (∀ ls' : Array Slot, lv_has ls' nL ((i, Value.int x) :: (mTl ad lv).filter (fun q => !(q.1 == i) && !(q.1 + 1 == i && q.2.category == 2))) → W p l e R s m args below meth c H locs (mNc X - c0) (mNs X - s0) Q (F0 m (pc + n) ls' rest)) → W p l e R s m args below meth c H locs (mNc X - c0) (mNs X - s0) Q (F0 m pc ls (.int x :: rest)))
    (k : mKK p l e R s m args below meth c Q nL D cA ad h0 c0 s0 S') : mKK p l e R s m args below meth c Q nL D cA ad h0 c0 s0 (pc, lv, st, X) := by
  unfold mIst at h
  split at h
  · rename_i x t
    split at h
    · rename_i hi
      cases h
      intro H locs ls hH hS hl
      refine row H locs ls x _ hl hi fun ls' hl' => k H locs ls' hH hS ?_
      rw [mTl_keep1] at hl'
      exact hl'
    · cases h
  · cases h
theorem mk_lst {n i : Nat} (h : mLst n i nL pc lv st X = some (S', C))
    (row : ∀ (H : Heap) (locs : List Loc) (ls : Array Slot) (x : Int64) (rest : List Value), lv_has ls nL (mTl ad lv) → i + 1 < nL → (∀ ls' : Array Slot, lv_has ls' nL ((i, Value.long x) :: (mTl ad lv).filter (fun q => !(q.1 == i) && (!(q.1 == i + 1) && !(q.1 + 1 == i && q.2.category == 2)))) → W p l e R s m args below meth c H locs (mNc X - c0) (mNs X - s0) Q (F0 m (pc + n) ls' rest)) → W p l e R s m args below meth c H locs (mNc X - c0) (mNs X - s0) Q (F0 m pc ls (.long x :: rest)))
    (k : mKK p l e R s m args below meth c Q nL D cA ad h0 c0 s0 S') : mKK p l e R s m args below meth c Q nL D cA ad h0 c0 s0 (pc, lv, st, X) := by
  unfold mLst at h
  split at h
  · rename_i x t
    split at h
    · rename_i hi
      cases h
      intro H locs ls hH hS hl
      refine row H locs ls x _ hl hi fun ls' hl' => k H locs ls' hH hS ?_
      rw [mTl_keep2] at hl'
      exact hl'
    · cases h
  · cases h
theorem mk_ast {n i : Nat} (h : mAst n i nL pc lv st X = some (S', C))
    (row : ∀ (H : Heap) (locs : List Loc) (ls : Array Slot) (x : Option Nat) (rest : List Value), lv_has ls nL (mTl ad lv) → i < nL → (∀ ls' : Array Slot, lv_has ls' nL ((i, va_rf x) :: (mTl ad lv).filter (fun q => !(q.1 == i) && !(q.1 + 1 == i && q.2.category == 2))) → W p l e R s m args below meth c H locs (mNc X - c0) (mNs X - s0) Q (F0 m (pc + n) ls' rest)) → W p l e R s m args below meth c H locs (mNc X - c0) (mNs X - s0) Q (F0 m pc ls (va_rf x :: rest)))
    (k : mKK p l e R s m args below meth c Q nL D cA ad h0 c0 s0 S') : mKK p l e R s m args below meth c Q nL D cA ad h0 c0 s0 (pc, lv, st, X) := by
  unfold mAst at h
  split at h
  · rename_i x t
    split at h
    · rename_i hi
      cases h
      intro H locs ls hH hS hl
      refine row H locs ls (some (ad x)) _ hl hi fun ls' hl' => k H locs ls' hH hS ?_
      rw [mTl_keep1] at hl'
      exact hl'
    · cases h
  · rename_i t
    split at h
    · rename_i hi
      cases h
      intro H locs ls hH hS hl
      refine row H locs ls none _ hl hi fun ls' hl' => k H locs ls' hH hS ?_
      rw [mTl_keep1] at hl'
      exact hl'
    · cases h
  · cases h
theorem mk_i2 {f : Int32 → Int32 → Int32} (h : mI2 f pc lv st X = some (S', C))
    (row : ∀ (H : Heap) (locs : List Loc) (ls : Array Slot) (x y : Int32) (rest : List Value), W p l e R s m args below meth c H locs (mNc X - c0) (mNs X - s0) Q (F0 m (pc + 1) ls (.int (f x y) :: rest)) → W p l e R s m args below meth c H locs (mNc X - c0) (mNs X - s0) Q (F0 m pc ls (.int y :: .int x :: rest)))
    (k : mKK p l e R s m args below meth c Q nL D cA ad h0 c0 s0 S') : mKK p l e R s m args below meth c Q nL D cA ad h0 c0 s0 (pc, lv, st, X) := by
  unfold mI2 at h
  split at h
  · cases h
    exact fun H locs ls hH hS hl => row H locs ls _ _ _ (k H locs ls hH hS hl)
  · cases h
theorem mk_i2n {f : Int32 → Int32 → Int32} (h : mI2n f pc lv st X = some (S', C)) (hC : mAll C)
    (row : ∀ (H : Heap) (locs : List Loc) (ls : Array Slot) (x y : Int32) (rest : List Value), ¬ y = 0 → W p l e R s m args below meth c H locs (mNc X - c0) (mNs X - s0) Q (F0 m (pc + 1) ls (.int (f x y) :: rest)) → W p l e R s m args below meth c H locs (mNc X - c0) (mNs X - s0) Q (F0 m pc ls (.int y :: .int x :: rest)))
    (k : mKK p l e R s m args below meth c Q nL D cA ad h0 c0 s0 S') : mKK p l e R s m args below meth c Q nL D cA ad h0 c0 s0 (pc, lv, st, X) := by
  unfold mI2n at h
  split at h
  · cases h
    exact fun H locs ls hH hS hl => row H locs ls _ _ _ hC.1 (k H locs ls hH hS hl)
  · cases h
theorem mk_l2 {f : Int64 → Int64 → Int64} (h : mL2 f pc lv st X = some (S', C))
    (row : ∀ (H : Heap) (locs : List Loc) (ls : Array Slot) (x y : Int64) (rest : List Value), W p l e R s m args below meth c H locs (mNc X - c0) (mNs X - s0) Q (F0 m (pc + 1) ls (.long (f x y) :: rest)) → W p l e R s m args below meth c H locs (mNc X - c0) (mNs X - s0) Q (F0 m pc ls (.long y :: .long x :: rest)))
    (k : mKK p l e R s m args below meth c Q nL D cA ad h0 c0 s0 S') : mKK p l e R s m args below meth c Q nL D cA ad h0 c0 s0 (pc, lv, st, X) := by
  unfold mL2 at h
  split at h
  · cases h
    exact fun H locs ls hH hS hl => row H locs ls _ _ _ (k H locs ls hH hS hl)
  · cases h
theorem mk_ls {f : Int64 → Int32 → Int64} (h : mLS f pc lv st X = some (S', C))
    (row : ∀ (H : Heap) (locs : List Loc) (ls : Array Slot) (x : Int64) (y : Int32) (rest : List Value), W p l e R s m args below meth c H locs (mNc X - c0) (mNs X - s0) Q (F0 m (pc + 1) ls (.long (f x y) :: rest)) → W p l e R s m args below meth c H locs (mNc X - c0) (mNs X - s0) Q (F0 m pc ls (.int y :: .long x :: rest)))
    (k : mKK p l e R s m args below meth c Q nL D cA ad h0 c0 s0 S') : mKK p l e R s m args below meth c Q nL D cA ad h0 c0 s0 (pc, lv, st, X) := by
  unfold mLS at h
  split at h
  · cases h
    exact fun H locs ls hH hS hl => row H locs ls _ _ _ (k H locs ls hH hS hl)
  · cases h
theorem mk_i1 {f : Int32 → Int32} (h : mI1 f pc lv st X = some (S', C))
    (row : ∀ (H : Heap) (locs : List Loc) (ls : Array Slot) (x : Int32) (rest : List Value), W p l e R s m args below meth c H locs (mNc X - c0) (mNs X - s0) Q (F0 m (pc + 1) ls (.int (f x) :: rest)) → W p l e R s m args below meth c H locs (mNc X - c0) (mNs X - s0) Q (F0 m pc ls (.int x :: rest)))
    (k : mKK p l e R s m args below meth c Q nL D cA ad h0 c0 s0 S') : mKK p l e R s m args below meth c Q nL D cA ad h0 c0 s0 (pc, lv, st, X) := by
  unfold mI1 at h
  split at h
  · cases h
    exact fun H locs ls hH hS hl => row H locs ls _ _ (k H locs ls hH hS hl)
  · cases h
theorem mk_iinc {i : Nat} {n : Int} (h : mIinc i nL n pc lv st X = some (S', C)) (hx : p.tables.exec = Jvm.exec) (hb : c.code = cc) (hd : decode cc pc = .ok (.iinc i n, 3))
    (k : mKK p l e R s m args below meth c Q nL D cA ad h0 c0 s0 S') : mKK p l e R s m args below meth c Q nL D cA ad h0 c0 s0 (pc, lv, st, X) := by
  unfold mIinc at h
  split at h
  · rename_i x hg
    split at h
    · rename_i hi
      cases h
      intro H locs ls hH hS hl
      obtain ⟨q, hq⟩ := mTl_mem (ad := ad) hg
      refine lv_iinc hx hb hd hl (k := q) hq rfl hi rfl fun ls' hl' => k H locs ls' hH hS ?_
      rw [mTl_keep1] at hl'
      exact hl'
    · cases h
  · cases h
/-! arrays -/
theorem mk_arr {t : Nat} {ty : FieldType} {x : vp_A} {a : Nat} {H : Heap} (hK : va_K D mCl (mTys cA) s) (hH : mHR D cA ad h0 X H) (ha : a < mN X) (hc : mEnc cA ad X a = .inl (cA t, x)) (ht : (mTys cA)[t]? = some (cA t, ty)) : H[ad a]? = some (vp_cell (cA t) x) ∧ ArrOfT s (cA t) ty := by
  have h1 := hH.1 a ha
  rw [hc] at h1
  exact ⟨h1, (hK.2 t _ ht).1⟩
theorem mk_iald (h : mIald pc lv st X = some (S', C)) (hC : mAll C) (hx : p.tables.exec = Jvm.exec) (hb : c.code = cc) (hK : va_K D mCl (mTys cA) s) (hd : decode cc pc = .ok (.iaload, 1))
    (k : mKK p l e R s m args below meth c Q nL D cA ad h0 c0 s0 S') : mKK p l e R s m args below meth c Q nL D cA ad h0 c0 s0 (pc, lv, st, X) := by
  unfold mIald at h
  split at h
  · rename_i i a t
    split at h
    · rename_i hc
      cases h
      intro H locs ls hH hS hl
      have he : mEnc cA ad X a = .inl (cA 0, (mSh X a).2, .inl (mI X a)) := by simp [mEnc, hc.2]
      obtain ⟨h1, h2⟩ := mk_arr (t := 0) hK hH hc.1 he rfl
      have hin : vp_in i (mSh X a).2 := hC.1
      have hlt : i.toNatClampNeg < (mSh X a).2 := Nat.not_le.mp fun q => hin (Or.inr q)
      exact W.iald (v := .int (mI X a i.toNatClampNeg)) hx hb h1 (h2 _ (fun j => .int (mI X a j))) (fun q => by cases q) (by show ¬ (i < 0 ∨ (arrV _ _ _).slots.size ≤ _); rw [arrV_size]; exact hin) (by show (arrV _ _ _).slots[_]? = _; rw [arrV_read _ _ hlt]) rfl rfl hd (k H locs ls hH hS hl)
    · cases h
  · cases h
theorem mk_bald (h : mBald pc lv st X = some (S', C)) (hC : mAll C) (hx : p.tables.exec = Jvm.exec) (hb : c.code = cc) (hK : va_K D mCl (mTys cA) s) (hd : decode cc pc = .ok (.baload, 1))
    (k : mKK p l e R s m args below meth c Q nL D cA ad h0 c0 s0 S') : mKK p l e R s m args below meth c Q nL D cA ad h0 c0 s0 (pc, lv, st, X) := by
  unfold mBald at h
  split at h
  · rename_i i a t
    split at h
    · rename_i hc
      cases h
      intro H locs ls hH hS hl
      have hin : vp_in i (mSh X a).2 := hC.1
      have hlt : i.toNatClampNeg < (mSh X a).2 := Nat.not_le.mp fun q => hin (Or.inr q)
      rcases hc.2 with h9 | h9
      · have he : mEnc cA ad X a = .inl (cA 1, (mSh X a).2, .inl (mI X a)) := by simp [mEnc, h9]
        obtain ⟨h1, h2⟩ := mk_arr (t := 1) hK hH hc.1 he rfl
        exact W.bald (v := .int (mI X a i.toNatClampNeg)) hx hb h1 (h2 _ (fun j => .int (mI X a j))) (fun q => by cases q) (by show ¬ (i < 0 ∨ (arrV _ _ _).slots.size ≤ _); rw [arrV_size]; exact hin) (by show (arrV _ _ _).slots[_]? = _; rw [arrV_read _ _ hlt]) rfl rfl hd (k H locs ls hH hS hl)
      · have he : mEnc cA ad X a = .inl (cA 2, (mSh X a).2, .inl (mI X a)) := by simp [mEnc, h9]
        obtain ⟨h1, h2⟩ := mk_arr (t := 2) hK hH hc.1 he rfl
        exact W.zald (v := .int (mI X a i.toNatClampNeg)) hx hb h1 (h2 _ (fun j => .int (mI X a j))) (fun q => by cases q) (by show ¬ (i < 0 ∨ (arrV _ _ _).slots.size ≤ _); rw [arrV_size]; exact hin) (by show (arrV _ _ _).slots[_]? = _; rw [arrV_read _ _ hlt]) rfl rfl hd (k H locs ls hH hS hl)
    · cases h
  · cases h
theorem mk_lald (h : mLald pc lv st X = some (S', C)) (hC : mAll C) (hx : p.tables.exec = Jvm.exec) (hb : c.code = cc) (hK : va_K D mCl (mTys cA) s) (hd : decode cc pc = .ok (.laload, 1))
    (k : mKK p l e R s m args below meth c Q nL D cA ad h0 c0 s0 S') : mKK p l e R s m args below meth c Q nL D cA ad h0 c0 s0 (pc, lv, st, X) := by
  unfold mLald at h
  split at h
  · rename_i i a t
    split at h
    · rename_i hc
      cases h
      intro H locs ls hH hS hl
      have he : mEnc cA ad X a = .inl (cA 3, (mSh X a).2, .inr (.inl (mL X a))) := by simp [mEnc, hc.2]
      obtain ⟨h1, h2⟩ := mk_arr (t := 3) hK hH hc.1 he rfl
      have hin : vp_in i (mSh X a).2 := hC.1
      have hlt : i.toNatClampNeg < (mSh X a).2 := Nat.not_le.mp fun q => hin (Or.inr q)
      exact W.lald (v := .long (mL X a i.toNatClampNeg)) hx hb h1 (h2 _ (fun j => .long (mL X a j))) (fun q => by cases q) (by show ¬ (i < 0 ∨ (arrV _ _ _).slots.size ≤ _); rw [arrV_size]; exact hin) (by show (arrV _ _ _).slots[_]? = _; rw [arrV_read _ _ hlt]) rfl rfl hd (k H locs ls hH hS hl)
    · cases h
  · cases h
theorem mk_alen (h : mAlen pc lv st X = some (S', C)) (hx : p.tables.exec = Jvm.exec) (hb : c.code = cc) (hK : va_K D mCl (mTys cA) s) (hd : decode cc pc = .ok (.arraylength, 1))
    (k : mKK p l e R s m args below meth c Q nL D cA ad h0 c0 s0 S') : mKK p l e R s m args below meth c Q nL D cA ad h0 c0 s0 (pc, lv, st, X) := by
  unfold mAlen at h
  split at h
  · rename_i a t
    split at h
    · rename_i hc
      cases h
      intro H locs ls hH hS hl
      have go : ∀ (t0 : Nat) (ty : FieldType) (x : vp_A), mEnc cA ad X a = .inl (cA t0, x) → x.1 = (mSh X a).2 → (mTys cA)[t0]? = some (cA t0, ty) → W p l e R s m args below meth c H locs (mNc X - c0) (mNs X - s0) Q (F0 m pc ls ((Value.ref a :: t).map (mTau ad))) := by
        intro t0 ty x he hx1 ht
        have h1 := hH.1 a hc.1
        refine va_alen hx hb hK (ws := [(ad a, mEnc cA ad X a)]) (fun k q hq => ?_) 0 t0 (cA := cA t0) (x := x) (by rw [he]; rfl) ht (v := Int32.ofNat (mSh X a).2) (by rw [hx1]) hd (k H locs ls hH hS hl)
        have h0 : k < 1 := (List.getElem?_eq_some_iff.mp hq).1
        rw [show k = 0 by omega] at hq
        cases hq
        exact h1
      rcases (show (mSh X a).1 = 100 ∨ (mSh X a).1 = 101 ∨ (mSh X a).1 = 102 ∨ (mSh X a).1 = 103 ∨ (mSh X a).1 = 104 by omega) with q | q | q | q | q
      · exact go 0 .int _ (by simp [mEnc, q]; rfl) rfl rfl
      · exact go 1 .byte _ (by simp [mEnc, q]; rfl) rfl rfl
      · exact go 2 .boolean _ (by simp [mEnc, q]; rfl) rfl rfl
      · exact go 3 .long _ (by simp [mEnc, q]; rfl) rfl rfl
      · exact go 4 (.array .int) _ (by simp [mEnc, q]; rfl) rfl rfl
    · cases h
  · cases h
/-- the heap behind a store into an array of the pool -/
theorem mk_stored {Y : mHX} {t : Nat} {x y : vp_A} {a : Nat} {H H1 : Heap} {locs : List Loc} {i : Nat} (hA : mAd ad h0) (hH : mHR D cA ad h0 X H) (hS : va_S (fun q => h0 ≤ q) s.heap H locs) (ha : a < mN X)
    (hz : H1.size = H.size) (oq : ∀ q : Nat, q ≠ ad a → H1[q]? = H[q]?) (hn : mN Y = mN X) (hf : mFz Y = mFz X) (hs : mSh Y = mSh X) (hI : ∀ k, k ≠ a → mI Y k = mI X k) (hL : ∀ k, k ≠ a → mL Y k = mL X k) (hP : ∀ k, k ≠ a → mP Y k = mP X k)
    (hy : mEnc cA ad Y a = .inl (cA t, y)) (e1 : H1[ad a]? = some (vp_cell (cA t) y)) : mHR D cA ad h0 Y H1 ∧ va_S (fun q => h0 ≤ q) s.heap H1 (locs ++ [⟨ad a, i⟩]) := by
  refine ⟨hH.put hA ha hz oq hn hf hs hI hL hP (by rw [hy]; exact e1), hS.put hz oq ?_⟩
  show h0 ≤ ad a
  rw [hA a (by have := hH.2.1; omega)]
  omega
theorem mk_iast2 (h : mIast2 pc lv st X = some (S', C)) (hC : mAll C) (hx : p.tables.exec = Jvm.exec) (hb : c.code = cc) (hK : va_K D mCl (mTys cA) s) (hA : mAd ad h0) (hd : decode cc pc = .ok (.iastore, 1))
    (k : mKK p l e R s m args below meth c Q nL D cA ad h0 c0 s0 S') : mKK p l e R s m args below meth c Q nL D cA ad h0 c0 s0 (pc, lv, st, X) := by
  unfold mIast2 at h
  split at h
  · rename_i x i a t
    split at h
    · rename_i hc
      cases h
      intro H locs ls hH hS hl
      have he : mEnc cA ad X a = .inl (cA 0, (mSh X a).2, .inl (mI X a)) := by simp [mEnc, hc.2]
      obtain ⟨h1, h2⟩ := mk_arr (t := 0) hK hH hc.1 he rfl
      have hin : vp_in i (mSh X a).2 := hC.1
      refine W.iast hx hb h1 (h2 _ (fun j => .int (mI X a j))) (fun q => by cases q) (by show ¬ (i < 0 ∨ (arrV _ _ _).slots.size ≤ _); rw [arrV_size]; exact hin) rfl rfl hd fun H1 e1 z oq => ?_
      obtain ⟨g1, g2⟩ := mk_stored (Y := mSetI X (mUp (mI X) a i.toNatClampNeg x)) (t := 0) (x := ((mSh X a).2, .inl (mI X a))) (y := ((mSh X a).2, .inl (fun j => if j = i.toNatClampNeg then x else mI X a j))) (i := i.toNatClampNeg) hA hH hS hc.1 z oq rfl rfl rfl (fun k hk => mUp_ne hk) (fun _ _ => rfl) (fun _ _ => rfl)
        ((mEnc_i (X := mSetI X (mUp (mI X) a i.toNatClampNeg x)) (t := 0) (by omega) hc.2).trans (by show Sum.inl (cA 0, (mSh X a).2, Sum.inl (mUp (mI X) a i.toNatClampNeg x a)) = _; rw [mUp_eq])) (by
          rw [e1, vp_cell_i, vp_cell_i, arrV_store]
          congr 2
          funext q
          by_cases hq : q = i.toNatClampNeg
          · subst hq
            simp [updV]
          · simp [updV, hq])
      exact k H1 _ ls g1 g2 hl
    · cases h
  · cases h
theorem mk_bast (h : mBast pc lv st X = some (S', C)) (hC : mAll C) (hx : p.tables.exec = Jvm.exec) (hb : c.code = cc) (hK : va_K D mCl (mTys cA) s) (hA : mAd ad h0) (hd : decode cc pc = .ok (.bastore, 1))
    (k : mKK p l e R s m args below meth c Q nL D cA ad h0 c0 s0 S') : mKK p l e R s m args below meth c Q nL D cA ad h0 c0 s0 (pc, lv, st, X) := by
  unfold mBast at h
  split at h
  · rename_i x i a t
    split at h
    · rename_i hc
      cases h
      intro H locs ls hH hS hl
      have he : mEnc cA ad X a = .inl (cA 1, (mSh X a).2, .inl (mI X a)) := by simp [mEnc, hc.2]
      obtain ⟨h1, h2⟩ := mk_arr (t := 1) hK hH hc.1 he rfl
      have hin : vp_in i (mSh X a).2 := hC.1
      have hnar : narrow .byte (.int x) = .int (vp_nar .byte x) := rfl
      refine W.bast hx hb h1 (h2 _ (fun j => .int (mI X a j))) (fun q => by cases q) (by show ¬ (i < 0 ∨ (arrV _ _ _).slots.size ≤ _); rw [arrV_size]; exact hin) rfl rfl hd fun H1 e1 z oq => ?_
      obtain ⟨g1, g2⟩ := mk_stored (Y := mSetI X (mUp (mI X) a i.toNatClampNeg (vp_nar .byte x))) (t := 1) (x := ((mSh X a).2, .inl (mI X a))) (y := ((mSh X a).2, .inl (fun j => if j = i.toNatClampNeg then vp_nar .byte x else mI X a j))) (i := i.toNatClampNeg) hA hH hS hc.1 z oq rfl rfl rfl (fun k hk => mUp_ne hk) (fun _ _ => rfl) (fun _ _ => rfl)
        ((mEnc_i (X := mSetI X (mUp (mI X) a i.toNatClampNeg (vp_nar .byte x))) (t := 1) (by omega) hc.2).trans (by show Sum.inl (cA 1, (mSh X a).2, Sum.inl (mUp (mI X) a i.toNatClampNeg (vp_nar .byte x) a)) = _; rw [mUp_eq])) (by
          rw [e1, hnar, vp_cell_i, vp_cell_i, arrV_store]
          congr 2
          funext q
          by_cases hq : q = i.toNatClampNeg
          · subst hq
            simp [updV]
          · simp [updV, hq])
      exact k H1 _ ls g1 g2 hl
    · split at h
      · rename_i hc
        cases h
        intro H locs ls hH hS hl
        have he : mEnc cA ad X a = .inl (cA 2, (mSh X a).2, .inl (mI X a)) := by simp [mEnc, hc.2]
        obtain ⟨h1, h2⟩ := mk_arr (t := 2) hK hH hc.1 he rfl
        have hin : vp_in i (mSh X a).2 := hC.1
        have hnar : narrow .boolean (.int x) = .int (vp_nar .boolean x) := rfl
        refine W.zast hx hb h1 (h2 _ (fun j => .int (mI X a j))) (fun q => by cases q) (by show ¬ (i < 0 ∨ (arrV _ _ _).slots.size ≤ _); rw [arrV_size]; exact hin) rfl rfl hd fun H1 e1 z oq => ?_
        obtain ⟨g1, g2⟩ := mk_stored (Y := mSetI X (mUp (mI X) a i.toNatClampNeg (vp_nar .boolean x))) (t := 2) (x := ((mSh X a).2, .inl (mI X a))) (y := ((mSh X a).2, .inl (fun j => if j = i.toNatClampNeg then vp_nar .boolean x else mI X a j))) (i := i.toNatClampNeg) hA hH hS hc.1 z oq rfl rfl rfl (fun k hk => mUp_ne hk) (fun _ _ => rfl) (fun _ _ => rfl)
          ((mEnc_i (X := mSetI X (mUp (mI X) a i.toNatClampNeg (vp_nar .boolean x))) (t := 2) (by omega) hc.2).trans (by show Sum.inl (cA 2, (mSh X a).2, Sum.inl (mUp (mI X) a i.toNatClampNeg (vp_nar .boolean x) a)) = _; rw [mUp_eq])) (by
            rw [e1, hnar, vp_cell_i, vp_cell_i, arrV_store]
            congr 2
            funext q
            by_cases hq : q = i.toNatClampNeg
            · subst hq
              simp [updV]
            · simp [updV, hq])
        exact k H1 _ ls g1 g2 hl
      · cases h
  · cases h
theorem mk_last2 (h : mLast2 pc lv st X = some (S', C)) (hC : mAll C) (hx : p.tables.exec = Jvm.exec) (hb : c.code = cc) (hK : va_K D mCl (mTys cA) s) (hA : mAd ad h0) (hd : decode cc pc = .ok (.lastore, 1))
    (k : mKK p l e R s m args below meth c Q nL D cA ad h0 c0 s0 S') : mKK p l e R s m args below meth c Q nL D cA ad h0 c0 s0 (pc, lv, st, X) := by
  unfold mLast2 at h
  split at h
  · rename_i x i a t
    split at h
    · rename_i hc
      cases h
      intro H locs ls hH hS hl
      have he : mEnc cA ad X a = .inl (cA 3, (mSh X a).2, .inr (.inl (mL X a))) := by simp [mEnc, hc.2]
      obtain ⟨h1, h2⟩ := mk_arr (t := 3) hK hH hc.1 he rfl
      have hin : vp_in i (mSh X a).2 := hC.1
      refine W.last hx hb h1 (h2 _ (fun j => .long (mL X a j))) (fun q => by cases q) (by show ¬ (i < 0 ∨ (arrV _ _ _).slots.size ≤ _); rw [arrV_size]; exact hin) rfl rfl hd fun H1 e1 z oq => ?_
      obtain ⟨g1, g2⟩ := mk_stored (Y := mSetL X (mUp (mL X) a i.toNatClampNeg x)) (t := 3) (x := ((mSh X a).2, .inr (.inl (mL X a)))) (y := ((mSh X a).2, .inr (.inl (fun j => if j = i.toNatClampNeg then x else mL X a j)))) (i := i.toNatClampNeg) hA hH hS hc.1 z oq rfl rfl rfl (fun _ _ => rfl) (fun k hk => mUp_ne hk) (fun _ _ => rfl)
        ((mEnc_l (X := mSetL X (mUp (mL X) a i.toNatClampNeg x)) hc.2).trans (by show Sum.inl (cA 3, (mSh X a).2, Sum.inr (Sum.inl (mUp (mL X) a i.toNatClampNeg x a))) = _; rw [mUp_eq])) (by
          rw [e1, vp_cell_l, vp_cell_l, arrV_store]
          congr 2
          funext q
          by_cases hq : q = i.toNatClampNeg
          · subst hq
            simp [updV]
          · simp [updV, hq])
      exact k H1 _ ls g1 g2 hl
    · cases h
  · cases h
end MSA
