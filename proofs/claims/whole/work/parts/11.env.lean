/-! ===== what of the machine's tables and of the old heap a run leans on ===== -/
def mNest : List (String × Nat × MethodName × String) := [("LaneEyes", 31, ⟨"LaneEyes$Parser", "<init>", "()V"⟩, "LaneEyes"), ("LaneEyes$Pool", 54, ⟨"LaneEyes$Rules", "<init>", "()V"⟩, "LaneEyes"), ("LaneEyes$Parser", 20, ⟨"LaneEyes$Live", "<init>", "()V"⟩, "LaneEyes"), ("LaneEyes$Parser", 34, ⟨"LaneEyes$Tokens", "<init>", "()V"⟩, "LaneEyes"), ("LaneEyes", 38, ⟨"LaneEyes$Watch", "<init>", "()V"⟩, "LaneEyes"), ("LaneEyes$Watch", 20, ⟨"LaneEyes$Live", "<init>", "()V"⟩, "LaneEyes"), ("LaneEyes$Watch", 27, ⟨"LaneEyes$Round", "<init>", "()V"⟩, "LaneEyes"), ("LaneEyes", 55, ⟨"LaneEyes$Live", "<init>", "()V"⟩, "LaneEyes"), ("LaneEyes", 65, ⟨"LaneEyes$Week", "<init>", "()V"⟩, "LaneEyes"), ("LaneEyes", 72, ⟨"LaneEyes$Missing", "<init>", "()V"⟩, "LaneEyes"), ("LaneEyes$Watch", 103, ⟨"LaneEyes", "keptTo", "(III)I"⟩, "LaneEyes")]
def mStrs : List (String × Nat × String) := [("LaneEyes", 90, "the tape has not so many bytes"), ("LaneEyes", 363, "no such what"), ("LaneEyes", 365, "no such cell"), ("LaneEyes", 367, "no such look"), ("LaneEyes", 369, "no such swimmer"), ("LaneEyes", 218, "no such second"), ("LaneEyes", 254, "none is kept there"), ("LaneEyes", 271, "no such x"), ("LaneEyes", 282, "no such game"), ("LaneEyes", 371, "not 1 to 999"), ("LaneEyes", 336, "not 0 to 100 times")]
def mDecl : List MethodName := [⟨"java/lang/RuntimeException", "<init>", "()V"⟩, ⟨"java/lang/RuntimeException", "<init>", "(Ljava/lang/String;)V"⟩, ⟨"java/lang/Exception", "<init>", "()V"⟩, ⟨"java/lang/Exception", "<init>", "(Ljava/lang/String;)V"⟩, ⟨"java/lang/Throwable", "<init>", "()V"⟩, ⟨"java/lang/Throwable", "<init>", "(Ljava/lang/String;)V"⟩, ⟨"java/lang/Enum", "ordinal", "()I"⟩]
abbrev mIAE : String := "java/lang/IllegalArgumentException"
abbrev mNSE : String := "java/util/NoSuchElementException"
def mAO (U : State) : Prop := (Cond.arrayOver (.array .int)).before #[] U = true
theorem mAO.warm {s U : State} (hW : s.WarmedH U.vm) (h : mAO s) : mAO U := by
  have h1 : (Cond.arrayOver (.array .int)).before #[] (s.setVm U.vm) = true := by rw [Cond.arrayOver_setVmC hW.alike]; exact h
  exact h1
theorem mAO.use {args : Array Value} {s : State} (h : mAO s) : (Cond.arrayOver (.array .int)).before args s = true := h
def mOld (ad : Nat → Nat) (A : Nat → Prop) (U : State) (H : Heap) : Prop :=
  (∀ q ∈ oStat, va_Z q.1 q.2.1 q.2.2.1 (mTau ad q.2.2.2) A U H) ∧ (∀ (k b : Nat), oOb k b = true → va_O (oCn k) (ad b) A U H) ∧ (∀ (f a : Nat) (v : Value), oF f a = some v → va_OF (oFk f).1 (oFk f).2.1 (oFk f).2.2 (mTau ad v) (ad a) A U H) ∧
  (∀ (a : Nat) (ty : FieldType) (n : Nat) (f : Nat → Value), oA a = some (ty, n, f) → va_T ty (ad a) n (fun j => mTau ad (f j)) A U H) ∧ va_T .int (ad 2000000) (ad 3000000) (fun j => .int (Int32.ofNat (ad (4000000 + j)))) A U H ∧ (∀ a b : Nat, oEn a = true → oEn b = true → ad a = ad b → a = b)
theorem mOld.moved {ad : Nat → Nat} {A : Nat → Prop} {u U : State} {H : Heap} (hvm : u.vm.Alike U.vm) (h : mOld ad A u H) : mOld ad A U H := by
  obtain ⟨h1, h2, h3, h4, h5, h6⟩ := h
  exact ⟨fun q hq => va_Z.moved hvm (h1 q hq), fun k b hb => va_O.moved hvm (h2 k b hb), fun f a v hv => va_OF.moved hvm (h3 f a v hv), fun a ty n f hf => va_T.moved hvm (h4 a ty n f hf), va_T.moved hvm h5, h6⟩
theorem mOld.kept {ad : Nat → Nat} {A : Nat → Prop} {U : State} {H H1 : Heap} (h : mOld ad A U H) (hq : ∀ a : Nat, a < H.size → ¬ A a → H1[a]? = H[a]?) : mOld ad A U H1 := by
  obtain ⟨h1, h2, h3, h4, h5, h6⟩ := h
  exact ⟨fun q hm => (h1 q hm).kept hq, fun k b hb => (h2 k b hb).kept hq, fun f a v hv => (h3 f a v hv).kept hq, fun a ty n f hf => (h4 a ty n f hf).kept hq, h5.kept hq, h6⟩
abbrev oWds : Cond := .fieldLinkNest "LaneEyes$Tokens" 63 "LaneEyes" "WORDS" "[LLaneEyes$Word;" "LaneEyes"
def mG (D : va_G) (cA : Nat → ClassId) (ad : Nat → Nat) (A : Nat → Prop) (U : State) (H : Heap) : Prop :=
  va_K D mCl (mTys cA) U ∧ (∀ q ∈ mNest, va_Nw (.methodLinkNest q.1 q.2.1 q.2.2.1 q.2.2.2) U) ∧ (∀ q ∈ mStrs, ∃ sa : Nat, vk_R q.1 q.2.1 q.2.2 sa U) ∧ va_Nc mIAE mNSE U ∧ va_Nc mNSE mIAE U ∧
  vx_Zq Bundle.tN "UNASSIGNED_STACK" Bundle.steD A U H ∧ vx_Zq Bundle.tN "SUPPRESSED_SENTINEL" Bundle.listD A U H ∧ mAO U ∧ va_Nw (.castable mIAE mIAE) U ∧ va_Nw (.castable mNSE mNSE) U ∧ (∀ x ∈ mDecl, va_Nw (.declares x) U) ∧ va_Nw oWds U ∧ mOld ad A U H
theorem mG.warm {D : va_G} {cA : Nat → ClassId} {ad : Nat → Nat} {A : Nat → Prop} {s U : State} {H : Heap} (hW : s.WarmedH U.vm) (h : mG D cA ad A s H) : mG D cA ad A U H := by
  obtain ⟨h1, h2, h3, h4, h5, h6, h7, h8, h9, h10, h11, h12, h13⟩ := h
  exact ⟨va_K.moved hW.alike h1, fun q hq => va_Nw.warmM hW (h2 q hq), fun q hq => by obtain ⟨sa, h⟩ := h3 q hq; exact ⟨sa, vk_R.warm hW h⟩, va_Nc.moved hW.alike h4, va_Nc.moved hW.alike h5, vx_Zq.moved hW.alike h6, vx_Zq.moved hW.alike h7, h8.warm hW, va_Nw.warmC hW h9, va_Nw.warmC hW h10, fun x hx => va_Nw.warmD hW (h11 x hx), va_Nw.warmF hW h12, h13.moved hW.alike⟩
theorem mG.kept {D : va_G} {cA : Nat → ClassId} {ad : Nat → Nat} {A : Nat → Prop} {s : State} {H H1 : Heap} (h : mG D cA ad A s H) (hq : ∀ a : Nat, a < H.size → ¬ A a → H1[a]? = H[a]?) : mG D cA ad A s H1 := by
  obtain ⟨h1, h2, h3, h4, h5, h6, h7, h8, h9, h10, h11, h12, h13⟩ := h
  exact ⟨h1, h2, h3, h4, h5, h6.kept hq, h7.kept hq, h8, h9, h10, h11, h12, h13.kept hq⟩
/-! a method's contract, for the run with this end -/
def mRm (d mc ms : Nat) : Room := { frames := d + 6, cells := mc, slots := ms, locals := 120 * (d + 1) }
abbrev mAA (h0 : Nat) : Nat → Prop := fun q => h0 ≤ q
def mPc (D : va_G) (cA : Nat → ClassId) (ad : Nat → Nat) (h0 : Nat) (as : List Value) (X : mHX) : Array Value → State → Prop := va_Pc (as.map (mTau ad)) (fun U => mHR D cA ad h0 X U.heap ∧ mG D cA ad (mAA h0) U U.heap)
def mQc (D : va_G) (cA : Nat → ClassId) (ad : Nat → Nat) (h0 : Nat) (r : mRes) : Array Value → State → Outcome → State → Prop := fun _ st oc t => (∃ v : Option Value, r.1 = .inl v ∧ oc = .returned (v.map (mTau ad))) ∧ mHR D cA ad h0 r.2 t.heap ∧ va_F (mAA h0) st t
def mXC (D : va_G) (cA : Nat → ClassId) (ad : Nat → Nat) (h0 : Nat) (r : mRes) : String → State → State → Prop := fun E st t => r.1 = .inr E ∧ mHR D cA ad h0 r.2 t.heap ∧ va_F (mAA h0) st t
def mWs (M : mRec) : List Cond := (if mrH M = [] then Cond.code (mrN M) (mrB M) (mrL M) (mrR M) else Cond.codeWith (mrN M) (mrB M) (mrL M) (mrR M) (mrH M)) :: mT
def mMet (l : Launch) (D : va_G) (cA : Nat → ClassId) (ad : Nat → Nat) (h0 d : Nat) (M : mRec) (as : List Value) (X : mHX) (r : mRes) : Prop :=
  vx_Met l (mrN M) (mWs M) (mRm d (mNc r.2 - mNc X) (mNs r.2 - mNs X)) (mPc D cA ad h0 as X) (mQc D cA ad h0 r) (mXC D cA ad h0 r) (mNc r.2 - mNc X) (mNs r.2 - mNs X) (mAA h0)
theorem mPc_blind (D : va_G) (cA : Nat → ClassId) (ad : Nat → Nat) (h0 : Nat) (as : List Value) (X : mHX) : FrameBlind (mPc D cA ad h0 as X) := by
  intro a U g mk h
  obtain ⟨h1, h2, h3⟩ := h
  exact ⟨h1, h2, h3.warm (U := U.calling g mk a) (State.WarmedH.refl U)⟩
/-- a word that is in the list and good holds everywhere that the tables reach -/
theorem mT_good : ∀ w ∈ mT, goodWord w = true := fun w h => (List.mem_filter.mp h).2
theorem mT_pay {s : State} {args : Array Value} (hts : ∀ w ∈ mT, w.before args s = true) : ∀ w ∈ mT, ∀ (a' : Array Value) (U : State), s.WarmedH U.vm → w.before a' U = true :=
  fun w hw a' U hW => word_at hW (good_of_word (mT_good w hw)) (hts w hw)
theorem mWs_pay {s : State} {args : Array Value} {M : mRec} (hts : ∀ w ∈ mT, w.before args s = true) (hc : (if mrH M = [] then Cond.code (mrN M) (mrB M) (mrL M) (mrR M) else Cond.codeWith (mrN M) (mrB M) (mrL M) (mrR M) (mrH M)) ∈ mT) : ∀ w ∈ mWs M, ∀ (a' : Array Value) (U : State), s.WarmedH U.vm → w.before a' U = true := by
  intro w hw
  rcases List.mem_cons.mp hw with rfl | hw
  · exact mT_pay hts _ hc
  · exact mT_pay hts w hw
