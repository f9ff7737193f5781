/-! ===== 'throw new E(text)' where the first constructor's link has the index 13 ===== -/
def w13_six : ByteArray := ⟨#[0x2a, 0x2b, 0xb7, 0x00, 0x0d, 0xb1]⟩
theorem w13_six_0 : decode w13_six 0 = .ok (.aload_n 0, 1) := by decide +kernel
theorem w13_six_1 : decode w13_six 1 = .ok (.aload_n 1, 1) := by decide +kernel
theorem w13_six_2 : decode w13_six 2 = .ok (.invokespecial 13, 3) := by decide +kernel
theorem w13_six_5 : decode w13_six 5 = .ok (.return_, 1) := by decide +kernel
/-- the class above X: the next name, or Throwable -/
def w13_up (names : List String) : String := names.headD Bundle.tN
/-- what is asked of the names behind the first -/
def w13_on (names : List String) : List Cond := match names with
  | [] => []
  | Y :: r => Bundle.chainSAtoms Y r
/-- what is asked of all constructors on the way up -/
def w13_cs (X : String) (names : List String) : List Cond := Bundle.passSAtoms X (w13_up names) 13 w13_six ++ w13_on names
/-- the library's list, from behind its own chain on -/
def w13_tail (own : String) (ic : Nat) (X : String) : List Cond :=
  (Bundle.ownAtoms own ic X []).drop (Bundle.throwableAtoms.length + Bundle.throwableSAtoms.length + (Bundle.chainSAtoms X []).length)
def w13_own (own : String) (ic : Nat) (X : String) (names : List String) : List Cond :=
  Bundle.throwableAtoms ++ Bundle.throwableSAtoms ++ w13_cs X names ++ w13_tail own ic X
def w13_atS (own : String) (ic : Nat) (X : String) (names : List String) : List Cond := (w13_own own ic X names).filter vx_no
theorem w13_in {own X : String} {ic : Nat} {names : List String} {w : Cond} (i : Nat) (h : (w13_tail own ic X)[i]? = some w) : w ∈ w13_own own ic X names :=
  List.mem_append_right _ (List.mem_of_getElem? h)
theorem w13_inT {own X : String} {ic : Nat} {names : List String} {w : Cond} (h : w ∈ Bundle.throwableAtoms) : w ∈ w13_own own ic X names :=
  List.mem_append_left _ (List.mem_append_left _ (List.mem_append_left _ h))
theorem w13_inM {own X : String} {ic : Nat} {names : List String} {w : Cond} (h : w ∈ Bundle.throwableSAtoms) : w ∈ w13_own own ic X names :=
  List.mem_append_left _ (List.mem_append_left _ (List.mem_append_right _ h))
theorem w13_inC {own X : String} {ic : Nat} {names : List String} {w : Cond} (h : w ∈ w13_cs X names) : w ∈ w13_own own ic X names :=
  List.mem_append_left _ (List.mem_append_right _ h)

/-- the constructors on the way up, as a list of links: the first and those behind it -/
def w13_Way (pl : Platform) (s : State) (top : MethodId) (X : String) (n : Nat) (Ps : List PassC) : Prop :=
  Ps.length = n ∧ (∀ P ∈ Ps, P.LinksS pl s) ∧ PassesOn top (Ps.map (·.toPassT)) ∧ s.methodNamed? (Bundle.initS X) = some (firstOf top (Ps.map (·.toPassT)))
theorem w13_on_way {args : Array Value} {s : State} {pl : Platform} {top : MethodId} (hpl : pl.magicAccessors = ({} : Platform).magicAccessors) (htop : s.methodNamed? (Bundle.initS Bundle.tN) = some top) {names : List String}
    (hn : ∀ n ∈ names, Bundle.fit n = true) (h : ∀ w ∈ w13_on names, w.before args s = true) : ∃ Ps, w13_Way pl s top (w13_up names) names.length Ps := by
  match names, hn, h with
  | [], _, _ => exact ⟨[], rfl, (fun _ hP => nomatch hP), trivial, htop⟩
  | Y :: r, hn, h =>
    obtain ⟨P, Ps, k1, k2, k3, k4, k5, k6⟩ := Bundle.chainS hpl htop r Y (hn Y (.head _)) (fun n q => hn n (.tail _ q)) h
    exact ⟨P :: Ps, congrArg (· + 1) k1, List.forall_mem_cons.mpr ⟨k2, k3⟩, ⟨k5, k6⟩, k4⟩
theorem w13_up_ok {names : List String} (hn : ∀ n ∈ names, Bundle.fit n = true) : w13_up names ≠ "java/lang/invoke/MethodHandle" ∧ w13_up names ≠ "java/lang/invoke/VarHandle" := by
  cases names with
  | nil => exact by decide
  | cons Y r => exact (Bundle.fit_spec (hn Y (.head _))).2
theorem w13_way {args : Array Value} {s : State} {pl : Platform} {top : MethodId} (hpl : pl.magicAccessors = ({} : Platform).magicAccessors) (htop : s.methodNamed? (Bundle.initS Bundle.tN) = some top) {names : List String} {X : String}
    (hX : Bundle.fit X = true) (hn : ∀ n ∈ names, Bundle.fit n = true) (h : ∀ w ∈ w13_cs X names, w.before args s = true) : ∃ P Ps, w13_Way pl s top X (names.length + 1) (P :: Ps) := by
  obtain ⟨Ps, k1, k2, k3, k4⟩ := w13_on_way hpl htop hn (fun w q => h w (List.mem_append_right _ q))
  obtain ⟨P, j1, j2, j3⟩ := PassC.ofS_atoms hpl (Bundle.fit_spec hX).1 (w13_up_ok hn) w13_six_0 w13_six_1 w13_six_2 w13_six_5 (fun w q => h w (List.mem_append_left _ q))
  exact ⟨P, Ps, congrArg (· + 1) k1, List.forall_mem_cons.mpr ⟨j1, k2⟩, ⟨Option.some.inj (j3.symm.trans k4), k3⟩, j2⟩

/-- a field of the objects of a class -/
def w13_F (s : State) (cX : ClassId) (kX : Class) (f : Field) : Prop := kX.instanceTypes[f.slot]? = some f.type ∧ ∃ d, Jmm.declares? s.vm f.slot (cX + 1) cX = some d ∧ d.2.name = f.name
theorem w13_apart {s : State} {cX : ClassId} {kX : Class} {f g : Field} {a b : String} (hf : w13_F s cX kX f) (hg : w13_F s cX kX g) (ha : f.name = a) (hb : g.name = b) (hab : a ≠ b) : f.slot ≠ g.slot := by
  obtain ⟨-, d1, h1, h2⟩ := hf
  obtain ⟨-, d2, h3, h4⟩ := hg
  exact Cond.laysApart h1 h3 h2 h4 (by rw [ha, hb]; exact hab)
/-- what no one has written is still there -/
theorem w13_set {x : Cell} {i j : Nat} {v w : Value} (hij : i ≠ j) (h : x.slots[i]? = some w) : (x.setSlot j v).slots[i]? = some w := by
  show (x.slots.setIfInBounds j v)[i]? = some w
  rw [Array.getElem?_setIfInBounds_ne (Ne.symm hij)]
  exact h
/-- the class itself has the method: it is the one that is chosen -/
theorem w13_sel {l : Launch} {e : Env} {s : State} {args : Array Value} {cls : String} {cX : ClassId} {x : MethodName} {mm : MethodId} (hA : l.admits e) (hc : s.vm.findClass cls = some cX) (hx : s.methodNamed? x = some mm)
    (hn : x.cls ≠ "java/lang/invoke/MethodHandle" ∧ x.cls ≠ "java/lang/invoke/VarHandle") (h : (Cond.selects cls x x).before args s = true) : selectMethod e.platform s.vm cX mm = .method mm := by
  obtain ⟨c1, r1, m1, h1, h2, h3, h4, -⟩ := Cond.selects_spec h
  have e1 : c1 = cX := Option.some.inj (h1.symm.trans hc)
  have e2 : r1 = mm := Option.some.inj (h2.symm.trans (State.methodFound?_of_named hx hn))
  have e3 : m1 = mm := Option.some.inj (h3.symm.trans hx)
  rw [e1, e2, e3] at h4
  exact (Launch.admits_selectMethod hA _ _ _).trans h4

section W13
variable {p : Program} {l : Launch} {e : Env} {R : Room} {s : State} {m : MethodId} {args : Array Value} {below : List Frame} {meth : Method} {c : Code} {T' : State} {cells slots : Nat}

/-- Throwable's two statics, as they are now: nothing old has changed -/
theorem w13_now (X : Stand p l e R s m args below meth c T' [] cells slots) {T : ThrowableC} {Z : Init0T} (L : T.Links e.platform s) (Y : Bundle.Ties T Z s)
    (hU : (Cond.isRef (.static Bundle.tN "UNASSIGNED_STACK" Bundle.steD)).before args s = true) (hN : (Cond.isRef (.static Bundle.tN "SUPPRESSED_SENTINEL" Bundle.listD)).before args s = true) :
    ∃ (cS : Cell) (u v : RefV), T'.heap[T.aS]? = some cS ∧ T.aS < s.heap.size ∧ cS.vm ≠ .unknown ∧ cS.slots[T.fUnassigned.slot]? = some u.v ∧ cS.slots[T.fSentinel.slot]? = some v.v := by
  obtain ⟨c0, h0, hi⟩ := Y.statics
  obtain ⟨u, hu⟩ := Cond.staticRefV Y.unassigned L.unassignedStatic L.statics h0 hi hU
  obtain ⟨v, hv⟩ := Cond.staticRefV Y.sentinel L.sentinelStatic L.statics h0 hi hN
  obtain ⟨-, -, -, -, -, hold⟩ := X.same
  obtain ⟨cS, h1, h2, -, h3⟩ := hold _ _ h0
  refine ⟨cS, u, v, h1, (Array.getElem?_eq_some_iff.mp h0).1, fun q => ?_, (h3 _ (fun z => nomatch z)).trans hu, (h3 _ (fun z => nomatch z)).trans hv⟩
  have h4 : cS.vm = c0.vm := by rw [h2]
  rw [← h4, q] at hi
  exact Bool.noConfusion hi

set_option maxHeartbeats 1000000 in
/-- 'new E' has been done: its constructor's call, from the call to behind it -/
theorem w13_made (X : Stand p l e R s m args below meth c T' [] cells slots) (hexec : p.tables.exec = Jvm.exec) (htr : e.platform.stackTraces = false) {own cls : String} {names : List String} {ic : Nat}
    (hown : s.vm.findClass own = some m.cls) (hcls : Bundle.fit cls = true) (hnames : ∀ n ∈ names, Bundle.fit n = true) (h : ∀ w ∈ w13_own own ic cls names, w.before args s = true)
    {a : Addr} {cX : ClassId} {kX : Class} (hc : s.vm.findClass cls = some cX) (hk : s.vm.classes[cX]? = some kX) (hcell : T'.heap[a]? = some (freshCell cX kX)) (hnew : s.heap.size ≤ a)
    {msg : Value} (hmsg : msg.isRef = true) {g : JFrame} (hg : g.method = m) (hsize : g.locals.size = c.maxLocals) {rest : List Value} (hstack : g.stack = msg :: .ref a :: rest) (hd : decode c.code g.pc = .ok (.invokespecial ic, 3))
    (hRf : names.length + 3 < R.frames) (hRl : 2 * g.monitorRoom + (rest.map fun v => v.category).sum + (13 * (names.length + 1) + 42) ≤ R.locals) :
    ∃ (vm' : Vm) (ce : Cell) (new : List Loc), Stand p l e R s m args below meth c ((T'.setVm vm').setCell a ce) new cells slots ∧ ce.cls = cX ∧ ce.vm = .none ∧ (∀ z ∈ new, z.base = a) ∧
      ∀ t, Steps p.tables e below (((T'.setVm vm').setCell a ce).setTop { g with stack := rest, pc := g.pc + 3 }) t → Steps p.tables e below (T'.setTop g) t := by
  have hpl : e.platform.magicAccessors = ({} : Platform).magicAccessors := by rw [X.admits.platform]
  obtain ⟨T, Z0, L, -, Y⟩ := ThrowableC.of_atoms (args := args) (by rw [X.admits.platform]) (by rw [X.admits.platform]) hpl (fun w q => h w (w13_inT q))
  obtain ⟨Z, M, LZ, LM, htop⟩ := Init0T.ofS_atoms (args := args) hpl L Y (fun w q => h w (w13_inM q))
  obtain ⟨P, Ps, hlen, hLs, hon, hfirst⟩ := w13_way (args := args) hpl htop hcls hnames (fun w q => h w (w13_inC q))
  obtain ⟨cS, u, v, hcS, hltS, hknS, hu, hv⟩ := w13_now X L Y (h _ (w13_in 9 rfl)) (h _ (w13_in 10 rfl))
  obtain ⟨cX', kX', hc', hk', hord, -⟩ := Cond.instantiable_spec (h _ (w13_in 1 rfl))
  have ec : cX' = cX := Option.some.inj (hc'.symm.trans hc)
  subst ec
  have ek : kX' = kX := Option.some.inj (hk'.symm.trans hk)
  subst ek
  obtain ⟨ci, i, fB, b1, b2, b3, b4, -, hnB, htB, hfB⟩ := Cond.ownField (t := .object "java/lang/Object") Y.found L.cls (by decide +kernel) (h _ (w13_in 11 rfl)) (h _ (w13_in 12 rfl)) e.platform hpl
  obtain ⟨iM, hfM⟩ := Y.msg
  have FC : w13_F s cX' kX' T.fCause := Cond.laysAt hc hk Y.cause (h _ (w13_in 5 rfl))
  have FS : w13_F s cX' kX' T.fStack := Cond.laysAt hc hk Y.stack (h _ (w13_in 6 rfl))
  have FP : w13_F s cX' kX' T.fSupp := Cond.laysAt hc hk Y.supp (h _ (w13_in 7 rfl))
  have FM : w13_F s cX' kX' T.fMsg := Cond.laysAt hc hk hfM (h _ (w13_in 8 rfl))
  have FB : w13_F s cX' kX' fB := Cond.laysAt hc hk hfB (h _ (w13_in 13 rfl))
  have hnull : (freshCell cX' kX').slots[fB.slot]? = some .null := by
    rw [fresh_default FB.1, htB]; rfl
  have hskip : SkipFacts T e.platform s (fun q => q) u ((preparedCellV T.toThrowableT (freshCell cX' kX') a u v).withEntry T'.cur) :=
    ⟨⟨ci, i, fB⟩, ⟨b1, b2, b3, b4⟩, w13_set (w13_apart FB FP hnB Y.suppName (by decide)) (w13_set (w13_apart FB FS hnB Y.stackName (by decide)) (w13_set (w13_apart FB FC hnB Y.causeName (by decide)) hnull)), fun _ _ => rfl⟩
  obtain ⟨tm, _, _, _, vm₁, hn1, -, -, -, -, -, -, -, hW1, st1⟩ := Steps.initColdS (tb := p.tables) (e := e) (below := below) (s := s) (U := T') X.here hexec X.warmed hpl hown (t := Bundle.initS cls) rfl rfl (Bundle.fit_spec hcls).2
    (h _ (w13_in 0 rfl)) (h (.instanceMethod (Bundle.initS cls)) (w13_inC (.head _))) (bytes := w13_six) (maxL := 2) (h (.code (Bundle.initS cls) w13_six 2 none) (w13_inC (.tail _ (.head _)))) (f := g) hg (a := a) (msg := msg) (rest := rest) hstack hd
  have et : tm = firstOf (Z.m T.toThrowableT) ((P :: Ps).map (·.toPassT)) := Option.some.inj (hn1.symm.trans hfirst)
  obtain ⟨vm₂, X2, st2⟩ := (X.noted hW1).ctorMessageOffV hexec (g := { g with stack := rest }) hg hsize T L Z LZ M LM (P :: Ps) hLs hon (u0 := u) (sen := v) (self := a) hmsg (cell := freshCell cX' kX') (cellS := cS) hcell
    (fun _ q => nomatch q) (fun q => nomatch q) rfl rfl (w13_sel X.admits hc Y.fill0 (by decide) (h _ (w13_in 3 rfl))) (w13_sel X.admits hc Y.fill (by decide) (h _ (w13_in 4 rfl)))
    hcS (fun q => absurd hnew (by rw [← q]; exact Nat.not_le.mpr hltS)) hknS hu hv (Takes.of_laid hk hord FC.1 (by rw [Y.causeType]; rfl)) (Takes.of_laid hk hord FS.1 (by rw [Y.stackType]; exact fits_refV_array _ u))
    (Takes.of_laid hk hord FP.1 (by rw [Y.suppType]; exact fits_refV_object _ v)) (Takes.of_laid hk hord FM.1 (by rw [Y.msgType]; exact fits_refV_object _ ⟨msg, hmsg⟩)) Y.objLocals hskip htr [] hd
    (by rw [hlen]; omega) (by rw [hlen]; exact hRl)
  refine ⟨vm₂, _, _, X2, rfl, rfl, fun z hz => ?_, fun t ht => st1 t fun acts => ?_⟩
  · simp only [List.nil_append, List.mem_cons, List.not_mem_nil, or_false] at hz
    rcases hz with q | q | q | q | q <;> rw [q]
  · rw [et, doInvoke_state]
    exact st2 t ht
end W13

section W13b
variable {p : Program} {l : Launch} {e : Env} {R : Room} {s : State} {m : MethodId} {args : Array Value} {below : List Frame} {meth : Method} {c : Code} {H : Heap} {locs : List Loc} {cells slots : Nat}
variable {free : Addr → Prop} {ls : Array Slot} {rest : List Value}
variable {Qc : Array Value → State → Outcome → State → Prop} {XC : String → State → State → Prop}

/-- the text is loaded by an index of one byte or of two -/
def w13_ld (cc : ByteArray) (pc is n : Nat) : Prop := (decode cc pc = .ok (.ldc is, 2) ∧ n = 2) ∨ (decode cc pc = .ok (.ldc_w is, 3) ∧ n = 3)
theorem w13_text {T : State} {n : Nat} (X : Stand p l e R s m args below meth c T locs cells slots) (hexec : p.tables.exec = Jvm.exec) {own text : String} {is : Nat} {sa : Addr} (hown : s.vm.findClass own = some m.cls) (hstr : vk_R own is text sa s)
    {g : JFrame} (hg : g.method = m) (hd : w13_ld c.code g.pc is n) {t : State} (k : Steps p.tables e below (T.setTop { g with pc := g.pc + n, stack := .ref sa :: g.stack }) t) : Steps p.tables e below (T.setTop g) t := by
  rcases hd with ⟨d, q⟩ | ⟨d, q⟩ <;> subst q
  · exact X.ldcString hexec hown hstr.1 hstr.2 hg d t k
  · exact X.ldcStringW hexec hown hstr.1 hstr.2 hg d t k

/-- both widths: from 'new' to the end of the method -/
theorem w13_go {cc : ByteArray} {pc n : Nat} (hexec : p.tables.exec = Jvm.exec) (hb : c.code = cc) (hl : l.stackTraces = false) {own cls text : String} {names : List String} {ik is ic mc ms sa : Nat} {A : Nat → Prop}
    (hown : s.vm.findClass own = some m.cls) (hcls : Bundle.fit cls = true) (hnames : ∀ n ∈ names, Bundle.fit n = true)
    (hk : (Cond.classLink own ik cls).before args s = true) (hini : (Cond.initialized cls).before args s = true) (hstr : vk_R own is text sa s) (hat : ∀ w ∈ w13_atS own ic cls names, w.before args s = true)
    (hgood : ∀ w ∈ Cond.classLink own ik cls :: Cond.initialized cls :: w13_atS own ic cls names, vx_ot w = true)
    (hU : vx_Zq Bundle.tN "UNASSIGNED_STACK" Bundle.steD A s s.heap) (hN : vx_Zq Bundle.tN "SUPPRESSED_SENTINEL" Bundle.listD A s s.heap) (hS : va_S A s.heap H locs) (hsize : ls.size = c.maxLocals)
    (d0 : decode cc pc = .ok (.new ik, 3)) (d3 : decode cc (pc + 3) = .ok (.dup, 1)) (d4 : w13_ld cc (pc + 4) is n) (di : decode cc (pc + 4 + n) = .ok (.invokespecial ic, 3)) (dt : decode cc (pc + 4 + n + 3) = .ok (.athrow, 1))
    (hout : ∀ x ∈ c.exceptionTable.toList, covers x (pc + 4 + n + 3) = false)
    (hRf : names.length + 3 < R.frames) (hRl : (rest.map fun v => v.category).sum + (13 * (names.length + 1) + 43) ≤ R.locals) (hRc : cells + 1 ≤ R.cells) (hRs : slots + 6 ≤ R.slots) (hlocks : meth.locks = false)
    (hx : ∀ t : State, s.vm.Alike t.vm → H.size ≤ t.heap.size → (∀ q : Nat, q < H.size → t.heap[q]? = H[q]?) → XC cls s t)
    (hf : ∀ z ∈ locs, free z.base) (hc : cells + 1 ≤ mc) (hs : slots + 6 ≤ ms) :
    W p l e R s m args below meth c H locs cells slots (vx_MQ below Qc XC args s mc ms free) (F0 m pc ls rest) := by
  subst hb
  intro T hT X
  have htr : e.platform.stackTraces = false := by rw [X.admits.platform]; exact hl
  have X0 := vx_rebase X (R' := { R with cells := 1, slots := 6 }) (Nat.le_refl _) (Nat.le_refl _) hRc hRs
  obtain ⟨b, hbb⟩ : ∃ b, b = (T.setVm s.vm).setFrames (.invoking m args :: below) := ⟨_, rfl⟩
  rw [← hbb] at X0
  have hvm : b.vm = s.vm := by rw [hbb]; rfl
  have hbh : b.heap = H := by rw [hbb]; exact hT
  have hW0 : s.WarmedH b.vm := by rw [hvm]; exact State.WarmedH.refl s
  have now : ∀ w, w ∈ Cond.classLink own ik cls :: Cond.initialized cls :: w13_atS own ic cls names → w.before args s = true → w.before args b = true := fun w q => vx_ot_at hW0 hvm.symm (hgood w q)
  have hU0 : vx_Zq Bundle.tN "UNASSIGNED_STACK" Bundle.steD A b b.heap := by rw [hbh]; exact vx_Zq.moved hW0.alike (hU.kept hS.2.1)
  have hN0 : vx_Zq Bundle.tN "SUPPRESSED_SENTINEL" Bundle.listD A b b.heap := by rw [hbh]; exact vx_Zq.moved hW0.alike (hN.kept hS.2.1)
  have hall : ∀ w ∈ w13_own own ic cls names, w.before args b = true := vx_own (fun w q => now w (.tail _ (.tail _ q)) (hat w q)) (vx_isRefq hU0.1) (vx_isRefq hN0.1) hU0.2.word hN0.2.word
  have hown0 : b.vm.findClass own = some m.cls := by rw [hvm]; exact hown
  obtain ⟨vm₁, cX, kX, hcX, hkX, -, -, X1, st1⟩ := X0.newCold hexec (own := own) (C := cls) (index := ik) (n := 6) hown0 (now _ (.head _) hk) (hall _ (w13_in 1 rfl)) (now _ (.tail _ (.head _)) hini) (g := F0 m pc ls rest) rfl d0 (Nat.le_refl _) (Nat.le_refl _)
  have hcell : ((T.setVm vm₁).pushCell (freshCell cX kX)).heap[T.heap.size]? = some (freshCell cX kX) := State.heap_pushCell_size _ _
  generalize (T.setVm vm₁).pushCell (freshCell cX kX) = T1 at X1 st1 hcell
  obtain ⟨vm₂, ce, new, X2, hce1, hce2, hz, st2⟩ := w13_made X1 hexec htr hown0 hcls hnames hall hcX hkX hcell (by rw [hbh, hT]; exact Nat.le_refl _) (msg := .ref sa) rfl
    (g := { method := m, pc := pc + 4 + n, locals := ls, stack := .ref sa :: .ref T.heap.size :: .ref T.heap.size :: rest, locked := none }) rfl hsize (rest := .ref T.heap.size :: rest) rfl di hRf
    (by simp only [List.map_cons, List.sum_cons, show (Value.ref T.heap.size).category = 1 from rfl]; exact Nat.le_trans (by omega) hRl)
  obtain ⟨st3, hrun, hend, hW, hsame⟩ := X2.athrowLeaves hexec (g := { method := m, pc := pc + 4 + n + 3, locals := ls, stack := .ref T.heap.size :: rest, locked := none }) rfl rfl rfl hout (a := T.heap.size) (rest := rest) rfl dt hlocks
  have hsame0 := hsame.weaken (l' := []) (fun y hy q => absurd q (by rw [hz y hy, hbh, hT]; exact Nat.lt_irrefl _)) (Nat.le_refl _) (Nat.le_refl _)
  obtain ⟨f1, f2⟩ := vx_frame hsame0
  rw [hbh] at f1 f2
  have hWs : s.WarmedH _ := State.WarmedH.trans hW0 hW
  have hlt : T.heap.size < (T1.setVm vm₂).heap.size := (Array.getElem?_eq_some_iff.mp hcell).1
  have hst : s.sameButNew ({ ((T1.setVm vm₂).setCell T.heap.size ce).setFrames (.throwing T.heap.size :: below) with vm := s.vm } : State) locs mc ms := by
    subst hbb
    obtain ⟨e1, e2⟩ := hsame0
    rw [State.setFrames_setFrames] at e1
    have h3 := X.same.trans (l2 := []) ⟨e1, e2⟩
    rw [List.append_nil] at h3
    exact h3.mono hc hs
  refine ⟨_, ?_, .threw T.heap.size, hrun, hend, Or.inr ⟨T.heap.size, rfl, cls, ce, locs, hx _ hWs.alike f1 (fun q hq => f2 q hq (fun z hz => nomatch hz)), heapAt_setCell_self ce hlt, hce2, by rw [hce1, ← hvm]; exact hcX, hWs, hst, hf⟩⟩
  refine st1 _ ?_
  show Steps p.tables e below (T1.setTop { method := m, pc := pc + 3, locals := ls, stack := .ref T.heap.size :: rest, locked := none }) _
  jvm_step X1.here [X1.here.top, hexec, d3, Value.category]
  refine w13_text X1 hexec hown0 (vk_R.warm hW0 hstr) (g := { method := m, pc := pc + 4, locals := ls, stack := .ref T.heap.size :: .ref T.heap.size :: rest, locked := none }) rfl d4 ?_
  exact st2 _ st3

theorem w13_throwS {cc : ByteArray} {pc : Nat} (hexec : p.tables.exec = Jvm.exec) (hb : c.code = cc) (hl : l.stackTraces = false) {own cls text : String} {names : List String} {ik is ic mc ms sa : Nat} {A : Nat → Prop}
    (hown : s.vm.findClass own = some m.cls) (hcls : Bundle.fit cls = true) (hnames : ∀ n ∈ names, Bundle.fit n = true)
    (hk : (Cond.classLink own ik cls).before args s = true) (hini : (Cond.initialized cls).before args s = true) (hstr : vk_R own is text sa s) (hat : ∀ w ∈ w13_atS own ic cls names, w.before args s = true)
    (hgood : ∀ w ∈ Cond.classLink own ik cls :: Cond.initialized cls :: w13_atS own ic cls names, vx_ot w = true)
    (hU : vx_Zq Bundle.tN "UNASSIGNED_STACK" Bundle.steD A s s.heap) (hN : vx_Zq Bundle.tN "SUPPRESSED_SENTINEL" Bundle.listD A s s.heap) (hS : va_S A s.heap H locs) (hsize : ls.size = c.maxLocals)
    (d0 : decode cc pc = .ok (.new ik, 3)) (d3 : decode cc (pc + 3) = .ok (.dup, 1)) (d4 : decode cc (pc + 4) = .ok (.ldc is, 2)) (d6 : decode cc (pc + 6) = .ok (.invokespecial ic, 3)) (d9 : decode cc (pc + 9) = .ok (.athrow, 1))
    (hout : ∀ x ∈ c.exceptionTable.toList, covers x (pc + 9) = false)
    (hRf : names.length + 3 < R.frames) (hRl : (rest.map fun v => v.category).sum + (13 * (names.length + 1) + 43) ≤ R.locals) (hRc : cells + 1 ≤ R.cells) (hRs : slots + 6 ≤ R.slots) (hlocks : meth.locks = false)
    (hx : ∀ t : State, s.vm.Alike t.vm → H.size ≤ t.heap.size → (∀ q : Nat, q < H.size → t.heap[q]? = H[q]?) → XC cls s t)
    (hf : ∀ z ∈ locs, free z.base) (hc : cells + 1 ≤ mc) (hs : slots + 6 ≤ ms) :
    W p l e R s m args below meth c H locs cells slots (vx_MQ below Qc XC args s mc ms free) (F0 m pc ls rest) :=
  w13_go (n := 2) hexec hb hl hown hcls hnames hk hini hstr hat hgood hU hN hS hsize d0 d3 (Or.inl ⟨d4, rfl⟩) d6 d9 hout hRf hRl hRc hRs hlocks hx hf hc hs
theorem w13_throwSW {cc : ByteArray} {pc : Nat} (hexec : p.tables.exec = Jvm.exec) (hb : c.code = cc) (hl : l.stackTraces = false) {own cls text : String} {names : List String} {ik is ic mc ms sa : Nat} {A : Nat → Prop}
    (hown : s.vm.findClass own = some m.cls) (hcls : Bundle.fit cls = true) (hnames : ∀ n ∈ names, Bundle.fit n = true)
    (hk : (Cond.classLink own ik cls).before args s = true) (hini : (Cond.initialized cls).before args s = true) (hstr : vk_R own is text sa s) (hat : ∀ w ∈ w13_atS own ic cls names, w.before args s = true)
    (hgood : ∀ w ∈ Cond.classLink own ik cls :: Cond.initialized cls :: w13_atS own ic cls names, vx_ot w = true)
    (hU : vx_Zq Bundle.tN "UNASSIGNED_STACK" Bundle.steD A s s.heap) (hN : vx_Zq Bundle.tN "SUPPRESSED_SENTINEL" Bundle.listD A s s.heap) (hS : va_S A s.heap H locs) (hsize : ls.size = c.maxLocals)
    (d0 : decode cc pc = .ok (.new ik, 3)) (d3 : decode cc (pc + 3) = .ok (.dup, 1)) (d4 : decode cc (pc + 4) = .ok (.ldc_w is, 3)) (d7 : decode cc (pc + 7) = .ok (.invokespecial ic, 3)) (d10 : decode cc (pc + 10) = .ok (.athrow, 1))
    (hout : ∀ x ∈ c.exceptionTable.toList, covers x (pc + 10) = false)
    (hRf : names.length + 3 < R.frames) (hRl : (rest.map fun v => v.category).sum + (13 * (names.length + 1) + 43) ≤ R.locals) (hRc : cells + 1 ≤ R.cells) (hRs : slots + 6 ≤ R.slots) (hlocks : meth.locks = false)
    (hx : ∀ t : State, s.vm.Alike t.vm → H.size ≤ t.heap.size → (∀ q : Nat, q < H.size → t.heap[q]? = H[q]?) → XC cls s t)
    (hf : ∀ z ∈ locs, free z.base) (hc : cells + 1 ≤ mc) (hs : slots + 6 ≤ ms) :
    W p l e R s m args below meth c H locs cells slots (vx_MQ below Qc XC args s mc ms free) (F0 m pc ls rest) :=
  w13_go (n := 3) hexec hb hl hown hcls hnames hk hini hstr hat hgood hU hN hS hsize d0 d3 (Or.inr ⟨d4, rfl⟩) d7 d10 hout hRf hRl hRc hRs hlocks hx hf hc hs
end W13b
