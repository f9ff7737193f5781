/-! ===== calls ===== -/
def mOkC0 (M' : mRec) (n : Nat) : Prop := Cond.initialized (mrN M').cls ∈ lw_tbl ∧ ((mrN M').cls ≠ "java/lang/invoke/MethodHandle" ∧ (mrN M').cls ≠ "java/lang/invoke/VarHandle") ∧ (parseMethodDescriptor (mrN M').desc).map (fun d => d.parameters.length) = some n ∧ mrL M' ≤ 100 ∧
  (if mrH M' = [] then Cond.code (mrN M') (mrB M') (mrL M') (mrR M') else Cond.codeWith (mrN M') (mrB M') (mrL M') (mrR M') (mrH M')) ∈ lw_tbl
def mOkI (M : mRec) (i : Instr) (rs : List Nat) (M' : mRec) : Prop := match i with
  | .invokevirtual idx => mOkC0 M' (rs.getD 2 0) ∧ mrH M' = [] ∧ Cond.instanceMethod (mrN M') ∈ lw_tbl ∧ (rs.getD 0 0 = 0 → Cond.methodLink (mrN M).cls idx (mrN M') ∈ lw_tbl ∧ Cond.selects (mrN M').cls (mrN M') (mrN M') ∈ lw_tbl ∧ ∃ q : vw_C, mCl[rs.getD 3 0]? = some q ∧ q.1 = (mrN M').cls) ∧
    (rs.getD 0 0 = 5 → Cond.methodLink (mrN M).cls idx (mrN M') ∈ lw_tbl ∧ Cond.selects (mrN M').cls (mrN M') (mrN M') ∈ lw_tbl ∧ oCn (rs.getD 3 0) = (mrN M').cls) ∧
    (rs.getD 0 0 = 6 → Cond.methodLink (mrN M).cls idx oOrd ∈ lw_tbl ∧ Cond.sameMethod oOrd.cls (mrN M').cls oOrd.name oOrd.desc ∈ lw_tbl ∧ Cond.selects "LaneEyes$Word" oOrd (mrN M') ∈ lw_tbl ∧ mrN M' = ⟨(mrN M').cls, oOrd.name, oOrd.desc⟩ ∧ rs.getD 2 0 = 0)
  | .invokestatic idx => mOkC0 M' (rs.getD 2 0) ∧ Cond.static (mrN M') ∈ lw_tbl ∧ (rs.getD 0 0 = 1 → Cond.methodLink (mrN M).cls idx (mrN M') ∈ lw_tbl) ∧ (rs.getD 0 0 = 2 → mrH M' = [] ∧ ∃ host : String, ((mrN M).cls, idx, mrN M', host) ∈ mNest)
  | .invokespecial idx => mOkC0 M' (rs.getD 2 0) ∧ mrH M' = [] ∧ mrR M' = none ∧ (mrN M').name = "<init>" ∧ Cond.instanceMethod (mrN M') ∈ lw_tbl ∧ (rs.getD 0 0 = 3 → Cond.methodLink (mrN M).cls idx (mrN M') ∈ lw_tbl) ∧ (rs.getD 0 0 = 4 → ∃ host : String, ((mrN M).cls, idx, mrN M', host) ∈ mNest)
  | _ => True
theorem mCode_good (M : mRec) : goodWord (if mrH M = [] then Cond.code (mrN M) (mrB M) (mrL M) (mrR M) else Cond.codeWith (mrN M) (mrB M) (mrL M) (mrR M) (mrH M)) = true := by split <;> rfl
theorem mMet_ret {l : Launch} {D : va_G} {cA : Nat → ClassId} {ad : Nat → Nat} {h0 d : Nat} {M : mRec} {as : List Value} {X : mHX} {r : mRes} {v : Option Value} (hv : r.1 = .inl v) (h : mMet l D cA ad h0 d M as X r) :
    Met l (mrN M) (mWs M) (mRm d (mNc r.2 - mNc X) (mNs r.2 - mNs X)) (mPc D cA ad h0 as X) (mQc D cA ad h0 r) (mNc r.2 - mNc X) (mNs r.2 - mNs X) (mAA h0) := by
  intro p e ha hc hk s m args below hf happ hp hk2
  obtain ⟨n, o, h1, h2, h3, h4⟩ := h p e ha hc hk s m args below hf happ hp hk2
  refine ⟨n, o, h1, h2, h3, ?_⟩
  rcases h4 with h4 | ⟨q, -, E, ce, L, hx, -⟩
  · exact h4
  · have := hx.1
    rw [hv] at this
    cases this
section MSI
variable {p : Program} {l : Launch} {e : Env} {R : Room} {s : State} {m : MethodId} {args : Array Value} {below : List Frame} {meth : Method} {c : Code} {c0 s0 : Nat} {Q : State → Prop}
variable {pc d : Nat} {M M' : mRec} {D : va_G} {cA : Nat → ClassId} {ad : Nat → Nat} {h0 : Nat} {X : mHX} {lv : mLV} {st As rest : List Value} {r1 : mRes}
/-- behind a call -/
theorem mk_run {H : Heap} {locs : List Loc} {ls : Array Slot} {st0 : List Value} {a : Array Value} (hS : va_S (mAA h0) s.heap H locs) (hc0 : c0 ≤ mNc X) (hs0 : s0 ≤ mNs X) (hle : mLe X r1.2)
    (hr : vx_Run p l e R s m args below meth c H locs (mNc X - c0) (mNs X - s0) (mNc r1.2 - mNc X) (mNs r1.2 - mNs X) (F0 m pc ls st0) (rest.map (mTau ad)) (mQc D cA ad h0 r1 a) (mXC D cA ad h0 r1) (mAA h0)) (hl : lv_has ls (mrL M) (mTl ad lv))
    (ka : ∀ v : Option Value, r1.1 = .inl v → mKK p l e R s m args below meth c Q (mrL M) D cA ad h0 c0 s0 (pc + 3, lv, v.toList ++ rest, r1.2))
    (kx : ∀ E : String, r1.1 = .inr E → ∀ (H1 : Heap) (locs1 : List Loc) (q : Addr) (ce : Cell), mHR D cA ad h0 r1.2 H1 → va_S (mAA h0) s.heap H1 locs1 → H1[q]? = some ce → ce.vm = .none → s.vm.findClass E = some ce.cls → vx_W p l e R s m args below meth c H1 locs1 (mNc r1.2 - c0) (mNs r1.2 - s0) Q (F0 m pc ls (rest.map (mTau ad))) q) :
    W p l e R s m args below meth c H locs (mNc X - c0) (mNs X - s0) Q (F0 m pc ls st0) := by
  intro T hT Xs
  have e1 : mNc X - c0 + (mNc r1.2 - mNc X) = mNc r1.2 - c0 := by have := hle.1; omega
  have e2 : mNs X - s0 + (mNs r1.2 - mNs X) = mNs r1.2 - s0 := by have := hle.2; omega
  rcases hr T hT Xs with ⟨v, st₀, t, T', L, g0, X', hL, g1, g2, ⟨⟨v9, hv, ho⟩, hh, hF⟩, stp⟩ | ⟨q, st₀, t, T', L, E, ce, g0, X', hL, g1, g2, ⟨hv, hh, hF⟩, hce, hcv, hcl, stp⟩
  · cases ho
    obtain ⟨k1, k2, k3⟩ := vx_keep (A1 := mAA h0) g0 g1 hS (fun _ _ h => h) (fun _ h => h) hL hF
    rw [e1, e2] at X'
    rw [← g1] at hh
    have k9 := ka v9 hv T'.heap (locs ++ L) ls hh k3 hl
    have k10 : W p l e R s m args below meth c T'.heap (locs ++ L) (mNc r1.2 - c0) (mNs r1.2 - s0) Q (F0 m (pc + 3) ls ((v9.map (mTau ad)).toList ++ rest.map (mTau ad))) := by
      have e3 : (v9.toList ++ rest).map (mTau ad) = (v9.map (mTau ad)).toList ++ rest.map (mTau ad) := by cases v9 <;> simp
      rw [← e3]; exact k9
    obtain ⟨t2, a1, b1⟩ := k10 T' rfl X'
    exact ⟨t2, stp t2 a1, b1⟩
  · obtain ⟨k1, k2, k3⟩ := vx_keep (A1 := mAA h0) g0 g1 hS (fun _ _ h => h) (fun _ h => h) hL hF
    rw [e1, e2] at X'
    rw [← g1] at hh
    obtain ⟨t2, a1, b1⟩ := kx E hv T'.heap (locs ++ L) q ce hh k3 (by rw [g1]; exact hce) hcv hcl T' rfl X'
    exact ⟨t2, stp.trans a1, b1⟩
/-- .. of a callee that only returns -/
theorem mk_run2 {H : Heap} {locs : List Loc} {ls : Array Slot} {st0 : List Value} {a : Array Value} (hS : va_S (mAA h0) s.heap H locs) (hc0 : c0 ≤ mNc X) (hs0 : s0 ≤ mNs X) (hle : mLe X r1.2)
    (hr : va_Run p l e R s m args below meth c H locs (mNc X - c0) (mNs X - s0) (mNc r1.2 - mNc X) (mNs r1.2 - mNs X) (F0 m pc ls st0) (rest.map (mTau ad)) (mQc D cA ad h0 r1 a) (mAA h0)) (hl : lv_has ls (mrL M) (mTl ad lv))
    (ka : ∀ v : Option Value, r1.1 = .inl v → mKK p l e R s m args below meth c Q (mrL M) D cA ad h0 c0 s0 (pc + 3, lv, v.toList ++ rest, r1.2)) :
    W p l e R s m args below meth c H locs (mNc X - c0) (mNs X - s0) Q (F0 m pc ls st0) := by
  intro T hT Xs
  have e1 : mNc X - c0 + (mNc r1.2 - mNc X) = mNc r1.2 - c0 := by have := hle.1; omega
  have e2 : mNs X - s0 + (mNs r1.2 - mNs X) = mNs r1.2 - s0 := by have := hle.2; omega
  obtain ⟨v, st₀, t, T', L, g0, X', hL, g1, g2, ⟨⟨v9, hv, ho⟩, hh, hF⟩, stp⟩ := hr T hT Xs
  cases ho
  obtain ⟨k1, k2, k3⟩ := vx_keep (A1 := mAA h0) g0 g1 hS (fun _ _ h => h) (fun _ h => h) hL hF
  rw [e1, e2] at X'
  rw [← g1] at hh
  have k9 := ka v9 hv T'.heap (locs ++ L) ls hh k3 hl
  have k10 : W p l e R s m args below meth c T'.heap (locs ++ L) (mNc r1.2 - c0) (mNs r1.2 - s0) Q (F0 m (pc + 3) ls ((v9.map (mTau ad)).toList ++ rest.map (mTau ad))) := by
    have e3 : (v9.toList ++ rest).map (mTau ad) = (v9.map (mTau ad)).toList ++ rest.map (mTau ad) := by cases v9 <;> simp
    rw [← e3]; exact k9
  obtain ⟨t2, a1, b1⟩ := k10 T' rfl X'
  exact ⟨t2, stp t2 a1, b1⟩
theorem mPre_at {H : Heap} {locs : List Loc} (hG : mG D cA ad (mAA h0) s s.heap) (hH : mHR D cA ad h0 X H) (hS : va_S (mAA h0) s.heap H locs) : ∀ U : State, U.heap = H → s.WarmedH U.vm → mPc D cA ad h0 As X (As.map (mTau ad)).toArray U := by
  intro U hU hW
  refine ⟨rfl, by rw [hU]; exact hH, ?_⟩
  rw [hU]
  exact (hG.kept hS.2.1).warm hW
theorem mCallB {idx n : Nat} (hts : ∀ w ∈ mT, w.before args s = true) (hok : mOkC0 M' n) (hH' : mrH M' = []) (hRf : d + 7 ≤ R.frames) (hRl : 120 * (d + 2) ≤ R.locals) (mc ms : Nat) (hl : (Cond.methodLink (mrN M).cls idx (mrN M')).before args s = true) :
    CallB R s args (mrN M).cls idx (mrN M') (mrB M') (mrL M') (mrR M') (mWs M') (mRm d mc ms) mc ms n := by
  obtain ⟨w1, w2, w3, w4, w5⟩ := hok
  have hcw : (if mrH M' = [] then Cond.code (mrN M') (mrB M') (mrL M') (mrR M') else Cond.codeWith (mrN M') (mrB M') (mrL M') (mrR M') (mrH M')) = Cond.code (mrN M') (mrB M') (mrL M') (mrR M') := if_pos hH'
  have hm := mT_in w5 (mCode_good M')
  refine ⟨rfl, rfl, hRf, by show 8 + (mrL M' + 11) + 120 * (d + 1) ≤ _; omega, mWs_pay hts hm, by unfold mWs; rw [hcw]; exact List.mem_cons_self, by rw [← hcw]; exact hts _ hm, hts _ (mT_in w1 rfl), w2, fun sig h => ?_, hl⟩
  rw [h] at w3
  exact (Option.some.inj w3).symm
theorem mCallN {idx n : Nat} {host : String} (hts : ∀ w ∈ mT, w.before args s = true) (hok : mOkC0 M' n) (hH' : mrH M' = []) (hRf : d + 7 ≤ R.frames) (hRl : 120 * (d + 2) ≤ R.locals) (mc ms : Nat) (hl : va_Nw (.methodLinkNest (mrN M).cls idx (mrN M') host) s) :
    va_CN R s args (mrN M).cls idx (mrN M') host (mrB M') (mrL M') (mrR M') (mWs M') (mRm d mc ms) mc ms n := by
  obtain ⟨w1, w2, w3, w4, w5⟩ := hok
  have hcw : (if mrH M' = [] then Cond.code (mrN M') (mrB M') (mrL M') (mrR M') else Cond.codeWith (mrN M') (mrB M') (mrL M') (mrR M') (mrH M')) = Cond.code (mrN M') (mrB M') (mrL M') (mrR M') := if_pos hH'
  have hm := mT_in w5 (mCode_good M')
  refine ⟨⟨rfl, rfl, hRf, by show 8 + (mrL M' + 11) + 120 * (d + 1) ≤ _; omega, mWs_pay hts hm, by unfold mWs; rw [hcw]; exact List.mem_cons_self⟩, by rw [← hcw]; exact hts _ hm, hts _ (mT_in w1 rfl), w2, fun sig h => ?_, va_Nw.use rfl hl⟩
  rw [h] at w3
  exact (Option.some.inj w3).symm
theorem mCallX {idx n : Nat} (hts : ∀ w ∈ mT, w.before args s = true) (hok : mOkC0 M' n) (hH' : ¬ mrH M' = []) (hRf : d + 7 ≤ R.frames) (hRl : 120 * (d + 2) ≤ R.locals) (mc ms : Nat) (hl : (Cond.methodLink (mrN M).cls idx (mrN M')).before args s = true) (hst : (Cond.static (mrN M')).before args s = true) :
    vx_CSW R s args (mrN M).cls idx (mrN M') (mrB M') (mrL M') (mrR M') (mrH M') (mWs M') (mRm d mc ms) mc ms n := by
  obtain ⟨w1, w2, w3, w4, w5⟩ := hok
  have hcw : (if mrH M' = [] then Cond.code (mrN M') (mrB M') (mrL M') (mrR M') else Cond.codeWith (mrN M') (mrB M') (mrL M') (mrR M') (mrH M')) = Cond.codeWith (mrN M') (mrB M') (mrL M') (mrR M') (mrH M') := if_neg hH'
  have hm := mT_in w5 (mCode_good M')
  refine ⟨⟨rfl, rfl, hRf, by show 8 + (mrL M' + 11) + 120 * (d + 1) ≤ _; omega, mWs_pay hts hm, by unfold mWs; rw [hcw]; exact List.mem_cons_self⟩, by rw [← hcw]; exact hts _ hm, hts _ (mT_in w1 rfl), w2, fun sig h => ?_, hl, hst⟩
  rw [h] at w3
  exact (Option.some.inj w3).symm
theorem mTake {n : Nat} (h : n ≤ st.length) : st.map (mTau ad) = (((st.take n).reverse).map (mTau ad)).reverse ++ (st.drop n).map (mTau ad) ∧ ((st.take n).reverse).length = n := by
  refine ⟨?_, by simp [h]⟩
  rw [← List.map_reverse, List.reverse_reverse, ← List.map_append, List.take_append_drop]
set_option maxHeartbeats 1000000 in
theorem mk_call {i : Instr} {rs : List Nat} {y : Nat} {fl : Bool} (hx : p.tables.exec = Jvm.exec) (hb : c.code = mrB M) (hml : c.maxLocals = mrL M) (hts : ∀ w ∈ mT, w.before args s = true) (hown : s.vm.findClass (mrN M).cls = some m.cls) (hG : mG D cA ad (mAA h0) s s.heap)
    (hd : mOkD (mrB M) pc i) (hok : mOkI M i rs M') (h : mInv i rs st X = some (y, As, rest, fl)) (hsum : (rest.map fun v => v.category).sum ≤ 8) (hM : mMet l D cA ad h0 d M' As X r1) (hfl : fl = true ∨ ∃ v, r1.1 = .inl v)
    (hRf : d + 7 ≤ R.frames) (hRl : 120 * (d + 2) ≤ R.locals) (hc0 : c0 ≤ mNc X) (hs0 : s0 ≤ mNs X) (hle : mLe X r1.2) (hRc : mNc r1.2 - c0 ≤ R.cells) (hRs : mNs r1.2 - s0 ≤ R.slots)
    (ka : ∀ v : Option Value, r1.1 = .inl v → mKK p l e R s m args below meth c Q (mrL M) D cA ad h0 c0 s0 (pc + 3, lv, v.toList ++ rest, r1.2))
    (kx : ∀ E : String, r1.1 = .inr E → ∀ (H1 : Heap) (locs1 : List Loc) (ls : Array Slot) (q : Addr) (ce : Cell), mHR D cA ad h0 r1.2 H1 → va_S (mAA h0) s.heap H1 locs1 → lv_has ls (mrL M) (mTl ad lv) → H1[q]? = some ce → ce.vm = .none → s.vm.findClass E = some ce.cls → vx_W p l e R s m args below meth c H1 locs1 (mNc r1.2 - c0) (mNs r1.2 - s0) Q (F0 m pc ls (rest.map (mTau ad))) q) :
    mKK p l e R s m args below meth c Q (mrL M) D cA ad h0 c0 s0 (pc, lv, st, X) := by
  intro H locs ls hH hS hl
  have hf : mNc X - c0 + (mNc r1.2 - mNc X) ≤ R.cells ∧ mNs X - s0 + (mNs r1.2 - mNs X) ≤ R.slots := by have := hle.1; have := hle.2; omega
  have hsum2 : ∀ st0 : List Value, 2 * (F0 m pc ls st0).monitorRoom + ((rest.map (mTau ad)).map fun v => v.category).sum ≤ 8 := fun st0 => by rw [mTau_sum]; exact lv_room (m := m) (pc := pc) (ls := ls) (rest := st0) hsum
  have hbl := mPc_blind D cA ad h0 As X
  cases i
  case invokestatic idx =>
    obtain ⟨ok0, w1, w2, w3⟩ := hok
    simp only [mInv] at h
    split at h
    · rename_i hr0
      split at h
      · rename_i hn
        cases h
        obtain ⟨e1, e2⟩ := mTake (ad := ad) hn
        by_cases hr1 : rs.getD 0 0 = 1
        · by_cases hH' : mrH M' = []
          · exact mk_run hS hc0 hs0 hle (vx_runS ⟨hx, hb, hml, hown, hts⟩ hM ⟨mCallB hts ok0 hH' hRf hRl _ _ (hts _ (mT_in (w2 hr1) rfl)), hts _ (mT_in w1 rfl)⟩ ⟨hbl, mPre_at hG hH hS⟩ rfl (by rw [List.length_map]; exact e2) hl.1 e1 (hsum2 _) hd hf) hl ka (fun E hE H1 locs1 q ce g1 g2 => kx E hE H1 locs1 ls q ce g1 g2 hl)
          · exact mk_run hS hc0 hs0 hle (vx_runSX ⟨hx, hb, hml, hown, hts⟩ hM (mCallX hts ok0 hH' hRf hRl _ _ (hts _ (mT_in (w2 hr1) rfl)) (hts _ (mT_in w1 rfl))) ⟨hbl, mPre_at hG hH hS⟩ rfl (by rw [List.length_map]; exact e2) hl.1 e1 (hsum2 _) hd hf) hl ka (fun E hE H1 locs1 q ce g1 g2 => kx E hE H1 locs1 ls q ce g1 g2 hl)
        · have hr2 : rs.getD 0 0 = 2 := by omega
          obtain ⟨hH', host, hho⟩ := w3 hr2
          have hret : ∃ v, r1.1 = .inl v := by
            rcases hfl with h | h
            · rw [decide_eq_true_eq] at h; exact absurd h hr1
            · exact h
          obtain ⟨v, hv⟩ := hret
          exact mk_run2 hS hc0 hs0 hle (va_runSN ⟨hx, hb, hml, hown, hts⟩ (mMet_ret hv hM) ⟨mCallN hts ok0 hH' hRf hRl _ _ (hG.2.1 _ hho), hts _ (mT_in w1 rfl), trivial⟩ ⟨hbl, mPre_at hG hH hS⟩ rfl (by rw [List.length_map]; exact e2) hl.1 e1 (hsum2 _) hd hf) hl ka
      · cases h
    · cases h
  case invokevirtual idx =>
    obtain ⟨ok0, hH', w2, ww0, ww5, ww6⟩ := hok
    have hO := hG.2.2.2.2.2.2.2.2.2.2.2.2
    simp only [mInv] at h
    split at h
    · rename_i hr0
      obtain ⟨w1, w3, q, hq, hqc⟩ := ww0 hr0
      split at h
      · rename_i hn
        split at h
        · rename_i b t hdr
          split at h
          · rename_i hcl
            cases h
            obtain ⟨e1, e2⟩ := mTake (ad := ad) hn
            rw [hdr] at e1
            have hat := hH.1 b hcl.1
            have hlt : (mSh X b).1 < 100 := by rw [hcl.2]; exact mCl_lt hq
            rw [mEnc_o hlt, hcl.2] at hat
            obtain ⟨q9, g1, cell, g2, g3, g4, -⟩ := hat
            cases g1.symm.trans hq
            refine mk_run hS hc0 hs0 hle (vx_runV (C := (mrN M').cls) (b := ad b) (As := ((st.take (rs.getD 2 0)).reverse).map (mTau ad)) ⟨hx, hb, hml, hown, hts⟩ hM ⟨mCallB hts ok0 hH' hRf hRl _ _ (hts _ (mT_in w1 rfl)), hts _ (mT_in w2 rfl), hts _ (mT_in w3 rfl)⟩ ⟨hbl, ⟨cell, g2, by rw [g4]; rfl, by rw [g3, ← hqc]; exact (hG.1.1 _ _ hq).2.1⟩, mPre_at hG hH hS⟩ rfl (by rw [List.length_map]; exact e2) hl.1 e1 (hsum2 _) hd hf) hl ka (fun E hE H1 locs1 q ce g1 g2 => kx E hE H1 locs1 ls q ce g1 g2 hl)
          · cases h
        · cases h
      · cases h
    · split at h
      · rename_i hr5
        obtain ⟨w1, w3, hcn⟩ := ww5 hr5
        split at h
        · rename_i hn
          split at h
          · rename_i b t hdr
            split at h
            · rename_i hcl
              cases h
              obtain ⟨e1, e2⟩ := mTake (ad := ad) hn
              rw [hdr] at e1
              obtain ⟨cell, g2, g3, g4, -⟩ := (hO.2.1 _ b hcl).kept hS.2.1
              rw [hcn] at g4
              exact mk_run hS hc0 hs0 hle (vx_runV (C := (mrN M').cls) (b := ad b) (As := ((st.take (rs.getD 2 0)).reverse).map (mTau ad)) ⟨hx, hb, hml, hown, hts⟩ hM ⟨mCallB hts ok0 hH' hRf hRl _ _ (hts _ (mT_in w1 rfl)), hts _ (mT_in w2 rfl), hts _ (mT_in w3 rfl)⟩ ⟨hbl, ⟨cell, g2, g3, g4⟩, mPre_at hG hH hS⟩ rfl (by rw [List.length_map]; exact e2) hl.1 e1 (hsum2 _) hd hf) hl ka (fun E hE H1 locs1 q ce g1 g2 => kx E hE H1 locs1 ls q ce g1 g2 hl)
            · cases h
          · cases h
        · cases h
      · split at h
        · rename_i hr6
          obtain ⟨w1, w3, w4, hnm, hn0⟩ := ww6 hr6
          split at h
          · rename_i b t
            split at h
            · rename_i hcl
              cases h
              obtain ⟨v, hv⟩ : ∃ v, r1.1 = .inl v := by
                rcases hfl with h | h
                · cases h
                · exact h
              obtain ⟨cell, g2, g3, g4, -⟩ := (hO.2.1 0 b hcl).kept hS.2.1
              obtain ⟨u1, u2, u3, u4, u5⟩ := ok0
              have hcw : (if mrH M' = [] then Cond.code (mrN M') (mrB M') (mrL M') (mrR M') else Cond.codeWith (mrN M') (mrB M') (mrL M') (mrR M') (mrH M')) = Cond.code (mrN M') (mrB M') (mrL M') (mrR M') := if_pos hH'
              have hm := mT_in u5 (mCode_good M')
              have hcd : (Cond.code (mrN M') (mrB M') (mrL M') (mrR M')).before args s = true := by rw [← hcw]; exact hts _ hm
              have cu : va_CU R s args (mrN M).cls "LaneEyes$Word" (mrN M').cls idx oOrd (mrN M') (mrB M') (mrL M') (mrR M') (mWs M') (mRm d (mNc r1.2 - mNc X) (mNs r1.2 - mNs X)) (mNc r1.2 - mNc X) (mNs r1.2 - mNs X) 0 := by
                refine ⟨⟨rfl, rfl, hRf, by show 8 + (mrL M' + 11) + 120 * (d + 1) ≤ _; omega, mWs_pay hts hm, by unfold mWs; rw [hcw]; exact List.mem_cons_self⟩, hcd, hts _ (mT_in u1 rfl), u2, fun sig h => ?_, hts _ (mT_in w1 rfl), hts _ (mT_in w3 rfl), ?_, hts _ (mT_in w4 rfl), hts _ (mT_in w2 rfl)⟩
                · have e9 : (mrN M').desc = oOrd.desc := by rw [hnm]
                  rw [e9, h, hn0] at u3
                  exact (Option.some.inj u3).symm
                · rw [← hnm]
                  exact va_Decl.of (hts _ (mT_in w2 rfl)) hcd
              exact mk_run2 hS hc0 hs0 hle (va_runU (b := ad b) (As := []) ⟨hx, hb, hml, hown, hts⟩ (mMet_ret hv hM) cu ⟨hbl, ⟨cell, g2, g3, g4⟩, mPre_at hG hH hS⟩ rfl rfl hl.1 rfl (hsum2 _) hd hf) hl ka
            · cases h
          · cases h
        · cases h
  case invokespecial idx =>
    obtain ⟨ok0, hH', hret0, hinit, w2, w3, w4⟩ := hok
    simp only [mInv] at h
    split at h
    · rename_i hr0
      split at h
      · rename_i hn
        split at h
        · rename_i b t hdr
          cases h
          obtain ⟨e1, e2⟩ := mTake (ad := ad) hn
          rw [hdr] at e1
          obtain ⟨v, hv⟩ : ∃ v, r1.1 = .inl v := by
            rcases hfl with h | h
            · cases h
            · exact h
          have hM2 := mMet_ret hv hM
          rcases hr0 with hr0 | hr0
          · have cb := mCallB (M := M) (idx := idx) (d := d) (R := R) hts ok0 hH' hRf hRl (mNc r1.2 - mNc X) (mNs r1.2 - mNs X) (hts _ (mT_in (w3 hr0) rfl))
            rw [hret0] at cb
            exact mk_run2 hS hc0 hs0 hle (va_runI (b := ad b) (As := ((st.take (rs.getD 2 0)).reverse).map (mTau ad)) ⟨hx, hb, hml, hown, hts⟩ hM2 ⟨cb, hinit, hts _ (mT_in w2 rfl)⟩ ⟨hbl, mPre_at hG hH hS⟩ rfl (by rw [List.length_map]; exact e2) hl.1 e1 (hsum2 _) hd hf) hl ka
          · obtain ⟨host, hho⟩ := w4 hr0
            have cb := mCallN (M := M) (idx := idx) (d := d) (R := R) hts ok0 hH' hRf hRl (mNc r1.2 - mNc X) (mNs r1.2 - mNs X) (hG.2.1 _ hho)
            rw [hret0] at cb
            exact mk_run2 hS hc0 hs0 hle (va_runIN (b := ad b) (As := ((st.take (rs.getD 2 0)).reverse).map (mTau ad)) ⟨hx, hb, hml, hown, hts⟩ hM2 ⟨cb, hinit, hts _ (mT_in w2 rfl)⟩ ⟨hbl, mPre_at hG hH hS⟩ rfl (by rw [List.length_map]; exact e2) hl.1 e1 (hsum2 _) hd hf) hl ka
        · cases h
      · cases h
    · cases h
  all_goals exact absurd (show (none : Option (Nat × List Value × List Value × Bool)) = some (y, As, rest, fl) from h) (fun q => nomatch q)
end MSI
