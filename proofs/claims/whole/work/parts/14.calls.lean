/-! ===== returns, throws, calls ===== -/
abbrev mNames : List String := ["java/lang/RuntimeException", "java/lang/Exception"]
def mAtS (own : String) (ic e : Nat) : List Cond := if e = 0 then vx_atS own ic (mExN e) mNames else w13_atS own ic (mExN e) mNames
/-- 'throw new E("text")' at pc -/
def mOkT (M : mRec) (pc idx e : Nat) : Prop := ∃ (ic is : Nat) (tx : String), ((mrN M).cls, is, tx) ∈ mStrs ∧ Cond.classLink (mrN M).cls idx (mExN e) ∈ lw_tbl ∧ Cond.initialized (mExN e) ∈ lw_tbl ∧ (∀ w ∈ mAtS (mrN M).cls ic e, (w ∈ lw_tbl ∧ goodWord w = true) ∨ w = .castable (mExN e) (mExN e) ∨ ∃ x ∈ mDecl, w = .declares x) ∧
  ((decode (mrB M) (pc + 3) = .ok (.dup, 1) ∧ decode (mrB M) (pc + 4) = .ok (.ldc is, 2) ∧ decode (mrB M) (pc + 6) = .ok (.invokespecial ic, 3) ∧ decode (mrB M) (pc + 9) = .ok (.athrow, 1)) ∨
   (decode (mrB M) (pc + 3) = .ok (.dup, 1) ∧ decode (mrB M) (pc + 4) = .ok (.ldc_w is, 3) ∧ decode (mrB M) (pc + 7) = .ok (.invokespecial ic, 3) ∧ decode (mrB M) (pc + 10) = .ok (.athrow, 1)))
theorem mExN_fit (e : Nat) : Bundle.fit (mExN e) = true := by
  unfold mExN; split <;> decide +kernel
theorem mNames_fit : ∀ n ∈ mNames, Bundle.fit n = true := by decide +kernel
section MSR
variable {p : Program} {l : Launch} {e : Env} {R : Room} {s : State} {m : MethodId} {args : Array Value} {below : List Frame} {meth : Method} {c : Code} {c0 s0 : Nat}
variable {pc : Nat} {M : mRec} {D : va_G} {cA : Nat → ClassId} {ad : Nat → Nat} {h0 : Nat} {X : mHX} {lv : mLV} {st : List Value} {r : mRes}
/-- what a run with the end r owes -/
abbrev mQQ (D : va_G) (cA : Nat → ClassId) (ad : Nat → Nat) (h0 : Nat) (below : List Frame) (args : Array Value) (s : State) (r : mRes) (c0 s0 : Nat) : State → Prop := vx_MQ below (mQc D cA ad h0 r) (mXC D cA ad h0 r) args s (mNc r.2 - c0) (mNs r.2 - s0) (mAA h0)
theorem mk_ret {i : Instr} {v : Option Value} {C : List Prop} (hx : p.tables.exec = Jvm.exec) (hb : c.code = mrB M) (hr : meth.sig.returnType = mrR M) (hlocks : meth.locks = false) (hd : mOkD (mrB M) pc i) (h : mRet (mrR M) i st = some (v, C)) (hC : mAll C) (hv : r = (.inl v, X)) :
    mKK p l e R s m args below meth c (mQQ D cA ad h0 below args s r c0 s0) (mrL M) D cA ad h0 c0 s0 (pc, lv, st, X) := by
  subst hv
  intro H locs ls hH hS hl
  refine vx_ret ?_
  have hq : ∀ (t : State), t.heap = H → s.WarmedH t.vm → mQc D cA ad h0 (.inl v, X) args s (.returned (v.map (mTau ad))) t := fun t ht _ => ⟨⟨v, rfl, rfl⟩, by rw [ht]; exact hH, hS.F ht⟩
  have hf : ∀ q ∈ locs, mAA h0 q.base := hS.2.2
  cases i
  case ireturn =>
    simp only [mRet] at h
    split at h
    · split at h
      · rename_i hret
        cases h
        exact W.iret hx hb (hr.trans hret) hq hf hd hlocks
      · split at h
        · rename_i hret
          cases h
          have hb01 := hC.1
          exact W.zret (ty := .boolean) hx hb (hr.trans hret) (by rcases hb01 with h | h <;> rw [h] <;> rfl) hq hf hd hlocks
        · split at h
          · rename_i hret
            cases h
            exact W.zret (ty := .byte) hx hb (hr.trans hret) hC.1 hq hf hd hlocks
          · split at h
            · rename_i hret
              cases h
              exact W.zret (ty := .char) hx hb (hr.trans hret) hC.1 hq hf hd hlocks
            · cases h
    · cases h
  case lreturn =>
    simp only [mRet] at h
    split at h
    · split at h
      · rename_i hret
        cases h
        exact W.lret hx hb (hr.trans hret) hq hf hd hlocks
      · cases h
    · cases h
  case return_ =>
    simp only [mRet] at h
    split at h
    · split at h
      · rename_i hret
        cases h
        exact W.vret hx hb (hr.trans hret) hq hf hd hlocks
      · cases h
    · cases h
  case areturn =>
    simp only [mRet] at h
    split at h
    · rename_i a o hret
      cases h
      exact W.aret hx hb (hr.trans hret) (Or.inl ⟨_, rfl⟩) (Or.inr ⟨_, rfl⟩) hq hf hd hlocks
    · cases h
  all_goals exact absurd (show (none : Option (Option Value × List Prop)) = some (v, C) from h) (fun q => nomatch q)
theorem mk_thr {idx ex : Nat} (hx : p.tables.exec = Jvm.exec) (hb : c.code = mrB M) (hml : c.maxLocals = mrL M) (hl0 : l.stackTraces = false) (hlocks : meth.locks = false) (hts : ∀ w ∈ mT, w.before args s = true) (hown : s.vm.findClass (mrN M).cls = some m.cls) (hG : mG D cA ad (mAA h0) s s.heap)
    (hA : mAd ad h0) (hok : mOkT M pc idx ex) (hd : decode (mrB M) pc = .ok (.new idx, 3)) (hout : c.exceptionTable.toList = []) (hf : mFz X = true) (hsum : (st.map fun v => v.category).sum ≤ 8) (hRf : 6 ≤ R.frames) (hRl : 120 ≤ R.locals) (hc0 : c0 ≤ mNc X) (hs0 : s0 ≤ mNs X)
    (hRc : mNc X + 1 - c0 ≤ R.cells) (hRs : mNs X + 6 - s0 ≤ R.slots) (hr : r = (.inr (mExN ex), mThrX X)) : mKK p l e R s m args below meth c (mQQ D cA ad h0 below args s r c0 s0) (mrL M) D cA ad h0 c0 s0 (pc, lv, st, X) := by
  subst hr
  obtain ⟨ic, is, tx, hst, w1, w2, w3, hdd⟩ := hok
  obtain ⟨-, -, hstr, -, -, hU, hN, -, hk1, hk2, hdc⟩ := hG
  obtain ⟨sa, hsa⟩ := hstr _ hst
  intro H locs ls hH hS hl
  have hat : ∀ w ∈ mAtS (mrN M).cls ic ex, w.before args s = true := by
    intro w hw
    rcases w3 w hw with h | rfl | ⟨x, hx, rfl⟩
    · exact hts w (mT_in h.1 h.2)
    · unfold mExN; split
      · exact va_Nw.use rfl hk1
      · exact va_Nw.use rfl hk2
    · exact va_Nw.use rfl (hdc.1 x hx)
  have hgood : ∀ w ∈ Cond.classLink (mrN M).cls idx (mExN ex) :: Cond.initialized (mExN ex) :: mAtS (mrN M).cls ic ex, vx_ot w = true := by
    intro w hw
    rcases List.mem_cons.mp hw with rfl | hw
    · rfl
    · rcases List.mem_cons.mp hw with rfl | hw
      · rfl
      · rcases w3 w hw with h | rfl | ⟨x, -, rfl⟩
        · simp [vx_ot, h.2]
        · rfl
        · rfl
  have hout2 : ∀ z : Nat, ∀ x ∈ c.exceptionTable.toList, covers x z = false := fun z x hx => by rw [hout] at hx; cases hx
  have hx9 : ∀ t : State, s.vm.Alike t.vm → H.size ≤ t.heap.size → (∀ q : Nat, q < H.size → t.heap[q]? = H[q]?) → mXC D cA ad h0 (.inr (mExN ex), mThrX X) (mExN ex) s t := by
    intro t _ hz ho
    refine ⟨rfl, ⟨fun k hk => ?_, hH.2.1, hH.2.2.1, fun h => ?_⟩, ?_⟩
    · have h1 := hH.1 k hk
      exact h1.kept (ho _ h1.lt)
    · rw [show mFz X = false from h] at hf; cases hf
    · exact ⟨Nat.le_trans hS.1 hz, fun q h1 h2 => (ho q (Nat.lt_of_lt_of_le h1 hS.1)).trans (hS.2.1 q h1 h2)⟩
  have hlen : mNames.length = 2 := rfl
  have hsum2 : ((st.map (mTau ad)).map fun v => v.category).sum + (13 * (mNames.length + 1) + 43) ≤ R.locals := by rw [mTau_sum, hlen]; omega
  have e8 : mNc (mThrX X) - c0 = mNc X - c0 + 1 := by show mNc X + 1 - c0 = _; omega
  have e9 : mNs (mThrX X) - s0 = mNs X - s0 + 6 := by show mNs X + 6 - s0 = _; omega
  have hsz : ls.size = c.maxLocals := by rw [hml]; exact hl.1
  by_cases he : ex = 0
  · have e1 : mAtS (mrN M).cls ic ex = vx_atS (mrN M).cls ic (mExN ex) mNames := if_pos he
    rw [e1] at hat hgood
    rcases hdd with ⟨d3, d4, d6, d9⟩ | ⟨d3, d4, d7, d10⟩
    · exact vx_throwS hx hb hl0 hown (mExN_fit ex) mNames_fit (hts _ (mT_in w1 rfl)) (hts _ (mT_in w2 rfl)) hsa hat hgood hU hN hS hsz hd d3 d4 d6 d9 (hout2 _) (by rw [hlen]; omega) hsum2 (by show mNc X - c0 + 1 ≤ _; omega) (by show mNs X - s0 + 6 ≤ _; omega) hlocks hx9 hS.2.2 (Nat.le_of_eq e8.symm) (Nat.le_of_eq e9.symm)
    · exact vx_throwSW hx hb hl0 hown (mExN_fit ex) mNames_fit (hts _ (mT_in w1 rfl)) (hts _ (mT_in w2 rfl)) hsa hat hgood hU hN hS hsz hd d3 d4 d7 d10 (hout2 _) (by rw [hlen]; omega) hsum2 (by show mNc X - c0 + 1 ≤ _; omega) (by show mNs X - s0 + 6 ≤ _; omega) hlocks hx9 hS.2.2 (Nat.le_of_eq e8.symm) (Nat.le_of_eq e9.symm)
  · have e1 : mAtS (mrN M).cls ic ex = w13_atS (mrN M).cls ic (mExN ex) mNames := if_neg he
    rw [e1] at hat hgood
    rcases hdd with ⟨d3, d4, d6, d9⟩ | ⟨d3, d4, d7, d10⟩
    · exact w13_throwS hx hb hl0 hown (mExN_fit ex) mNames_fit (hts _ (mT_in w1 rfl)) (hts _ (mT_in w2 rfl)) hsa hat hgood hU hN hS hsz hd d3 d4 d6 d9 (hout2 _) (by rw [hlen]; omega) hsum2 (by show mNc X - c0 + 1 ≤ _; omega) (by show mNs X - s0 + 6 ≤ _; omega) hlocks hx9 hS.2.2 (Nat.le_of_eq e8.symm) (Nat.le_of_eq e9.symm)
    · exact w13_throwSW hx hb hl0 hown (mExN_fit ex) mNames_fit (hts _ (mT_in w1 rfl)) (hts _ (mT_in w2 rfl)) hsa hat hgood hU hN hS hsz hd d3 d4 d7 d10 (hout2 _) (by rw [hlen]; omega) hsum2 (by show mNc X - c0 + 1 ≤ _; omega) (by show mNs X - s0 + 6 ≤ _; omega) hlocks hx9 hS.2.2 (Nat.le_of_eq e8.symm) (Nat.le_of_eq e9.symm)
end MSR
