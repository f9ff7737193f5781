/-! ===== the small machine's runs are the JVM's ===== -/
/-- one instruction of a method's table -/
def mOkX (tab : Nat → Option mRec) (M : mRec) (pc : Nat) (i : Instr) (rs : List Nat) : Prop :=
  mOkD (mrB M) pc i ∧ mOkS (mrN M).cls (mrN M).name i rs ∧ mOkL M i rs ∧ (∀ M', tab (rs.getD 1 0) = some M' → mOkI M i rs M') ∧
  (match i with
   | .new idx => (rs.getD 0 0 < 100 → mOkN M idx (rs.getD 0 0) (rs.getD 1 0)) ∧ (rs.getD 0 0 = 777 → mOkT M pc idx (rs.getD 1 0))
   | .newarray aty => mOkA aty (rs.getD 0 0)
   | .multianewarray idx dims => dims = 2 ∧ Cond.classLink (mrN M).cls idx "[[I" ∈ lw_tbl
   | _ => True)
def mOkHd (M : mRec) : Prop := (mrE M).length = (mrH M).length ∧ ∀ (j : Nat) (h : Nat × Nat × Nat × Nat) (n : String), (mrH M)[j]? = some h → (mrE M)[j]? = some n → h.2.2.2 ≠ 0 ∧ Cond.classLink (mrN M).cls h.2.2.2 n ∈ lw_tbl ∧ (n = mIAE ∨ n = mNSE)
def mOkM (tab : Nat → Option mRec) (M : mRec) : Prop := plainName (mrN M).cls = true ∧ mOkHd M ∧ ∀ (pc : Nat) (i : Instr) (rs : List Nat), mAt (mrC M) pc = some (i, rs) → mOkX tab M pc i rs
theorem mW_cast {D : va_G} {cA : Nat → ClassId} {ad : Nat → Nat} {A : Nat → Prop} {U : State} {H : Heap} {args : Array Value} (h : mG D cA ad A U H) {n : String} (hn : n = mIAE ∨ n = mNSE) : (Cond.castable n n).before args U = true := by
  rcases hn with rfl | rfl
  · exact va_Nw.use rfl h.2.2.2.2.2.2.2.2.1
  · exact va_Nw.use rfl h.2.2.2.2.2.2.2.2.2.1
theorem mHand_split : ∀ (hh : List (Nat × Nat × Nat × Nat)) (hn : List String) (pc : Nat) (E : String) (h : Nat), mHand hh hn pc E = some h →
    ∃ (k : Nat) (q : Nat × Nat × Nat × Nat), hh[k]? = some q ∧ hn[k]? = some E ∧ q.1 ≤ pc ∧ pc < q.2.1 ∧ q.2.2.1 = h ∧ ∀ j, j < k → ∀ (z : Nat × Nat × Nat × Nat) (n : String), hh[j]? = some z → hn[j]? = some n → ¬ (z.1 ≤ pc ∧ pc < z.2.1 ∧ n = E)
  | [], _, _, _, _, h => by simp [mHand] at h
  | _ :: _, [], _, _, _, h => by simp [mHand] at h
  | z :: t, n :: ns, pc, E, h, hh => by
    simp only [mHand] at hh
    split at hh
    · rename_i hc
      cases hh
      refine ⟨0, z, rfl, by rw [hc.2.2]; rfl, hc.1, hc.2.1, rfl, fun j hj => by omega⟩
    · rename_i hc
      obtain ⟨k, q, h1, h2, h3, h4, h5, h6⟩ := mHand_split t ns pc E h hh
      refine ⟨k + 1, q, h1, h2, h3, h4, h5, fun j hj z9 n9 g1 g2 => ?_⟩
      match j, hj, g1, g2 with
      | 0, _, g1, g2 => cases g1; cases g2; exact hc
      | j + 1, hj, g1, g2 => exact h6 j (by omega) z9 n9 g1 g2
theorem mOkX_link {tab : Nat → Option mRec} {M : mRec} (h : mOkM tab M) {pc : Nat} {i : Instr} {rs : List Nat} (ha : mAt (mrC M) pc = some (i, rs)) : mOkX tab M pc i rs := h.2.2 pc i rs ha
theorem mInv_y {i : Instr} {rs : List Nat} {st : List Value} {X : mHX} {y : Nat} {As rest : List Value} {fl : Bool} (h : mInv i rs st X = some (y, As, rest, fl)) : y = rs.getD 1 0 := by
  unfold mInv at h
  repeat' split at h
  all_goals first | (cases h; rfl) | cases h
theorem mAlc_na {aty : ArrayType} {rs : List Nat} {pc : Nat} {lv : mLV} {st : List Value} {X : mHX} {S' : mSt} {C : List Prop} (h : mAlc (.newarray aty) rs (pc, lv, st, X) = some (S', C)) : ∃ n t, st = Value.int n :: t := by
  simp only [mAlc] at h
  split at h
  · exact ⟨_, _, rfl⟩
  · cases h
theorem mAlc_mna {idx dims : Nat} {rs : List Nat} {pc : Nat} {lv : mLV} {st : List Value} {X : mHX} {S' : mSt} {C : List Prop} (h : mAlc (.multianewarray idx dims) rs (pc, lv, st, X) = some (S', C)) : ∃ k n t, st = Value.int k :: Value.int n :: t := by
  simp only [mAlc] at h
  split at h
  · exact ⟨_, _, _, rfl⟩
  · cases h
section MSS
variable {p : Program} {l : Launch} {e : Env} {R : Room} {s : State} {m : MethodId} {args : Array Value} {below : List Frame} {meth : Method} {c : Code} {c0 s0 : Nat}
variable {d : Nat} {M : mRec} {D : va_G} {cA : Nat → ClassId} {ad : Nat → Nat} {h0 : Nat} {r : mRes} {tab : Nat → Option mRec}
/-- what a walk of the method M leans on -/
def mCx (p : Program) (l : Launch) (R : Room) (s : State) (m : MethodId) (args : Array Value) (meth : Method) (c : Code) (D : va_G) (cA : Nat → ClassId) (ad : Nat → Nat) (h0 d : Nat) (M : mRec) : Prop :=
  p.tables.exec = Jvm.exec ∧ c.code = mrB M ∧ c.maxLocals = mrL M ∧ meth.sig.returnType = mrR M ∧ meth.locks = false ∧ meth.name = (mrN M).name ∧ c.exceptionTable.toList = tableOf (mrH M) ∧ s.vm.findClass (mrN M).cls = some m.cls ∧ (∀ w ∈ mT, w.before args s = true) ∧ mG D cA ad (mAA h0) s s.heap ∧ mAd ad h0 ∧ l.stackTraces = false ∧ d + 7 ≤ R.frames ∧ 120 * (d + 2) ≤ R.locals
theorem mk_catch {pc : Nat} {X1 : mHX} {lv : mLV} {rest : List Value} {Q : State → Prop} {E : String} {h : Nat} (C0 : mCx p l R s m args meth c D cA ad h0 d M) (hM : mOkM tab M) (hh : mHand (mrH M) (mrE M) pc E = some h)
    {k : mSt → mRes → Prop} (hk : ∀ S', S'.2.2.2 = X1 → k S' r → mKK p l e R s m args below meth c Q (mrL M) D cA ad h0 c0 s0 S')
    (ha : match mAt (mrC M) h with | some (.astore_n j, _) => (j : Nat) < mrL M ∧ k (h + 1, lv.filter (mKeep1 j), [], X1) r | some (.astore j, _) => j < mrL M ∧ k (h + 2, lv.filter (mKeep1 j), [], X1) r | _ => False)
    {H1 : Heap} {locs1 : List Loc} {ls : Array Slot} {q : Addr} {ce : Cell} (hH : mHR D cA ad h0 X1 H1) (hS : va_S (mAA h0) s.heap H1 locs1) (hl : lv_has ls (mrL M) (mTl ad lv)) (hcell : H1[q]? = some ce) (hv : ce.vm = .none) (hcl : s.vm.findClass E = some ce.cls) :
    vx_W p l e R s m args below meth c H1 locs1 (mNc X1 - c0) (mNs X1 - s0) Q (F0 m pc ls rest) q := by
  obtain ⟨hx, hb, hml, hret, hlocks, hnm, htb, hown, hts, hG, hA, hst, hRf, hRl⟩ := C0
  obtain ⟨kx, z, h1, h2, h3, h4, h5, h6⟩ := mHand_split _ _ _ _ _ hh
  obtain ⟨hlen, hHd⟩ := hM.2.1
  obtain ⟨hz0, hzl, hzE⟩ := hHd kx z E h1 h2
  have hklt : kx < (mrH M).length := (List.getElem?_eq_some_iff.mp h1).1
  have hsplit : c.exceptionTable.toList = tableOf ((mrH M).take kx) ++ (⟨z.1, z.2.1, z.2.2.1, z.2.2.2⟩ : ExceptionTableEntry) :: tableOf ((mrH M).drop (kx + 1)) := by
    rw [htb]
    have e1 : mrH M = (mrH M).take kx ++ z :: (mrH M).drop (kx + 1) := by
      have h9 : (mrH M)[kx] = z := by
        have := List.getElem?_eq_getElem hklt
        rw [this] at h1
        exact Option.some.inj h1
      rw [← h9, List.getElem_cons_drop, List.take_append_drop]
    conv => lhs; rw [e1]
    simp [tableOf]
  have hcov : ∀ (w : Nat × Nat × Nat × Nat), covers (⟨w.1, w.2.1, w.2.2.1, w.2.2.2⟩ : ExceptionTableEntry) pc = decide (w.1 ≤ pc ∧ pc < w.2.1) := by
    intro w
    simp [covers]
  have hgo : ∀ (j n2 : Nat) (i9 : Instr), mOkD (mrB M) h i9 → (∀ (x : Nat) (hl9 : lv_has ls (mrL M) (mTl ad lv)) (hi : j < mrL M) (kk : ∀ ls' : Array Slot, lv_has ls' (mrL M) ((j, Value.ref x) :: (mTl ad lv).filter (fun q => !(q.1 == j) && !(q.1 + 1 == j && q.2.category == 2))) → W p l e R s m args below meth c H1 locs1 (mNc X1 - c0) (mNs X1 - s0) Q (F0 m (h + n2) ls' [])), W p l e R s m args below meth c H1 locs1 (mNc X1 - c0) (mNs X1 - s0) Q (F0 m h ls [.ref x])) → j < mrL M → k (h + n2, lv.filter (mKeep1 j), [], X1) r →
      vx_W p l e R s m args below meth c H1 locs1 (mNc X1 - c0) (mNs X1 - s0) Q (F0 m pc ls rest) q := by
    intro j n2 i9 hd9 row hj hk9
    refine vx_catch hown (tableOf ((mrH M).take kx)) ⟨z.1, z.2.1, z.2.2.1, z.2.2.2⟩ (tableOf ((mrH M).drop (kx + 1))) hsplit (fun w hw => ?_) (by rw [hcov]; exact decide_eq_true ⟨h3, h4⟩) hz0 (hts _ (mT_in hzl rfl)) (mW_cast hG hzE) hcell hv hcl ?_
    · obtain ⟨w9, hw9, rfl⟩ := List.mem_map.mp hw
      obtain ⟨j9, hj9⟩ := List.getElem?_of_mem hw9
      have hjlt : j9 < kx := by
        have := (List.getElem?_eq_some_iff.mp hj9).1
        rw [List.length_take] at this
        omega
      have hj10 : (mrH M)[j9]? = some w9 := by
        rw [List.getElem?_take, if_pos hjlt] at hj9
        exact hj9
      have hnlt : j9 < (mrE M).length := by rw [hlen]; omega
      have hn9 : (mrE M)[j9]? = some (mrE M)[j9] := List.getElem?_eq_getElem hnlt
      obtain ⟨g0, g1, g2⟩ := hHd j9 w9 _ hj10 hn9
      have hno := h6 j9 hjlt w9 _ hj10 hn9
      by_cases hc : w9.1 ≤ pc ∧ pc < w9.2.1
      · refine Or.inr ⟨g0, (mrE M)[j9], hts _ (mT_in g1 rfl), ?_⟩
        have hne : (mrE M)[j9] ≠ E := fun h => hno ⟨hc.1, hc.2, h⟩
        rcases hzE with rfl | rfl
        · rcases g2 with g2 | g2
          · exact absurd g2 hne
          · rw [g2]; exact hG.2.2.2.1
        · rcases g2 with g2 | g2
          · rw [g2]; exact hG.2.2.2.2.1
          · exact absurd g2 hne
      · refine Or.inl ?_
        rw [hcov]
        exact decide_eq_false hc
    · show W p l e R s m args below meth c H1 locs1 (mNc X1 - c0) (mNs X1 - s0) Q (F0 m z.2.2.1 ls [.ref q])
      rw [h5]
      refine row q hl hj fun ls' hl' => ?_
      rw [mTl_keep1] at hl'
      exact hk _ rfl hk9 H1 locs1 ls' hH hS ⟨hl'.1, hl'.2.1, fun w hw => hl'.2.2 w (List.mem_cons_of_mem _ hw)⟩
  split at ha
  · rename_i j rs9 hat
    have okx := hM.2.2 _ _ _ hat
    exact hgo j 1 (.astore_n j) okx.1 (fun x hl9 hi kk => lv_astore_n hx hb okx.1 rfl hl9 hi rfl kk) ha.1 ha.2
  · rename_i j rs9 hat
    have okx := hM.2.2 _ _ _ hat
    exact hgo j 2 (.astore j) okx.1 (fun x hl9 hi kk => lv_astore hx hb okx.1 hl9 hi rfl kk) ha.1 ha.2
  · exact ha.elim
/-- one step -/
theorem mStep_ok {k : mSt → mRes → Prop} {call : Nat → List Value → mHX → mRes → Prop} {S : mSt} (C0 : mCx p l R s m args meth c D cA ad h0 d M) (hM : mOkM tab M)
    (hcall : ∀ y As X r1, call y As X r1 → mLe X r1.2 ∧ ∃ M', tab y = some M' ∧ mMet l D cA ad h0 d M' As X r1) (hkle : ∀ S', k S' r → mLe S'.2.2.2 r.2) (hc0 : c0 ≤ mNc S.2.2.2) (hs0 : s0 ≤ mNs S.2.2.2) (hRc : mNc r.2 - c0 ≤ R.cells) (hRs : mNs r.2 - s0 ≤ R.slots)
    (hk : ∀ S', mLe S.2.2.2 S'.2.2.2 → k S' r → mKK p l e R s m args below meth c (mQQ D cA ad h0 below args s r c0 s0) (mrL M) D cA ad h0 c0 s0 S') (h : mStepR call M k S r) : mKK p l e R s m args below meth c (mQQ D cA ad h0 below args s r c0 s0) (mrL M) D cA ad h0 c0 s0 S := by
  obtain ⟨pc, lv, st, X⟩ := S
  have hle0 := mStepR_le (fun y As X r1 h => (hcall y As X r1 h).1) hkle h
  obtain ⟨hx, hb, hml, hret, hlocks, hnm, htb, hown, hts, hG, hA, hst, hRf, hRl⟩ := id C0
  unfold mStepR at h
  split at h
  · exact h.elim
  · rename_i i rs hat
    obtain ⟨okD, okS, okL, okI, okN⟩ := hM.2.2 _ _ _ hat
    split at h
    · rename_i S' C hs
      have hk' := hk S' (mStr_eq hs).le h.2
      unfold mStr at hs
      split at hs
      · rename_i r9 hs1
        cases hs
        exact mS1_ok hx hb hts hown hG.1 hA okD (by rw [hnm]; exact okS) hs1 h.1 hk'
      · exact mS2_ok hG.2.2.2.2.2.2.2.2.2.2.2.2 hG.2.2.2.2.2.2.2.2.2.2.2.1 hx hb hml hts hown hG.1 hA (by omega) (by omega) (by have : mNc X ≤ mNc r.2 := hle0.1; omega) (by have : mNs X ≤ mNs r.2 := hle0.2; omega) okD okL hs h.1 hk'
    · split at h
      · rename_i q off t hbr
        obtain ⟨h1, h2, h3⟩ := h
        exact mk_brc hG.2.2.2.2.2.2.2.2.2.2.2.2 hx hb okD hbr h1 (fun z => hk (mTo pc off, lv, t, X) (mLe.rf X) (h2 z)) (fun z => hk (pc + 3, lv, t, X) (mLe.rf X) (h3 z))
      · split at h
        · rename_i v C hrt
          exact mk_ret hx hb hret hlocks okD hrt h.1 h.2
        · split at h
          · rename_i S' C hal
            have hle9 := mAlc_le hal
            have hk' := hk S' hle9 h.2
            have hle10 := hkle S' h.2
            obtain ⟨hC, -⟩ := h
            cases i
            case new idx =>
              simp only [mAlc] at hal
              split at hal
              · rename_i hc
                cases hal
                have g1 : mNc X + 1 ≤ mNc r.2 := hle10.1
                have g2 : mNs X + rs.getD 1 0 ≤ mNs r.2 := hle10.2
                exact mk_new hx hb hts hown hG.1 hA (okN.1 hc.1) okD hc.2 hC.1 hc0 hs0 (by omega) (by omega) hk'
              · cases hal
            case newarray aty =>
              obtain ⟨n, t, rfl⟩ := mAlc_na hal
              simp only [mAlc] at hal
              split at hal
              · rename_i hc
                cases hal
                have g1 : mNc X + 1 ≤ mNc r.2 := hle10.1
                have g2 : mNs X + n.toNatClampNeg ≤ mNs r.2 := hle10.2
                exact mk_newa hx hb hts hG.1 hA okN okD hc.2.2 hC.2.2.1 hc0 hs0 (by omega) (by omega) hC.1 hC.2.1 hk'
              · cases hal
            case multianewarray idx dims =>
              obtain ⟨k9, n, t, rfl⟩ := mAlc_mna hal
              simp only [mAlc] at hal
              split at hal
              · rename_i hc
                · cases hal
                  obtain ⟨a1, a2, a3, -⟩ := mAddN_facts (X := mAdd X 104 n.toNatClampNeg (fun j => if j < n.toNatClampNeg then some (mN X + 1 + j) else none)) (kind := 100) (len := k9.toNatClampNeg) n.toNatClampNeg
                  have g1 := hle10.1
                  have g2 := hle10.2
                  rw [a2] at g1
                  rw [a3] at g2
                  have g3 : mNc X + 1 + n.toNatClampNeg ≤ mNc r.2 := g1
                  have g4 : mNs X + n.toNatClampNeg + n.toNatClampNeg * k9.toNatClampNeg ≤ mNs r.2 := g2
                  obtain ⟨hd2, hlk⟩ := okN
                  subst hd2
                  exact mk_multi hx hb hts hown hG.1 hA hlk hG.2.2.2.2.2.2.2.1 okD hc.2 hc0 hs0 hC.1 hC.2.1 hC.2.2.1 hC.2.2.2.1 hC.2.2.2.2.1 (by omega) (by omega) hk'
              · cases hal
            all_goals exact absurd (show (none : mS1T) = some (S', C) from hal) (fun q => nomatch q)
          · split at h
            · rename_i E X' hth
              obtain ⟨hH', hr⟩ := h
              have hout : c.exceptionTable.toList = [] := by rw [htb, hH']; rfl
              cases i
              case new idx =>
                simp only [mThr] at hth
                split at hth
                · rename_i hc
                  cases hth
                  have g1 : mNc X + 1 ≤ mNc r.2 := by rw [hr]; exact Nat.le_refl _
                  have g2 : mNs X + 6 ≤ mNs r.2 := by rw [hr]; exact Nat.le_refl _
                  exact mk_thr hx hb hml hst hlocks hts hown hG hA (okN.2 hc.1) okD hout hc.2.1 hc.2.2 (by omega) (by omega) hc0 hs0 (by omega) (by omega) hr
                · cases hth
              all_goals exact absurd (show (none : Option (String × mHX)) = some (E, X') from hth) (fun q => nomatch q)
            · split at h
              · rename_i y As rest fl hiv
                obtain ⟨hsum, r1, h1, hfl, h2⟩ := h
                obtain ⟨hle1, M', hM', hMet⟩ := hcall y As X r1 h1
                have hyr : y = rs.getD 1 0 := mInv_y hiv
                rw [hyr] at hM'
                have hle2 : mLe r1.2 r.2 := by
                  unfold mAfter at h2
                  repeat' split at h2
                  all_goals first | exact hkle _ h2 | (rw [h2.2]; exact mLe.rf _) | exact hkle _ h2.2 | exact h2.elim
                refine mk_call hx hb hml hts hown hG okD (okI M' hM') hiv hsum hMet hfl hRf hRl hc0 hs0 hle1 (by have := hle2.1; omega) (by have := hle2.2; omega) (fun v hv => ?_) (fun E hE H1 locs1 ls q ce g1 g2 g3 g4 g5 g6 => ?_)
                · unfold mAfter at h2
                  rw [hv] at h2
                  exact hk _ hle1 h2
                · unfold mAfter at h2
                  rw [hE] at h2
                  cases hh : mHand (mrH M) (mrE M) pc E with
                  | none =>
                    have h3 : mrH M = [] ∧ r = (.inr E, r1.2) := by
                      have h4 := h2
                      simp only [hh] at h4
                      exact h4
                    obtain ⟨hH', hr⟩ := h3
                    have hout : c.exceptionTable.toList = [] := by rw [htb, hH']; rfl
                    subst hr
                    exact vx_out (fun x hx => by rw [hout] at hx; cases hx) hlocks g4 g5 g6 (fun t ht _ => ⟨rfl, by rw [ht]; exact g1, g2.F ht⟩) g2.2.2 (Nat.le_refl _) (Nat.le_refl _)
                  | some hp =>
                    have h4 := h2
                    simp only [hh] at h4
                    exact mk_catch C0 hM hh (fun S' hX hS' => hk S' (by rw [hX]; exact hle1) hS') h4 g1 g2 g3 g4 g5 g6
              · exact h.elim
/-- a walk -/
theorem mEx_ok {call : Nat → List Value → mHX → mRes → Prop} (C0 : mCx p l R s m args meth c D cA ad h0 d M) (hM : mOkM tab M) (hcall : ∀ y As X r1, call y As X r1 → mLe X r1.2 ∧ ∃ M', tab y = some M' ∧ mMet l D cA ad h0 d M' As X r1) (hRc : mNc r.2 - c0 ≤ R.cells) (hRs : mNs r.2 - s0 ≤ R.slots) :
    ∀ (f : Nat) (S : mSt), c0 ≤ mNc S.2.2.2 → s0 ≤ mNs S.2.2.2 → mEx call M f S r → mKK p l e R s m args below meth c (mQQ D cA ad h0 below args s r c0 s0) (mrL M) D cA ad h0 c0 s0 S
  | 0, _, _, _, h => h.elim
  | f + 1, S, h1, h2, h => mStep_ok C0 hM hcall (mEx_le (fun y As X r1 h => (hcall y As X r1 h).1) f) h1 h2 hRc hRs (fun S' hle hS' => mEx_ok C0 hM hcall hRc hRs f S' (Nat.le_trans h1 hle.1) (Nat.le_trans h2 hle.2) hS') h
end MSS
theorem mTl_args (ad : Nat → Nat) : ∀ (vs : List Value) (i : Nat), lv_args i (vs.map (mTau ad)) = mTl ad (lv_args i vs)
  | [], _ => rfl
  | v :: t, i => by
    show (i, mTau ad v) :: lv_args (if (mTau ad v).category = 2 then i + 2 else i + 1) (t.map (mTau ad)) = _
    rw [mTau_cat, mTl_args ad t]
    rfl
theorem mSl_len (ad : Nat → Nat) : ∀ vs : List Value, (lg_sl (vs.map (mTau ad))).length = (lg_sl vs).length
  | [] => rfl
  | v :: t => by
    have ih := mSl_len ad t
    simp only [lg_sl, List.map_cons, List.flatMap_cons, List.length_append, mTau_cat] at ih ⊢
    rw [ih]
    congr 1
    split <;> rfl
/-- **THE SMALL MACHINE IS SOUND**: a run of it is kept by the method's own contract over the JVM. -/
theorem mSound {l : Launch} {D : va_G} {cA : Nat → ClassId} {ad : Nat → Nat} {h0 : Nat} {tab : Nat → Option mRec} (hl : l.stackTraces = false) (hA : mAd ad h0) (htab : ∀ y M, tab y = some M → mOkM tab M) :
    ∀ (d y : Nat) (As : List Value) (X : mHX) (r : mRes), mRun tab d y As X r → mLe X r.2 ∧ ∃ M, tab y = some M ∧ mMet l D cA ad h0 d M As X r
  | 0, _, _, _, _, h => h.elim
  | d + 1, y, As, X, r, h => by
    refine ⟨mRun_le _ _ _ _ _ h, ?_⟩
    obtain ⟨M, hM, hlen, f, hf⟩ := h
    refine ⟨M, hM, ?_⟩
    have hMok := htab y M hM
    have body : ∀ (p : Program) (e : Env) (s : State) (m : MethodId) (args : Array Value) (below : List Frame) (meth : Method) (c : Code) (s₁ : State), BodyLoose p l (mrN M) (headSpec (mWs M) (mRm (d + 1) (mNc r.2 - mNc X) (mNs r.2 - mNs X))) (mrB M) (mrL M) (mrR M) e s m args below meth c s₁ → c.maxLocals = mrL M → c.exceptionTable.toList = tableOf (mrH M) → mPc D cA ad h0 As X args s →
        W p l e (headSpec (mWs M) (mRm (d + 1) (mNc r.2 - mNc X) (mNs r.2 - mNs X))).room s m args below meth c s.heap [] 0 0 (vx_MQ below (mQc D cA ad h0 r) (mXC D cA ad h0 r) args s (mNc r.2 - mNc X) (mNs r.2 - mNs X) (mAA h0)) (entryFrame m args (mrL M)) := by
      intro p e s m args below meth c s₁ B hml htb hP
      obtain ⟨rfl, hH, hG⟩ := hP
      have hts : ∀ w ∈ mT, w.before (As.map (mTau ad)).toArray s = true := fun w hw => atoms_spec (ws := mWs M) B.pre w (List.mem_cons_of_mem _ hw)
      have C0 : mCx p l (mRm (d + 1) (mNc r.2 - mNc X) (mNs r.2 - mNs X)) s m (As.map (mTau ad)).toArray meth c D cA ad h0 d M :=
        ⟨B.exec, B.bytes, hml, B.returns, B.notSynchronized, (name_of_methodNamed B.named B.method).1, htb, findClass_of_methodNamed B.named, hts, hG, hA, hl, (by show d + 7 ≤ d + 1 + 6; omega), (by show 120 * (d + 2) ≤ 120 * (d + 1 + 1); omega)⟩
      have hk := mEx_ok (e := e) (below := below) (c0 := mNc X) (s0 := mNs X) (r := r) C0 hMok (fun y As X r1 h => mSound hl hA htab d y As X r1 h) (Nat.le_refl _) (Nat.le_refl _) f (0, lv_args 0 As, [], X) (Nat.le_refl _) (Nat.le_refl _) hf
      have hlv := lv_entry (As.map (mTau ad)) (n := mrL M) (by rw [mSl_len]; exact hlen)
      rw [lg_entry_eq]
      rw [mTl_args] at hlv
      have k9 := hk s.heap [] _ hH va_S.rf hlv
      have e1 : mNc X - mNc X = 0 := Nat.sub_self _
      have e2 : mNs X - mNs X = 0 := Nat.sub_self _
      have k10 : W p l e (mRm (d + 1) (mNc r.2 - mNc X) (mNs r.2 - mNs X)) s m (As.map (mTau ad)).toArray below meth c s.heap [] (mNc X - mNc X) (mNs X - mNs X) (vx_MQ below (mQc D cA ad h0 r) (mXC D cA ad h0 r) (As.map (mTau ad)).toArray s (mNc r.2 - mNc X) (mNs r.2 - mNs X) (mAA h0)) (F0 m 0 _ []) := k9
      rw [e1, e2] at k10
      exact k10
    unfold mMet
    by_cases hH : mrH M = []
    · refine vx_ofW (cc := mrB M) (maxL := mrL M) (ret := mrR M) (ws' := mT) hMok.1 (by unfold mWs; rw [if_pos hH]) fun p e s m args below meth c s₁ B hml ht hP => body p e s m args below meth c s₁ B hml ?_ hP
      rw [hH]
      cases hx : c.exceptionTable.toList with
      | nil => rfl
      | cons z t => exact (ht z (by rw [hx]; exact List.mem_cons_self)).elim
    · refine vx_ofWH (cc := mrB M) (maxL := mrL M) (ret := mrR M) (hh := mrH M) (ws' := mT) hMok.1 (by unfold mWs; rw [if_neg hH]) fun p e s m args below meth c s₁ B hml hP => body p e s m args below meth c s₁ B hml ?_ hP
      refine vx_table (x := mrN M) B (bytes := mrB M) (maxL' := mrL M) (ret' := mrR M) (atoms_spec (ws := mWs M) B.pre _ ?_)
      unfold mWs
      rw [if_neg hH]
      exact List.mem_cons_self
