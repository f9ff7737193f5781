/-! ===== every straight instruction ===== -/
def mLen : Instr → Nat
  | .bipush _ => 2
  | .sipush _ => 3
  | .iload _ => 2
  | .lload _ => 2
  | .aload _ => 2
  | .istore _ => 2
  | .lstore _ => 2
  | .astore _ => 2
  | .iinc _ _ => 3
  | .goto _ => 3
  | .ifnull _ => 3
  | .ifnonnull _ => 3
  | .ifCond _ _ => 3
  | .if_icmp _ _ => 3
  | .if_acmp _ _ => 3
  | .getfield _ => 3
  | .putfield _ => 3
  | .getstatic _ => 3
  | .invokevirtual _ => 3
  | .invokespecial _ => 3
  | .invokestatic _ => 3
  | .new _ => 3
  | .newarray _ => 2
  | .multianewarray _ _ => 4
  | .ldc _ => 2
  | .ldc_w _ => 3
  | .ldc2_w _ => 3
  | _ => 1
/-- the bytes at pc are this instruction -/
def mOkD (cc : ByteArray) (pc : Nat) (i : Instr) : Prop := match i with
  | .tableswitch _ _ _ _ => ∃ len, decode cc pc = .ok (i, len)
  | .lookupswitch _ _ => ∃ len, decode cc pc = .ok (i, len)
  | _ => decode cc pc = .ok (i, mLen i)
/-- what its links must be -/
def mOkS (own nm : String) (i : Instr) (rs : List Nat) : Prop := match i with
  | .getfield idx => rs.getD 0 0 ≠ 900 → mOkF own idx (rs.getD 0 0) (rs.getD 1 0)
  | .putfield idx => mOkP own nm idx (rs.getD 0 0) (rs.getD 1 0)
  | _ => True
section MST
variable {p : Program} {l : Launch} {e : Env} {R : Room} {s : State} {m : MethodId} {args : Array Value} {below : List Frame} {meth : Method} {c : Code} {c0 s0 : Nat} {Q : State → Prop}
variable {cc : ByteArray} {nL pc : Nat} {own : String} {D : va_G} {cA : Nat → ClassId} {ad : Nat → Nat} {h0 : Nat} {X : mHX} {lv : mLV} {st : List Value} {S' : mSt} {C : List Prop}
theorem mIsI_of {v : Value} (h : mIsI v = true) : ∃ x, v = .int x := by cases v <;> first | exact ⟨_, rfl⟩ | cases h
theorem mIsL_of {v : Value} (h : mIsL v = true) : ∃ x, v = .long x := by cases v <;> first | exact ⟨_, rfl⟩ | cases h
theorem mIsA_of {v : Value} (h : mIsA v = true) : ∃ x, v = va_rf x := by cases v <;> first | exact ⟨some _, rfl⟩ | exact ⟨none, rfl⟩ | cases h
theorem mk_tsw {dflt lo hi : Int} {offs : Array Int} {len : Nat} (h : mTswitch dflt lo hi offs pc lv st X = some (S', C)) (hC : mAll C) (hx : p.tables.exec = Jvm.exec) (hb : c.code = cc) (hd : decode cc pc = .ok (.tableswitch dflt lo hi offs, len))
    (k : mKK p l e R s m args below meth c Q nL D cA ad h0 c0 s0 S') : mKK p l e R s m args below meth c Q nL D cA ad h0 c0 s0 (pc, lv, st, X) := by
  unfold mTswitch at h
  split at h
  · rename_i x t
    cases h
    obtain ⟨h1, h2, -⟩ := hC
    intro H locs ls hH hS hl
    by_cases hr : x.toInt < lo ∨ hi < x.toInt
    · refine lv_tableOut hx hb hd hr (tgt := mTo pc (mTsw dflt lo hi offs x)) ?_ (k H locs ls hH hS hl)
      have e9 : mTsw dflt lo hi offs x = dflt := if_pos hr
      rw [e9] at h1 ⊢
      exact mTo_eq h1
    · have hlt : (x.toInt - lo).toNat < offs.size := by rcases h2 with q | q | q; exact q; exact absurd (Or.inl q) hr; exact absurd (Or.inr q) hr
      refine lv_tableIn hx hb hd (off := mTsw dflt lo hi offs x) (fun q => hr (Or.inl q)) (fun q => hr (Or.inr q)) ?_ (tgt := mTo pc (mTsw dflt lo hi offs x)) (mTo_eq h1) (k H locs ls hH hS hl)
      have e9 : mTsw dflt lo hi offs x = offs.toList.getD (x.toInt - lo).toNat 0 := if_neg hr
      rw [e9]
      simp [hlt]
  · cases h
theorem mk_lsw {dflt : Int} {ps : Array (Int × Int)} {len : Nat} (h : mLswitch dflt ps pc lv st X = some (S', C)) (hC : mAll C) (hx : p.tables.exec = Jvm.exec) (hb : c.code = cc) (hd : decode cc pc = .ok (.lookupswitch dflt ps, len))
    (k : mKK p l e R s m args below meth c Q nL D cA ad h0 c0 s0 S') : mKK p l e R s m args below meth c Q nL D cA ad h0 c0 s0 (pc, lv, st, X) := by
  unfold mLswitch at h
  split at h
  · rename_i x t
    split at h
    · rename_i hp
      cases h
      intro H locs ls hH hS hl
      exact lv_lookup hx hb hd hp rfl (mTo_eq hC.1) (k H locs ls hH hS hl)
    · cases h
  · cases h
set_option maxHeartbeats 4000000 in
theorem mS1_ok {i : Instr} {rs : List Nat} (hx : p.tables.exec = Jvm.exec) (hb : c.code = cc) (hts : ∀ w ∈ mT, w.before args s = true) (hown : s.vm.findClass own = some m.cls) (hK : va_K D mCl (mTys cA) s) (hA : mAd ad h0)
    (hd : mOkD cc pc i) (hok : mOkS own meth.name i rs) (h : mS1 nL i rs pc lv st X = some (S', C)) (hC : mAll C)
    (k : mKK p l e R s m args below meth c Q nL D cA ad h0 c0 s0 S') : mKK p l e R s m args below meth c Q nL D cA ad h0 c0 s0 (pc, lv, st, X) := by
  cases i
  case iconst n => cases h; exact mk_same (fun H locs ls hl w => lv_iconst hx hb hd rfl w) k
  case bipush n => cases h; exact mk_same (fun H locs ls hl w => lv_bipush hx hb hd rfl w) k
  case sipush n => cases h; exact mk_same (fun H locs ls hl w => lv_sipush hx hb hd rfl w) k
  case lconst n => cases h; exact mk_same (fun H locs ls hl w => lv_lconst hx hb hd rfl w) k
  case aconst_null => cases h; exact mk_same (fun H locs ls hl w => lv_null hx hb hd w) k
  case iload_n n => exact mk_load h (fun H locs ls v hv hl w => by obtain ⟨x, rfl⟩ := mIsI_of hv; exact lv_iload_n hx hb hd rfl hl w) k
  case iload n => exact mk_load h (fun H locs ls v hv hl w => by obtain ⟨x, rfl⟩ := mIsI_of hv; exact lv_iload hx hb hd hl w) k
  case lload_n n => exact mk_load h (fun H locs ls v hv hl w => by obtain ⟨x, rfl⟩ := mIsL_of hv; exact lv_lload_n hx hb hd rfl hl w) k
  case lload n => exact mk_load h (fun H locs ls v hv hl w => by obtain ⟨x, rfl⟩ := mIsL_of hv; exact lv_lload hx hb hd hl w) k
  case aload_n n => exact mk_load h (fun H locs ls v hv hl w => by
    obtain ⟨x, rfl⟩ := mIsA_of hv
    cases x with
    | none => exact lv_aload_nN hx hb hd rfl hl w
    | some x => exact lv_aload_n hx hb hd rfl hl w) k
  case aload n => exact mk_load h (fun H locs ls v hv hl w => by
    obtain ⟨x, rfl⟩ := mIsA_of hv
    cases x with
    | none => exact lv_aloadN hx hb hd hl w
    | some x => exact lv_aload hx hb hd hl w) k
  case istore_n n => exact mk_ist h (fun H locs ls x rest hl hi w => lv_istore_n hx hb hd rfl hl hi rfl w) k
  case istore n => exact mk_ist h (fun H locs ls x rest hl hi w => lv_istore hx hb hd hl hi rfl w) k
  case lstore_n n => exact mk_lst h (fun H locs ls x rest hl hi w => lv_lstore_n hx hb hd rfl hl hi rfl w) k
  case lstore n => exact mk_lst h (fun H locs ls x rest hl hi w => lv_lstore hx hb hd hl hi rfl w) k
  case astore_n n => exact mk_ast h (fun H locs ls x rest hl hi w => by
    cases x with
    | none => exact lv_astore_nN hx hb hd rfl hl hi rfl w
    | some x => exact lv_astore_n hx hb hd rfl hl hi rfl w) k
  case astore n => exact mk_ast h (fun H locs ls x rest hl hi w => by
    cases x with
    | none => exact lv_astoreN hx hb hd hl hi rfl w
    | some x => exact lv_astore hx hb hd hl hi rfl w) k
  case iadd => exact mk_i2 h (fun H locs ls x y rest w => lv_iadd hx hb hd w) k
  case isub => exact mk_i2 h (fun H locs ls x y rest w => lv_isub hx hb hd w) k
  case imul => exact mk_i2 h (fun H locs ls x y rest w => lv_imul hx hb hd w) k
  case iand => exact mk_i2 h (fun H locs ls x y rest w => lv_iand hx hb hd w) k
  case ior => exact mk_i2 h (fun H locs ls x y rest w => lv_ior hx hb hd w) k
  case ixor => exact mk_i2 h (fun H locs ls x y rest w => lv_ixor hx hb hd w) k
  case ishl => exact mk_i2 h (fun H locs ls x y rest w => lv_ishl hx hb hd w) k
  case ishr => exact mk_i2 h (fun H locs ls x y rest w => lv_ishr hx hb hd w) k
  case iushr => exact mk_i2 h (fun H locs ls x y rest w => lv_iushr hx hb hd rfl w) k
  case idiv => exact mk_i2n h hC (fun H locs ls x y rest hy w => lv_idiv hx hb hd hy w) k
  case irem => exact mk_i2n h hC (fun H locs ls x y rest hy w => lv_irem hx hb hd hy w) k
  case ineg => exact mk_i1 h (fun H locs ls x rest w => lv_ineg hx hb hd w) k
  case i2b => exact mk_i1 h (fun H locs ls x rest w => lv_i2b hx hb hd rfl w) k
  case i2c => exact mk_i1 h (fun H locs ls x rest w => lv_i2c hx hb hd rfl w) k
  case i2l =>
    have h9 : mI2L pc lv st X = some (S', C) := h
    unfold mI2L at h9
    split at h9
    · cases h9; exact fun H locs ls hH hS hl => lv_i2l hx hb hd rfl (k H locs ls hH hS hl)
    · cases h9
  case l2i =>
    have h9 : mL2I pc lv st X = some (S', C) := h
    unfold mL2I at h9
    split at h9
    · cases h9; exact fun H locs ls hH hS hl => lv_l2i hx hb hd rfl (k H locs ls hH hS hl)
    · cases h9
  case ladd => exact mk_l2 h (fun H locs ls x y rest w => lv_ladd hx hb hd w) k
  case lsub => exact mk_l2 h (fun H locs ls x y rest w => lv_lsub hx hb hd w) k
  case land => exact mk_l2 h (fun H locs ls x y rest w => lv_land hx hb hd w) k
  case lor => exact mk_l2 h (fun H locs ls x y rest w => lv_lor hx hb hd w) k
  case lshl => exact mk_ls h (fun H locs ls x y rest w => lv_lshl hx hb hd rfl w) k
  case lshr => exact mk_ls h (fun H locs ls x y rest w => lv_lshr hx hb hd rfl w) k
  case lushr => exact mk_ls h (fun H locs ls x y rest w => lv_lushr hx hb hd rfl w) k
  case lcmp =>
    have h9 : mLcmp pc lv st X = some (S', C) := h
    unfold mLcmp at h9
    split at h9
    · cases h9; exact fun H locs ls hH hS hl => W.lcmp hx hb hd (k H locs ls hH hS hl)
    · cases h9
  case dup =>
    have h9 : mDup pc lv st X = some (S', C) := h
    unfold mDup at h9
    split at h9
    · split at h9
      · rename_i hc
        cases h9; exact fun H locs ls hH hS hl => lv_dup hx hb hd (by rw [mTau_cat]; exact hc) (k H locs ls hH hS hl)
      · cases h9
    · cases h9
  case pop =>
    have h9 : mPop pc lv st X = some (S', C) := h
    unfold mPop at h9
    split at h9
    · split at h9
      · rename_i hc
        cases h9; exact fun H locs ls hH hS hl => lv_pop hx hb hd (by rw [mTau_cat]; exact hc) (k H locs ls hH hS hl)
      · cases h9
    · cases h9
  case dup2 =>
    have h9 : mDup2 pc lv st X = some (S', C) := h
    unfold mDup2 at h9
    split at h9
    · split at h9
      · rename_i hc
        cases h9; exact fun H locs ls hH hS hl => lv_dup2_11 hx hb hd (by rw [mTau_cat]; exact hc.1) (by rw [mTau_cat]; exact hc.2) (k H locs ls hH hS hl)
      · cases h9
    · cases h9
  case iinc i n => exact mk_iinc h hx hb hd k
  case goto off =>
    have h9 : mGoto off pc lv st X = some (S', C) := h
    unfold mGoto at h9
    split at h9
    · rename_i hc
      cases h9; exact fun H locs ls hH hS hl => lv_goto hx hb hd (mTo_eq hc) (k H locs ls hH hS hl)
    · cases h9
  case ifnull off =>
    have h9 : mIfnull off pc lv st X = some (S', C) := h
    unfold mIfnull at h9
    split at h9
    · split at h9
      · rename_i hc
        cases h9; exact fun H locs ls hH hS hl => lv_ifnullN hx hb hd (mTo_eq hc) (k H locs ls hH hS hl)
      · cases h9
    · cases h9; exact fun H locs ls hH hS hl => lv_ifnull hx hb hd (k H locs ls hH hS hl)
    · cases h9
  case ifnonnull off =>
    have h9 : mIfnonnull off pc lv st X = some (S', C) := h
    unfold mIfnonnull at h9
    split at h9
    · split at h9
      · rename_i hc
        cases h9; exact fun H locs ls hH hS hl => lv_ifnonnull hx hb hd (mTo_eq hc) (k H locs ls hH hS hl)
      · cases h9
    · cases h9; exact fun H locs ls hH hS hl => lv_ifnonnullN hx hb hd (k H locs ls hH hS hl)
    · cases h9
  case iaload => exact mk_iald h hC hx hb hK hd k
  case baload => exact mk_bald h hC hx hb hK hd k
  case laload => exact mk_lald h hC hx hb hK hd k
  case iastore => exact mk_iast2 h hC hx hb hK hA hd k
  case bastore => exact mk_bast h hC hx hb hK hA hd k
  case lastore => exact mk_last2 h hC hx hb hK hA hd k
  case arraylength => exact mk_alen h hx hb hK hd k
  case tableswitch d lo hi offs => obtain ⟨len, hd⟩ := hd; exact mk_tsw h hC hx hb hd k
  case lookupswitch d ps => obtain ⟨len, hd⟩ := hd; exact mk_lsw h hC hx hb hd k
  case getfield idx =>
    have h9 : (if rs.getD 0 0 = 900 then (fun _ _ _ _ => none) else mGetf (rs.getD 0 0) (rs.getD 1 0)) pc lv st X = some (S', C) := h
    split at h9
    · cases h9
    · rename_i hne
      exact mk_getf h9 hx hb hts hown hK (hok hne) hd k
  case putfield idx => exact mk_putf h hC hx hb hts hown hK hA hok hd k
  all_goals exact absurd (show (none : mS1T) = some (S', C) from h) (fun q => nomatch q)
end MST
