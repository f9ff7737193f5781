/-! ===== THE BEGINNING: into the law's loop ===== -/
section BEGIN9
variable {L : Nat} {xs : Nat → Int32} {T : zT}
theorem arrV_cg {cI : ClassId} {N : Nat} {f g : Nat → Value} (h : ∀ j, j < N → f j = g j) : arrV cI N f = arrV cI N g := by
  unfold arrV
  congr 1
  apply Array.ext
  · rw [Array.size_ofFn, Array.size_ofFn]
  · intro i h1 h2
    rw [Array.getElem_ofFn, Array.getElem_ofFn]
    exact h i (by rw [Array.size_ofFn] at h1; exact h1)
theorem mHR_beg {D : va_G} {cA : Nat → ClassId} {ad : Nat → Nat} {h0 : Nat} {H : Heap} (h1 : zCk1 T = true) (h2 : zCk2 T = true) (h : mHR D cA ad h0 (dX L xs T.2.2.2) H) : mHR D cA ad h0 (mK (wBeg L xs T.2.2.2)) H := by
  obtain ⟨-, -, -, -, -, -, -, f8, f9, -, -⟩ := z1_facts h1
  have f2 := z2_facts (L := L) (xs := xs) h2
  obtain ⟨a1, ⟨a2, a3⟩, a4, -⟩ := h
  have hN : mN (dX L xs T.2.2.2) = 117 := f8
  have sh : ∀ k, k < 117 → mSh (mK (wBeg L xs T.2.2.2)) k = mSh (dX L xs T.2.2.2) k := by
    intro k hk
    rw [dX_sh (by omega), f9 k hk]
    exact nShw_lt hk _
  have shn : ∀ k, k < 117 → mSh (dX L xs T.2.2.2) k = nSh k := fun k hk => by rw [dX_sh (by omega), f9 k hk]
  refine ⟨fun k hk => ?_, ⟨(show 117 ≤ 1000000 by decide), ?_, a3.2⟩, fun k hk hkd => ?_, fun hf => by cases hf⟩
  · have hk : k < 117 := hk
    have hb := a1 k (by rw [hN]; exact hk)
    have s1 := sh k hk
    have s2 := shn k hk
    unfold mEnc at hb ⊢
    rw [s1]
    by_cases c0 : (mSh (dX L xs T.2.2.2) k).1 = 100
    · rw [if_pos c0] at hb ⊢; exact hb
    rw [if_neg c0] at hb ⊢
    by_cases c1 : (mSh (dX L xs T.2.2.2) k).1 = 101
    · rw [if_pos c1] at hb ⊢; exact hb
    rw [if_neg c1] at hb ⊢
    by_cases c2 : (mSh (dX L xs T.2.2.2) k).1 = 102
    · rw [if_pos c2] at hb ⊢; exact hb
    rw [if_neg c2] at hb ⊢
    by_cases c3 : (mSh (dX L xs T.2.2.2) k).1 = 103
    · rw [if_pos c3] at hb ⊢; exact hb
    rw [if_neg c3] at hb ⊢
    by_cases c4 : (mSh (dX L xs T.2.2.2) k).1 = 104
    · rw [if_pos c4] at hb ⊢
      have e : vp_cell (cA 4) ((mSh (dX L xs T.2.2.2) k).2, .inr (.inr (.inr (.inr (fun j => (mP (mK (wBeg L xs T.2.2.2)) k j).map ad))))) = vp_cell (cA 4) ((mSh (dX L xs T.2.2.2) k).2, .inr (.inr (.inr (.inr (fun j => (mP (dX L xs T.2.2.2) k j).map ad))))) := by
        rw [vp_cell_q, vp_cell_q]
        refine arrV_cg (fun j hj => ?_)
        have := f2 k hk (.inr (by rw [← s2]; exact c4)) j (by rw [← s2]; exact hj)
        show va_rf ((nP (wBeg L xs T.2.2.2) k j).map ad) = va_rf ((lkp none k j T.2.2.2.2.2.2.2.2).map ad)
        rw [this]
      show H[ad k]? = some (vp_cell (cA 4) _)
      rw [e]
      exact hb
    · rw [if_neg c4] at hb ⊢
      have hlt : (nSh k).1 < 100 := by
        have key : ∀ k : Fin 117, (nSh k.1).1 < 100 ∨ (nSh k.1).1 = 100 ∨ (nSh k.1).1 = 101 ∨ (nSh k.1).1 = 102 ∨ (nSh k.1).1 = 103 ∨ (nSh k.1).1 = 104 := by decide +kernel
        have := key ⟨k, hk⟩
        have this : (nSh k).1 < 100 ∨ (nSh k).1 = 100 ∨ (nSh k).1 = 101 ∨ (nSh k).1 = 102 ∨ (nSh k).1 = 103 ∨ (nSh k).1 = 104 := this
        rw [s2] at c0 c1 c2 c3 c4
        omega
      have e : (List.range (mSh (dX L xs T.2.2.2) k).2).map (fun j => mTau ad (mFld (mK (wBeg L xs T.2.2.2)) k j (mTy (mSh (dX L xs T.2.2.2) k).1 j))) = (List.range (mSh (dX L xs T.2.2.2) k).2).map (fun j => mTau ad (mFld (dX L xs T.2.2.2) k j (mTy (mSh (dX L xs T.2.2.2) k).1 j))) := by
        apply List.map_congr_left
        intro j hj
        have hj := List.mem_range.mp hj
        have := f2 k hk (.inl hlt) j (by rw [← s2]; exact hj)
        have eP : mP (mK (wBeg L xs T.2.2.2)) k j = mP (dX L xs T.2.2.2) k j := this.symm
        congr 1
        cases mTy (mSh (dX L xs T.2.2.2) k).1 j <;> simp only [mFld, eP] <;> rfl
      rw [e]
      exact hb
  · exact a3.1
  · have hk : k < 117 := hk
    rw [sh k hk] at hkd ⊢
    exact a4 k (by rw [hN]; exact hk) hkd
variable {p : Program} {l : Launch} {e : Env} {R : Room} {s : State} {m : MethodId} {args : Array Value} {below : List Frame} {meth : Method} {c : Code} {D : va_G} {cA : Nat → ClassId} {ad : Nat → Nat} {h0 d : Nat} {r : mRes} {c0 s0 : Nat}
/-- frozen is enough -/
theorem mKK_freeze {Q : State → Prop} {nL : Nat} {lv : mLV} {st : List Value} {pc : Nat} (h1 : zCk1 T = true) (h2 : zCk2 T = true) (h : mKK p l e R s m args below meth c Q nL D cA ad h0 c0 s0 (pc, lv, st, mK (wBeg L xs T.2.2.2))) : mKK p l e R s m args below meth c Q nL D cA ad h0 c0 s0 (pc, lv, st, dX L xs T.2.2.2) :=
  fun H locs ls hH hS hl => h H locs ls (mHR_beg h1 h2 hH) hS hl
/-- the first instructions, as the kernel reckons them -/
theorem zPre_ok {zc : Nat → List Value → zP → Option zP} {call : Nat → List Value → mHX → mRes → Prop} {M : mRec} {stop : Nat} (C0 : mCx p l R s m args meth c D cA ad h0 d M) (hM : mOkM mTab M) (hcall : ∀ y As X r1, call y As X r1 → mLe X r1.2 ∧ ∃ M', mTab y = some M' ∧ mMet l D cA ad h0 d M' As X r1) (hc : ∀ y As z z', zOk z → zc y As z = some z' → zOk z' ∧ call y As (dX L xs z) (.inl none, dX L xs z')) (hRc : mNc r.2 - c0 ≤ R.cells) (hRs : mNs r.2 - s0 ≤ R.slots) :
    ∀ f S T, zPre zc M stop f S = some T → zOk S.2.2.2 → c0 ≤ mNc (dX L xs S.2.2.2) → s0 ≤ mNs (dX L xs S.2.2.2) →
      (c0 ≤ mNc (dX L xs T.2.2.2) → s0 ≤ mNs (dX L xs T.2.2.2) → mKK p l e R s m args below meth c (mQQ D cA ad h0 below args s r c0 s0) (mrL M) D cA ad h0 c0 s0 (dSt L xs T) ∧ mLe (dX L xs T.2.2.2) r.2) →
      mKK p l e R s m args below meth c (mQQ D cA ad h0 below args s r c0 s0) (mrL M) D cA ad h0 c0 s0 (dSt L xs S) ∧ mLe (dX L xs S.2.2.2) r.2
  | 0, _, _, h, _, _, _, _ => by cases h
  | f + 1, S, T, h, hz, h1, h2, hT => by
    unfold zPre at h
    by_cases cs : S.1 = stop
    · rw [if_pos cs] at h
      have : S = T := Option.some.inj h
      subst this
      exact hT h1 h2
    · rw [if_neg cs] at h
      cases he : zE1 zc M S with
      | none => rw [he] at h; cases h
      | some q =>
        rw [he] at h
        cases q with
        | inr z9 => cases h
        | inl T1 =>
          -- what it leads to
          have lem : zOk T1.2.2.2 ∧ ∀ k : mSt → mRes → Prop, k (dSt L xs T1) r → mStepR call M k (dSt L xs S) r := by
            refine ⟨((zE1_ok (L := L) (xs := xs) (M := M) (S := S) (k := fun _ _ => True) hc hz).1 T1 r he).1, fun k hk => ((zE1_ok (L := L) (xs := xs) (M := M) (S := S) (k := k) hc hz).1 T1 r he).2 hk⟩
          have grow : mLe (dX L xs S.2.2.2) (dX L xs T1.2.2.2) := by
            have q := ((zE1_ok (L := L) (xs := xs) (M := M) (S := S) (k := fun S' r' => S' = dSt L xs T1 ∧ r' = (.inl none, dX L xs T1.2.2.2)) hc hz).1 T1 (.inl none, dX L xs T1.2.2.2) he).2 ⟨rfl, rfl⟩
            exact mStepR_le (fun y As X r1 h => (hcall y As X r1 h).1) (fun S' hS' => by rw [hS'.1]; exact mLe.rf _) q
          have K := zPre_ok C0 hM hcall hc hRc hRs f T1 T h lem.1 (Nat.le_trans h1 grow.1) (Nat.le_trans h2 grow.2) hT
          have st := lem.2 (fun S' r' => S' = dSt L xs T1 ∧ r' = r) ⟨rfl, rfl⟩
          refine ⟨mStep_ok C0 hM hcall (fun S' hS' => by rw [hS'.1]; exact K.2) h1 h2 hRc hRs (fun S' _ hS' => by rw [hS'.1]; exact K.1) st, ⟨Nat.le_trans grow.1 K.2.1, Nat.le_trans grow.2 K.2.2⟩⟩
end BEGIN9
