/-! ===== THE LAW'S BODY, FROM ITS FIRST INSTRUCTION ===== -/
theorem law_ops : lawOps Inv := ⟨op_feed, op_lanes, op_fault, op_count, op_cell, op_look, op_swimmer, op_delay, op_worst, op_swim, op_chair, op_lasts, op_change, op_minutes, op_undo, op_order, op_lengths, op_row, op_best, op_away, op_swap, op_many, op_halves, op_two, op_game, op_fun, op_jump, op_dummy, op_dummies, op_more, op_heads, op_forget, op_missing, op_week, op_blind, op_without, op_risk, op_image, op_restore⟩
section LAWB
variable {L : Nat} {xs : Nat → Int32} {p : Program} {l : Launch} {e : Env} {R : Room} {s : State} {m : MethodId} {args : Array Value} {below : List Frame} {meth : Method} {c : Code} {D : va_G} {cA : Nat → ClassId} {ad : Nat → Nat} {h0 : Nat}
theorem law_body (hL : L ≤ 3072) (C0 : mCx p l R s m args meth c D cA ad h0 69 mM324) (C1 : mCx p l R s m args meth c D cA ad h0 20 mM324) (hRc : 2000 ≤ R.cells) (hRs : 200000 ≤ R.slots) :
    ∃ X : mHX, mNc X ≤ 2000 ∧ mNs X ≤ 200000 ∧ mKK p l e R s m args below meth c (mQQ D cA ad h0 below args s (.inl (some (.int 1)), X) 0 0) 7 D cA ad h0 0 0 (0, [(0, .ref 2000000)], [], dX L xs z00) := by
  obtain ⟨T, hT, k1, k2, k3⟩ := zGo_at
  obtain ⟨f1, f2, f3, f4, f5, f6, f7, f8, f9, f10, f11⟩ := z1_facts k1
  obtain ⟨v, w', hw, hv, hc⟩ := law_main law_ops (beg_Inv (L := L) (xs := xs) k3) (show nLn (wBeg L xs T.2.2.2) ≤ 3072 from hL)
  subst hv
  have hst : l.stackTraces = false := by obtain ⟨-, -, -, -, -, -, -, -, -, -, -, h, -⟩ := C0; exact h
  have hA : mAd ad h0 := by obtain ⟨-, -, -, -, -, -, -, -, -, -, h, -⟩ := C0; exact h
  have hM : mOkM mTab mM324 := mTab_ok 324 mM324 rfl
  have b1 : w'.2.2.2.2.1 ≤ 2000 := by have := hc.1; have e : (wBeg L xs T.2.2.2).2.2.2.2.1 = T.2.2.2.1 := rfl; omega
  have b2 : w'.2.2.2.2.2.1 ≤ 200000 := by have := hc.2; have e : (wBeg L xs T.2.2.2).2.2.2.2.2.1 = T.2.2.2.2.1 := rfl; omega
  have hfit : mFit [some (.ref 2000000), some (.ref 0), some (.ref 80), some (.ref 116), some (.int 0), none, none] T.2.1 := by
    intro i u hu
    rcases i with _ | _ | _ | _ | _ | _ | _ | i
    · cases hu; assumption
    · cases hu; assumption
    · cases hu; assumption
    · cases hu; assumption
    · cases hu; assumption
    · cases hu
    · cases hu
    · cases hu
  obtain ⟨f, hf⟩ := fLaw_ok 0 (wBeg L xs T.2.2.2) T.2.1 hfit (1, w') hw
  refine ⟨mK w', b1, b2, ?_⟩
  have K1 : mKK p l e R s m args below meth c (mQQ D cA ad h0 below args s (.inl (some (.int 1)), mK w') 0 0) 7 D cA ad h0 0 0 (23, T.2.1, [], mK (wBeg L xs T.2.2.2)) :=
    mEx_ok (r := (.inl (some (.int 1)), mK w')) C0 hM (fun y As X r1 h => mSound hst hA mTab_ok 69 y As X r1 h) (show w'.2.2.2.2.1 - 0 ≤ R.cells by omega) (show w'.2.2.2.2.2.1 - 0 ≤ R.slots by omega) f _ (Nat.zero_le _) (Nat.zero_le _) hf
  have K2 := mKK_freeze k1 k2 K1
  have hle : mLe (dX L xs T.2.2.2) (mK w') := mEx_le (fun y As X r1 h => (mSound (D := D) (cA := cA) hst hA mTab_ok 69 y As X r1 h).1) f _ hf
  have e0 : dSt L xs T = (23, T.2.1, [], dX L xs T.2.2.2) := by
    show (T.1, T.2.1, T.2.2.1, dX L xs T.2.2.2) = _
    rw [f1, f2]
  exact (zPre_ok (L := L) (xs := xs) (zc := zRun 20) (call := mRun mTab 20) (M := mM324) (stop := 23) C1 hM (fun y As X r1 h => mSound hst hA mTab_ok 20 y As X r1 h) (fun y As z z' hz h => zRun_ok 20 y As z z' hz h) (show w'.2.2.2.2.1 - 0 ≤ R.cells by omega) (show w'.2.2.2.2.2.1 - 0 ≤ R.slots by omega) 40 (0, [(0, .ref 2000000)], [], z00) T hT ⟨(show 0 ≤ 1000000 by decide), (fun q h => by cases h), (fun q h => by cases h), (fun q h => by cases h)⟩ (Nat.zero_le _) (Nat.zero_le _) (fun _ _ => ⟨by rw [e0]; exact K2, hle⟩)).1
end LAWB
