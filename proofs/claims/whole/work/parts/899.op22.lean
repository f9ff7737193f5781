/-! ===== OPERATIONS: two ===== -/
section BH
variable {g : gS} {r : gR} {w : mW} {Q : Int32 → mW → Prop}
abbrev gHb (g : gS) (r : gR) (k : Nat) : Nat × Option Nat := bst (fun j => gHv g r (j + 1)) k
theorem gHb_B (ho : gOk g) (k : Nat) : oB (gHb g r k).2 := bst_B (f := fun j => gHv g r (j + 1)) (fun j => gHv_B ho (j + 1)) k
theorem c_bestH (hr : rC g w) (hR : rCr r g w) (ho : gOk g) (hk : rOk r g) (hq : ∀ w', fr pH w w' → Q (if gW g - 1 = 0 then -nI 1 else nI ((gHb g r (gW g - 1)).1 + 1)) w') : hP (f116_23 w) Q := by
  have hw := gOk_wd ho
  unfold f116_23
  refine hP_loopF (fun n s => ∃ k w1, k + n = gW g - 1 ∧ s = ((if k = 0 then -nI 1 else nI ((gHb g r k).1 + 1)), (if k = 0 then nI 0 else eC (gHb g r k).2), nI (k + 1), w1) ∧ fr pH w w1) (gW g - 1) (by omega) ⟨0, w, by omega, rfl, fr_refl⟩ ?_
  rintro n s rec ⟨k, w1, hkn, rfl, hf⟩ ih
  have hr1 := rC_fr (by decide) hf hr
  simp only [f116_23_b6]
  by_cases c1 : k + 1 < gW g
  · simp (disch := first | omega | (simp only [fIn, fR, fC, Nat.reduceEqDiff, decide_false, decide_true, Bool.false_or, Bool.or_false, Bool.false_and, Bool.and_false, Bool.or_self, Bool.true_and, Bool.true_or, Bool.and_true, Bool.or_true, Bool.and_self]; done) | fail) only [hP_some, hP_let, hP_gd, hP_B, hP_if, reduceIte, q_lit, nI_add, pk_mul, q_lt, q_le, q_eq, q_cl, q_g, Bool.not_eq_true', decide_eq_false_iff_not, decide_eq_true_eq, q_div, q_rm, q_sub, q_m1, Nat.zero_add, Nat.add_zero, rC_wd hr1, c1]
    refine c_halves hr1 (rCr_fr (by decide) hf hR) ho hk (by omega) (fun w2 hf2 => ?_)
    have hf3 := fr_then hf hf2 (by decide : fLe pH pH = true)
    have e0 : gHb g r (k + 1) = if oLt (gHv g r (k + 1)) (gHb g r k).2 = true then (k, gHv g r (k + 1)) else gHb g r k := rfl
    by_cases ck : k = 0
    · subst ck
      have e1 : gHb g r 1 = (0, gHv g r 1) := bst_one (fun j => gHv g r (j + 1))
      simp only [reduceIte]
      refine ih (n - 1) _ (by omega) ⟨0 + 1, w2, by omega, ?_, hf3⟩
      rw [if_neg (by omega), if_neg (by omega), e1]
    · have hlt : (gHb g r k).1 < 100 := by
        have : (gHb g r (k - 1 + 1)).1 < k - 1 + 1 := bst_lt (f := fun j => gHv g r (j + 1)) (k - 1)
        rw [show k - 1 + 1 = k by omega] at this
        omega
      have e9 := eC_oLt (gHv_B (r := r) ho (k + 1)) (gHb_B (r := r) ho k)
      simp (disch := first | omega | (simp only [fIn, fR, fC, Nat.reduceEqDiff, decide_false, decide_true, Bool.false_or, Bool.or_false, Bool.false_and, Bool.and_false, Bool.or_self, Bool.true_and, Bool.true_or, Bool.and_true, Bool.or_true, Bool.and_self]; done) | fail) only [ck, reduceIte, q_neq, e9]
      by_cases c2 : oLt (gHv g r (k + 1)) (gHb g r k).2 = true
      · rw [if_pos c2] at e0 ⊢
        refine ih (n - 1) _ (by omega) ⟨k + 1, w2, by omega, ?_, hf3⟩
        rw [if_neg (by omega), if_neg (by omega), e0]
      · rw [if_neg c2] at e0 ⊢
        refine ih (n - 1) _ (by omega) ⟨k + 1, w2, by omega, ?_, hf3⟩
        rw [if_neg (by omega), if_neg (by omega), e0]
  · have e : k = gW g - 1 := by omega
    simp (disch := first | omega | (simp only [fIn, fR, fC, Nat.reduceEqDiff, decide_false, decide_true, Bool.false_or, Bool.or_false, Bool.false_and, Bool.and_false, Bool.or_self, Bool.true_and, Bool.true_or, Bool.and_true, Bool.or_true, Bool.and_self]; done) | fail) only [hP_some, hP_let, hP_gd, hP_B, hP_if, reduceIte, q_lit, nI_add, pk_mul, q_lt, q_le, q_eq, q_cl, q_g, Bool.not_eq_true', decide_eq_false_iff_not, decide_eq_true_eq, q_div, q_rm, q_sub, q_m1, Nat.zero_add, Nat.add_zero, rC_wd hr1, c1]
    rw [e]
    exact hq w1 hf
theorem op_two (x1 : Int32) : opB Inv (f315_0_116 x1) (f268_80 x1) := by
  refine opB_g1 (f := f149_0 x1) (body' := fun w3 => (if x1 = 2 then (nB (f267_80   w3) fun v4 w5 => (nB (f235  v4 w5) fun v6 w7 => (some (v6, w7)))) else (mLoop (f268_80_b38 x1  ) nF ((-1), 1000000, 1, w3)))) (fun w => rfl) (fun w => rfl) (fun w => rfl) (fun w g r hp => ?_)
  obtain ⟨hM, hMr, hC, hCr, ho, hk, hl1, hcm, -⟩ := hp
  have hn := gOk_n ho
  have hwd := gOk_wd ho
  refine ⟨inR x1 (2 + 1), gdC_what (by decide), fun w1 h1 h2 => gdM_what (by decide) h2, ?_⟩
  rintro ⟨b, hb, rfl⟩
  by_cases c2 : b = 2
  · subst c2
    refine ⟨fgE (gTw g r), ?_, fun w1 hx => ?_⟩
    · simp (disch := first | omega | (simp only [fIn, fR, fC, Nat.reduceEqDiff, decide_false, decide_true, Bool.false_or, Bool.or_false, Bool.false_and, Bool.and_false, Bool.or_self, Bool.true_and, Bool.true_or, Bool.and_true, Bool.or_true, Bool.and_self]; done) | fail) only [hP_some, hP_let, hP_gd, hP_B, hP_if, reduceIte, q_lit, nI_add, pk_mul, q_lt, q_le, q_eq, q_cl, q_g, Bool.not_eq_true', decide_eq_false_iff_not, decide_eq_true_eq, q_div, q_rm, q_sub, q_m1, Nat.zero_add, Nat.add_zero]
      refine c_both hC hCr ho hk (fun w2 hf2 => ?_)
      exact c_orNone (gTw_B ho) ⟨rfl, fr_up hf2 (by decide)⟩
    · obtain ⟨hM1, hMr1, hcm1, h8⟩ := hx
      simp (disch := first | omega | (simp only [fIn, fR, fC, Nat.reduceEqDiff, decide_false, decide_true, Bool.false_or, Bool.or_false, Bool.false_and, Bool.and_false, Bool.or_self, Bool.true_and, Bool.true_or, Bool.and_true, Bool.or_true, Bool.and_self]; done) | fail) only [hP_some, hP_let, hP_gd, hP_B, hP_if, reduceIte, q_lit, nI_add, pk_mul, q_lt, q_le, q_eq, q_cl, q_g, Bool.not_eq_true', decide_eq_false_iff_not, decide_eq_true_eq, q_div, q_rm, q_sub, q_m1, Nat.zero_add, Nat.add_zero]
      refine m_both hM1 hMr1 ho hk hcm1 (fun w2 hf2 => ?_)
      exact m_shown (gTw_B ho) ⟨rfl, fr_up hf2 (by decide), (fr_rd hf2 rfl).trans h8⟩
  · have hlt : ¬ gW g - 1 = 0 → (gHb g r (gW g - 1)).1 + 1 ≤ gW g - 1 := by
      intro h0
      have := bst_lt (f := fun j => gHv g r (j + 1)) (gW g - 1 - 1)
      rw [show gW g - 1 - 1 + 1 = gW g - 1 by omega] at this
      exact this
    refine ⟨if b = 0 then (if gW g - 1 = 0 then -nI 1 else nI ((gHb g r (gW g - 1)).1 + 1)) else fgE (gHb g r (gW g - 1)).2, ?_, fun w1 hx => ?_⟩
    · simp (disch := first | omega | (simp only [fIn, fR, fC, Nat.reduceEqDiff, decide_false, decide_true, Bool.false_or, Bool.or_false, Bool.false_and, Bool.and_false, Bool.or_self, Bool.true_and, Bool.true_or, Bool.and_true, Bool.or_true, Bool.and_self]; done) | fail) only [hP_some, hP_let, hP_gd, hP_B, hP_if, reduceIte, q_lit, nI_add, pk_mul, q_lt, q_le, q_eq, q_cl, q_g, Bool.not_eq_true', decide_eq_false_iff_not, decide_eq_true_eq, q_div, q_rm, q_sub, q_m1, Nat.zero_add, Nat.add_zero, c2]
      refine c_bestH hC hCr ho hk (fun w2 hf2 => ?_)
      by_cases c0 : b = 0
      · simp only [c0, reduceIte]
        exact ⟨trivial, fr_up hf2 (by decide)⟩
      · simp only [c0, reduceIte]
        by_cases c3 : gW g - 1 = 0
        · simp only [c3, reduceIte]
          exact ⟨rfl, fr_up hf2 (by decide)⟩
        · have h9 := hlt c3
          simp (disch := first | omega | (simp only [fIn, fR, fC, Nat.reduceEqDiff, decide_false, decide_true, Bool.false_or, Bool.or_false, Bool.false_and, Bool.and_false, Bool.or_self, Bool.true_and, Bool.true_or, Bool.and_true, Bool.or_true, Bool.and_self]; done) | fail) only [c3, reduceIte, q_neq]
          refine c_halves (rC_fr (by decide) hf2 hC) (rCr_fr (by decide) hf2 hCr) ho hk (by omega) (fun w3 hf3 => ?_)
          have hval := bst_val (f := fun j => gHv g r (j + 1)) (gW g - 1 - 1)
          rw [show gW g - 1 - 1 + 1 = gW g - 1 by omega] at hval
          have hval2 : (gHb g r (gW g - 1)).2 = gHv g r ((gHb g r (gW g - 1)).1 + 1) := hval
          rw [hval2]
          exact c_orNone (gHv_B ho _) ⟨rfl, fr_then (fr_up hf2 (by decide)) hf3 (by decide)⟩
    · obtain ⟨hM1, hMr1, hcm1, h8⟩ := hx
      simp (disch := first | omega | (simp only [fIn, fR, fC, Nat.reduceEqDiff, decide_false, decide_true, Bool.false_or, Bool.or_false, Bool.false_and, Bool.and_false, Bool.or_self, Bool.true_and, Bool.true_or, Bool.and_true, Bool.or_true, Bool.and_self]; done) | fail) only [hP_some, hP_let, hP_gd, hP_B, hP_if, reduceIte, q_lit, nI_add, pk_mul, q_lt, q_le, q_eq, q_cl, q_g, Bool.not_eq_true', decide_eq_false_iff_not, decide_eq_true_eq, q_div, q_rm, q_sub, q_m1, Nat.zero_add, Nat.add_zero, c2]
      refine hP_loopF (fun n s => ∃ k w2, k + n = gW g - 1 ∧ s = ((if k = 0 then -nI 1 else nI ((gHb g r k).1 + 1)), eN (gHb g r k).2, nI (k + 1), w2) ∧ fr pMq w1 w2) (gW g - 1) (by omega) ⟨0, w1, by omega, rfl, fr_refl⟩ ?_
      rintro n s rec ⟨k, w2, hkn, rfl, hf⟩ ih
      have hr1 := rM_fr (by decide) hf hM1
      simp only [f268_80_b38]
      by_cases c1 : k + 1 < gW g
      · simp (disch := first | omega | (simp only [fIn, fR, fC, Nat.reduceEqDiff, decide_false, decide_true, Bool.false_or, Bool.or_false, Bool.false_and, Bool.and_false, Bool.or_self, Bool.true_and, Bool.true_or, Bool.and_true, Bool.or_true, Bool.and_self]; done) | fail) only [hP_some, hP_let, hP_gd, hP_B, hP_if, reduceIte, q_lit, nI_add, pk_mul, q_lt, q_le, q_eq, q_cl, q_g, Bool.not_eq_true', decide_eq_false_iff_not, decide_eq_true_eq, q_div, q_rm, q_sub, q_m1, Nat.zero_add, Nat.add_zero, rM_wd hr1, c1]
        refine m_halvesBy hr1 (rMr_fr (by decide) hf hMr1) ho hk ((fr_rd hf rfl).trans hcm1) (by omega) (fun w3 hf3 => ?_)
        have hf4 := fr_then hf hf3 (by decide : fLe pMq pMq = true)
        have e0 : gHb g r (k + 1) = if oLt (gHv g r (k + 1)) (gHb g r k).2 = true then (k, gHv g r (k + 1)) else gHb g r k := rfl
        by_cases ck : k = 0
        · subst ck
          have e1 : gHb g r 1 = (0, gHv g r 1) := bst_one (fun j => gHv g r (j + 1))
          simp only [reduceIte]
          refine ih (n - 1) _ (by omega) ⟨0 + 1, w3, by omega, ?_, hf4⟩
          rw [if_neg (by omega), e1]
        · have hlt2 : (gHb g r k).1 < 100 := by
            have : (gHb g r (k - 1 + 1)).1 < k - 1 + 1 := bst_lt (f := fun j => gHv g r (j + 1)) (k - 1)
            rw [show k - 1 + 1 = k by omega] at this
            omega
          have e9 := eN_oLt (gHv_B (r := r) ho (k + 1)) (gHb_B (r := r) ho k)
          simp (disch := first | omega | (simp only [fIn, fR, fC, Nat.reduceEqDiff, decide_false, decide_true, Bool.false_or, Bool.or_false, Bool.false_and, Bool.and_false, Bool.or_self, Bool.true_and, Bool.true_or, Bool.and_true, Bool.or_true, Bool.and_self]; done) | fail) only [ck, reduceIte, q_neq, e9]
          by_cases c5 : oLt (gHv g r (k + 1)) (gHb g r k).2 = true
          · rw [if_pos c5] at e0 ⊢
            refine ih (n - 1) _ (by omega) ⟨k + 1, w3, by omega, ?_, hf4⟩
            rw [if_neg (by omega), e0]
          · rw [if_neg c5] at e0 ⊢
            refine ih (n - 1) _ (by omega) ⟨k + 1, w3, by omega, ?_, hf4⟩
            rw [if_neg (by omega), e0]
      · have e : k = gW g - 1 := by omega
        simp (disch := first | omega | (simp only [fIn, fR, fC, Nat.reduceEqDiff, decide_false, decide_true, Bool.false_or, Bool.or_false, Bool.false_and, Bool.and_false, Bool.or_self, Bool.true_and, Bool.true_or, Bool.and_true, Bool.or_true, Bool.and_self]; done) | fail) only [hP_some, hP_let, hP_gd, hP_B, hP_if, reduceIte, q_lit, nI_add, pk_mul, q_lt, q_le, q_eq, q_cl, q_g, Bool.not_eq_true', decide_eq_false_iff_not, decide_eq_true_eq, q_div, q_rm, q_sub, q_m1, Nat.zero_add, Nat.add_zero, rM_wd hr1, c1]
        rw [e]
        by_cases c0 : b = 0
        · simp only [c0, reduceIte]
          exact ⟨trivial, fr_up hf (by decide), (fr_rd hf rfl).trans h8⟩
        · simp only [c0, reduceIte]
          exact m_shown (gHb_B ho _) ⟨rfl, fr_up hf (by decide), (fr_rd hf rfl).trans h8⟩
end BH
