/-! ===== OPERATIONS: worst, delay ===== -/
theorem lsO_ex {P : Nat → Prop} (S : List Nat) : ∃ o, lsO P S o := by
  by_cases h : ∃ c, c ∈ S ∧ P c
  · obtain ⟨m, h1, h2⟩ := pk_least (fun c => c ∈ S ∧ P c) h
    refine ⟨some m, h1.1, h1.2, fun c hc hp => ?_⟩
    apply Classical.byContradiction
    intro hlt
    exact h2 c (by omega) ⟨hc, hp⟩
  · exact ⟨none, fun c hc hp => h ⟨c, hc, hp⟩⟩
theorem lsO_one {P : Nat → Prop} {S : List Nat} {o o2 : Option Nat} (h1 : lsO P S o) (h2 : lsO P S o2) : o = o2 := by
  cases o with
  | none =>
    cases o2 with
    | none => rfl
    | some m => exact absurd h2.2.1 (h1 m h2.1)
  | some m =>
    cases o2 with
    | none => exact absurd h1.2.1 (h2 m h1.1)
    | some k =>
      have a1 := h1.2.2 k h2.1 h2.2.1
      have a2 := h2.2.2 m h1.1 h1.2.1
      rw [show m = k by omega]
theorem op_worst (x1 : Int32) : opB Inv (f308_0_116 x1) (f247_80 x1) := by
  refine opB_g1 (f := f134_0 x1) (fun w => rfl) (fun w => rfl) (fun w => rfl) (fun w g r hp => ?_)
  obtain ⟨hM, hMr, hC, hCr, ho, hk, hl1, hcm, -⟩ := hp
  refine ⟨inR x1 (1 + 1), gdC_what (by decide), fun w1 h1 h2 => gdM_what (by decide) h2, ?_⟩
  rintro ⟨b, hb, rfl⟩
  have hBw : oB (gWall g r (gCh g) (gMi g) 0 99) := by rw [wall_eq ho]; exact gWin_N (lay_ok ho) _
  have hb7 : b = 0 ∨ b = 1 := by omega
  rcases hb7 with rfl | rfl
  · refine ⟨fgE (gWall g r (gCh g) (gMi g) 0 99), ?_, fun w1 hx => ?_⟩
    · simp (disch := first | omega | (simp only [fIn, fR, fC, Nat.reduceEqDiff, decide_false, decide_true, Bool.false_or, Bool.or_false, Bool.false_and, Bool.and_false, Bool.or_self, Bool.true_and, Bool.true_or, Bool.and_true, Bool.or_true, Bool.and_self]; done) | fail) only [hP_some, hP_let, hP_gd, hP_B, hP_if, reduceIte, q_lit, nI_add, pk_mul, q_lt, q_le, q_eq, q_cl, q_g, Bool.not_eq_true', decide_eq_false_iff_not, decide_eq_true_eq, q_div, q_rm, q_sub, q_m1, Nat.zero_add, Nat.add_zero, Nat.reduceEqDiff]
      refine c_worstNow hC hCr ho hk (fun w' hf _ _ => ?_)
      exact c_orNone hBw ⟨rfl, fr_up hf (by decide)⟩
    · simp (disch := first | omega | (simp only [fIn, fR, fC, Nat.reduceEqDiff, decide_false, decide_true, Bool.false_or, Bool.or_false, Bool.false_and, Bool.and_false, Bool.or_self, Bool.true_and, Bool.true_or, Bool.and_true, Bool.or_true, Bool.and_self]; done) | fail) only [hP_some, hP_let, hP_gd, hP_B, hP_if, reduceIte, q_lit, nI_add, pk_mul, q_lt, q_le, q_eq, q_cl, q_g, Bool.not_eq_true', decide_eq_false_iff_not, decide_eq_true_eq, q_div, q_rm, q_sub, q_m1, Nat.zero_add, Nat.add_zero, Nat.reduceEqDiff]
      refine m_worstAll hx.1 hx.2.1 ho hk hx.2.2.1 (fun w' hf _ => ?_)
      exact m_shown hBw ⟨rfl, fr_up hf (by decide), (fr_rd hf rfl).trans hx.2.2.2⟩

  · obtain ⟨o, hls⟩ := lsO_ex (P := fun c => gWst (gN1 g r 0) (gLay g 0 (gW g) 99 0 (gLk g)) c = gWall g r (gCh g) (gMi g) 0 99) (gSp g (gSw g))
    refine ⟨fgE o, ?_, fun w1 hx => ?_⟩
    · simp (disch := first | omega | (simp only [fIn, fR, fC, Nat.reduceEqDiff, decide_false, decide_true, Bool.false_or, Bool.or_false, Bool.false_and, Bool.and_false, Bool.or_self, Bool.true_and, Bool.true_or, Bool.and_true, Bool.or_true, Bool.and_self]; done) | fail) only [hP_some, hP_let, hP_gd, hP_B, hP_if, reduceIte, q_lit, nI_add, pk_mul, q_lt, q_le, q_eq, q_cl, q_g, Bool.not_eq_true', decide_eq_false_iff_not, decide_eq_true_eq, q_div, q_rm, q_sub, q_m1, Nat.zero_add, Nat.add_zero, Nat.reduceEqDiff]
      refine c_worstCell hC hCr ho hk (fun w' o2 hf h2 => ?_)
      rw [lsO_one hls h2]
      exact ⟨rfl, fr_up hf (by decide)⟩
    · simp (disch := first | omega | (simp only [fIn, fR, fC, Nat.reduceEqDiff, decide_false, decide_true, Bool.false_or, Bool.or_false, Bool.false_and, Bool.and_false, Bool.or_self, Bool.true_and, Bool.true_or, Bool.and_true, Bool.or_true, Bool.and_self]; done) | fail) only [hP_some, hP_let, hP_gd, hP_B, hP_if, reduceIte, q_lit, nI_add, pk_mul, q_lt, q_le, q_eq, q_cl, q_g, Bool.not_eq_true', decide_eq_false_iff_not, decide_eq_true_eq, q_div, q_rm, q_sub, q_m1, Nat.zero_add, Nat.add_zero, Nat.reduceEqDiff]
      refine m_worstAll hx.1 hx.2.1 ho hk hx.2.2.1 (fun w2 hf hl2 => ?_)
      refine m_worstCell hBw (rM_fr (by decide) hf hx.1) (rMr_fr (by decide) hf hx.2.1) ho hk ((fr_rd hf rfl).trans hx.2.2.1) hl2 hls (fun w3 hf3 => ?_)
      exact ⟨rfl, fr_then (fr_up hf (by decide)) hf3 (by decide), (fr_rd hf3 rfl).trans ((fr_rd hf rfl).trans hx.2.2.2)⟩
