/-! ===== OPERATIONS: cell, swimmer, delay, worst ===== -/
theorem op_cell (x1 x2 : Int32) : opB Inv (f304_0_116 x1 x2) (f243_80 x1 x2) := by
  refine opB_g2 (f := f130_0 x1 x2) (fun w => rfl) (fun w => rfl) (fun w => rfl) (fun w g r hp => ?_)
  obtain ⟨hM, hMr, hC, hCr, ho, hk, hl1, hcm, -⟩ := hp
  have hn := gOk_n ho
  have hch := gOk_ch ho
  refine ⟨inR x1 (gW g * gH g), inR x2 (6 + 1), gdC_cell hC ho, gdC_what (by decide), fun w1 h1 h2 => ⟨gdM_cell h1 ho h2, gdM_what (by decide) h2⟩, ?_⟩
  rintro ⟨c, hc, rfl⟩ ⟨b, hb, rfl⟩
  have hc4 : c < 40 := by omega
  have hBw : oB (gWst (gN1 g r 0) (gLay g 0 (gW g) 99 0 (gLk g)) c) := gWst_B (lay_ok ho).1 (gNd_b g r _ _ _ c).2
  have hb7 : b = 0 ∨ b = 1 ∨ b = 2 ∨ b = 3 ∨ b = 4 ∨ b = 5 ∨ b = 6 := by omega
  rcases hb7 with rfl | rfl | rfl | rfl | rfl | rfl | rfl
  · refine ⟨nI (g 1 c), ?_, fun w1 hx => ?_⟩
    · simp (disch := first | omega | (simp only [fIn, fR, fC, Nat.reduceEqDiff, decide_false, decide_true, Bool.false_or, Bool.or_false, Bool.false_and, Bool.and_false, Bool.or_self, Bool.true_and, Bool.true_or, Bool.and_true, Bool.or_true, Bool.and_self]; done) | fail) only [hP_some, hP_let, hP_gd, hP_B, hP_if, reduceIte, q_lit, nI_add, pk_mul, q_lt, q_le, q_eq, q_cl, q_g, Bool.not_eq_true', decide_eq_false_iff_not, decide_eq_true_eq, q_div, q_rm, q_sub, q_m1, Nat.zero_add, Nat.add_zero, rC_deep hC]
      exact ⟨hc4, trivial, fr_refl⟩
    · simp (disch := first | omega | (simp only [fIn, fR, fC, Nat.reduceEqDiff, decide_false, decide_true, Bool.false_or, Bool.or_false, Bool.false_and, Bool.and_false, Bool.or_self, Bool.true_and, Bool.true_or, Bool.and_true, Bool.or_true, Bool.and_self]; done) | fail) only [hP_some, hP_let, hP_gd, hP_B, hP_if, reduceIte, q_lit, nI_add, pk_mul, q_lt, q_le, q_eq, q_cl, q_g, Bool.not_eq_true', decide_eq_false_iff_not, decide_eq_true_eq, q_div, q_rm, q_sub, q_m1, Nat.zero_add, Nat.add_zero, rM_deep hx.1]
      exact ⟨hc4, trivial, fr_refl, hx.2.2.2⟩
  · refine ⟨nI (g 2 c), ?_, fun w1 hx => ?_⟩
    · simp (disch := first | omega | (simp only [fIn, fR, fC, Nat.reduceEqDiff, decide_false, decide_true, Bool.false_or, Bool.or_false, Bool.false_and, Bool.and_false, Bool.or_self, Bool.true_and, Bool.true_or, Bool.and_true, Bool.or_true, Bool.and_self]; done) | fail) only [hP_some, hP_let, hP_gd, hP_B, hP_if, reduceIte, q_lit, nI_add, pk_mul, q_lt, q_le, q_eq, q_cl, q_g, Bool.not_eq_true', decide_eq_false_iff_not, decide_eq_true_eq, q_div, q_rm, q_sub, q_m1, Nat.zero_add, Nat.add_zero, rC_glare hC, Nat.reduceEqDiff]
      exact ⟨hc4, trivial, fr_refl⟩
    · simp (disch := first | omega | (simp only [fIn, fR, fC, Nat.reduceEqDiff, decide_false, decide_true, Bool.false_or, Bool.or_false, Bool.false_and, Bool.and_false, Bool.or_self, Bool.true_and, Bool.true_or, Bool.and_true, Bool.or_true, Bool.and_self]; done) | fail) only [hP_some, hP_let, hP_gd, hP_B, hP_if, reduceIte, q_lit, nI_add, pk_mul, q_lt, q_le, q_eq, q_cl, q_g, Bool.not_eq_true', decide_eq_false_iff_not, decide_eq_true_eq, q_div, q_rm, q_sub, q_m1, Nat.zero_add, Nat.add_zero, rM_glare hx.1, Nat.reduceEqDiff]
      exact ⟨hc4, trivial, fr_refl, hx.2.2.2⟩
  · refine ⟨nI (gFar g (gCh g) c), ?_, fun w1 hx => ?_⟩
    · simp (disch := first | omega | (simp only [fIn, fR, fC, Nat.reduceEqDiff, decide_false, decide_true, Bool.false_or, Bool.or_false, Bool.false_and, Bool.and_false, Bool.or_self, Bool.true_and, Bool.true_or, Bool.and_true, Bool.or_true, Bool.and_self]; done) | fail) only [hP_some, hP_let, hP_gd, hP_B, hP_if, reduceIte, q_lit, nI_add, pk_mul, q_lt, q_le, q_eq, q_cl, q_g, Bool.not_eq_true', decide_eq_false_iff_not, decide_eq_true_eq, q_div, q_rm, q_sub, q_m1, Nat.zero_add, Nat.add_zero, Nat.reduceEqDiff, rC_ch hC]
      exact c_between hC ho hc4 (by omega) ⟨rfl, fr_refl⟩
    · simp (disch := first | omega | (simp only [fIn, fR, fC, Nat.reduceEqDiff, decide_false, decide_true, Bool.false_or, Bool.or_false, Bool.false_and, Bool.and_false, Bool.or_self, Bool.true_and, Bool.true_or, Bool.and_true, Bool.or_true, Bool.and_self]; done) | fail) only [hP_some, hP_let, hP_gd, hP_B, hP_if, reduceIte, q_lit, nI_add, pk_mul, q_lt, q_le, q_eq, q_cl, q_g, Bool.not_eq_true', decide_eq_false_iff_not, decide_eq_true_eq, q_div, q_rm, q_sub, q_m1, Nat.zero_add, Nat.add_zero, Nat.reduceEqDiff]
      exact m_far hx.1 ho hc4 ⟨rfl, fr_refl, hx.2.2.2⟩
  · refine ⟨nI (gWho g c (gSw g)), ?_, fun w1 hx => ?_⟩
    · simp (disch := first | omega | (simp only [fIn, fR, fC, Nat.reduceEqDiff, decide_false, decide_true, Bool.false_or, Bool.or_false, Bool.false_and, Bool.and_false, Bool.or_self, Bool.true_and, Bool.true_or, Bool.and_true, Bool.or_true, Bool.and_self]; done) | fail) only [hP_some, hP_let, hP_gd, hP_B, hP_if, reduceIte, q_lit, nI_add, pk_mul, q_lt, q_le, q_eq, q_cl, q_g, Bool.not_eq_true', decide_eq_false_iff_not, decide_eq_true_eq, q_div, q_rm, q_sub, q_m1, Nat.zero_add, Nat.add_zero, Nat.reduceEqDiff]
      exact c_who hC ho hc4 ⟨rfl, fr_refl⟩
    · simp (disch := first | omega | (simp only [fIn, fR, fC, Nat.reduceEqDiff, decide_false, decide_true, Bool.false_or, Bool.or_false, Bool.false_and, Bool.and_false, Bool.or_self, Bool.true_and, Bool.true_or, Bool.and_true, Bool.or_true, Bool.and_self]; done) | fail) only [hP_some, hP_let, hP_gd, hP_B, hP_if, reduceIte, q_lit, nI_add, pk_mul, q_lt, q_le, q_eq, q_cl, q_g, Bool.not_eq_true', decide_eq_false_iff_not, decide_eq_true_eq, q_div, q_rm, q_sub, q_m1, Nat.zero_add, Nat.add_zero, Nat.reduceEqDiff]
      exact m_who hx.1 ho hc4 ⟨rfl, fr_refl, hx.2.2.2⟩
  · refine ⟨nI (gN1 g r 0 c), ?_, fun w1 hx => ?_⟩
    · have hmi := gOk_mi ho
      simp (disch := first | omega | (simp only [fIn, fR, fC, Nat.reduceEqDiff, decide_false, decide_true, Bool.false_or, Bool.or_false, Bool.false_and, Bool.and_false, Bool.or_self, Bool.true_and, Bool.true_or, Bool.and_true, Bool.or_true, Bool.and_self]; done) | fail) only [hP_some, hP_let, hP_gd, hP_B, hP_if, reduceIte, q_lit, nI_add, pk_mul, q_lt, q_le, q_eq, q_cl, q_g, Bool.not_eq_true', decide_eq_false_iff_not, decide_eq_true_eq, q_div, q_rm, q_sub, q_m1, Nat.zero_add, Nat.add_zero, Nat.reduceEqDiff, f83_23, rC_ch hC, rC_mi hC]
      exact c_need (ex := 0) hC hCr ho hk hc4 (by omega) (by omega) (by omega) (.inr rfl) (fun w' hf => ⟨rfl, fr_up hf (by decide)⟩)
    · simp (disch := first | omega | (simp only [fIn, fR, fC, Nat.reduceEqDiff, decide_false, decide_true, Bool.false_or, Bool.or_false, Bool.false_and, Bool.and_false, Bool.or_self, Bool.true_and, Bool.true_or, Bool.and_true, Bool.or_true, Bool.and_self]; done) | fail) only [hP_some, hP_let, hP_gd, hP_B, hP_if, reduceIte, q_lit, nI_add, pk_mul, q_lt, q_le, q_eq, q_cl, q_g, Bool.not_eq_true', decide_eq_false_iff_not, decide_eq_true_eq, q_div, q_rm, q_sub, q_m1, Nat.zero_add, Nat.add_zero, Nat.reduceEqDiff]
      exact m_need hx.1 hx.2.1 ho hk hc4 hx.2.2.1 (fun w' hf => ⟨rfl, fr_up hf (by decide), (fr_rd hf rfl).trans hx.2.2.2⟩)
  · refine ⟨fgE (gWst (gN1 g r 0) (gLay g 0 (gW g) 99 0 (gLk g)) c), ?_, fun w1 hx => ?_⟩
    · simp (disch := first | omega | (simp only [fIn, fR, fC, Nat.reduceEqDiff, decide_false, decide_true, Bool.false_or, Bool.or_false, Bool.false_and, Bool.and_false, Bool.or_self, Bool.true_and, Bool.true_or, Bool.and_true, Bool.or_true, Bool.and_self]; done) | fail) only [hP_some, hP_let, hP_gd, hP_B, hP_if, reduceIte, q_lit, nI_add, pk_mul, q_lt, q_le, q_eq, q_cl, q_g, Bool.not_eq_true', decide_eq_false_iff_not, decide_eq_true_eq, q_div, q_rm, q_sub, q_m1, Nat.zero_add, Nat.add_zero, Nat.reduceEqDiff]
      refine c_worstCl hC hCr ho hk hc4 (fun w' hf => ?_)
      exact c_orNone hBw ⟨rfl, fr_up hf (by decide)⟩
    · simp (disch := first | omega | (simp only [fIn, fR, fC, Nat.reduceEqDiff, decide_false, decide_true, Bool.false_or, Bool.or_false, Bool.false_and, Bool.and_false, Bool.or_self, Bool.true_and, Bool.true_or, Bool.and_true, Bool.or_true, Bool.and_self]; done) | fail) only [hP_some, hP_let, hP_gd, hP_B, hP_if, reduceIte, q_lit, nI_add, pk_mul, q_lt, q_le, q_eq, q_cl, q_g, Bool.not_eq_true', decide_eq_false_iff_not, decide_eq_true_eq, q_div, q_rm, q_sub, q_m1, Nat.zero_add, Nat.add_zero, Nat.reduceEqDiff]
      refine m_laysAll hx.1 ho (fun w2 hf2 hl2 => ?_)
      refine m_worstOf (rM_fr (by decide) hf2 hx.1) (rMr_fr (by decide) hf2 hx.2.1) ho hk ((fr_rd hf2 rfl).trans hx.2.2.1) (lay_ok ho) hl2 hc4 (fun w3 hf3 => ?_)
      exact m_shown hBw ⟨rfl, fr_then (fr_up hf2 (by decide)) hf3 (by decide), (fr_rd hf3 rfl).trans ((fr_rd hf2 rfl).trans hx.2.2.2)⟩
  · refine ⟨nI (gUn g r c), ?_, fun w1 hx => ?_⟩
    · simp (disch := first | omega | (simp only [fIn, fR, fC, Nat.reduceEqDiff, decide_false, decide_true, Bool.false_or, Bool.or_false, Bool.false_and, Bool.and_false, Bool.or_self, Bool.true_and, Bool.true_or, Bool.and_true, Bool.or_true, Bool.and_self]; done) | fail) only [hP_some, hP_let, hP_gd, hP_B, hP_if, reduceIte, q_lit, nI_add, pk_mul, q_lt, q_le, q_eq, q_cl, q_g, Bool.not_eq_true', decide_eq_false_iff_not, decide_eq_true_eq, q_div, q_rm, q_sub, q_m1, Nat.zero_add, Nat.add_zero, Nat.reduceEqDiff]
      exact ⟨by decide, c_unseen hC hCr ho hk hc4 (fun w' hf => ⟨rfl, fr_up hf (by decide)⟩)⟩
    · simp (disch := first | omega | (simp only [fIn, fR, fC, Nat.reduceEqDiff, decide_false, decide_true, Bool.false_or, Bool.or_false, Bool.false_and, Bool.and_false, Bool.or_self, Bool.true_and, Bool.true_or, Bool.and_true, Bool.or_true, Bool.and_self]; done) | fail) only [hP_some, hP_let, hP_gd, hP_B, hP_if, reduceIte, q_lit, nI_add, pk_mul, q_lt, q_le, q_eq, q_cl, q_g, Bool.not_eq_true', decide_eq_false_iff_not, decide_eq_true_eq, q_div, q_rm, q_sub, q_m1, Nat.zero_add, Nat.add_zero, Nat.reduceEqDiff]
      exact ⟨by decide, m_unseen hx.1 hx.2.1 ho hk hx.2.2.1 hc4 (fun w' hf => ⟨rfl, fr_up hf (by decide), (fr_rd hf rfl).trans hx.2.2.2⟩)⟩
theorem op_swimmer (x1 x2 : Int32) : opB Inv (f306_0_116 x1 x2) (f245_80 x1 x2) := by
  refine opB_g2 (f := f132_0 x1 x2) (fun w => rfl) (fun w => rfl) (fun w => rfl) (fun w g r hp => ?_)
  obtain ⟨hM, hMr, hC, hCr, ho, hk, hl1, hcm, -⟩ := hp
  have hsw := gOk_sw ho
  refine ⟨inR x1 (gSw g), inR x2 (2 + 1), gdC_sw hC ho, gdC_what (by decide), fun w1 h1 h2 => ⟨gdM_sw h1 ho h2, gdM_what (by decide) h2⟩, ?_⟩
  rintro ⟨s, hs, rfl⟩ ⟨b, hb, rfl⟩
  have hb7 : b = 0 ∨ b = 1 ∨ b = 2 := by omega
  rcases hb7 with rfl | rfl | rfl
  · refine ⟨nI (g 5 s), ?_, fun w1 hx => ?_⟩
    · simp (disch := first | omega | (simp only [fIn, fR, fC, Nat.reduceEqDiff, decide_false, decide_true, Bool.false_or, Bool.or_false, Bool.false_and, Bool.and_false, Bool.or_self, Bool.true_and, Bool.true_or, Bool.and_true, Bool.or_true, Bool.and_self]; done) | fail) only [hP_some, hP_let, hP_gd, hP_B, hP_if, reduceIte, q_lit, nI_add, pk_mul, q_lt, q_le, q_eq, q_cl, q_g, Bool.not_eq_true', decide_eq_false_iff_not, decide_eq_true_eq, q_div, q_rm, q_sub, q_m1, Nat.zero_add, Nat.add_zero, rC_at hC, Nat.reduceEqDiff]
      exact ⟨by omega, trivial, fr_refl⟩
    · simp (disch := first | omega | (simp only [fIn, fR, fC, Nat.reduceEqDiff, decide_false, decide_true, Bool.false_or, Bool.or_false, Bool.false_and, Bool.and_false, Bool.or_self, Bool.true_and, Bool.true_or, Bool.and_true, Bool.or_true, Bool.and_self]; done) | fail) only [hP_some, hP_let, hP_gd, hP_B, hP_if, reduceIte, q_lit, nI_add, pk_mul, q_lt, q_le, q_eq, q_cl, q_g, Bool.not_eq_true', decide_eq_false_iff_not, decide_eq_true_eq, q_div, q_rm, q_sub, q_m1, Nat.zero_add, Nat.add_zero, rM_at hx.1, Nat.reduceEqDiff]
      exact ⟨by omega, trivial, fr_refl, hx.2.2.2⟩
  · refine ⟨nI (g 3 s), ?_, fun w1 hx => ?_⟩
    · simp (disch := first | omega | (simp only [fIn, fR, fC, Nat.reduceEqDiff, decide_false, decide_true, Bool.false_or, Bool.or_false, Bool.false_and, Bool.and_false, Bool.or_self, Bool.true_and, Bool.true_or, Bool.and_true, Bool.or_true, Bool.and_self]; done) | fail) only [hP_some, hP_let, hP_gd, hP_B, hP_if, reduceIte, q_lit, nI_add, pk_mul, q_lt, q_le, q_eq, q_cl, q_g, Bool.not_eq_true', decide_eq_false_iff_not, decide_eq_true_eq, q_div, q_rm, q_sub, q_m1, Nat.zero_add, Nat.add_zero, rC_skill hC, Nat.reduceEqDiff]
      exact ⟨by omega, trivial, fr_refl⟩
    · simp (disch := first | omega | (simp only [fIn, fR, fC, Nat.reduceEqDiff, decide_false, decide_true, Bool.false_or, Bool.or_false, Bool.false_and, Bool.and_false, Bool.or_self, Bool.true_and, Bool.true_or, Bool.and_true, Bool.or_true, Bool.and_self]; done) | fail) only [hP_some, hP_let, hP_gd, hP_B, hP_if, reduceIte, q_lit, nI_add, pk_mul, q_lt, q_le, q_eq, q_cl, q_g, Bool.not_eq_true', decide_eq_false_iff_not, decide_eq_true_eq, q_div, q_rm, q_sub, q_m1, Nat.zero_add, Nat.add_zero, rM_skill hx.1, Nat.reduceEqDiff]
      exact ⟨by omega, trivial, fr_refl, hx.2.2.2⟩
  · refine ⟨nI (gTr g r (gCh g) s), ?_, fun w1 hx => ?_⟩
    · simp (disch := first | omega | (simp only [fIn, fR, fC, Nat.reduceEqDiff, decide_false, decide_true, Bool.false_or, Bool.or_false, Bool.false_and, Bool.and_false, Bool.or_self, Bool.true_and, Bool.true_or, Bool.and_true, Bool.or_true, Bool.and_self]; done) | fail) only [hP_some, hP_let, hP_gd, hP_B, hP_if, reduceIte, q_lit, nI_add, pk_mul, q_lt, q_le, q_eq, q_cl, q_g, Bool.not_eq_true', decide_eq_false_iff_not, decide_eq_true_eq, q_div, q_rm, q_sub, q_m1, Nat.zero_add, Nat.add_zero, Nat.reduceEqDiff]
      first
      | exact c_weight hC hCr ho hk hs (fun w' hf => ⟨rfl, fr_up hf (by decide)⟩)
      | exact ⟨by decide, c_weight hC hCr ho hk hs (fun w' hf => ⟨rfl, fr_up hf (by decide)⟩)⟩
    · simp (disch := first | omega | (simp only [fIn, fR, fC, Nat.reduceEqDiff, decide_false, decide_true, Bool.false_or, Bool.or_false, Bool.false_and, Bool.and_false, Bool.or_self, Bool.true_and, Bool.true_or, Bool.and_true, Bool.or_true, Bool.and_self]; done) | fail) only [hP_some, hP_let, hP_gd, hP_B, hP_if, reduceIte, q_lit, nI_add, pk_mul, q_lt, q_le, q_eq, q_cl, q_g, Bool.not_eq_true', decide_eq_false_iff_not, decide_eq_true_eq, q_div, q_rm, q_sub, q_m1, Nat.zero_add, Nat.add_zero, Nat.reduceEqDiff]
      exact m_trouble hx.1 hx.2.1 ho hk hs hx.2.2.1 (fun w' hf => ⟨rfl, fr_up hf (by decide), (fr_rd hf rfl).trans hx.2.2.2⟩)
theorem eC_inj {a b : Option Nat} (ha : oB a) (hb : oB b) : (eC a = eC b) = (a = b) := by
  unfold eC
  rw [q_eq (eC_lt ha) (eC_lt hb)]
  apply propext
  constructor
  · intro h
    cases a with
    | none =>
      cases b with
      | none => rfl
      | some b => have h1 := hb b rfl; have h2 : 2147483647 = b := h; omega
    | some a =>
      cases b with
      | none => have h1 := ha a rfl; have h2 : a = 2147483647 := h; omega
      | some b => have h2 : a = b := h; rw [h2]
  · intro h; rw [h]
theorem eN_inj {a b : Option Nat} (ha : oB a) (hb : oB b) : (eN a = eN b) = (a = b) := by
  have h3 := eN_lt ha
  have h4 := eN_lt hb
  unfold eN
  rw [q_eq (by omega) (by omega)]
  apply propext
  constructor
  · intro h
    cases a with
    | none =>
      cases b with
      | none => rfl
      | some b => have h1 := hb b rfl; have h2 : 1000000 = b := h; omega
    | some a =>
      cases b with
      | none => have h1 := ha a rfl; have h2 : a = 1000000 := h; omega
      | some b => have h2 : a = b := h; rw [h2]
  · intro h; rw [h]
/-- the least of those that P tells -/
def lsO (P : Nat → Prop) (S : List Nat) (o : Option Nat) : Prop := match o with
  | none => ∀ c ∈ S, ¬ P c
  | some m => m ∈ S ∧ P m ∧ ∀ c ∈ S, P c → m ≤ c
section WC
variable {g : gS} {r : gR} {w : mW} {Q : Int32 → mW → Prop}
theorem c_worstCell (hr : rC g w) (hR : rCr r g w) (ho : gOk g) (hk : rOk r g) (hq : ∀ w' o, fr pA w w' → lsO (fun c => gWst (gN1 g r 0) (gLay g 0 (gW g) 99 0 (gLk g)) c = gWall g r (gCh g) (gMi g) 0 99) (gSp g (gSw g)) o → Q (fgE o) w') : hP (f95_23 w) Q := by
  have h1 := gSp_len g (gSw g)
  have h2 := gOk_sw ho
  have h3 := gOk_n ho
  have hBw : oB (gWall g r (gCh g) (gMi g) 0 99) := by rw [wall_eq ho]; exact gWin_N (lay_ok ho) _
  unfold f95_23
  simp only [hP_B]
  refine c_worstNow hr hR ho hk (fun w1 hf1 hl1 hs1 => ?_)
  refine hP_loopF (fun n s => ∃ k w2 o, k + n = (gSp g (gSw g)).length ∧ s = (fgE o, nI k, w2) ∧ fr pA w w2 ∧ rRd 42 43 44 w2 (gRl g 99 (gLk g)) ∧ rSp w2 (gSp g (gSw g)) (gN1 g r 0) ∧ lsO (fun c => gWst (gN1 g r 0) (gLay g 0 (gW g) 99 0 (gLk g)) c = gWall g r (gCh g) (gMi g) 0 99) ((gSp g (gSw g)).take k) o) (gSp g (gSw g)).length (by omega) ⟨0, w1, none, by omega, rfl, hf1, hl1, hs1, fun c hc => by simp at hc⟩ ?_
  rintro n s rec ⟨k, w2, o, hkn, rfl, hf2, hl2, hs2, hls⟩ ih
  simp only [f95_23_b9]
  by_cases h : k < (gSp g (gSw g)).length
  · obtain ⟨h51, h52⟩ := hs2.2 k h
    have hm := getD_mem (d := 0) h
    have hlt := gSp_lt ho _ (Nat.le_refl _) _ hm
    have hnd := gNd_b g r (gCh g) (gMi g) 0 ((gSp g (gSw g)).getD k 0)
    have htk := take_s (d := 0) h
    have hB2 : oB (gWst (gN1 g r 0) (gLay g 0 (gW g) 99 0 (gLk g)) ((gSp g (gSw g)).getD k 0)) := gWst_B (lay_ok ho).1 hnd.2
    generalize (gSp g (gSw g)).getD k 0 = sc at *
    simp (disch := first | omega | (simp only [fIn, fR, fC, Nat.reduceEqDiff, decide_false, decide_true, Bool.false_or, Bool.or_false, Bool.false_and, Bool.and_false, Bool.or_self, Bool.true_and, Bool.true_or, Bool.and_true, Bool.or_true, Bool.and_self]; done) | fail) only [hP_some, hP_let, hP_gd, hP_B, hP_if, reduceIte, q_lit, nI_add, pk_mul, q_lt, q_le, q_eq, q_cl, q_g, Bool.not_eq_true', decide_eq_false_iff_not, decide_eq_true_eq, q_div, q_rm, q_sub, q_m1, Nat.zero_add, Nat.add_zero, hs2.1, h, h51, h52]
    refine ⟨by omega, by omega, c_longest42 (gRl_ok ho 99 _ (Nat.le_refl _)) hl2 (by omega) hnd.1 hnd.2 (fun w3 hf3 => ?_)⟩
    have hl3 := rRd_fr hl2 hf3 rfl (fun _ => rfl) (fun _ => rfl)
    have hs3 := rSp_fr hs2 hf3 rfl (fun _ => rfl) (fun _ => rfl)
    have h51' : wI w3 51 k = nI sc := (fr_rd hf3 rfl).trans h51
    have e1 : gWs1 (gNd g r (gCh g) (gMi g) 0 sc) (exL (gRl g 99 (gLk g))) sc = gWst (gN1 g r 0) (gLay g 0 (gW g) 99 0 (gLk g)) sc := by rw [lay_eq ho]; rfl
    rw [e1]
    have e2 := eC_inj hB2 hBw
    simp only [e2]
    have go : ∀ o2, lsO (fun c => gWst (gN1 g r 0) (gLay g 0 (gW g) 99 0 (gLk g)) c = gWall g r (gCh g) (gMi g) 0 99) ((gSp g (gSw g)).take (k + 1)) o2 → hP (rec (fgE o2, nI (k + 1), w3)) Q := fun o2 h9 => ih (n - 1) _ (by omega) ⟨k + 1, w3, o2, by omega, rfl, fr_then hf2 hf3 (by decide), hl3, hs3, h9⟩
    rw [htk] at go
    have hlo : ∀ m, o = some m → m < 40 := by
      intro m hm2
      subst hm2
      have := gSp_lt ho _ (Nat.le_refl _) m (List.mem_of_mem_take hls.1)
      omega
    by_cases c1 : gWst (gN1 g r 0) (gLay g 0 (gW g) 99 0 (gLk g)) sc = gWall g r (gCh g) (gMi g) 0 99
    · rw [if_pos c1]
      cases o with
      | none =>
        rw [if_pos (show fgE none = -nI 1 from rfl)]
        simp (disch := first | omega | (simp only [fIn, fR, fC, Nat.reduceEqDiff, decide_false, decide_true, Bool.false_or, Bool.or_false, Bool.false_and, Bool.and_false, Bool.or_self, Bool.true_and, Bool.true_or, Bool.and_true, Bool.or_true, Bool.and_self]; done) | fail) only [h51', q_lit, nI_add, pk_mul, q_lt, q_le, q_eq, q_cl, q_g, Bool.not_eq_true', decide_eq_false_iff_not, decide_eq_true_eq, q_div, q_rm, q_sub, q_m1, Nat.zero_add, Nat.add_zero]
        refine ⟨by omega, go (some sc) ⟨by simp, c1, fun c hc hc2 => ?_⟩⟩
        rcases List.mem_append.mp hc with hc | hc
        · exact absurd hc2 (hls c hc)
        · rw [List.mem_singleton.mp hc]; exact Nat.le_refl _
      | some m =>
        have hm4 := hlo m rfl
        have hfg : fgE (some m) = nI m := rfl
        simp (disch := first | omega | (simp only [fIn, fR, fC, Nat.reduceEqDiff, decide_false, decide_true, Bool.false_or, Bool.or_false, Bool.false_and, Bool.and_false, Bool.or_self, Bool.true_and, Bool.true_or, Bool.and_true, Bool.or_true, Bool.and_self]; done) | fail) only [hfg, q_neq, reduceIte, h51', q_lit, nI_add, pk_mul, q_lt, q_le, q_eq, q_cl, q_g, Bool.not_eq_true', decide_eq_false_iff_not, decide_eq_true_eq, q_div, q_rm, q_sub, q_m1, Nat.zero_add, Nat.add_zero]
        refine ⟨by omega, ?_⟩
        by_cases c2 : sc < m
        · rw [if_pos c2]
          refine ⟨by omega, go (some sc) ⟨by simp, c1, fun c hc hc2 => ?_⟩⟩
          rcases List.mem_append.mp hc with hc | hc
          · have := hls.2.2 c hc hc2; omega
          · rw [List.mem_singleton.mp hc]; exact Nat.le_refl _
        · rw [if_neg c2]
          refine go (some m) ⟨List.mem_append_left _ hls.1, hls.2.1, fun c hc hc2 => ?_⟩
          rcases List.mem_append.mp hc with hc | hc
          · exact hls.2.2 c hc hc2
          · rw [List.mem_singleton.mp hc]; omega
    · rw [if_neg c1]
      refine go o ?_
      cases o with
      | none =>
        intro c hc hc2
        rcases List.mem_append.mp hc with hc | hc
        · exact hls c hc hc2
        · rw [List.mem_singleton.mp hc] at hc2; exact c1 hc2
      | some m =>
        refine ⟨List.mem_append_left _ hls.1, hls.2.1, fun c hc hc2 => ?_⟩
        rcases List.mem_append.mp hc with hc | hc
        · exact hls.2.2 c hc hc2
        · rw [List.mem_singleton.mp hc] at hc2; exact absurd hc2 c1
  · have e : k = (gSp g (gSw g)).length := by omega
    simp (disch := first | omega | (simp only [fIn, fR, fC, Nat.reduceEqDiff, decide_false, decide_true, Bool.false_or, Bool.or_false, Bool.false_and, Bool.and_false, Bool.or_self, Bool.true_and, Bool.true_or, Bool.and_true, Bool.or_true, Bool.and_self]; done) | fail) only [hP_some, hP_let, hP_gd, hP_B, hP_if, reduceIte, q_lit, nI_add, pk_mul, q_lt, q_le, q_eq, q_cl, q_g, Bool.not_eq_true', decide_eq_false_iff_not, decide_eq_true_eq, q_div, q_rm, q_sub, q_m1, Nat.zero_add, Nat.add_zero, hs2.1, h]
    rw [e, List.take_of_length_le (Nat.le_refl _)] at hls
    exact hq w2 o hf2 hls
theorem m_worstCell {W : Option Nat} (hBw : oB W) (hr : rM g w) (hR : rMr r g w) (ho : gOk g) (hk : rOk r g) (hm : wI w 80 66 = nI 0) (hl : rLk w (gLay g 0 (gW g) 99 0 (gLk g))) {o : Option Nat} (hls : lsO (fun c => gWst (gN1 g r 0) (gLay g 0 (gW g) 99 0 (gLk g)) c = W) (gSp g (gSw g)) o) (hq : ∀ w', fr pD w w' → Q (fgE o) w') : hP (mLoop (f247_80_b32 (eN W)) nF (nI 0, w)) Q := by
  have hn := gOk_n ho
  have hwd := gOk_wd ho
  refine hP_loopF (fun n s => ∃ k w1, k + n = gW g * gH g ∧ s = (nI k, w1) ∧ fr pD w w1 ∧ ∀ c, c ∈ gSp g (gSw g) → gWst (gN1 g r 0) (gLay g 0 (gW g) 99 0 (gLk g)) c = W → k ≤ c) (gW g * gH g) (by omega) ⟨0, w, by omega, rfl, fr_refl, fun _ _ _ => Nat.zero_le _⟩ ?_
  rintro n s rec ⟨k, w1, hkn, rfl, hf, hlow⟩ ih
  have hr1 := rM_fr (by decide) hf hr
  have hR1 := rMr_fr (by decide) hf hR
  have hl1 := rLk_fr hl hf rfl (fun _ => rfl)
  simp only [f247_80_b32, f218_80]
  by_cases c1 : k < gW g * gH g
  · have hmod := Nat.mod_lt k (show 0 < gW g by omega)
    simp (disch := first | omega | (simp only [fIn, fR, fC, Nat.reduceEqDiff, decide_false, decide_true, Bool.false_or, Bool.or_false, Bool.false_and, Bool.and_false, Bool.or_self, Bool.true_and, Bool.true_or, Bool.and_true, Bool.or_true, Bool.and_self]; done) | fail) only [hP_some, hP_let, hP_gd, hP_B, hP_if, reduceIte, q_lit, nI_add, pk_mul, q_lt, q_le, q_eq, q_cl, q_g, Bool.not_eq_true', decide_eq_false_iff_not, decide_eq_true_eq, q_div, q_rm, q_sub, q_m1, Nat.zero_add, Nat.add_zero, rM_wd hr1, rM_hi hr1, c1]
    refine m_isIn hr1 ho (by omega) (by omega) (by omega) ?_
    have e0 : (gIn g 0 (gW g) k = true) = (k ∈ gSp g (gSw g)) := by
      unfold gIn
      simp only [Bool.and_eq_true, decide_eq_true_eq, Nat.zero_le, hmod, and_self, and_true, gSp_mem g k]
    simp only [e0]
    by_cases c2 : k ∈ gSp g (gSw g)
    · simp (disch := first | omega | (simp only [fIn, fR, fC, Nat.reduceEqDiff, decide_false, decide_true, Bool.false_or, Bool.or_false, Bool.false_and, Bool.and_false, Bool.or_self, Bool.true_and, Bool.true_or, Bool.and_true, Bool.or_true, Bool.and_self]; done) | fail) only [c2, reduceIte, q_lit, nI_add, pk_mul, q_lt, q_le, q_eq, q_cl, q_g, Bool.not_eq_true', decide_eq_false_iff_not, decide_eq_true_eq, q_div, q_rm, q_sub, q_m1, Nat.zero_add, Nat.add_zero, Nat.reduceEqDiff]
      refine m_worstOf hr1 hR1 ho hk ((fr_rd hf rfl).trans hm) (lay_ok ho) hl1 (by omega) (fun w2 hf2 => ?_)
      have hB2 : oB (gWst (gN1 g r 0) (gLay g 0 (gW g) 99 0 (gLk g)) k) := gWst_B (lay_ok ho).1 (gNd_b g r _ _ _ k).2
      simp only [eN_inj hB2 hBw]
      by_cases c3 : gWst (gN1 g r 0) (gLay g 0 (gW g) 99 0 (gLk g)) k = W
      · rw [if_pos c3]
        have e : o = some k := by
          cases o with
          | none => exact absurd c3 (hls k c2)
          | some m =>
            have a1 := hls.2.2 k c2 c3
            have a2 := hlow m hls.1 hls.2.1
            rw [show m = k by omega]
        have := hq w2 (fr_then hf hf2 (by decide))
        rw [e] at this
        exact this
      · rw [if_neg c3]
        refine ih (n - 1) _ (by omega) ⟨k + 1, w2, by omega, rfl, fr_then hf hf2 (by decide), fun c hc hc2 => ?_⟩
        have := hlow c hc hc2
        by_cases e : c = k
        · subst e; exact absurd hc2 c3
        · omega
    · simp (disch := first | omega | (simp only [fIn, fR, fC, Nat.reduceEqDiff, decide_false, decide_true, Bool.false_or, Bool.or_false, Bool.false_and, Bool.and_false, Bool.or_self, Bool.true_and, Bool.true_or, Bool.and_true, Bool.or_true, Bool.and_self]; done) | fail) only [c2, reduceIte, q_lit, nI_add, pk_mul, q_lt, q_le, q_eq, q_cl, q_g, Bool.not_eq_true', decide_eq_false_iff_not, decide_eq_true_eq, q_div, q_rm, q_sub, q_m1, Nat.zero_add, Nat.add_zero, Nat.reduceEqDiff]
      refine ih (n - 1) _ (by omega) ⟨k + 1, w1, by omega, rfl, hf, fun c hc hc2 => ?_⟩
      have := hlow c hc hc2
      by_cases e : c = k
      · subst e; exact absurd hc c2
      · omega
  · have e : o = none := by
      cases o with
      | none => rfl
      | some m =>
        have a1 := gSp_lt ho _ (Nat.le_refl _) m hls.1
        have a2 := hlow m hls.1 hls.2.1
        omega
    simp (disch := first | omega | (simp only [fIn, fR, fC, Nat.reduceEqDiff, decide_false, decide_true, Bool.false_or, Bool.or_false, Bool.false_and, Bool.and_false, Bool.or_self, Bool.true_and, Bool.true_or, Bool.and_true, Bool.or_true, Bool.and_self]; done) | fail) only [hP_some, hP_let, hP_gd, hP_B, hP_if, reduceIte, q_lit, nI_add, pk_mul, q_lt, q_le, q_eq, q_cl, q_g, Bool.not_eq_true', decide_eq_false_iff_not, decide_eq_true_eq, q_div, q_rm, q_sub, q_m1, Nat.zero_add, Nat.add_zero, rM_wd hr1, rM_hi hr1, c1]
    have := hq w1 hf
    rw [e] at this
    exact this
end WC
