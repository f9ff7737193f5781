/-! ===== OPERATIONS: count ===== -/
theorem op_count (x1 : Int32) : opB Inv (f303_0_116 x1) (f237_80 x1) := by
  refine opB_gx (f := f129_0 x1) (ex := 1) (fun w => rfl) (fun w hI => ?_)
  obtain ⟨g, r, h, D, H, hp, hh, hD, hH, hi, ⟨bt, t, t1, t2, t3, t4⟩, ⟨m1, m2, m3, m4⟩, hrw⟩ := hI
  obtain ⟨hM, hMr, hC, hCr, ho, hk, hl1, hcm, -⟩ := id hp
  by_cases c : inR x1 (18 + 1)
  · obtain ⟨b, hb, rfl⟩ := c
    have hw := (gdC_what (x := nI b) (w := w) (most := 18) (by decide)).1 ⟨b, hb, rfl⟩
    have hb19 : b = 0 ∨ b = 1 ∨ b = 2 ∨ b = 3 ∨ b = 4 ∨ b = 5 ∨ b = 6 ∨ b = 7 ∨ b = 8 ∨ b = 9 ∨ b = 10 ∨ b = 11 ∨ b = 12 ∨ b = 13 ∨ b = 14 ∨ b = 15 ∨ b = 16 ∨ b = 17 ∨ b = 18 := by omega
    rcases hb19 with rfl | rfl | rfl | rfl | rfl | rfl | rfl | rfl | rfl | rfl | rfl | rfl | rfl | rfl | rfl | rfl | rfl | rfl | rfl
    · refine ⟨g, r, True, nI (gW g), hp, fun _ => ?_, fun c => absurd trivial c, fun _ w1 hx hs => ?_, fun c => absurd trivial c⟩
      · unfold f129_0
        rw [hP_xb]
        refine hw _ ?_
        simp (disch := first | omega | (simp only [fIn, fR, fC, Nat.reduceEqDiff, decide_false, decide_true, Bool.false_or, Bool.or_false, Bool.false_and, Bool.and_false, Bool.or_self, Bool.true_and, Bool.true_or, Bool.and_true, Bool.or_true, Bool.and_self]; done) | fail) only [hP_some, hP_let, hP_gd, hP_B, hP_if, reduceIte, q_lit, nI_add, pk_mul, q_lt, q_le, q_eq, q_cl, q_g, Bool.not_eq_true', decide_eq_false_iff_not, decide_eq_true_eq, q_div, q_rm, q_sub, q_m1, Nat.zero_add, Nat.add_zero, Nat.reduceEqDiff]
        exact ⟨congrArg _ (rC_wd hC), fr_refl⟩
      · unfold f237_80
        simp only [hP_let, hP_B]
        refine m_within (lo := 0) (hi := 18) (by decide) (by decide) (fun a' _ _ e => ?_) (fun hn => absurd rfl (hn 0 (by decide) (by decide)))
        refine m_rightY hx.2.2.2 ?_
        simp (disch := first | omega | (simp only [fIn, fR, fC, Nat.reduceEqDiff, decide_false, decide_true, Bool.false_or, Bool.or_false, Bool.false_and, Bool.and_false, Bool.or_self, Bool.true_and, Bool.true_or, Bool.and_true, Bool.or_true, Bool.and_self]; done) | fail) only [hP_some, hP_let, hP_gd, hP_B, hP_if, reduceIte, q_lit, nI_add, pk_mul, q_lt, q_le, q_eq, q_cl, q_g, Bool.not_eq_true', decide_eq_false_iff_not, decide_eq_true_eq, q_div, q_rm, q_sub, q_m1, Nat.zero_add, Nat.add_zero, Nat.reduceEqDiff]
        exact ⟨rM_wd hx.1, fr_nS fr_refl rfl, hx.2.2.2⟩
    · refine ⟨g, r, True, nI (gH g), hp, fun _ => ?_, fun c => absurd trivial c, fun _ w1 hx hs => ?_, fun c => absurd trivial c⟩
      · unfold f129_0
        rw [hP_xb]
        refine hw _ ?_
        simp (disch := first | omega | (simp only [fIn, fR, fC, Nat.reduceEqDiff, decide_false, decide_true, Bool.false_or, Bool.or_false, Bool.false_and, Bool.and_false, Bool.or_self, Bool.true_and, Bool.true_or, Bool.and_true, Bool.or_true, Bool.and_self]; done) | fail) only [hP_some, hP_let, hP_gd, hP_B, hP_if, reduceIte, q_lit, nI_add, pk_mul, q_lt, q_le, q_eq, q_cl, q_g, Bool.not_eq_true', decide_eq_false_iff_not, decide_eq_true_eq, q_div, q_rm, q_sub, q_m1, Nat.zero_add, Nat.add_zero, Nat.reduceEqDiff]
        exact ⟨congrArg _ (rC_hi hC), fr_refl⟩
      · unfold f237_80
        simp only [hP_let, hP_B]
        refine m_within (lo := 0) (hi := 18) (by decide) (by decide) (fun a' _ _ e => ?_) (fun hn => absurd rfl (hn 1 (by decide) (by decide)))
        refine m_rightY hx.2.2.2 ?_
        simp (disch := first | omega | (simp only [fIn, fR, fC, Nat.reduceEqDiff, decide_false, decide_true, Bool.false_or, Bool.or_false, Bool.false_and, Bool.and_false, Bool.or_self, Bool.true_and, Bool.true_or, Bool.and_true, Bool.or_true, Bool.and_self]; done) | fail) only [hP_some, hP_let, hP_gd, hP_B, hP_if, reduceIte, q_lit, nI_add, pk_mul, q_lt, q_le, q_eq, q_cl, q_g, Bool.not_eq_true', decide_eq_false_iff_not, decide_eq_true_eq, q_div, q_rm, q_sub, q_m1, Nat.zero_add, Nat.add_zero, Nat.reduceEqDiff]
        exact ⟨rM_hi hx.1, fr_nS fr_refl rfl, hx.2.2.2⟩
    · refine ⟨g, r, True, nI (gSw g), hp, fun _ => ?_, fun c => absurd trivial c, fun _ w1 hx hs => ?_, fun c => absurd trivial c⟩
      · unfold f129_0
        rw [hP_xb]
        refine hw _ ?_
        simp (disch := first | omega | (simp only [fIn, fR, fC, Nat.reduceEqDiff, decide_false, decide_true, Bool.false_or, Bool.or_false, Bool.false_and, Bool.and_false, Bool.or_self, Bool.true_and, Bool.true_or, Bool.and_true, Bool.or_true, Bool.and_self]; done) | fail) only [hP_some, hP_let, hP_gd, hP_B, hP_if, reduceIte, q_lit, nI_add, pk_mul, q_lt, q_le, q_eq, q_cl, q_g, Bool.not_eq_true', decide_eq_false_iff_not, decide_eq_true_eq, q_div, q_rm, q_sub, q_m1, Nat.zero_add, Nat.add_zero, Nat.reduceEqDiff]
        exact ⟨congrArg _ (rC_sw hC), fr_refl⟩
      · unfold f237_80
        simp only [hP_let, hP_B]
        refine m_within (lo := 0) (hi := 18) (by decide) (by decide) (fun a' _ _ e => ?_) (fun hn => absurd rfl (hn 2 (by decide) (by decide)))
        refine m_rightY hx.2.2.2 ?_
        simp (disch := first | omega | (simp only [fIn, fR, fC, Nat.reduceEqDiff, decide_false, decide_true, Bool.false_or, Bool.or_false, Bool.false_and, Bool.and_false, Bool.or_self, Bool.true_and, Bool.true_or, Bool.and_true, Bool.or_true, Bool.and_self]; done) | fail) only [hP_some, hP_let, hP_gd, hP_B, hP_if, reduceIte, q_lit, nI_add, pk_mul, q_lt, q_le, q_eq, q_cl, q_g, Bool.not_eq_true', decide_eq_false_iff_not, decide_eq_true_eq, q_div, q_rm, q_sub, q_m1, Nat.zero_add, Nat.add_zero, Nat.reduceEqDiff]
        exact ⟨rM_sw hx.1, fr_nS fr_refl rfl, hx.2.2.2⟩
    · refine ⟨g, r, True, nI (gLk g), hp, fun _ => ?_, fun c => absurd trivial c, fun _ w1 hx hs => ?_, fun c => absurd trivial c⟩
      · unfold f129_0
        rw [hP_xb]
        refine hw _ ?_
        simp (disch := first | omega | (simp only [fIn, fR, fC, Nat.reduceEqDiff, decide_false, decide_true, Bool.false_or, Bool.or_false, Bool.false_and, Bool.and_false, Bool.or_self, Bool.true_and, Bool.true_or, Bool.and_true, Bool.or_true, Bool.and_self]; done) | fail) only [hP_some, hP_let, hP_gd, hP_B, hP_if, reduceIte, q_lit, nI_add, pk_mul, q_lt, q_le, q_eq, q_cl, q_g, Bool.not_eq_true', decide_eq_false_iff_not, decide_eq_true_eq, q_div, q_rm, q_sub, q_m1, Nat.zero_add, Nat.add_zero, Nat.reduceEqDiff]
        exact ⟨congrArg _ (rC_lk hC), fr_refl⟩
      · unfold f237_80
        simp only [hP_let, hP_B]
        refine m_within (lo := 0) (hi := 18) (by decide) (by decide) (fun a' _ _ e => ?_) (fun hn => absurd rfl (hn 3 (by decide) (by decide)))
        refine m_rightY hx.2.2.2 ?_
        simp (disch := first | omega | (simp only [fIn, fR, fC, Nat.reduceEqDiff, decide_false, decide_true, Bool.false_or, Bool.or_false, Bool.false_and, Bool.and_false, Bool.or_self, Bool.true_and, Bool.true_or, Bool.and_true, Bool.or_true, Bool.and_self]; done) | fail) only [hP_some, hP_let, hP_gd, hP_B, hP_if, reduceIte, q_lit, nI_add, pk_mul, q_lt, q_le, q_eq, q_cl, q_g, Bool.not_eq_true', decide_eq_false_iff_not, decide_eq_true_eq, q_div, q_rm, q_sub, q_m1, Nat.zero_add, Nat.add_zero, Nat.reduceEqDiff]
        exact ⟨rM_lk hx.1, fr_nS fr_refl rfl, hx.2.2.2⟩
    · refine ⟨g, r, True, nI (gCh g), hp, fun _ => ?_, fun c => absurd trivial c, fun _ w1 hx hs => ?_, fun c => absurd trivial c⟩
      · unfold f129_0
        rw [hP_xb]
        refine hw _ ?_
        simp (disch := first | omega | (simp only [fIn, fR, fC, Nat.reduceEqDiff, decide_false, decide_true, Bool.false_or, Bool.or_false, Bool.false_and, Bool.and_false, Bool.or_self, Bool.true_and, Bool.true_or, Bool.and_true, Bool.or_true, Bool.and_self]; done) | fail) only [hP_some, hP_let, hP_gd, hP_B, hP_if, reduceIte, q_lit, nI_add, pk_mul, q_lt, q_le, q_eq, q_cl, q_g, Bool.not_eq_true', decide_eq_false_iff_not, decide_eq_true_eq, q_div, q_rm, q_sub, q_m1, Nat.zero_add, Nat.add_zero, Nat.reduceEqDiff]
        exact ⟨congrArg _ (rC_ch hC), fr_refl⟩
      · unfold f237_80
        simp only [hP_let, hP_B]
        refine m_within (lo := 0) (hi := 18) (by decide) (by decide) (fun a' _ _ e => ?_) (fun hn => absurd rfl (hn 4 (by decide) (by decide)))
        refine m_rightY hx.2.2.2 ?_
        simp (disch := first | omega | (simp only [fIn, fR, fC, Nat.reduceEqDiff, decide_false, decide_true, Bool.false_or, Bool.or_false, Bool.false_and, Bool.and_false, Bool.or_self, Bool.true_and, Bool.true_or, Bool.and_true, Bool.or_true, Bool.and_self]; done) | fail) only [hP_some, hP_let, hP_gd, hP_B, hP_if, reduceIte, q_lit, nI_add, pk_mul, q_lt, q_le, q_eq, q_cl, q_g, Bool.not_eq_true', decide_eq_false_iff_not, decide_eq_true_eq, q_div, q_rm, q_sub, q_m1, Nat.zero_add, Nat.add_zero, Nat.reduceEqDiff]
        exact ⟨rM_ch hx.1, fr_nS fr_refl rfl, hx.2.2.2⟩
    · refine ⟨g, r, True, nI (gLa g), hp, fun _ => ?_, fun c => absurd trivial c, fun _ w1 hx hs => ?_, fun c => absurd trivial c⟩
      · unfold f129_0
        rw [hP_xb]
        refine hw _ ?_
        simp (disch := first | omega | (simp only [fIn, fR, fC, Nat.reduceEqDiff, decide_false, decide_true, Bool.false_or, Bool.or_false, Bool.false_and, Bool.and_false, Bool.or_self, Bool.true_and, Bool.true_or, Bool.and_true, Bool.or_true, Bool.and_self]; done) | fail) only [hP_some, hP_let, hP_gd, hP_B, hP_if, reduceIte, q_lit, nI_add, pk_mul, q_lt, q_le, q_eq, q_cl, q_g, Bool.not_eq_true', decide_eq_false_iff_not, decide_eq_true_eq, q_div, q_rm, q_sub, q_m1, Nat.zero_add, Nat.add_zero, Nat.reduceEqDiff]
        exact ⟨congrArg _ (rC_la hC), fr_refl⟩
      · unfold f237_80
        simp only [hP_let, hP_B]
        refine m_within (lo := 0) (hi := 18) (by decide) (by decide) (fun a' _ _ e => ?_) (fun hn => absurd rfl (hn 5 (by decide) (by decide)))
        refine m_rightY hx.2.2.2 ?_
        simp (disch := first | omega | (simp only [fIn, fR, fC, Nat.reduceEqDiff, decide_false, decide_true, Bool.false_or, Bool.or_false, Bool.false_and, Bool.and_false, Bool.or_self, Bool.true_and, Bool.true_or, Bool.and_true, Bool.or_true, Bool.and_self]; done) | fail) only [hP_some, hP_let, hP_gd, hP_B, hP_if, reduceIte, q_lit, nI_add, pk_mul, q_lt, q_le, q_eq, q_cl, q_g, Bool.not_eq_true', decide_eq_false_iff_not, decide_eq_true_eq, q_div, q_rm, q_sub, q_m1, Nat.zero_add, Nat.add_zero, Nat.reduceEqDiff]
        exact ⟨rM_la hx.1, fr_nS fr_refl rfl, hx.2.2.2⟩
    · refine ⟨g, r, True, nI (gTi g), hp, fun _ => ?_, fun c => absurd trivial c, fun _ w1 hx hs => ?_, fun c => absurd trivial c⟩
      · unfold f129_0
        rw [hP_xb]
        refine hw _ ?_
        simp (disch := first | omega | (simp only [fIn, fR, fC, Nat.reduceEqDiff, decide_false, decide_true, Bool.false_or, Bool.or_false, Bool.false_and, Bool.and_false, Bool.or_self, Bool.true_and, Bool.true_or, Bool.and_true, Bool.or_true, Bool.and_self]; done) | fail) only [hP_some, hP_let, hP_gd, hP_B, hP_if, reduceIte, q_lit, nI_add, pk_mul, q_lt, q_le, q_eq, q_cl, q_g, Bool.not_eq_true', decide_eq_false_iff_not, decide_eq_true_eq, q_div, q_rm, q_sub, q_m1, Nat.zero_add, Nat.add_zero, Nat.reduceEqDiff]
        exact ⟨congrArg _ (rC_ti hC), fr_refl⟩
      · unfold f237_80
        simp only [hP_let, hP_B]
        refine m_within (lo := 0) (hi := 18) (by decide) (by decide) (fun a' _ _ e => ?_) (fun hn => absurd rfl (hn 6 (by decide) (by decide)))
        refine m_rightY hx.2.2.2 ?_
        simp (disch := first | omega | (simp only [fIn, fR, fC, Nat.reduceEqDiff, decide_false, decide_true, Bool.false_or, Bool.or_false, Bool.false_and, Bool.and_false, Bool.or_self, Bool.true_and, Bool.true_or, Bool.and_true, Bool.or_true, Bool.and_self]; done) | fail) only [hP_some, hP_let, hP_gd, hP_B, hP_if, reduceIte, q_lit, nI_add, pk_mul, q_lt, q_le, q_eq, q_cl, q_g, Bool.not_eq_true', decide_eq_false_iff_not, decide_eq_true_eq, q_div, q_rm, q_sub, q_m1, Nat.zero_add, Nat.add_zero, Nat.reduceEqDiff]
        exact ⟨rM_ti hx.1, fr_nS fr_refl rfl, hx.2.2.2⟩
    · refine ⟨g, r, True, nI (gMi g), hp, fun _ => ?_, fun c => absurd trivial c, fun _ w1 hx hs => ?_, fun c => absurd trivial c⟩
      · unfold f129_0
        rw [hP_xb]
        refine hw _ ?_
        simp (disch := first | omega | (simp only [fIn, fR, fC, Nat.reduceEqDiff, decide_false, decide_true, Bool.false_or, Bool.or_false, Bool.false_and, Bool.and_false, Bool.or_self, Bool.true_and, Bool.true_or, Bool.and_true, Bool.or_true, Bool.and_self]; done) | fail) only [hP_some, hP_let, hP_gd, hP_B, hP_if, reduceIte, q_lit, nI_add, pk_mul, q_lt, q_le, q_eq, q_cl, q_g, Bool.not_eq_true', decide_eq_false_iff_not, decide_eq_true_eq, q_div, q_rm, q_sub, q_m1, Nat.zero_add, Nat.add_zero, Nat.reduceEqDiff]
        exact ⟨congrArg _ (rC_mi hC), fr_refl⟩
      · unfold f237_80
        simp only [hP_let, hP_B]
        refine m_within (lo := 0) (hi := 18) (by decide) (by decide) (fun a' _ _ e => ?_) (fun hn => absurd rfl (hn 7 (by decide) (by decide)))
        refine m_rightY hx.2.2.2 ?_
        simp (disch := first | omega | (simp only [fIn, fR, fC, Nat.reduceEqDiff, decide_false, decide_true, Bool.false_or, Bool.or_false, Bool.false_and, Bool.and_false, Bool.or_self, Bool.true_and, Bool.true_or, Bool.and_true, Bool.or_true, Bool.and_self]; done) | fail) only [hP_some, hP_let, hP_gd, hP_B, hP_if, reduceIte, q_lit, nI_add, pk_mul, q_lt, q_le, q_eq, q_cl, q_g, Bool.not_eq_true', decide_eq_false_iff_not, decide_eq_true_eq, q_div, q_rm, q_sub, q_m1, Nat.zero_add, Nat.add_zero, Nat.reduceEqDiff]
        exact ⟨rM_mi hx.1, fr_nS fr_refl rfl, hx.2.2.2⟩
    · refine ⟨g, r, True, nI (gGa g), hp, fun _ => ?_, fun c => absurd trivial c, fun _ w1 hx hs => ?_, fun c => absurd trivial c⟩
      · unfold f129_0
        rw [hP_xb]
        refine hw _ ?_
        simp (disch := first | omega | (simp only [fIn, fR, fC, Nat.reduceEqDiff, decide_false, decide_true, Bool.false_or, Bool.or_false, Bool.false_and, Bool.and_false, Bool.or_self, Bool.true_and, Bool.true_or, Bool.and_true, Bool.or_true, Bool.and_self]; done) | fail) only [hP_some, hP_let, hP_gd, hP_B, hP_if, reduceIte, q_lit, nI_add, pk_mul, q_lt, q_le, q_eq, q_cl, q_g, Bool.not_eq_true', decide_eq_false_iff_not, decide_eq_true_eq, q_div, q_rm, q_sub, q_m1, Nat.zero_add, Nat.add_zero, Nat.reduceEqDiff]
        exact ⟨congrArg _ (rC_ga hC), fr_refl⟩
      · unfold f237_80
        simp only [hP_let, hP_B]
        refine m_within (lo := 0) (hi := 18) (by decide) (by decide) (fun a' _ _ e => ?_) (fun hn => absurd rfl (hn 8 (by decide) (by decide)))
        refine m_rightY hx.2.2.2 ?_
        simp (disch := first | omega | (simp only [fIn, fR, fC, Nat.reduceEqDiff, decide_false, decide_true, Bool.false_or, Bool.or_false, Bool.false_and, Bool.and_false, Bool.or_self, Bool.true_and, Bool.true_or, Bool.and_true, Bool.or_true, Bool.and_self]; done) | fail) only [hP_some, hP_let, hP_gd, hP_B, hP_if, reduceIte, q_lit, nI_add, pk_mul, q_lt, q_le, q_eq, q_cl, q_g, Bool.not_eq_true', decide_eq_false_iff_not, decide_eq_true_eq, q_div, q_rm, q_sub, q_m1, Nat.zero_add, Nat.add_zero, Nat.reduceEqDiff]
        exact ⟨rM_ga hx.1, fr_nS fr_refl rfl, hx.2.2.2⟩
    · refine ⟨g, r, True, nI (gCa g), hp, fun _ => ?_, fun c => absurd trivial c, fun _ w1 hx hs => ?_, fun c => absurd trivial c⟩
      · unfold f129_0
        rw [hP_xb]
        refine hw _ ?_
        simp (disch := first | omega | (simp only [fIn, fR, fC, Nat.reduceEqDiff, decide_false, decide_true, Bool.false_or, Bool.or_false, Bool.false_and, Bool.and_false, Bool.or_self, Bool.true_and, Bool.true_or, Bool.and_true, Bool.or_true, Bool.and_self]; done) | fail) only [hP_some, hP_let, hP_gd, hP_B, hP_if, reduceIte, q_lit, nI_add, pk_mul, q_lt, q_le, q_eq, q_cl, q_g, Bool.not_eq_true', decide_eq_false_iff_not, decide_eq_true_eq, q_div, q_rm, q_sub, q_m1, Nat.zero_add, Nat.add_zero, Nat.reduceEqDiff]
        exact ⟨congrArg _ (rC_ca hC), fr_refl⟩
      · unfold f237_80
        simp only [hP_let, hP_B]
        refine m_within (lo := 0) (hi := 18) (by decide) (by decide) (fun a' _ _ e => ?_) (fun hn => absurd rfl (hn 9 (by decide) (by decide)))
        refine m_rightY hx.2.2.2 ?_
        simp (disch := first | omega | (simp only [fIn, fR, fC, Nat.reduceEqDiff, decide_false, decide_true, Bool.false_or, Bool.or_false, Bool.false_and, Bool.and_false, Bool.or_self, Bool.true_and, Bool.true_or, Bool.and_true, Bool.or_true, Bool.and_self]; done) | fail) only [hP_some, hP_let, hP_gd, hP_B, hP_if, reduceIte, q_lit, nI_add, pk_mul, q_lt, q_le, q_eq, q_cl, q_g, Bool.not_eq_true', decide_eq_false_iff_not, decide_eq_true_eq, q_div, q_rm, q_sub, q_m1, Nat.zero_add, Nat.add_zero, Nat.reduceEqDiff]
        exact ⟨rM_ca hx.1, fr_nS fr_refl rfl, hx.2.2.2⟩
    · refine ⟨g, r, True, nI (gRnd g (gLk g)), hp, fun _ => ?_, fun c => absurd trivial c, fun _ w1 hx hs => ?_, fun c => absurd trivial c⟩
      · unfold f129_0
        rw [hP_xb]
        refine hw _ ?_
        simp (disch := first | omega | (simp only [fIn, fR, fC, Nat.reduceEqDiff, decide_false, decide_true, Bool.false_or, Bool.or_false, Bool.false_and, Bool.and_false, Bool.or_self, Bool.true_and, Bool.true_or, Bool.and_true, Bool.or_true, Bool.and_self]; done) | fail) only [hP_some, hP_let, hP_gd, hP_B, hP_if, reduceIte, q_lit, nI_add, pk_mul, q_lt, q_le, q_eq, q_cl, q_g, Bool.not_eq_true', decide_eq_false_iff_not, decide_eq_true_eq, q_div, q_rm, q_sub, q_m1, Nat.zero_add, Nat.add_zero, Nat.reduceEqDiff]
        exact c_rounds hC ho ⟨rfl, fr_refl⟩
      · unfold f237_80
        simp only [hP_let, hP_B]
        refine m_within (lo := 0) (hi := 18) (by decide) (by decide) (fun a' _ _ e => ?_) (fun hn => absurd rfl (hn 10 (by decide) (by decide)))
        refine m_rightY hx.2.2.2 ?_
        simp (disch := first | omega | (simp only [fIn, fR, fC, Nat.reduceEqDiff, decide_false, decide_true, Bool.false_or, Bool.or_false, Bool.false_and, Bool.and_false, Bool.or_self, Bool.true_and, Bool.true_or, Bool.and_true, Bool.or_true, Bool.and_self]; done) | fail) only [hP_some, hP_let, hP_gd, hP_B, hP_if, reduceIte, q_lit, nI_add, pk_mul, q_lt, q_le, q_eq, q_cl, q_g, Bool.not_eq_true', decide_eq_false_iff_not, decide_eq_true_eq, q_div, q_rm, q_sub, q_m1, Nat.zero_add, Nat.add_zero, Nat.reduceEqDiff]
        exact m_roundOf hx.1 ho ⟨rfl, fr_nS fr_refl rfl, hx.2.2.2⟩
    · refine ⟨g, r, True, nI h.length, hp, fun _ => ?_, fun c => absurd trivial c, fun _ w1 hx hs => ?_, fun c => absurd trivial c⟩
      · unfold f129_0
        rw [hP_xb]
        refine hw _ ?_
        simp (disch := first | omega | (simp only [fIn, fR, fC, Nat.reduceEqDiff, decide_false, decide_true, Bool.false_or, Bool.or_false, Bool.false_and, Bool.and_false, Bool.or_self, Bool.true_and, Bool.true_or, Bool.and_true, Bool.or_true, Bool.and_self]; done) | fail) only [hP_some, hP_let, hP_gd, hP_B, hP_if, reduceIte, q_lit, nI_add, pk_mul, q_lt, q_le, q_eq, q_cl, q_g, Bool.not_eq_true', decide_eq_false_iff_not, decide_eq_true_eq, q_div, q_rm, q_sub, q_m1, Nat.zero_add, Nat.add_zero, Nat.reduceEqDiff]
        exact ⟨congrArg _ (hh.2.1), fr_refl⟩
      · unfold f237_80
        simp only [hP_let, hP_B]
        refine m_within (lo := 0) (hi := 18) (by decide) (by decide) (fun a' _ _ e => ?_) (fun hn => absurd rfl (hn 11 (by decide) (by decide)))
        refine m_rightY hx.2.2.2 ?_
        simp (disch := first | omega | (simp only [fIn, fR, fC, Nat.reduceEqDiff, decide_false, decide_true, Bool.false_or, Bool.or_false, Bool.false_and, Bool.and_false, Bool.or_self, Bool.true_and, Bool.true_or, Bool.and_true, Bool.or_true, Bool.and_self]; done) | fail) only [hP_some, hP_let, hP_gd, hP_B, hP_if, reduceIte, q_lit, nI_add, pk_mul, q_lt, q_le, q_eq, q_cl, q_g, Bool.not_eq_true', decide_eq_false_iff_not, decide_eq_true_eq, q_div, q_rm, q_sub, q_m1, Nat.zero_add, Nat.add_zero, Nat.reduceEqDiff]
        exact ⟨(hs 80 63 (by decide +kernel)).trans hh.1, fr_nS fr_refl rfl, hx.2.2.2⟩
    · refine ⟨g, r, True, nI D.length, hp, fun _ => ?_, fun c => absurd trivial c, fun _ w1 hx hs => ?_, fun c => absurd trivial c⟩
      · unfold f129_0
        rw [hP_xb]
        refine hw _ ?_
        simp (disch := first | omega | (simp only [fIn, fR, fC, Nat.reduceEqDiff, decide_false, decide_true, Bool.false_or, Bool.or_false, Bool.false_and, Bool.and_false, Bool.or_self, Bool.true_and, Bool.true_or, Bool.and_true, Bool.or_true, Bool.and_self]; done) | fail) only [hP_some, hP_let, hP_gd, hP_B, hP_if, reduceIte, q_lit, nI_add, pk_mul, q_lt, q_le, q_eq, q_cl, q_g, Bool.not_eq_true', decide_eq_false_iff_not, decide_eq_true_eq, q_div, q_rm, q_sub, q_m1, Nat.zero_add, Nat.add_zero, Nat.reduceEqDiff]
        exact ⟨congrArg _ (hD.2.1), fr_refl⟩
      · unfold f237_80
        simp only [hP_let, hP_B]
        refine m_within (lo := 0) (hi := 18) (by decide) (by decide) (fun a' _ _ e => ?_) (fun hn => absurd rfl (hn 12 (by decide) (by decide)))
        refine m_rightY hx.2.2.2 ?_
        simp (disch := first | omega | (simp only [fIn, fR, fC, Nat.reduceEqDiff, decide_false, decide_true, Bool.false_or, Bool.or_false, Bool.false_and, Bool.and_false, Bool.or_self, Bool.true_and, Bool.true_or, Bool.and_true, Bool.or_true, Bool.and_self]; done) | fail) only [hP_some, hP_let, hP_gd, hP_B, hP_if, reduceIte, q_lit, nI_add, pk_mul, q_lt, q_le, q_eq, q_cl, q_g, Bool.not_eq_true', decide_eq_false_iff_not, decide_eq_true_eq, q_div, q_rm, q_sub, q_m1, Nat.zero_add, Nat.add_zero, Nat.reduceEqDiff]
        exact ⟨(hs 80 74 (by decide +kernel)).trans hD.1, fr_nS fr_refl rfl, hx.2.2.2⟩
    · refine ⟨g, r, True, nI H.length, hp, fun _ => ?_, fun c => absurd trivial c, fun _ w1 hx hs => ?_, fun c => absurd trivial c⟩
      · unfold f129_0
        rw [hP_xb]
        refine hw _ ?_
        simp (disch := first | omega | (simp only [fIn, fR, fC, Nat.reduceEqDiff, decide_false, decide_true, Bool.false_or, Bool.or_false, Bool.false_and, Bool.and_false, Bool.or_self, Bool.true_and, Bool.true_or, Bool.and_true, Bool.or_true, Bool.and_self]; done) | fail) only [hP_some, hP_let, hP_gd, hP_B, hP_if, reduceIte, q_lit, nI_add, pk_mul, q_lt, q_le, q_eq, q_cl, q_g, Bool.not_eq_true', decide_eq_false_iff_not, decide_eq_true_eq, q_div, q_rm, q_sub, q_m1, Nat.zero_add, Nat.add_zero, Nat.reduceEqDiff]
        exact ⟨congrArg _ (hH.2.1), fr_refl⟩
      · unfold f237_80
        simp only [hP_let, hP_B]
        refine m_within (lo := 0) (hi := 18) (by decide) (by decide) (fun a' _ _ e => ?_) (fun hn => absurd rfl (hn 13 (by decide) (by decide)))
        refine m_rightY hx.2.2.2 ?_
        simp (disch := first | omega | (simp only [fIn, fR, fC, Nat.reduceEqDiff, decide_false, decide_true, Bool.false_or, Bool.or_false, Bool.false_and, Bool.and_false, Bool.or_self, Bool.true_and, Bool.true_or, Bool.and_true, Bool.or_true, Bool.and_self]; done) | fail) only [hP_some, hP_let, hP_gd, hP_B, hP_if, reduceIte, q_lit, nI_add, pk_mul, q_lt, q_le, q_eq, q_cl, q_g, Bool.not_eq_true', decide_eq_false_iff_not, decide_eq_true_eq, q_div, q_rm, q_sub, q_m1, Nat.zero_add, Nat.add_zero, Nat.reduceEqDiff]
        exact ⟨(hs 80 75 (by decide +kernel)).trans hH.1, fr_nS fr_refl rfl, hx.2.2.2⟩
    · refine ⟨g, r, True, nI t, hp, fun _ => ?_, fun c => absurd trivial c, fun _ w1 hx hs => ?_, fun c => absurd trivial c⟩
      · unfold f129_0
        rw [hP_xb]
        refine hw _ ?_
        simp (disch := first | omega | (simp only [fIn, fR, fC, Nat.reduceEqDiff, decide_false, decide_true, Bool.false_or, Bool.or_false, Bool.false_and, Bool.and_false, Bool.or_self, Bool.true_and, Bool.true_or, Bool.and_true, Bool.or_true, Bool.and_self]; done) | fail) only [hP_some, hP_let, hP_gd, hP_B, hP_if, reduceIte, q_lit, nI_add, pk_mul, q_lt, q_le, q_eq, q_cl, q_g, Bool.not_eq_true', decide_eq_false_iff_not, decide_eq_true_eq, q_div, q_rm, q_sub, q_m1, Nat.zero_add, Nat.add_zero, Nat.reduceEqDiff]
        exact ⟨congrArg _ (t2), fr_refl⟩
      · unfold f237_80
        simp only [hP_let, hP_B]
        refine m_within (lo := 0) (hi := 18) (by decide) (by decide) (fun a' _ _ e => ?_) (fun hn => absurd rfl (hn 14 (by decide) (by decide)))
        refine m_rightY hx.2.2.2 ?_
        simp (disch := first | omega | (simp only [fIn, fR, fC, Nat.reduceEqDiff, decide_false, decide_true, Bool.false_or, Bool.or_false, Bool.false_and, Bool.and_false, Bool.or_self, Bool.true_and, Bool.true_or, Bool.and_true, Bool.or_true, Bool.and_self]; done) | fail) only [hP_some, hP_let, hP_gd, hP_B, hP_if, reduceIte, q_lit, nI_add, pk_mul, q_lt, q_le, q_eq, q_cl, q_g, Bool.not_eq_true', decide_eq_false_iff_not, decide_eq_true_eq, q_div, q_rm, q_sub, q_m1, Nat.zero_add, Nat.add_zero, Nat.reduceEqDiff]
        exact ⟨(hs 80 18 (by decide +kernel)).trans t1, fr_nS fr_refl rfl, hx.2.2.2⟩
    · refine ⟨g, r, True, wI w 0 3, hp, fun _ => ?_, fun c => absurd trivial c, fun _ w1 hx hs => ?_, fun c => absurd trivial c⟩
      · unfold f129_0
        rw [hP_xb]
        refine hw _ ?_
        simp (disch := first | omega | (simp only [fIn, fR, fC, Nat.reduceEqDiff, decide_false, decide_true, Bool.false_or, Bool.or_false, Bool.false_and, Bool.and_false, Bool.or_self, Bool.true_and, Bool.true_or, Bool.and_true, Bool.or_true, Bool.and_self]; done) | fail) only [hP_some, hP_let, hP_gd, hP_B, hP_if, reduceIte, q_lit, nI_add, pk_mul, q_lt, q_le, q_eq, q_cl, q_g, Bool.not_eq_true', decide_eq_false_iff_not, decide_eq_true_eq, q_div, q_rm, q_sub, q_m1, Nat.zero_add, Nat.add_zero, Nat.reduceEqDiff]
        exact ⟨trivial, fr_refl⟩
      · unfold f237_80
        simp only [hP_let, hP_B]
        refine m_within (lo := 0) (hi := 18) (by decide) (by decide) (fun a' _ _ e => ?_) (fun hn => absurd rfl (hn 15 (by decide) (by decide)))
        refine m_rightY hx.2.2.2 ?_
        simp (disch := first | omega | (simp only [fIn, fR, fC, Nat.reduceEqDiff, decide_false, decide_true, Bool.false_or, Bool.or_false, Bool.false_and, Bool.and_false, Bool.or_self, Bool.true_and, Bool.true_or, Bool.and_true, Bool.or_true, Bool.and_self]; done) | fail) only [hP_some, hP_let, hP_gd, hP_B, hP_if, reduceIte, q_lit, nI_add, pk_mul, q_lt, q_le, q_eq, q_cl, q_g, Bool.not_eq_true', decide_eq_false_iff_not, decide_eq_true_eq, q_div, q_rm, q_sub, q_m1, Nat.zero_add, Nat.add_zero, Nat.reduceEqDiff]
        exact ⟨by decide, (hs 88 0 (by decide +kernel)).trans m2, fr_nS fr_refl rfl, hx.2.2.2⟩
    · refine ⟨g, r, True, wI w 0 4, hp, fun _ => ?_, fun c => absurd trivial c, fun _ w1 hx hs => ?_, fun c => absurd trivial c⟩
      · unfold f129_0
        rw [hP_xb]
        refine hw _ ?_
        simp (disch := first | omega | (simp only [fIn, fR, fC, Nat.reduceEqDiff, decide_false, decide_true, Bool.false_or, Bool.or_false, Bool.false_and, Bool.and_false, Bool.or_self, Bool.true_and, Bool.true_or, Bool.and_true, Bool.or_true, Bool.and_self]; done) | fail) only [hP_some, hP_let, hP_gd, hP_B, hP_if, reduceIte, q_lit, nI_add, pk_mul, q_lt, q_le, q_eq, q_cl, q_g, Bool.not_eq_true', decide_eq_false_iff_not, decide_eq_true_eq, q_div, q_rm, q_sub, q_m1, Nat.zero_add, Nat.add_zero, Nat.reduceEqDiff]
        exact ⟨trivial, fr_refl⟩
      · unfold f237_80
        simp only [hP_let, hP_B]
        refine m_within (lo := 0) (hi := 18) (by decide) (by decide) (fun a' _ _ e => ?_) (fun hn => absurd rfl (hn 16 (by decide) (by decide)))
        refine m_rightY hx.2.2.2 ?_
        simp (disch := first | omega | (simp only [fIn, fR, fC, Nat.reduceEqDiff, decide_false, decide_true, Bool.false_or, Bool.or_false, Bool.false_and, Bool.and_false, Bool.or_self, Bool.true_and, Bool.true_or, Bool.and_true, Bool.or_true, Bool.and_self]; done) | fail) only [hP_some, hP_let, hP_gd, hP_B, hP_if, reduceIte, q_lit, nI_add, pk_mul, q_lt, q_le, q_eq, q_cl, q_g, Bool.not_eq_true', decide_eq_false_iff_not, decide_eq_true_eq, q_div, q_rm, q_sub, q_m1, Nat.zero_add, Nat.add_zero, Nat.reduceEqDiff]
        exact ⟨by decide, (hs 88 1 (by decide +kernel)).trans m3, fr_nS fr_refl rfl, hx.2.2.2⟩
    · refine ⟨g, r, True, wI w 0 5, hp, fun _ => ?_, fun c => absurd trivial c, fun _ w1 hx hs => ?_, fun c => absurd trivial c⟩
      · unfold f129_0
        rw [hP_xb]
        refine hw _ ?_
        simp (disch := first | omega | (simp only [fIn, fR, fC, Nat.reduceEqDiff, decide_false, decide_true, Bool.false_or, Bool.or_false, Bool.false_and, Bool.and_false, Bool.or_self, Bool.true_and, Bool.true_or, Bool.and_true, Bool.or_true, Bool.and_self]; done) | fail) only [hP_some, hP_let, hP_gd, hP_B, hP_if, reduceIte, q_lit, nI_add, pk_mul, q_lt, q_le, q_eq, q_cl, q_g, Bool.not_eq_true', decide_eq_false_iff_not, decide_eq_true_eq, q_div, q_rm, q_sub, q_m1, Nat.zero_add, Nat.add_zero, Nat.reduceEqDiff]
        exact ⟨trivial, fr_refl⟩
      · unfold f237_80
        simp only [hP_let, hP_B]
        refine m_within (lo := 0) (hi := 18) (by decide) (by decide) (fun a' _ _ e => ?_) (fun hn => absurd rfl (hn 17 (by decide) (by decide)))
        refine m_rightY hx.2.2.2 ?_
        simp (disch := first | omega | (simp only [fIn, fR, fC, Nat.reduceEqDiff, decide_false, decide_true, Bool.false_or, Bool.or_false, Bool.false_and, Bool.and_false, Bool.or_self, Bool.true_and, Bool.true_or, Bool.and_true, Bool.or_true, Bool.and_self]; done) | fail) only [hP_some, hP_let, hP_gd, hP_B, hP_if, reduceIte, q_lit, nI_add, pk_mul, q_lt, q_le, q_eq, q_cl, q_g, Bool.not_eq_true', decide_eq_false_iff_not, decide_eq_true_eq, q_div, q_rm, q_sub, q_m1, Nat.zero_add, Nat.add_zero, Nat.reduceEqDiff]
        exact ⟨by decide, (hs 88 2 (by decide +kernel)).trans m4, fr_nS fr_refl rfl, hx.2.2.2⟩
    · refine ⟨g, r, True, nI (lkC g (gW g * gH g)), hp, fun _ => ?_, fun c => absurd trivial c, fun _ w1 hx hs => ?_, fun c => absurd trivial c⟩
      · unfold f129_0
        rw [hP_xb]
        refine hw _ ?_
        simp (disch := first | omega | (simp only [fIn, fR, fC, Nat.reduceEqDiff, decide_false, decide_true, Bool.false_or, Bool.or_false, Bool.false_and, Bool.and_false, Bool.or_self, Bool.true_and, Bool.true_or, Bool.and_true, Bool.or_true, Bool.and_self]; done) | fail) only [hP_some, hP_let, hP_gd, hP_B, hP_if, reduceIte, q_lit, nI_add, pk_mul, q_lt, q_le, q_eq, q_cl, q_g, Bool.not_eq_true', decide_eq_false_iff_not, decide_eq_true_eq, q_div, q_rm, q_sub, q_m1, Nat.zero_add, Nat.add_zero, Nat.reduceEqDiff]
        exact ⟨by decide, c_looked hC ho ⟨rfl, fr_refl⟩⟩
      · unfold f237_80
        simp only [hP_let, hP_B]
        refine m_within (lo := 0) (hi := 18) (by decide) (by decide) (fun a' _ _ e => ?_) (fun hn => absurd rfl (hn 18 (by decide) (by decide)))
        refine m_rightY hx.2.2.2 ?_
        simp (disch := first | omega | (simp only [fIn, fR, fC, Nat.reduceEqDiff, decide_false, decide_true, Bool.false_or, Bool.or_false, Bool.false_and, Bool.and_false, Bool.or_self, Bool.true_and, Bool.true_or, Bool.and_true, Bool.or_true, Bool.and_self]; done) | fail) only [hP_some, hP_let, hP_gd, hP_B, hP_if, reduceIte, q_lit, nI_add, pk_mul, q_lt, q_le, q_eq, q_cl, q_g, Bool.not_eq_true', decide_eq_false_iff_not, decide_eq_true_eq, q_div, q_rm, q_sub, q_m1, Nat.zero_add, Nat.add_zero, Nat.reduceEqDiff]
        exact m_looked hx.1 ho ⟨rfl, fr_nS fr_refl rfl, hx.2.2.2⟩
  · refine ⟨g, r, False, 0, hp, fun c => c.elim, fun _ => ?_, fun c => c.elim, fun _ w1 hx hs => ?_⟩
    · unfold f129_0
      rw [hP_xb]
      exact (gdC_what (x := x1) (w := w) (most := 18) (by decide)).2 c _ ⟨rfl, rfl⟩
    · unfold f237_80
      simp only [hP_let, hP_B]
      refine m_within (lo := 0) (hi := 18) (by decide) (by decide) (fun a' _ h2 e => absurd ⟨a', by omega, e⟩ c) (fun hn => ?_)
      refine m_rightN (by decide) (by decide) hx.2.2.2 ?_
      rw [if_pos (show nI 0 = 0 from rfl), hP_some]
      exact ⟨fr_nS (fr_nS fr_refl rfl) rfl, rd_nS⟩
