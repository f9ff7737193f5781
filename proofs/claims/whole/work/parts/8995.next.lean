/-! ===== ORDERS: the next one, by class and reference ===== -/
theorem m_rev {f : Nat} {w : mW} {Q : Int32 → mW → Prop} : ∀ (l : List Nat) (a b : Nat) (w0 : mW), fr ([109], []) w w0 → rL 109 w0 l → l.length ≤ 12 → b < l.length → a ≤ 12 → b ≤ a + f → f ≤ 12 → (∀ w', fr ([109], []) w w' → rL 109 w' (rvL f l a b) → Q (nI 1) w') → hP (mLoop f256_80_b88 nF (nI a, nI b, w0)) Q := by
  intro l a b w0 hf hr hl hb ha hfb hf12 hq
  refine hP_loopF (fun n s => ∃ l a b w1, n ≤ 12 ∧ s = (nI a, nI b, w1) ∧ fr ([109], []) w w1 ∧ rL 109 w1 l ∧ l.length ≤ 12 ∧ b < l.length ∧ a ≤ 24 ∧ b ≤ a + n ∧ (∀ w', fr ([109], []) w w' → rL 109 w' (rvL n l a b) → Q (nI 1) w')) f (by omega) ⟨l, a, b, w0, hf12, rfl, hf, hr, hl, hb, by omega, hfb, hq⟩ ?_
  rintro n s rec ⟨l, a, b, w1, hn, rfl, hf, hr, hl, hb, ha, hfb, hq⟩ ih
  simp only [f256_80_b88]
  by_cases c : a < b
  · simp (disch := first | omega | (simp only [fIn, fR, fC, Nat.reduceEqDiff, decide_false, decide_true, Bool.false_or, Bool.or_false, Bool.false_and, Bool.and_false, Bool.or_self, Bool.true_and, Bool.true_or, Bool.and_true, Bool.or_true, Bool.and_self]; done) | fail) only [hP_some, hP_let, hP_gd, hP_B, hP_if, reduceIte, q_lit, nI_add, pk_mul, q_lt, q_le, q_eq, q_cl, q_g, Bool.not_eq_true', decide_eq_false_iff_not, decide_eq_true_eq, q_div, q_rm, q_sub, q_m1, Nat.zero_add, Nat.add_zero, c]
    refine m_swapT hr hl (by omega) hb (fun w2 hf2 hr2 => ?_)
    cases n with
    | zero => omega
    | succ n =>
      have hq2 : ∀ w', fr ([109], []) w w' → rL 109 w' (rvL n (swL l a b) (a + 1) (b - 1)) → Q (nI 1) w' := fun w' x y => hq w' x (by unfold rvL; rw [if_pos c]; exact y)
      refine ih n _ (by omega) ⟨swL l a b, a + 1, b - 1, w2, by omega, ?_, fr_then hf hf2 (by decide), hr2, by rw [swL_len]; exact hl, by rw [swL_len]; omega, by omega, by omega, hq2⟩
      rfl
  · simp (disch := first | omega | (simp only [fIn, fR, fC, Nat.reduceEqDiff, decide_false, decide_true, Bool.false_or, Bool.or_false, Bool.false_and, Bool.and_false, Bool.or_self, Bool.true_and, Bool.true_or, Bool.and_true, Bool.or_true, Bool.and_self]; done) | fail) only [hP_some, hP_let, hP_gd, hP_B, hP_if, reduceIte, q_lit, nI_add, pk_mul, q_lt, q_le, q_eq, q_cl, q_g, Bool.not_eq_true', decide_eq_false_iff_not, decide_eq_true_eq, q_div, q_rm, q_sub, q_m1, Nat.zero_add, Nat.add_zero, c]
    refine hq w1 hf ?_
    have : rvL n l a b = l := by
      cases n with
      | zero => rfl
      | succ n => unfold rvL; rw [if_neg c]
    rw [this]
    exact hr
theorem nxL_no {l : List Nat} (h : pv l (l.length - 2) = 0) : nxL l = none := by unfold nxL; rw [if_pos h]
theorem nxL_yes {l : List Nat} {i j : Nat} (h : pv l (l.length - 2) = i) (hi : 1 ≤ i) (h2 : qj l i (l.length - 1) = j) : nxL l = some (rvL 12 (swL l i j) (i + 1) (l.length - 1)) := by
  unfold nxL
  rw [h, if_neg (by omega), h2]
theorem c_next {l : List Nat} {w : mW} {Q : Int32 → mW → Prop} (h : rL 54 w l) (hn : wI w 24 6 = nI l.length) (hl : l.length ≤ 12) (hv : ∀ i, i < l.length → gd l i < 100) (hq0 : nxL l = none → Q (nI 0) w) (hq1 : ∀ l' w', nxL l = some l' → fr ([54], []) w w' → rL 54 w' l' → Q (nI 1) w') : hP (f106_23 w) Q := by
  unfold f106_23
  simp only [hP_let, hn]
  by_cases c0 : l.length < 2
  · have h9 : nxL l = none := nxL_no (by rw [show l.length - 2 = 0 by omega]; rfl)
    have e : nI l.length - 1 - 1 < 1 := by
      have : l.length = 0 ∨ l.length = 1 := by omega
      rcases this with e | e <;> (rw [e]; decide)
    refine hP_loopF (fun n s => s = (nI l.length - 1 - 1, w)) 0 (by decide) rfl ?_
    rintro n s rec rfl ih
    simp only [f106_23_b14]
    rw [if_pos e, if_pos e, hP_some]
    exact hq0 h9
  · have ea : nI l.length - 1 = nI (l.length - 1) := by rw [q_lit, q_sub (by omega)]
    have eb : nI (l.length - 1) - 1 = nI (l.length - 2) := by rw [q_lit, q_sub (by omega), Nat.sub_sub]
    rw [ea, eb]
    refine hP_loopF (fun n s => n + 2 ≤ l.length ∧ s = (nI n, w) ∧ pv l (l.length - 2) = pv l n) (l.length - 2) (by omega) ⟨by omega, rfl, rfl⟩ ?_
    rintro n s rec ⟨hn2, rfl, hpv⟩ ih
    simp only [f106_23_b14]
    cases n with
    | zero =>
      simp (disch := first | omega | (simp only [fIn, fR, fC, Nat.reduceEqDiff, decide_false, decide_true, Bool.false_or, Bool.or_false, Bool.false_and, Bool.and_false, Bool.or_self, Bool.true_and, Bool.true_or, Bool.and_true, Bool.or_true, Bool.and_self]; done) | fail) only [hP_some, hP_let, hP_gd, hP_B, hP_if, reduceIte, q_lit, nI_add, pk_mul, q_lt, q_le, q_eq, q_cl, q_g, Bool.not_eq_true', decide_eq_false_iff_not, decide_eq_true_eq, q_div, q_rm, q_sub, q_m1, Nat.zero_add, Nat.add_zero, Nat.zero_lt_one]
      exact hq0 (nxL_no hpv)
    | succ k =>
      have g1 : wI w 54 (k + 1) = nI (gd l (k + 1)) := h (k + 1) (by omega)
      have g2 : wI w 54 (k + 1 + 1) = nI (gd l (k + 1 + 1)) := h (k + 2) (by omega)
      have v1 := hv (k + 1) (by omega)
      have v2 := hv (k + 1 + 1) (by omega)
      have epv : pv l (k + 1) = if gd l (k + 1 + 1) < gd l (k + 1) then pv l k else k + 1 := rfl
      simp (disch := first | omega | (simp only [fIn, fR, fC, Nat.reduceEqDiff, decide_false, decide_true, Bool.false_or, Bool.or_false, Bool.false_and, Bool.and_false, Bool.or_self, Bool.true_and, Bool.true_or, Bool.and_true, Bool.or_true, Bool.and_self]; done) | fail) only [hP_some, hP_let, hP_gd, hP_B, hP_if, reduceIte, q_lit, nI_add, pk_mul, q_lt, q_le, q_eq, q_cl, q_g, Bool.not_eq_true', decide_eq_false_iff_not, decide_eq_true_eq, q_div, q_rm, q_sub, q_m1, Nat.zero_add, Nat.add_zero, show ¬ k + 1 < 1 by omega, g1, g2]
      refine ⟨by omega, by omega, ?_⟩
      by_cases c1 : gd l (k + 1 + 1) < gd l (k + 1)
      · rw [if_pos c1] at epv ⊢
        exact ih k _ (by omega) ⟨by omega, rfl, hpv.trans epv⟩
      · rw [if_neg c1] at epv ⊢
        have hpi := hpv.trans epv
        generalize hi : k + 1 = i at *
        have hi1 : 1 ≤ i := by omega
        refine hP_loopF (fun m s => i ≤ m ∧ m + 1 ≤ l.length ∧ s = (nI m, w) ∧ qj l i (l.length - 1) = qj l i m) (l.length - 1) (by omega) ⟨by omega, by omega, rfl, rfl⟩ ?_
        rintro m s rec2 ⟨hm1, hm2, rfl, hqj⟩ ih2
        have fin : qj l i m = m → hP (f107_23 (nI i) (nI m) w) (fun _ w2 => hP (mLoop f106_23_b91 nF (nI (i + 1), nI (l.length - 1), w2)) Q) := by
          intro e
          have hnx := nxL_yes hpi hi1 (hqj.trans e)
          refine c_swapT h hl (by omega) (by omega) (fun w2 hf2 hr2 => ?_)
          refine c_rev (f := 12) _ _ _ w2 hf2 hr2 (by rw [swL_len]; exact hl) (by rw [swL_len]; omega) (by omega) (by omega) (by decide) (fun w' hf' hr' => ?_)
          exact hq1 _ w' hnx hf' hr'
        simp only [f106_23_b51]
        by_cases c2 : i < m
        · obtain ⟨j, rfl⟩ : ∃ j, m = j + 1 := ⟨m - 1, by omega⟩
          have g3 : wI w 54 (j + 1) = nI (gd l (j + 1)) := h (j + 1) (by omega)
          have v3 := hv (j + 1) (by omega)
          have eqj : qj l i (j + 1) = if gd l (j + 1) < gd l i then qj l i j else j + 1 := rfl
          simp (disch := first | omega | (simp only [fIn, fR, fC, Nat.reduceEqDiff, decide_false, decide_true, Bool.false_or, Bool.or_false, Bool.false_and, Bool.and_false, Bool.or_self, Bool.true_and, Bool.true_or, Bool.and_true, Bool.or_true, Bool.and_self]; done) | fail) only [hP_some, hP_let, hP_gd, hP_B, hP_if, reduceIte, q_lit, nI_add, pk_mul, q_lt, q_le, q_eq, q_cl, q_g, Bool.not_eq_true', decide_eq_false_iff_not, decide_eq_true_eq, q_div, q_rm, q_sub, q_m1, Nat.zero_add, Nat.add_zero, c2, g1, g3]
          refine ⟨by omega, by omega, ?_⟩
          by_cases c3 : gd l (j + 1) < gd l i
          · rw [if_pos c3] at eqj ⊢
            exact ih2 j _ (by omega) ⟨by omega, by omega, rfl, hqj.trans eqj⟩
          · rw [if_neg c3] at eqj ⊢
            exact fin eqj
        · have e : m = i := by omega
          simp (disch := first | omega | (simp only [fIn, fR, fC, Nat.reduceEqDiff, decide_false, decide_true, Bool.false_or, Bool.or_false, Bool.false_and, Bool.and_false, Bool.or_self, Bool.true_and, Bool.true_or, Bool.and_true, Bool.or_true, Bool.and_self]; done) | fail) only [hP_some, hP_let, hP_gd, hP_B, hP_if, reduceIte, q_lit, nI_add, pk_mul, q_lt, q_le, q_eq, q_cl, q_g, Bool.not_eq_true', decide_eq_false_iff_not, decide_eq_true_eq, q_div, q_rm, q_sub, q_m1, Nat.zero_add, Nat.add_zero, c2]
          exact fin (by rw [e]; exact qj_self l hi1)
theorem m_next {l : List Nat} {w : mW} {Q : Int32 → mW → Prop} (h : rL 109 w l) (hn : wI w 80 4 = nI l.length) (hl : l.length ≤ 12) (hv : ∀ i, i < l.length → gd l i < 100) (hq0 : nxL l = none → Q (nI 0) w) (hq1 : ∀ l' w', nxL l = some l' → fr ([109], []) w w' → rL 109 w' l' → Q (nI 1) w') : hP (f256_80 w) Q := by
  unfold f256_80
  simp only [hP_let, hn]
  by_cases c0 : l.length < 2
  · have h9 : nxL l = none := nxL_no (by rw [show l.length - 2 = 0 by omega]; rfl)
    have e : nI l.length - 2 < 1 := by
      have : l.length = 0 ∨ l.length = 1 := by omega
      rcases this with e | e <;> (rw [e]; decide)
    refine hP_loopF (fun n s => s = (nI l.length - 2, w)) 0 (by decide) rfl ?_
    rintro n s rec rfl ih
    simp only [f256_80_b7]
    rw [if_pos e, if_pos e, hP_some]
    exact hq0 h9
  · have ea : nI l.length - 2 = nI (l.length - 2) := by rw [q_lit, q_sub (by omega)]
    rw [ea]
    refine hP_loopF (fun n s => n + 2 ≤ l.length ∧ s = (nI n, w) ∧ pv l (l.length - 2) = pv l n) (l.length - 2) (by omega) ⟨by omega, rfl, rfl⟩ ?_
    rintro n s rec ⟨hn2, rfl, hpv⟩ ih
    simp only [f256_80_b7]
    cases n with
    | zero =>
      simp (disch := first | omega | (simp only [fIn, fR, fC, Nat.reduceEqDiff, decide_false, decide_true, Bool.false_or, Bool.or_false, Bool.false_and, Bool.and_false, Bool.or_self, Bool.true_and, Bool.true_or, Bool.and_true, Bool.or_true, Bool.and_self]; done) | fail) only [hP_some, hP_let, hP_gd, hP_B, hP_if, reduceIte, q_lit, nI_add, pk_mul, q_lt, q_le, q_eq, q_cl, q_g, Bool.not_eq_true', decide_eq_false_iff_not, decide_eq_true_eq, q_div, q_rm, q_sub, q_m1, Nat.zero_add, Nat.add_zero, Nat.zero_lt_one]
      exact hq0 (nxL_no hpv)
    | succ k =>
      have g1 : wI w 109 (k + 1) = nI (gd l (k + 1)) := h (k + 1) (by omega)
      have g2 : wI w 109 (k + 1 + 1) = nI (gd l (k + 1 + 1)) := h (k + 2) (by omega)
      have v1 := hv (k + 1) (by omega)
      have v2 := hv (k + 1 + 1) (by omega)
      have epv : pv l (k + 1) = if gd l (k + 1 + 1) < gd l (k + 1) then pv l k else k + 1 := rfl
      simp (disch := first | omega | (simp only [fIn, fR, fC, Nat.reduceEqDiff, decide_false, decide_true, Bool.false_or, Bool.or_false, Bool.false_and, Bool.and_false, Bool.or_self, Bool.true_and, Bool.true_or, Bool.and_true, Bool.or_true, Bool.and_self]; done) | fail) only [hP_some, hP_let, hP_gd, hP_B, hP_if, reduceIte, q_lit, nI_add, pk_mul, q_lt, q_le, q_eq, q_cl, q_g, Bool.not_eq_true', decide_eq_false_iff_not, decide_eq_true_eq, q_div, q_rm, q_sub, q_m1, Nat.zero_add, Nat.add_zero, show ¬ k + 1 < 1 by omega, g1, g2, hn]
      refine ⟨by omega, by omega, ?_⟩
      by_cases c1 : gd l (k + 1 + 1) < gd l (k + 1)
      · rw [if_pos c1] at epv ⊢
        exact ih k _ (by omega) ⟨by omega, rfl, hpv.trans epv⟩
      · rw [if_neg c1] at epv ⊢
        have hpi := hpv.trans epv
        generalize hi : k + 1 = i at *
        have hi1 : 1 ≤ i := by omega
        refine hP_loopF (fun m s => i ≤ m ∧ m + 1 ≤ l.length ∧ s = (nI m, w) ∧ qj l i (l.length - 1) = qj l i m) (l.length - 1) (by omega) ⟨by omega, by omega, rfl, rfl⟩ ?_
        rintro m s rec2 ⟨hm1, hm2, rfl, hqj⟩ ih2
        have fin : qj l i m = m → hP (f257_80 (nI i) (nI m) w) (fun _ w2 => hP (mLoop f256_80_b88 nF (nI (i + 1), wI w2 80 4 - nI 1, w2)) Q) := by
          intro e
          have hnx := nxL_yes hpi hi1 (hqj.trans e)
          refine m_swapT h hl (by omega) (by omega) (fun w2 hf2 hr2 => ?_)
          rw [show wI w2 80 4 - nI 1 = nI (l.length - 1) by rw [fr_rd hf2 rfl, hn, q_sub (by omega)]]
          refine m_rev (f := 12) _ _ _ w2 hf2 hr2 (by rw [swL_len]; exact hl) (by rw [swL_len]; omega) (by omega) (by omega) (by decide) (fun w' hf' hr' => ?_)
          exact hq1 _ w' hnx hf' hr'
        simp only [f256_80_b49]
        obtain ⟨j, rfl⟩ : ∃ j, m = j + 1 := ⟨m - 1, by omega⟩
        have g3 : wI w 109 (j + 1) = nI (gd l (j + 1)) := h (j + 1) (by omega)
        have v3 := hv (j + 1) (by omega)
        have eqj : qj l i (j + 1) = if gd l (j + 1) < gd l i then qj l i j else j + 1 := rfl
        simp (disch := first | omega | (simp only [fIn, fR, fC, Nat.reduceEqDiff, decide_false, decide_true, Bool.false_or, Bool.or_false, Bool.false_and, Bool.and_false, Bool.or_self, Bool.true_and, Bool.true_or, Bool.and_true, Bool.or_true, Bool.and_self]; done) | fail) only [hP_some, hP_let, hP_gd, hP_B, hP_if, reduceIte, q_lit, nI_add, pk_mul, q_lt, q_le, q_eq, q_cl, q_g, Bool.not_eq_true', decide_eq_false_iff_not, decide_eq_true_eq, q_div, q_rm, q_sub, q_m1, Nat.zero_add, Nat.add_zero, g1, g3]
        refine ⟨by omega, by omega, ?_⟩
        by_cases c3 : gd l (j + 1) < gd l i
        · have c2 : i < j + 1 := by
            apply Classical.byContradiction
            intro hc
            have : j + 1 = i := by omega
            rw [this] at c3
            exact Nat.lt_irrefl _ c3
          rw [if_pos c3] at eqj ⊢
          exact ih2 j _ (by omega) ⟨by omega, by omega, rfl, hqj.trans eqj⟩
        · rw [if_neg c3] at eqj ⊢
          exact fin eqj
