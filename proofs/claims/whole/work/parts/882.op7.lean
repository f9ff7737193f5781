/-! ===== OPERATIONS: fault, row, jump; guards with all that holds ===== -/
def aSame (w w1 : mW) : Prop := ∀ a j, fIn pQ a j = false → wI w1 a j = wI w a j
def bodyX (g : gS) (r : gR) (w : mW) (body : mW → Option ((Int32 ⊕ Nat) × mW)) (body' : mW → Option (Int32 × mW)) : Prop := ∃ V : Int32, hP (body w) (fun v w1 => v = .inl V ∧ fr pQ w w1) ∧ ∀ w1, aCx g r w1 → aSame w w1 → hP (body' w1) (fun b w2 => b = V ∧ fr pQ w1 w2 ∧ wI w2 80 0 = nI 0)
theorem aSame_0 {w w1 : mW} (h : fq pQ w w1) : aSame w (nS w1 80 0 (nI 0)) := by
  intro a j hp
  have h2 : wI (nS w1 80 0 (nI 0)) a j = wI w1 a j := (fr_nS (p := pQ) (w := w1) (a := 80) (j := 0) (v := nI 0) fr_refl rfl).1 a j hp
  rw [h2]
  exact h.1 a j hp
/-- one guard, exception e -/
theorem opB_gx {f : mW → Option ((Int32 ⊕ Nat) × mW)} {F m : mW → Option (Int32 × mW)} {ex : Nat}
    (hF : ∀ w, F w = nXh (f w) (fun v w2 => nLet (nSJ w2 116 0 v.toInt64) fun w3 => some (0, w3)) (fun x w6 => if x = ex then (fun w4 => some (1, w4)) w6 else none))
    (h : ∀ w, Inv w → ∃ (g : gS) (r : gR) (P : Prop) (V : Int32), iPool g r w ∧ (P → hP (f w) (fun v w1 => v = .inl V ∧ fr pQ w w1)) ∧ (¬ P → hP (f w) (fun v w1 => v = .inr ex ∧ w1 = nThr w)) ∧ (P → ∀ w1, aCx g r (nS w1 80 0 (nI 0)) → aSame w (nS w1 80 0 (nI 0)) → hP (m w1) (fun b w2 => b = V ∧ fr pQ w1 w2 ∧ wI w2 80 0 = nI 0)) ∧ (¬ P → ∀ w1, aCx g r (nS w1 80 0 (nI 0)) → aSame w (nS w1 80 0 (nI 0)) → hP (m w1) (fun _ w2 => fr pQ w1 w2 ∧ wI w2 80 0 = nI 1))) : opB Inv F m := by
  refine opB_ask (f := f) (ex := ex) hF (fun w g0 r0 hp0 hI => ?_)
  obtain ⟨g, r, P, V, hp, h1, h2, h3, h4⟩ := h w hI
  obtain ⟨hM, hMr, hC, hCr, ho, hk, hl1, hcm, -⟩ := hp
  have F1 : ∀ w1, fr pQ w1 (nS w1 80 0 (nI 0)) := fun w1 => fr_nS fr_refl rfl
  have cx : ∀ w1, fq pQ w w1 → aCx g r (nS w1 80 0 (nI 0)) := fun w1 hq1 => ⟨rM_fr pQ_rM (F1 w1) (fq_rM hq1 hM), rMr_fr pQ_rM (F1 w1) (fq_rMr hq1 hMr), (rd_nSj (by decide)).trans ((hq1.1 80 66 (by decide +kernel)).trans hcm), rd_nS⟩
  by_cases c : P
  · refine ⟨.inl V, fun e he => (by cases he), ?_, fun w1 hq1 => ?_⟩
    · exact hP_mono (h1 c) (fun v w2 hv => ⟨hv.1, fq_fr hv.2 pQ_le⟩)
    · exact hP_mono (h3 c w1 (cx w1 hq1) (aSame_0 hq1)) (fun b w2 hv => ⟨hv.2.1, hv.2.2, hv.1⟩)
  · refine ⟨.inr 1, fun e he => (by cases he; rfl), ?_, fun w1 hq1 => ?_⟩
    · exact hP_mono (h2 c) (fun v w2 hv => ⟨hv.1, by rw [hv.2]; exact fq_thr fr_refl pQ_le⟩)
    · exact hP_mono (h4 c w1 (cx w1 hq1) (aSame_0 hq1)) (fun b w2 hv => ⟨hv.1, hv.2⟩)
theorem op_fault : opA Inv f128_0 f214_80 := by
  refine opA_ask (fun w g r hp hI => ?_)
  obtain ⟨-, -, -, -, -, -, -, -, -, -, -, hms, -⟩ := hI
  refine ⟨wI w 0 2, ?_, fun w1 hf1 => ?_⟩
  · unfold f128_0
    rw [hP_some]
    exact ⟨rfl, fr_refl⟩
  · unfold f214_80
    rw [hP_let, hP_some]
    refine ⟨fr_nS fr_refl rfl, ?_⟩
    rw [rd_nSj (by decide), fr_rd hf1 (by decide +kernel)]
    exact hms.1
theorem op_row (x1 : Int32) : opB Inv (f311_0_116 x1) (f260_80 x1) := by
  refine opB_gx (f := f143_0 x1) (ex := 1) (fun w => rfl) (fun w hI => ?_)
  obtain ⟨g, r, h, D, H, hp, -, -, -, -, -, -, hrow⟩ := hI
  rcases hrow with ⟨e1, e2⟩ | ⟨k, hk, e1, e2, e3⟩
  · refine ⟨g, r, False, 0, hp, fun c => c.elim, fun _ => ?_, fun c => c.elim, fun _ w1 hx hs => ?_⟩
    · unfold f143_0
      simp only [hP_if, hP_some, e2, q_lit]
      by_cases c1 : x1 < nI 0
      · rw [if_pos c1]; exact ⟨trivial, trivial⟩
      · rw [if_neg c1, if_neg c1]; exact ⟨trivial, trivial⟩
    · have h71 : wI (nS w1 80 0 (nI 0)) 80 71 = -nI 1 := (hs 80 71 (by decide +kernel)).trans e1
      unfold f260_80
      rw [hP_let]
      show hP (if wI (nS w1 80 0 (nI 0)) 80 71 = -nI 1 then _ else _) _
      rw [if_pos h71, hP_B]
      refine m_rightN (by decide) (by decide) hx.2.2.2 ?_
      rw [if_pos (show nI 0 = 0 from rfl), hP_some]
      exact ⟨fr_nS (fr_nS fr_refl rfl) rfl, rd_nS⟩
  · by_cases c : inR x1 k
    · obtain ⟨a, ha, rfl⟩ := c
      refine ⟨g, r, True, wI w 79 a, hp, fun _ => ?_, fun c => absurd trivial c, fun _ w1 hx hs => ?_, fun c => absurd trivial c⟩
      · unfold f143_0
        simp (disch := first | omega | (simp only [fIn, fR, fC, Nat.reduceEqDiff, decide_false, decide_true, Bool.false_or, Bool.or_false, Bool.false_and, Bool.and_false, Bool.or_self, Bool.true_and, Bool.true_or, Bool.and_true, Bool.or_true, Bool.and_self]; done) | fail) only [hP_some, hP_let, hP_gd, hP_B, hP_if, reduceIte, q_lit, nI_add, pk_mul, q_lt, q_le, q_eq, q_cl, q_g, Bool.not_eq_true', decide_eq_false_iff_not, decide_eq_true_eq, q_div, q_rm, q_sub, q_m1, Nat.zero_add, Nat.add_zero, e2, Nat.not_lt_zero, ha]
        exact ⟨by omega, trivial, fr_refl⟩
      · have h71 : wI (nS w1 80 0 (nI 0)) 80 71 = nI k := (hs 80 71 (by decide +kernel)).trans e1
        have h108 : wI (nS w1 80 0 (nI 0)) 108 a = wI w 79 a := (hs 108 a (by simp [fIn, fR, fC])).trans (e3 a ha)
        unfold f260_80
        simp (disch := first | omega | (simp only [fIn, fR, fC, Nat.reduceEqDiff, decide_false, decide_true, Bool.false_or, Bool.or_false, Bool.false_and, Bool.and_false, Bool.or_self, Bool.true_and, Bool.true_or, Bool.and_true, Bool.or_true, Bool.and_self]; done) | fail) only [hP_let, hP_if, q_lit, nI_add, pk_mul, q_lt, q_le, q_eq, q_cl, q_g, Bool.not_eq_true', decide_eq_false_iff_not, decide_eq_true_eq, q_div, q_rm, q_sub, q_m1, Nat.zero_add, Nat.add_zero, h71, q_neq, reduceIte, Nat.not_lt_zero, ha, hP_B]
        refine m_rightY hx.2.2.2 ?_
        simp (disch := first | omega | (simp only [fIn, fR, fC, Nat.reduceEqDiff, decide_false, decide_true, Bool.false_or, Bool.or_false, Bool.false_and, Bool.and_false, Bool.or_self, Bool.true_and, Bool.true_or, Bool.and_true, Bool.or_true, Bool.and_self]; done) | fail) only [hP_some, hP_let, hP_gd, hP_B, hP_if, reduceIte, q_lit, nI_add, pk_mul, q_lt, q_le, q_eq, q_cl, q_g, Bool.not_eq_true', decide_eq_false_iff_not, decide_eq_true_eq, q_div, q_rm, q_sub, q_m1, Nat.zero_add, Nat.add_zero, Nat.reduceEqDiff, h108]
        exact ⟨by omega, trivial, fr_nS fr_refl rfl, hx.2.2.2⟩
    · refine ⟨g, r, False, 0, hp, fun c => c.elim, fun _ => ?_, fun c => c.elim, fun _ w1 hx hs => ?_⟩
      · unfold f143_0
        simp only [hP_if, hP_some, e2, q_lit]
        rcases inR_no (by omega) c with c1 | ⟨c1, c2, -⟩
        · rw [if_pos c1]; exact ⟨trivial, trivial⟩
        · rw [if_neg c1, if_neg c2]; exact ⟨trivial, trivial⟩
      · have h71 : wI (nS w1 80 0 (nI 0)) 80 71 = nI k := (hs 80 71 (by decide +kernel)).trans e1
        unfold f260_80
        simp (disch := first | omega | (simp only [fIn, fR, fC, Nat.reduceEqDiff, decide_false, decide_true, Bool.false_or, Bool.or_false, Bool.false_and, Bool.and_false, Bool.or_self, Bool.true_and, Bool.true_or, Bool.and_true, Bool.or_true, Bool.and_self]; done) | fail) only [hP_let, hP_if, q_lit, nI_add, pk_mul, q_lt, q_le, q_eq, q_cl, q_g, Bool.not_eq_true', decide_eq_false_iff_not, decide_eq_true_eq, q_div, q_rm, q_sub, q_m1, Nat.zero_add, Nat.add_zero, h71, q_neq, reduceIte, hP_B]
        rcases inR_no (by omega) c with c1 | ⟨c1, c2, -⟩
        · rw [if_pos c1]
          refine m_rightN (by decide) (by decide) hx.2.2.2 ?_
          rw [if_pos (show nI 0 = nI 0 from rfl), hP_some]
          exact ⟨fr_nS (fr_nS fr_refl rfl) rfl, rd_nS⟩
        · rw [if_neg c1, if_neg c2]
          refine m_rightN (by decide) (by decide) hx.2.2.2 ?_
          rw [if_pos (show nI 0 = nI 0 from rfl), hP_some]
          exact ⟨fr_nS (fr_nS fr_refl rfl) rfl, rd_nS⟩
def in999 (x : Int32) : Prop := ∃ a, 1 ≤ a ∧ a ≤ 999 ∧ x = nI a
theorem c_want999 {x : Int32} {w : mW} {Q : Unit ⊕ Nat → mW → Prop} (h1 : ∀ a, 1 ≤ a → a ≤ 999 → x = nI a → Q (.inl ()) w) (h0 : ¬ in999 x → Q (.inr 0) (nThr w)) : hP (f169_0 x w) Q := by
  unfold f169_0
  simp only [hP_if, hP_some, q_lit]
  by_cases c : in999 x
  · obtain ⟨a, a1, a2, rfl⟩ := c
    rw [if_neg (by rw [q_lt (by omega) (by omega)]; omega), if_neg (by rw [q_lt (by omega) (by omega)]; omega)]
    exact h1 a a1 a2 rfl
  · have hz := h0 c
    by_cases c1 : x < nI 1
    · rw [if_pos c1]; exact hz
    · rw [if_neg c1]
      rcases q_any x with h | ⟨a, ha, rfl⟩
      · exfalso
        apply c1
        rw [Int32.lt_iff_toInt_lt] at h ⊢
        rw [nI_toInt (by omega)]
        have : (0 : Int32).toInt = 0 := by decide
        omega
      · rw [q_lt ha (by omega)] at c1
        rw [if_pos (by
          rw [q_lt (by omega) ha]
          apply Classical.byContradiction
          intro c2
          exact c ⟨a, by omega, by omega, rfl⟩)]
        exact hz
theorem op_jump (x1 x2 : Int32) : opB Inv (f317_0_116 x1 x2) (f273_80 x1 x2) := by
  refine opB_gx (f := f152_0 x1 x2) (ex := 0) (fun w => rfl) (fun w hI => ?_)
  obtain ⟨g, r, h, D, H, hp, -⟩ := hI
  by_cases c1 : in999 x1
  · obtain ⟨a, a1, a2, rfl⟩ := c1
    by_cases c2 : in999 x2
    · obtain ⟨b, b1, b2, rfl⟩ := c2
      obtain ⟨v, hv, hlow, hup⟩ := first_ex (fun t => ¬ t * b < (10 - t) * a) 10
      have low : ∀ t, t < v → t * b < (10 - t) * a := fun t ht => Classical.not_not.mp (hlow t ht)
      have up : ¬ v * b < (10 - v) * a := by
        by_cases e : v < 10
        · exact hup e
        · have : v = 10 := by omega
          subst this
          omega
      have bd : ∀ t, t ≤ 10 → t * b ≤ 9990 ∧ (10 - t) * a ≤ 9990 := fun t ht => ⟨Nat.le_trans (Nat.mul_le_mul ht b2) (by decide), Nat.le_trans (Nat.mul_le_mul (show 10 - t ≤ 10 by omega) a2) (by decide)⟩
      refine ⟨g, r, True, nI v, hp, fun _ => ?_, fun c => absurd trivial c, fun _ w1 hx hs => ?_, fun c => absurd trivial c⟩
      · unfold f152_0
        simp only [hP_xb]
        refine c_want999 (fun _ _ _ _ => ?_) (fun h => absurd ⟨a, a1, a2, rfl⟩ h)
        dsimp only
        refine c_want999 (fun _ _ _ _ => ?_) (fun h => absurd ⟨b, b1, b2, rfl⟩ h)
        dsimp only
        refine hP_loopF (fun n s => ∃ t, t + n = 10 ∧ t ≤ v ∧ s = (nI t, w)) 10 (by omega) ⟨0, by omega, by omega, rfl⟩ ?_
        rintro n s rec ⟨t, htn, htv, rfl⟩ ih
        obtain ⟨bd1, bd2⟩ := bd t (by omega)
        simp only [f152_0_b12]
        by_cases c3 : t < 10
        · simp (disch := first | omega | (simp only [fIn, fR, fC, Nat.reduceEqDiff, decide_false, decide_true, Bool.false_or, Bool.or_false, Bool.false_and, Bool.and_false, Bool.or_self, Bool.true_and, Bool.true_or, Bool.and_true, Bool.or_true, Bool.and_self]; done) | fail) only [hP_some, hP_let, hP_gd, hP_B, hP_if, reduceIte, q_lit, nI_add, pk_mul, q_lt, q_le, q_eq, q_cl, q_g, Bool.not_eq_true', decide_eq_false_iff_not, decide_eq_true_eq, q_div, q_rm, q_sub, q_m1, Nat.zero_add, Nat.add_zero, c3]
          by_cases c4 : t * b < (10 - t) * a
          · rw [if_pos c4]
            have : ¬ t = v := fun e => up (by rw [← e]; exact c4)
            exact ih (n - 1) _ (by omega) ⟨t + 1, by omega, by omega, rfl⟩
          · rw [if_neg c4]
            have : t = v := by
              apply Classical.byContradiction
              intro e
              exact c4 (low t (by omega))
            rw [this]
            exact ⟨rfl, fr_refl⟩
        · have e10 : v = 10 := by omega
          simp (disch := first | omega | (simp only [fIn, fR, fC, Nat.reduceEqDiff, decide_false, decide_true, Bool.false_or, Bool.or_false, Bool.false_and, Bool.and_false, Bool.or_self, Bool.true_and, Bool.true_or, Bool.and_true, Bool.or_true, Bool.and_self]; done) | fail) only [hP_some, hP_let, hP_gd, hP_B, hP_if, reduceIte, q_lit, nI_add, pk_mul, q_lt, q_le, q_eq, q_cl, q_g, Bool.not_eq_true', decide_eq_false_iff_not, decide_eq_true_eq, q_div, q_rm, q_sub, q_m1, Nat.zero_add, Nat.add_zero, c3]
          rw [e10]
          exact ⟨rfl, fr_refl⟩
      · unfold f273_80
        simp only [hP_let, hP_B, q_lit]
        refine m_within (by decide) (by decide) (fun _ _ _ _ => ?_) (fun h => absurd rfl (h a a1 a2))
        simp (disch := first | omega | (simp only [fIn, fR, fC, Nat.reduceEqDiff, decide_false, decide_true, Bool.false_or, Bool.or_false, Bool.false_and, Bool.and_false, Bool.or_self, Bool.true_and, Bool.true_or, Bool.and_true, Bool.or_true, Bool.and_self]; done) | fail) only [hP_some, hP_let, hP_gd, hP_B, hP_if, reduceIte, q_lit, nI_add, pk_mul, q_lt, q_le, q_eq, q_cl, q_g, Bool.not_eq_true', decide_eq_false_iff_not, decide_eq_true_eq, q_div, q_rm, q_sub, q_m1, Nat.zero_add, Nat.add_zero, Nat.reduceEqDiff]
        refine m_within (by decide) (by decide) (fun _ _ _ _ => ?_) (fun h => absurd rfl (h b b1 b2))
        simp (disch := first | omega | (simp only [fIn, fR, fC, Nat.reduceEqDiff, decide_false, decide_true, Bool.false_or, Bool.or_false, Bool.false_and, Bool.and_false, Bool.or_self, Bool.true_and, Bool.true_or, Bool.and_true, Bool.or_true, Bool.and_self]; done) | fail) only [hP_some, hP_let, hP_gd, hP_B, hP_if, reduceIte, q_lit, nI_add, pk_mul, q_lt, q_le, q_eq, q_cl, q_g, Bool.not_eq_true', decide_eq_false_iff_not, decide_eq_true_eq, q_div, q_rm, q_sub, q_m1, Nat.zero_add, Nat.add_zero, Nat.reduceEqDiff]
        refine m_rightY hx.2.2.2 ?_
        simp (disch := first | omega | (simp only [fIn, fR, fC, Nat.reduceEqDiff, decide_false, decide_true, Bool.false_or, Bool.or_false, Bool.false_and, Bool.and_false, Bool.or_self, Bool.true_and, Bool.true_or, Bool.and_true, Bool.or_true, Bool.and_self]; done) | fail) only [hP_some, hP_let, hP_gd, hP_B, hP_if, reduceIte, q_lit, nI_add, pk_mul, q_lt, q_le, q_eq, q_cl, q_g, Bool.not_eq_true', decide_eq_false_iff_not, decide_eq_true_eq, q_div, q_rm, q_sub, q_m1, Nat.zero_add, Nat.add_zero, Nat.reduceEqDiff]
        refine hP_loopF (fun n s => ∃ t, t + n = 10 ∧ t ≤ v ∧ s = (nI t, nS w1 80 0 (nI 0))) 10 (by omega) ⟨0, by omega, by omega, rfl⟩ ?_
        rintro n s rec ⟨t, htn, htv, rfl⟩ ih
        obtain ⟨bd1, bd2⟩ := bd t (by omega)
        simp only [f273_80_b44]
        simp (disch := first | omega | (simp only [fIn, fR, fC, Nat.reduceEqDiff, decide_false, decide_true, Bool.false_or, Bool.or_false, Bool.false_and, Bool.and_false, Bool.or_self, Bool.true_and, Bool.true_or, Bool.and_true, Bool.or_true, Bool.and_self]; done) | fail) only [hP_some, hP_let, hP_gd, hP_B, hP_if, reduceIte, q_lit, nI_add, pk_mul, q_lt, q_le, q_eq, q_cl, q_g, Bool.not_eq_true', decide_eq_false_iff_not, decide_eq_true_eq, q_div, q_rm, q_sub, q_m1, Nat.zero_add, Nat.add_zero]
        by_cases c4 : t * b < (10 - t) * a
        · rw [if_pos c4]
          have : ¬ t = v := fun e => up (by rw [← e]; exact c4)
          exact ih (n - 1) _ (by omega) ⟨t + 1, by omega, by omega, rfl⟩
        · rw [if_neg c4]
          have : t = v := by
            apply Classical.byContradiction
            intro e
            exact c4 (low t (by omega))
          rw [this]
          exact ⟨rfl, fr_nS fr_refl rfl, hx.2.2.2⟩
    · refine ⟨g, r, False, 0, hp, fun c => c.elim, fun _ => ?_, fun c => c.elim, fun _ w1 hx hs => ?_⟩
      · unfold f152_0
        simp only [hP_xb]
        refine c_want999 (fun _ _ _ _ => ?_) (fun h => absurd ⟨a, a1, a2, rfl⟩ h)
        dsimp only
        exact c_want999 (fun b b1 b2 e => absurd ⟨b, b1, b2, e⟩ c2) (fun h => ⟨rfl, rfl⟩)
      · unfold f273_80
        simp only [hP_let, hP_B, q_lit]
        refine m_within (by decide) (by decide) (fun _ _ _ _ => ?_) (fun h => absurd rfl (h a a1 a2))
        simp (disch := first | omega | (simp only [fIn, fR, fC, Nat.reduceEqDiff, decide_false, decide_true, Bool.false_or, Bool.or_false, Bool.false_and, Bool.and_false, Bool.or_self, Bool.true_and, Bool.true_or, Bool.and_true, Bool.or_true, Bool.and_self]; done) | fail) only [hP_some, hP_let, hP_gd, hP_B, hP_if, reduceIte, q_lit, nI_add, pk_mul, q_lt, q_le, q_eq, q_cl, q_g, Bool.not_eq_true', decide_eq_false_iff_not, decide_eq_true_eq, q_div, q_rm, q_sub, q_m1, Nat.zero_add, Nat.add_zero, Nat.reduceEqDiff]
        refine m_within (by decide) (by decide) (fun b b1 b2 e => absurd ⟨b, b1, b2, e⟩ c2) (fun h => ?_)
        simp (disch := first | omega | (simp only [fIn, fR, fC, Nat.reduceEqDiff, decide_false, decide_true, Bool.false_or, Bool.or_false, Bool.false_and, Bool.and_false, Bool.or_self, Bool.true_and, Bool.true_or, Bool.and_true, Bool.or_true, Bool.and_self]; done) | fail) only [hP_some, hP_let, hP_gd, hP_B, hP_if, reduceIte, q_lit, nI_add, pk_mul, q_lt, q_le, q_eq, q_cl, q_g, Bool.not_eq_true', decide_eq_false_iff_not, decide_eq_true_eq, q_div, q_rm, q_sub, q_m1, Nat.zero_add, Nat.add_zero]
        refine m_rightN (by decide) (by decide) hx.2.2.2 ?_
        simp (disch := first | omega | (simp only [fIn, fR, fC, Nat.reduceEqDiff, decide_false, decide_true, Bool.false_or, Bool.or_false, Bool.false_and, Bool.and_false, Bool.or_self, Bool.true_and, Bool.true_or, Bool.and_true, Bool.or_true, Bool.and_self]; done) | fail) only [hP_some, hP_let, hP_gd, hP_B, hP_if, reduceIte, q_lit, nI_add, pk_mul, q_lt, q_le, q_eq, q_cl, q_g, Bool.not_eq_true', decide_eq_false_iff_not, decide_eq_true_eq, q_div, q_rm, q_sub, q_m1, Nat.zero_add, Nat.add_zero]
        exact ⟨fr_nS (fr_nS fr_refl rfl) rfl, rd_nS⟩
  · refine ⟨g, r, False, 0, hp, fun c => c.elim, fun _ => ?_, fun c => c.elim, fun _ w1 hx hs => ?_⟩
    · unfold f152_0
      simp only [hP_xb]
      exact c_want999 (fun b b1 b2 e => absurd ⟨b, b1, b2, e⟩ c1) (fun h => ⟨rfl, rfl⟩)
    · unfold f273_80
      simp only [hP_let, hP_B, q_lit]
      refine m_within (by decide) (by decide) (fun b b1 b2 e => absurd ⟨b, b1, b2, e⟩ c1) (fun h => ?_)
      simp (disch := first | omega | (simp only [fIn, fR, fC, Nat.reduceEqDiff, decide_false, decide_true, Bool.false_or, Bool.or_false, Bool.false_and, Bool.and_false, Bool.or_self, Bool.true_and, Bool.true_or, Bool.and_true, Bool.or_true, Bool.and_self]; done) | fail) only [hP_some, hP_let, hP_gd, hP_B, hP_if, reduceIte, q_lit, nI_add, pk_mul, q_lt, q_le, q_eq, q_cl, q_g, Bool.not_eq_true', decide_eq_false_iff_not, decide_eq_true_eq, q_div, q_rm, q_sub, q_m1, Nat.zero_add, Nat.add_zero]
      refine m_rightN (by decide) (by decide) hx.2.2.2 ?_
      simp (disch := first | omega | (simp only [fIn, fR, fC, Nat.reduceEqDiff, decide_false, decide_true, Bool.false_or, Bool.or_false, Bool.false_and, Bool.and_false, Bool.or_self, Bool.true_and, Bool.true_or, Bool.and_true, Bool.or_true, Bool.and_self]; done) | fail) only [hP_some, hP_let, hP_gd, hP_B, hP_if, reduceIte, q_lit, nI_add, pk_mul, q_lt, q_le, q_eq, q_cl, q_g, Bool.not_eq_true', decide_eq_false_iff_not, decide_eq_true_eq, q_div, q_rm, q_sub, q_m1, Nat.zero_add, Nat.add_zero]
      exact ⟨fr_nS (fr_nS fr_refl rfl) rfl, rd_nS⟩
