/-! ===== THE REFERENCE: sums, who, far ===== -/
section M1
variable {g : gS} {w : mW} {Q : Int32 → mW → Prop}
theorem m_roundOf (hr : rM g w) (ho : gOk g) (hq : Q (nI (gRnd g (gLk g))) w) : hP (f219_80 w) Q := by
  have hlk := gOk_lk ho
  unfold f219_80
  refine hP_loopF (fun n s => ∃ k, k + n = gLk g ∧ s = (nI (gRnd g k), nI k, w)) (gLk g) (by omega) ⟨0, by omega, rfl⟩ ?_
  rintro n s rec ⟨k, hk, rfl⟩ ih
  simp only [f219_80_b4]
  have hb := gRnd_le ho k (by omega)
  by_cases h : k < gLk g
  · have h2 := gOk_las ho k h
    simp (disch := first | omega | (simp only [fIn, fR, fC, Nat.reduceEqDiff, decide_false, decide_true, Bool.false_or, Bool.or_false, Bool.false_and, Bool.and_false, Bool.or_self, Bool.true_and, Bool.true_or, Bool.and_true, Bool.or_true, Bool.and_self]; done) | fail) only [hP_some, hP_let, hP_gd, hP_B, hP_if, reduceIte, q_lit, nI_add, pk_mul, q_lt, q_le, q_eq, q_cl, q_g, Bool.not_eq_true', decide_eq_false_iff_not, decide_eq_true_eq, q_div, q_rm, q_sub, q_m1, Nat.zero_add, Nat.add_zero, rM_wd hr, rM_hi hr, rM_sw hr, rM_lk hr, rM_la hr, rM_ti hr, rM_ga hr, rM_ca hr, rM_ch hr, rM_mi hr, rM_deep hr, rM_glare hr, rM_skill hr, rM_case hr, rM_at hr, rM_lat hr, rM_las hr, h]
    exact ⟨by omega, ih (n - 1) _ (by omega) ⟨k + 1, by omega, rfl⟩⟩
  · have e : k = gLk g := by omega
    simp (disch := first | omega | (simp only [fIn, fR, fC, Nat.reduceEqDiff, decide_false, decide_true, Bool.false_or, Bool.or_false, Bool.false_and, Bool.and_false, Bool.or_self, Bool.true_and, Bool.true_or, Bool.and_true, Bool.or_true, Bool.and_self]; done) | fail) only [hP_some, hP_let, hP_gd, hP_B, hP_if, reduceIte, q_lit, nI_add, pk_mul, q_lt, q_le, q_eq, q_cl, q_g, Bool.not_eq_true', decide_eq_false_iff_not, decide_eq_true_eq, q_div, q_rm, q_sub, q_m1, Nat.zero_add, Nat.add_zero, rM_wd hr, rM_hi hr, rM_sw hr, rM_lk hr, rM_la hr, rM_ti hr, rM_ga hr, rM_ca hr, rM_ch hr, rM_mi hr, rM_deep hr, rM_glare hr, rM_skill hr, rM_case hr, rM_at hr, rM_lat hr, rM_las hr, h]
    rw [e]
    exact hq
theorem m_off {a b : Nat} (ha : a < 2147483648) (hb : b < 2147483648) (hq : Q (nI (nDf a b)) w) : hP (f179 (nI a) (nI b) w) Q := by
  unfold f179
  unfold nDf at hq
  by_cases h : a < b
  · simp (disch := first | omega | (simp only [fIn, fR, fC, Nat.reduceEqDiff, decide_false, decide_true, Bool.false_or, Bool.or_false, Bool.false_and, Bool.and_false, Bool.or_self, Bool.true_and, Bool.true_or, Bool.and_true, Bool.or_true, Bool.and_self]; done) | fail) only [hP_some, hP_let, hP_gd, hP_B, hP_if, reduceIte, q_lit, nI_add, pk_mul, q_lt, q_le, q_eq, q_cl, q_g, Bool.not_eq_true', decide_eq_false_iff_not, decide_eq_true_eq, q_div, q_rm, q_sub, q_m1, Nat.zero_add, Nat.add_zero, h]
    rw [show a - b + (b - a) = b - a by omega] at hq
    exact hq
  · simp (disch := first | omega | (simp only [fIn, fR, fC, Nat.reduceEqDiff, decide_false, decide_true, Bool.false_or, Bool.or_false, Bool.false_and, Bool.and_false, Bool.or_self, Bool.true_and, Bool.true_or, Bool.and_true, Bool.or_true, Bool.and_self]; done) | fail) only [hP_some, hP_let, hP_gd, hP_B, hP_if, reduceIte, q_lit, nI_add, pk_mul, q_lt, q_le, q_eq, q_cl, q_g, Bool.not_eq_true', decide_eq_false_iff_not, decide_eq_true_eq, q_div, q_rm, q_sub, q_m1, Nat.zero_add, Nat.add_zero, h]
    rw [show a - b + (b - a) = a - b by omega] at hq
    exact hq
theorem m_far {c : Nat} (hr : rM g w) (ho : gOk g) (hc : c < 40) (hq : Q (nI (gFar g (gCh g) c)) w) : hP (f222_80 (nI c) w) Q := by
  have h1 := gOk_wd ho
  have h2 := gOk_ch ho
  have h3 := gOk_n ho
  have a1 : c % gW g < 40 := Nat.lt_of_le_of_lt (Nat.mod_le _ _) hc
  have a2 : gCh g % gW g < 40 := Nat.lt_of_le_of_lt (Nat.mod_le _ _) (by omega)
  have a3 : c / gW g < 40 := Nat.lt_of_le_of_lt (Nat.div_le_self _ _) hc
  have a4 : gCh g / gW g < 40 := Nat.lt_of_le_of_lt (Nat.div_le_self _ _) (by omega)
  unfold f222_80
  simp (disch := first | omega | (simp only [fIn, fR, fC, Nat.reduceEqDiff, decide_false, decide_true, Bool.false_or, Bool.or_false, Bool.false_and, Bool.and_false, Bool.or_self, Bool.true_and, Bool.true_or, Bool.and_true, Bool.or_true, Bool.and_self]; done) | fail) only [hP_some, hP_let, hP_gd, hP_B, hP_if, reduceIte, q_lit, nI_add, pk_mul, q_lt, q_le, q_eq, q_cl, q_g, Bool.not_eq_true', decide_eq_false_iff_not, decide_eq_true_eq, q_div, q_rm, q_sub, q_m1, Nat.zero_add, Nat.add_zero, rM_wd hr, rM_hi hr, rM_sw hr, rM_lk hr, rM_la hr, rM_ti hr, rM_ga hr, rM_ca hr, rM_ch hr, rM_mi hr, rM_deep hr, rM_glare hr, rM_skill hr, rM_case hr, rM_at hr, rM_lat hr, rM_las hr]
  refine ⟨by omega, by omega, m_off (by omega) (by omega) ?_⟩
  simp (disch := first | omega | (simp only [fIn, fR, fC, Nat.reduceEqDiff, decide_false, decide_true, Bool.false_or, Bool.or_false, Bool.false_and, Bool.and_false, Bool.or_self, Bool.true_and, Bool.true_or, Bool.and_true, Bool.or_true, Bool.and_self]; done) | fail) only [hP_some, hP_let, hP_gd, hP_B, hP_if, reduceIte, q_lit, nI_add, pk_mul, q_lt, q_le, q_eq, q_cl, q_g, Bool.not_eq_true', decide_eq_false_iff_not, decide_eq_true_eq, q_div, q_rm, q_sub, q_m1, Nat.zero_add, Nat.add_zero, rM_wd hr, rM_hi hr, rM_sw hr, rM_lk hr, rM_la hr, rM_ti hr, rM_ga hr, rM_ca hr, rM_ch hr, rM_mi hr, rM_deep hr, rM_glare hr, rM_skill hr, rM_case hr, rM_at hr, rM_lat hr, rM_las hr]
  refine ⟨by omega, by omega, m_off (by omega) (by omega) ?_⟩
  simp (disch := first | omega | (simp only [fIn, fR, fC, Nat.reduceEqDiff, decide_false, decide_true, Bool.false_or, Bool.or_false, Bool.false_and, Bool.and_false, Bool.or_self, Bool.true_and, Bool.true_or, Bool.and_true, Bool.or_true, Bool.and_self]; done) | fail) only [hP_some, hP_let, hP_gd, hP_B, hP_if, reduceIte, q_lit, nI_add, pk_mul, q_lt, q_le, q_eq, q_cl, q_g, Bool.not_eq_true', decide_eq_false_iff_not, decide_eq_true_eq, q_div, q_rm, q_sub, q_m1, Nat.zero_add, Nat.add_zero]
  exact hq
theorem m_who {c : Nat} (hr : rM g w) (ho : gOk g) (hc : c < 40) (hq : Q (nI (gWho g c (gSw g))) w) : hP (f223_80 (nI c) w) Q := by
  have h1 := gOk_sw ho
  have h3 := gOk_n ho
  unfold f223_80
  refine hP_loopF (fun n s => ∃ k, k + n = gSw g ∧ s = (nI (gWho g c k), nI k, w)) (gSw g) (by omega) ⟨0, by omega, rfl⟩ ?_
  rintro n s rec ⟨k, hk, rfl⟩ ih
  simp only [f223_80_b4]
  by_cases h : k < gSw g
  · have h2 := gOk_at ho k h
    have hk12 : 2 ^ k ≤ 2 ^ 12 := Nat.pow_le_pow_right (by decide) (by omega)
    simp (disch := first | omega | (simp only [fIn, fR, fC, Nat.reduceEqDiff, decide_false, decide_true, Bool.false_or, Bool.or_false, Bool.false_and, Bool.and_false, Bool.or_self, Bool.true_and, Bool.true_or, Bool.and_true, Bool.or_true, Bool.and_self]; done) | fail) only [hP_some, hP_let, hP_gd, hP_B, hP_if, reduceIte, q_lit, nI_add, pk_mul, q_lt, q_le, q_eq, q_cl, q_g, Bool.not_eq_true', decide_eq_false_iff_not, decide_eq_true_eq, q_div, q_rm, q_sub, q_m1, Nat.zero_add, Nat.add_zero, rM_wd hr, rM_hi hr, rM_sw hr, rM_lk hr, rM_la hr, rM_ti hr, rM_ga hr, rM_ca hr, rM_ch hr, rM_mi hr, rM_deep hr, rM_glare hr, rM_skill hr, rM_case hr, rM_at hr, rM_lat hr, rM_las hr, h]
    refine ⟨by omega, ?_⟩
    by_cases e : g 5 k = c
    · have e2 : gWho g c (k + 1) = gWho g c k + 2 ^ k := by show _ + _ = _; rw [if_pos e]
      simp only [e, reduceIte]
      rw [q_shl (by omega) (by omega), Nat.one_mul, q_or (gWho_lt g c k), ← e2]
      exact ih (n - 1) _ (by omega) ⟨k + 1, by omega, rfl⟩
    · have e2 : gWho g c (k + 1) = gWho g c k := by show _ + _ = _; rw [if_neg e]; rfl
      simp only [e, reduceIte, q_or0]
      exact ih (n - 1) _ (by omega) ⟨k + 1, by omega, by rw [e2]⟩
  · have e : k = gSw g := by omega
    simp (disch := first | omega | (simp only [fIn, fR, fC, Nat.reduceEqDiff, decide_false, decide_true, Bool.false_or, Bool.or_false, Bool.false_and, Bool.and_false, Bool.or_self, Bool.true_and, Bool.true_or, Bool.and_true, Bool.or_true, Bool.and_self]; done) | fail) only [hP_some, hP_let, hP_gd, hP_B, hP_if, reduceIte, q_lit, nI_add, pk_mul, q_lt, q_le, q_eq, q_cl, q_g, Bool.not_eq_true', decide_eq_false_iff_not, decide_eq_true_eq, q_div, q_rm, q_sub, q_m1, Nat.zero_add, Nat.add_zero, rM_wd hr, rM_hi hr, rM_sw hr, rM_lk hr, rM_la hr, rM_ti hr, rM_ga hr, rM_ca hr, rM_ch hr, rM_mi hr, rM_deep hr, rM_glare hr, rM_skill hr, rM_case hr, rM_at hr, rM_lat hr, rM_las hr, h]
    rw [e]
    exact hq
theorem m_bits {v : Nat} (hv : v < 2147483648) (hq : Q (nI (nBts v 12)) w) : hP (f181 (nI v) w) Q := by
  unfold f181
  refine hP_loopF (fun n s => ∃ k, k + n = 12 ∧ s = (nI (nBts v k), nI k, w)) 12 (by omega) ⟨0, by omega, rfl⟩ ?_
  rintro n s rec ⟨k, hk, rfl⟩ ih
  simp only [f181_b4]
  by_cases h : k < 12
  · have hd : v / 2 ^ k < 2147483648 := Nat.lt_of_le_of_lt (Nat.div_le_self _ _) hv
    simp (disch := first | omega | (simp only [fIn, fR, fC, Nat.reduceEqDiff, decide_false, decide_true, Bool.false_or, Bool.or_false, Bool.false_and, Bool.and_false, Bool.or_self, Bool.true_and, Bool.true_or, Bool.and_true, Bool.or_true, Bool.and_self]; done) | fail) only [hP_some, hP_let, hP_gd, hP_B, hP_if, reduceIte, q_lit, nI_add, pk_mul, q_lt, q_le, q_eq, q_cl, q_g, Bool.not_eq_true', decide_eq_false_iff_not, decide_eq_true_eq, q_div, q_rm, q_sub, q_m1, Nat.zero_add, Nat.add_zero, h, q_shr, q_and1]
    exact ih (n - 1) _ (by omega) ⟨k + 1, by omega, rfl⟩
  · have e : k = 12 := by omega
    simp (disch := first | omega | (simp only [fIn, fR, fC, Nat.reduceEqDiff, decide_false, decide_true, Bool.false_or, Bool.or_false, Bool.false_and, Bool.and_false, Bool.or_self, Bool.true_and, Bool.true_or, Bool.and_true, Bool.or_true, Bool.and_self]; done) | fail) only [hP_some, hP_let, hP_gd, hP_B, hP_if, reduceIte, q_lit, nI_add, pk_mul, q_lt, q_le, q_eq, q_cl, q_g, Bool.not_eq_true', decide_eq_false_iff_not, decide_eq_true_eq, q_div, q_rm, q_sub, q_m1, Nat.zero_add, Nat.add_zero, h]
    rw [e]
    exact hq
end M1
