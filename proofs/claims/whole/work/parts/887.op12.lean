/-! ===== OPERATIONS: halves, two ===== -/
def gR2 (g : gS) (fm to : Nat) : Nat → List (Nat × Nat)
  | 0 => []
  | k + 1 => gR2 g fm to k ++ (if fm ≤ g 6 k % gW g ∧ g 6 k % gW g < to then (if g 7 k = 0 then [] else [(g 6 k, g 7 k)]) else [])
theorem gR2_len (g : gS) (fm to : Nat) : ∀ k, (gR2 g fm to k).length ≤ k
  | 0 => Nat.le_refl _
  | k + 1 => by
    have := gR2_len g fm to k
    simp only [gR2, List.length_append]
    have h1 : (if g 7 k = 0 then ([] : List (Nat × Nat)) else [(g 6 k, g 7 k)]).length ≤ 1 := by split <;> simp
    by_cases c : fm ≤ g 6 k % gW g ∧ g 6 k % gW g < to
    · rw [if_pos c]; omega
    · rw [if_neg c]; simp; omega
theorem gR2_ok {g : gS} (ho : gOk g) (fm to : Nat) : ∀ k, k ≤ gLk g → lkOk (gR2 g fm to k)
  | 0, _ => ⟨by simp [gR2], fun p hp => by simp [gR2] at hp⟩
  | k + 1, h => by
    have ih := gR2_ok ho fm to k (by omega)
    have h1 := gR2_len g fm to (k + 1)
    have h2 := gOk_lk ho
    refine ⟨by omega, fun p hp => ?_⟩
    simp only [gR2, List.mem_append] at hp
    rcases hp with hp | hp
    · exact ih.2 p hp
    · by_cases c : fm ≤ g 6 k % gW g ∧ g 6 k % gW g < to
      · rw [if_pos c] at hp
        by_cases c2 : g 7 k = 0
        · rw [if_pos c2] at hp; cases hp
        · rw [if_neg c2] at hp
          have e := List.mem_singleton.mp hp
          subst e
          have h3 := gOk_lat ho k (by omega)
          have h4 := gOk_las ho k (by omega)
          have h5 := gOk_n ho
          exact ⟨.inl (by show g 6 k < 40; omega), by show 1 ≤ g 7 k; omega, by show g 7 k ≤ 99; omega⟩
      · rw [if_neg c] at hp; cases hp
theorem gR2_lay (g : gS) (fm to : Nat) : ∀ k, exL (gR2 g fm to k) = gLay g fm to 99 0 k
  | 0 => rfl
  | k + 1 => by
    have ih := gR2_lay g fm to k
    have e0 : (if k = 99 then 0 else 0) = 0 := by split <;> rfl
    simp only [gR2, gLay, exL_app, ih, e0, List.replicate_zero, List.append_nil]
    congr 1
    by_cases c : fm ≤ g 6 k % gW g ∧ g 6 k % gW g < to
    · rw [if_pos c, if_pos c]
      by_cases h : g 7 k = 0
      · simp [h, exL]
      · simp [h, exL]
    · rw [if_neg c, if_neg c]; rfl
theorem lay2_ok {g : gS} (ho : gOk g) (fm to : Nat) : lOk (gLay g fm to 99 0 (gLk g)) := by
  have h := gLay_len ho fm to 99 0 (gLk g) (Nat.le_refl _)
  have h2 := gOk_lk ho
  refine ⟨?_, gLay_mem ho _ _ _ _ _ (Nat.le_refl _)⟩
  split at h <;> omega
theorem oMx_app (A B : List (Option Nat)) : oMx (A ++ B) = oMax (oMx A) (oMx B) := by
  induction A with
  | nil =>
    show oMx B = oMax (some 0) (oMx B)
    cases oMx B <;> simp [oMax]
  | cons x t ih => rw [List.cons_append, oMx_cons, ih, oMx_cons, oMax_assoc]
/-- the worst of halves, as the class reckons it -/
def gHf (g : gS) (r : gR) (x : Nat) (c : Nat) : Option Nat := if c % gW g < x then gWst (gN1 g r 0) (gLay g 0 x 99 0 (gLk g)) c else gWst (gN1 g r 0) (gLay g x (gW g) 99 0 (gLk g)) c
def gHv (g : gS) (r : gR) (x : Nat) : Option Nat := oMx ((gSp g (gSw g)).map (gHf g r x))
theorem gHv_eq {g : gS} {r : gR} (ho : gOk g) {x : Nat} : gHv g r x = oMax (gWin (gIn g 0 x) (gN1 g r 0) (gLay g 0 x 99 0 (gLk g)) (gW g * gH g)) (gWin (gIn g x (gW g)) (gN1 g r 0) (gLay g x (gW g) 99 0 (gLk g)) (gW g * gH g)) := by
  have hw := gOk_wd ho
  rw [gWin_oMx, gWin_oMx, ← oMx_app]
  unfold gHv
  apply oMx_ext
  · intro y hy
    obtain ⟨c, hc, rfl⟩ := List.mem_map.mp hy
    have hlt := gSp_lt ho _ (Nat.le_refl _) c hc
    have hcn := (gSp_mem g c _).mp hc
    have hm := Nat.mod_lt c (show 0 < gW g by omega)
    unfold gHf
    by_cases c1 : c % gW g < x
    · rw [if_pos c1]
      refine List.mem_append_left _ (List.mem_map.mpr ⟨c, List.mem_filter.mpr ⟨List.mem_range.mpr hlt, ?_⟩, rfl⟩)
      simp [gIn, hcn, c1]
    · rw [if_neg c1]
      refine List.mem_append_right _ (List.mem_map.mpr ⟨c, List.mem_filter.mpr ⟨List.mem_range.mpr hlt, ?_⟩, rfl⟩)
      simp only [gIn, Bool.and_eq_true, decide_eq_true_eq]
      exact ⟨hcn, by omega, hm⟩
  · intro y hy
    rcases List.mem_append.mp hy with hy | hy
    · obtain ⟨c, hc, rfl⟩ := List.mem_map.mp hy
      have h2 := (List.mem_filter.mp hc).2
      simp only [gIn, Bool.and_eq_true, decide_eq_true_eq] at h2
      refine List.mem_map.mpr ⟨c, (gSp_mem g c _).mpr h2.1, ?_⟩
      unfold gHf
      rw [if_pos h2.2.2]
    · obtain ⟨c, hc, rfl⟩ := List.mem_map.mp hy
      have h2 := (List.mem_filter.mp hc).2
      simp only [gIn, Bool.and_eq_true, decide_eq_true_eq] at h2
      refine List.mem_map.mpr ⟨c, (gSp_mem g c _).mpr h2.1, ?_⟩
      unfold gHf
      rw [if_neg (by omega)]
theorem gHv_B {g : gS} {r : gR} (ho : gOk g) (x : Nat) : oB (gHv g r x) := by
  rw [gHv_eq ho]
  exact oMax_B (gWin_N (lay2_ok ho _ _) _) (gWin_N (lay2_ok ho _ _) _)
abbrev pH : fP := ([33, 50, 51, 52, 43, 44, 47, 48], [(23, 7), (42, 2), (42, 4), (42, 5), (42, 6), (46, 2), (46, 4), (46, 5), (46, 6)])
section HV
variable {g : gS} {r : gR} {w : mW} {Q : Int32 → mW → Prop}
theorem m_halvesBy {x : Nat} (hr : rM g w) (hR : rMr r g w) (ho : gOk g) (hk : rOk r g) (hm : wI w 80 66 = nI 0) (hx : x ≤ 40) (hq : ∀ w', fr pMq w w' → Q (eN (gHv g r x)) w') : hP (f265_80 (nI x) w) Q := by
  have hw := gOk_wd ho
  unfold f265_80
  simp only [hP_B, q_lit]
  refine m_lays (fm := 0) (aw := 0) (bh := 99) hr ho (by omega) hx (by omega) m1_no (fun w1 hf1 hl1 => ?_)
  have hr1 := rM_fr (by decide) hf1 hr
  have hR1 := rMr_fr (by decide) hf1 hR
  refine m_worstIn (fm := 0) (to := x) hr1 hR1 ho hk ((fr_rd hf1 rfl).trans hm) (lay2_ok ho _ _) hl1 (by omega) hx (fun w2 hf2 => ?_)
  have hr2 := rM_fr (by decide) hf2 hr1
  have hR2 := rMr_fr (by decide) hf2 hR1
  rw [rM_wd hr2]
  refine m_lays (aw := 0) (bh := 99) hr2 ho hx (by omega) (by omega) m1_no (fun w3 hf3 hl3 => ?_)
  have hr3 := rM_fr (by decide) hf3 hr2
  rw [rM_wd hr3]
  refine m_worstIn hr3 (rMr_fr (by decide) hf3 hR2) ho hk ((fr_rd hf3 rfl).trans ((fr_rd hf2 rfl).trans ((fr_rd hf1 rfl).trans hm))) (lay2_ok ho _ _) hl3 hx (by omega) (fun w4 hf4 => ?_)
  have hB1 : oB (gWin (gIn g 0 x) (gN1 g r 0) (gLay g 0 x 99 0 (gLk g)) (gW g * gH g)) := gWin_N (lay2_ok ho _ _) _
  have hB2 : oB (gWin (gIn g x (gW g)) (gN1 g r 0) (gLay g x (gW g) 99 0 (gLk g)) (gW g * gH g)) := gWin_N (lay2_ok ho _ _) _
  have h9 := hq w4 (fr_then (fr_then (fr_then (fr_up hf1 (by decide)) hf2 (by decide)) hf3 (by decide)) hf4 (by decide))
  have e1 := eN_lt hB1
  have e2 := eN_lt hB2
  have e3 := eN_max hB2 hB1
  rw [gHv_eq ho, oMax_comm] at h9
  unfold eN at h9 ⊢
  simp (disch := first | omega | (simp only [fIn, fR, fC, Nat.reduceEqDiff, decide_false, decide_true, Bool.false_or, Bool.or_false, Bool.false_and, Bool.and_false, Bool.or_self, Bool.true_and, Bool.true_or, Bool.and_true, Bool.or_true, Bool.and_self]; done) | fail) only [hP_some, hP_let, hP_gd, hP_B, hP_if, reduceIte, q_lit, nI_add, pk_mul, q_lt, q_le, q_eq, q_cl, q_g, Bool.not_eq_true', decide_eq_false_iff_not, decide_eq_true_eq, q_div, q_rm, q_sub, q_m1, Nat.zero_add, Nat.add_zero]
  rw [← e3] at h9
  rw [q_ite, ← apply_ite nI]
  exact h9
theorem c_halfOf {Q : Nat → mW → Prop} {c x : Nat} (hr : rC g w) (ho : gOk g) (hc : c < 40) (hx : x ≤ 40) (hq : Q (if c % gW g < x then 42 else 46) w) : hP (f115_23 (nI c) (nI x) w) Q := by
  have hw := gOk_wd ho
  have a1 : c % gW g < 40 := Nat.lt_of_le_of_lt (Nat.mod_le _ _) hc
  unfold f115_23 f48_24
  simp (disch := first | omega | (simp only [fIn, fR, fC, Nat.reduceEqDiff, decide_false, decide_true, Bool.false_or, Bool.or_false, Bool.false_and, Bool.and_false, Bool.or_self, Bool.true_and, Bool.true_or, Bool.and_true, Bool.or_true, Bool.and_self]; done) | fail) only [hP_some, hP_let, hP_gd, hP_B, hP_if, reduceIte, q_lit, nI_add, pk_mul, q_lt, q_le, q_eq, q_cl, q_g, Bool.not_eq_true', decide_eq_false_iff_not, decide_eq_true_eq, q_div, q_rm, q_sub, q_m1, Nat.zero_add, Nat.add_zero, rC_wd hr, show ¬ gW g < 1 by omega, show ¬ gW g = 0 by omega, not_false_eq_true, true_and]
  by_cases h : c % gW g < x
  · rw [if_pos h] at hq ⊢; exact hq
  · rw [if_neg h] at hq ⊢; exact hq
theorem c_halves {x : Nat} (hr : rC g w) (hR : rCr r g w) (ho : gOk g) (hk : rOk r g) (hx : x ≤ gW g) (hq : ∀ w', fr pH w w' → Q (eC (gHv g r x)) w') : hP (f114_23 (nI x) w) Q := by
  have hn := gOk_n ho
  have hw := gOk_wd ho
  have hlk := gOk_lk ho
  have hsw := gOk_sw ho
  have hch := gOk_ch ho
  have hmi := gOk_mi ho
  unfold f114_23
  simp (disch := first | omega | (simp only [fIn, fR, fC, Nat.reduceEqDiff, decide_false, decide_true, Bool.false_or, Bool.or_false, Bool.false_and, Bool.and_false, Bool.or_self, Bool.true_and, Bool.true_or, Bool.and_true, Bool.or_true, Bool.and_self]; done) | fail) only [hP_B, q_lit, nI_add, pk_mul, q_lt, q_le, q_eq, q_cl, q_g, Bool.not_eq_true', decide_eq_false_iff_not, decide_eq_true_eq, q_div, q_rm, q_sub, q_m1, Nat.zero_add, Nat.add_zero, rC_ch hr, rC_mi hr]
  refine c_gather (ex := 0) hr hR ho hk (by omega) (by omega) (by omega) (fun w1 hf1 hs1 => ?_)
  refine c_empty42 (fun w2 hf2 hl2 => ?_)
  refine c_empty46 (fun w3 hf3 hl3 => ?_)
  have hf0 : fr pH w w3 := fr_then (fr_then (fr_up hf1 (by decide)) hf2 (by decide)) hf3 (by decide)
  have hs3 := rSp_fr (rSp_fr hs1 hf2 rfl (fun _ => rfl) (fun _ => rfl)) hf3 rfl (fun _ => rfl) (fun _ => rfl)
  have hl2' := rRd_fr hl2 hf3 rfl (fun _ => rfl) (fun _ => rfl)
  refine hP_loopF (fun n s => ∃ k w4, k + n = gLk g ∧ s = (nI k, w4) ∧ fr pH w w4 ∧ rSp w4 (gSp g (gSw g)) (gN1 g r 0) ∧ rRd 42 43 44 w4 (gR2 g 0 x k) ∧ rRd 46 47 48 w4 (gR2 g x (gW g) k)) (gLk g) (by omega) ⟨0, w3, by omega, rfl, hf0, hs3, hl2', hl3⟩ ?_
  rintro n s rec ⟨k, w4, hkn, rfl, hf4, hs4, hA, hB⟩ ih
  have hr4 := rC_fr (by decide) hf4 hr
  simp only [f114_23_b35]
  by_cases c1 : k < gLk g
  · have h2 := gOk_las ho k c1
    have h3 := gOk_lat ho k c1
    have hm := Nat.mod_lt (g 6 k) (show 0 < gW g by omega)
    have hlA := gR2_len g 0 x k
    have hlB := gR2_len g x (gW g) k
    have e9 : nI (g 6 k) = cE (g 6 k) := (if_neg (by omega)).symm
    simp (disch := first | omega | (simp only [fIn, fR, fC, Nat.reduceEqDiff, decide_false, decide_true, Bool.false_or, Bool.or_false, Bool.false_and, Bool.and_false, Bool.or_self, Bool.true_and, Bool.true_or, Bool.and_true, Bool.or_true, Bool.and_self]; done) | fail) only [hP_if, hP_gd, hP_B, q_lit, nI_add, pk_mul, q_lt, q_le, q_eq, q_cl, q_g, Bool.not_eq_true', decide_eq_false_iff_not, decide_eq_true_eq, q_div, q_rm, q_sub, q_m1, Nat.zero_add, Nat.add_zero, rC_lk hr4, rC_lat hr4, c1, reduceIte]
    refine ⟨by omega, c_halfOf hr4 ho (by omega) (by omega) ?_⟩
    by_cases c2 : g 6 k % gW g < x
    · simp (disch := first | omega | (simp only [fIn, fR, fC, Nat.reduceEqDiff, decide_false, decide_true, Bool.false_or, Bool.or_false, Bool.false_and, Bool.and_false, Bool.or_self, Bool.true_and, Bool.true_or, Bool.and_true, Bool.or_true, Bool.and_self]; done) | fail) only [c2, reduceIte, rC_lat hr4, rC_las hr4]
      refine ⟨by omega, by omega, ?_⟩
      rw [e9]
      refine c_add42 hA (by omega) (by omega) (fun w5 hf5 hl5 => ?_)
      refine ih (n - 1) _ (by omega) ⟨k + 1, w5, by omega, rfl, fr_then hf4 hf5 (by decide), rSp_fr hs4 hf5 rfl (fun _ => rfl) (fun _ => rfl), ?_, ?_⟩
      · simp only [gR2, Nat.zero_le, c2, and_self, reduceIte]; exact hl5
      · have : ¬ (x ≤ g 6 k % gW g ∧ g 6 k % gW g < gW g) := by omega
        simp only [gR2, this, reduceIte, List.append_nil]
        exact rRd_fr hB hf5 rfl (fun _ => rfl) (fun _ => rfl)
    · simp (disch := first | omega | (simp only [fIn, fR, fC, Nat.reduceEqDiff, decide_false, decide_true, Bool.false_or, Bool.or_false, Bool.false_and, Bool.and_false, Bool.or_self, Bool.true_and, Bool.true_or, Bool.and_true, Bool.or_true, Bool.and_self]; done) | fail) only [c2, reduceIte, rC_lat hr4, rC_las hr4, Nat.reduceEqDiff]
      refine ⟨by omega, by omega, ?_⟩
      rw [e9]
      refine c_add46 hB (by omega) (by omega) (fun w5 hf5 hl5 => ?_)
      refine ih (n - 1) _ (by omega) ⟨k + 1, w5, by omega, rfl, fr_then hf4 hf5 (by decide), rSp_fr hs4 hf5 rfl (fun _ => rfl) (fun _ => rfl), ?_, ?_⟩
      · have : ¬ (0 ≤ g 6 k % gW g ∧ g 6 k % gW g < x) := by omega
        simp only [gR2, this, reduceIte, List.append_nil]
        exact rRd_fr hA hf5 rfl (fun _ => rfl) (fun _ => rfl)
      · have : x ≤ g 6 k % gW g ∧ g 6 k % gW g < gW g := by omega
        simp only [gR2, this, and_self, reduceIte]; exact hl5
  · simp (disch := first | omega | (simp only [fIn, fR, fC, Nat.reduceEqDiff, decide_false, decide_true, Bool.false_or, Bool.or_false, Bool.false_and, Bool.and_false, Bool.or_self, Bool.true_and, Bool.true_or, Bool.and_true, Bool.or_true, Bool.and_self]; done) | fail) only [hP_if, q_lit, nI_add, pk_mul, q_lt, q_le, q_eq, q_cl, q_g, Bool.not_eq_true', decide_eq_false_iff_not, decide_eq_true_eq, q_div, q_rm, q_sub, q_m1, Nat.zero_add, Nat.add_zero, rC_lk hr4, c1, reduceIte]
    rw [show k = gLk g by omega] at hA hB
    have hSl := gSp_len g (gSw g)
    have hTA : (exL (gR2 g 0 x (gLk g))).length ≤ 207 := by rw [gR2_lay]; exact (lay2_ok ho _ _).1
    refine hP_loopF (fun n s => ∃ i w5, i + n = (gSp g (gSw g)).length ∧ s = (eC (oMx (((gSp g (gSw g)).take i).map (gHf g r x))), nI i, w5) ∧ fr pH w w5 ∧ rSp w5 (gSp g (gSw g)) (gN1 g r 0) ∧ rRd 42 43 44 w5 (gR2 g 0 x (gLk g)) ∧ rRd 46 47 48 w5 (gR2 g x (gW g) (gLk g))) (gSp g (gSw g)).length (by omega) ⟨0, w4, by omega, rfl, hf4, hs4, hA, hB⟩ ?_
    rintro n2 s rec2 ⟨i, w5, hin, rfl, hf5, hs5, hA5, hB5⟩ ih2
    have hr5 := rC_fr (by decide) hf5 hr
    simp only [f114_23_b91]
    by_cases c2 : i < (gSp g (gSw g)).length
    · obtain ⟨h51, h52⟩ := hs5.2 i c2
      have hm := getD_mem (d := 0) c2
      have hlt := gSp_lt ho _ (Nat.le_refl _) _ hm
      have htk := take_s (d := 0) c2
      have hnd := gNd_b g r (gCh g) (gMi g) 0 ((gSp g (gSw g)).getD i 0)
      generalize (gSp g (gSw g)).getD i 0 = sc at *
      have hB1 : ∀ c, oB (gHf g r x c) := by
        intro c
        unfold gHf
        split
        · exact gWst_B (lay2_ok ho _ _).1 (gNd_b g r _ _ _ c).2
        · exact gWst_B (lay2_ok ho _ _).1 (gNd_b g r _ _ _ c).2
      have hBa : oB (oMx (((gSp g (gSw g)).take i).map (gHf g r x))) := oMx_B (fun y hy => by
        obtain ⟨c, -, rfl⟩ := List.mem_map.mp hy
        exact hB1 c)
      have go : ∀ w6, fr pH w w6 → rSp w6 (gSp g (gSw g)) (gN1 g r 0) → rRd 42 43 44 w6 (gR2 g 0 x (gLk g)) → rRd 46 47 48 w6 (gR2 g x (gW g) (gLk g)) → hP (rec2 (nMax (eC (oMx (((gSp g (gSw g)).take i).map (gHf g r x)))) (eC (gHf g r x sc)), nI (i + 1), w6)) Q := by
        intro w6 k1 k2 k3 k4
        refine ih2 (n2 - 1) _ (by omega) ⟨i + 1, w6, by omega, ?_, k1, k2, k3, k4⟩
        rw [eC_max hBa (hB1 sc), htk, List.map_append, List.map_cons, List.map_nil, oMx_snoc]
      simp (disch := first | omega | (simp only [fIn, fR, fC, Nat.reduceEqDiff, decide_false, decide_true, Bool.false_or, Bool.or_false, Bool.false_and, Bool.and_false, Bool.or_self, Bool.true_and, Bool.true_or, Bool.and_true, Bool.or_true, Bool.and_self]; done) | fail) only [hP_if, hP_gd, hP_B, hP_let, q_lit, nI_add, pk_mul, q_lt, q_le, q_eq, q_cl, q_g, Bool.not_eq_true', decide_eq_false_iff_not, decide_eq_true_eq, q_div, q_rm, q_sub, q_m1, Nat.zero_add, Nat.add_zero, hs5.1, h51, c2, reduceIte]
      refine ⟨by omega, c_halfOf hr5 ho (by omega) (by omega) ?_⟩
      by_cases c3 : sc % gW g < x
      · simp (disch := first | omega | (simp only [fIn, fR, fC, Nat.reduceEqDiff, decide_false, decide_true, Bool.false_or, Bool.or_false, Bool.false_and, Bool.and_false, Bool.or_self, Bool.true_and, Bool.true_or, Bool.and_true, Bool.or_true, Bool.and_self]; done) | fail) only [c3, reduceIte, h51, h52]
        refine ⟨by omega, by omega, c_longest42 (gR2_ok ho _ _ _ (Nat.le_refl _)) hA5 (by omega) hnd.1 hnd.2 (fun w6 hf6 => ?_)⟩
        rw [gR2_lay]
        have e5 : gWs1 (gNd g r (gCh g) (gMi g) 0 sc) (gLay g 0 x 99 0 (gLk g)) sc = gHf g r x sc := by unfold gHf; rw [if_pos c3]; rfl
        rw [e5]
        exact go w6 (fr_then hf5 hf6 (by decide)) (rSp_fr hs5 hf6 rfl (fun _ => rfl) (fun _ => rfl)) (rRd_fr hA5 hf6 rfl (fun _ => rfl) (fun _ => rfl)) (rRd_fr hB5 hf6 rfl (fun _ => rfl) (fun _ => rfl))
      · simp (disch := first | omega | (simp only [fIn, fR, fC, Nat.reduceEqDiff, decide_false, decide_true, Bool.false_or, Bool.or_false, Bool.false_and, Bool.and_false, Bool.or_self, Bool.true_and, Bool.true_or, Bool.and_true, Bool.or_true, Bool.and_self]; done) | fail) only [c3, reduceIte, h51, h52, Nat.reduceEqDiff]
        refine ⟨by omega, by omega, c_longest46 (gR2_ok ho _ _ _ (Nat.le_refl _)) hB5 (by omega) hnd.1 hnd.2 (fun w6 hf6 => ?_)⟩
        rw [gR2_lay]
        have e5 : gWs1 (gNd g r (gCh g) (gMi g) 0 sc) (gLay g x (gW g) 99 0 (gLk g)) sc = gHf g r x sc := by unfold gHf; rw [if_neg c3]; rfl
        rw [e5]
        exact go w6 (fr_then hf5 hf6 (by decide)) (rSp_fr hs5 hf6 rfl (fun _ => rfl) (fun _ => rfl)) (rRd_fr hA5 hf6 rfl (fun _ => rfl) (fun _ => rfl)) (rRd_fr hB5 hf6 rfl (fun _ => rfl) (fun _ => rfl))
    · simp (disch := first | omega | (simp only [fIn, fR, fC, Nat.reduceEqDiff, decide_false, decide_true, Bool.false_or, Bool.or_false, Bool.false_and, Bool.and_false, Bool.or_self, Bool.true_and, Bool.true_or, Bool.and_true, Bool.or_true, Bool.and_self]; done) | fail) only [hP_some, hP_let, hP_gd, hP_B, hP_if, reduceIte, q_lit, nI_add, pk_mul, q_lt, q_le, q_eq, q_cl, q_g, Bool.not_eq_true', decide_eq_false_iff_not, decide_eq_true_eq, q_div, q_rm, q_sub, q_m1, Nat.zero_add, Nat.add_zero, hs5.1, c2]
      rw [show i = (gSp g (gSw g)).length by omega, List.take_of_length_le (Nat.le_refl _)]
      exact hq w5 hf5
end HV
theorem op_halves (x1 : Int32) : opB Inv (f314_0_116 x1) (f266_80 x1) := by
  refine opB_gx (f := f148_0 x1) (ex := 0) (fun w => rfl) (fun w hI => ?_)
  obtain ⟨g, r, h, D, H, hp, -⟩ := hI
  have hp0 := hp
  obtain ⟨hM, hMr, hC, hCr, ho, hk, hl1, hcm, -⟩ := hp
  have hw := gOk_wd ho
  by_cases c1 : ∃ a, 1 ≤ a ∧ a ≤ gW g - 1 ∧ x1 = nI a
  · obtain ⟨x, xa, xb, rfl⟩ := c1
    refine ⟨g, r, True, fgE (gHv g r x), hp0, fun _ => ?_, fun c => absurd trivial c, fun _ w1 hx hs => ?_, fun c => absurd trivial c⟩
    · unfold f148_0
      simp (disch := first | omega | (simp only [fIn, fR, fC, Nat.reduceEqDiff, decide_false, decide_true, Bool.false_or, Bool.or_false, Bool.false_and, Bool.and_false, Bool.or_self, Bool.true_and, Bool.true_or, Bool.and_true, Bool.or_true, Bool.and_self]; done) | fail) only [hP_if, hP_B, q_lit, nI_add, pk_mul, q_lt, q_le, q_eq, q_cl, q_g, Bool.not_eq_true', decide_eq_false_iff_not, decide_eq_true_eq, q_div, q_rm, q_sub, q_m1, Nat.zero_add, Nat.add_zero, rC_wd hC, show ¬ x < 1 by omega, show x < gW g by omega, reduceIte, hP_some]
      refine c_halves hC hCr ho hk (by omega) (fun w1 hf1 => ?_)
      exact c_orNone (gHv_B ho x) ⟨rfl, fr_up hf1 (by decide)⟩
    · unfold f266_80
      simp only [hP_let, hP_B, q_lit, rM_wd hx.1]
      rw [q_sub (by omega)]
      refine m_within (by omega) (by omega) (fun _ _ _ _ => ?_) (fun h => absurd rfl (h x xa xb))
      refine m_rightY hx.2.2.2 ?_
      rw [if_neg (by decide)]
      simp only [hP_B, hP_some]
      refine m_halvesBy hx.1 hx.2.1 ho hk hx.2.2.1 (by omega) (fun w2 hf2 => ?_)
      exact m_shown (gHv_B ho x) ⟨rfl, fr_then (fr_nS fr_refl rfl) hf2 (by decide), (fr_rd hf2 rfl).trans hx.2.2.2⟩
  · refine ⟨g, r, False, 0, hp0, fun c => c.elim, fun _ => ?_, fun c => c.elim, fun _ w1 hx hs => ?_⟩
    · unfold f148_0
      rw [hP_if, hP_if]
      simp only [q_lit, rC_wd hC]
      by_cases d1 : x1 < nI 1
      · rw [if_pos d1, hP_some]; exact ⟨rfl, rfl⟩
      · rw [if_neg d1]
        by_cases d2 : x1 < nI (gW g)
        · exfalso
          rcases q_any x1 with h | ⟨a, ha, rfl⟩
          · apply d1
            rw [Int32.lt_iff_toInt_lt] at h ⊢
            rw [nI_toInt (by omega)]
            have : (0 : Int32).toInt = 0 := by decide
            omega
          · rw [q_lt ha (by omega)] at d1 d2
            exact c1 ⟨a, by omega, by omega, rfl⟩
        · rw [if_neg d2, hP_some]; exact ⟨rfl, rfl⟩
    · unfold f266_80
      simp only [hP_let, hP_B, q_lit, rM_wd hx.1]
      rw [q_sub (by omega)]
      by_cases e1 : gW g = 1
      · unfold f178
        simp only [hP_if, hP_some]
        by_cases d1 : x1 < nI 1
        · rw [if_pos d1]
          refine m_rightN (c := 1) (by decide) (by decide) hx.2.2.2 ?_
          rw [if_pos rfl]
          exact ⟨fr_nS (fr_nS fr_refl rfl) rfl, rd_nS⟩
        · rw [if_neg d1]
          by_cases d2 : nI (gW g - 1) < x1
          · rw [if_pos d2]
            refine m_rightN (c := 1) (by decide) (by decide) hx.2.2.2 ?_
            rw [if_pos rfl]
            exact ⟨fr_nS (fr_nS fr_refl rfl) rfl, rd_nS⟩
          · exfalso
            apply d2
            rcases q_any x1 with h | ⟨a, ha, rfl⟩
            · exfalso
              apply d1
              rw [Int32.lt_iff_toInt_lt] at h ⊢
              rw [nI_toInt (by omega)]
              have : (0 : Int32).toInt = 0 := by decide
              omega
            · rw [q_lt ha (by omega)] at d1
              rw [q_lt (by omega) ha]
              omega
      · refine m_within (by omega) (by omega) (fun b b1 b2 e => absurd ⟨b, b1, b2, e⟩ c1) (fun h => ?_)
        refine m_rightN (by decide) (by decide) hx.2.2.2 ?_
        rw [if_pos rfl, hP_some]
        exact ⟨fr_nS (fr_nS fr_refl rfl) rfl, rd_nS⟩
