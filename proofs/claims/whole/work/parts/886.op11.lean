/-! ===== OPERATIONS: game, fun; halves ===== -/
theorem op_game (x1 x2 : Int32) : opB Inv (f316_0_116 x1 x2) (f271_80 x1 x2) := by
  refine opB_gx (f := f150_0 x1 x2) (ex := 1) (fun w => rfl) (fun w hI => ?_)
  obtain ⟨g, r, h, D, H, hp, -⟩ := hI
  have hp0 := hp
  obtain ⟨hM, hMr, hC, hCr, ho, hk, hl1, hcm, -⟩ := hp
  have hga := gOk_ga ho
  by_cases c1 : inR x1 (gGa g)
  · obtain ⟨i, hi, rfl⟩ := c1
    obtain ⟨l, kk, hl, -, -⟩ := hMr.2.2 i hi
    by_cases c2 : inR x2 (1 + 1)
    · obtain ⟨b, hb, rfl⟩ := c2
      have hb2 : b = 0 ∨ b = 1 := by omega
      refine ⟨g, r, True, nI (gEr g l b (gCa g)), hp0, fun _ => ?_, fun c => absurd trivial c, fun _ w1 hx hs => ?_, fun c => absurd trivial c⟩
      · unfold f150_0
        simp (disch := first | omega | (simp only [fIn, fR, fC, Nat.reduceEqDiff, decide_false, decide_true, Bool.false_or, Bool.or_false, Bool.false_and, Bool.and_false, Bool.or_self, Bool.true_and, Bool.true_or, Bool.and_true, Bool.or_true, Bool.and_self]; done) | fail) only [hP_if, q_lit, nI_add, pk_mul, q_lt, q_le, q_eq, q_cl, q_g, Bool.not_eq_true', decide_eq_false_iff_not, decide_eq_true_eq, q_div, q_rm, q_sub, q_m1, Nat.zero_add, Nat.add_zero, Nat.not_lt_zero, rC_ga hC, hi, reduceIte, hP_xb]
        refine c_wantWhat (most := 1) (by decide) (fun _ _ _ => ?_) (fun h => absurd ⟨b, hb, rfl⟩ h)
        rcases hb2 with rfl | rfl
        · simp (disch := first | omega | (simp only [fIn, fR, fC, Nat.reduceEqDiff, decide_false, decide_true, Bool.false_or, Bool.or_false, Bool.false_and, Bool.and_false, Bool.or_self, Bool.true_and, Bool.true_or, Bool.and_true, Bool.or_true, Bool.and_self]; done) | fail) only [hP_some, hP_let, hP_gd, hP_B, hP_if, reduceIte, q_lit, nI_add, pk_mul, q_lt, q_le, q_eq, q_cl, q_g, Bool.not_eq_true', decide_eq_false_iff_not, decide_eq_true_eq, q_div, q_rm, q_sub, q_m1, Nat.zero_add, Nat.add_zero, Nat.reduceEqDiff]
          exact c_wrong hC hCr ho hk hl1.2 hi hl (by omega) (fun w' hf => ⟨rfl, fr_up hf (by decide)⟩)
        · simp (disch := first | omega | (simp only [fIn, fR, fC, Nat.reduceEqDiff, decide_false, decide_true, Bool.false_or, Bool.or_false, Bool.false_and, Bool.and_false, Bool.or_self, Bool.true_and, Bool.true_or, Bool.and_true, Bool.or_true, Bool.and_self]; done) | fail) only [hP_some, hP_let, hP_gd, hP_B, hP_if, reduceIte, q_lit, nI_add, pk_mul, q_lt, q_le, q_eq, q_cl, q_g, Bool.not_eq_true', decide_eq_false_iff_not, decide_eq_true_eq, q_div, q_rm, q_sub, q_m1, Nat.zero_add, Nat.add_zero]
          exact c_wrong hC hCr ho hk hl1.2 hi hl (by omega) (fun w' hf => ⟨rfl, fr_up hf (by decide)⟩)
      · unfold f271_80 f271_80_j23
        simp (disch := first | omega | (simp only [fIn, fR, fC, Nat.reduceEqDiff, decide_false, decide_true, Bool.false_or, Bool.or_false, Bool.false_and, Bool.and_false, Bool.or_self, Bool.true_and, Bool.true_or, Bool.and_true, Bool.or_true, Bool.and_self]; done) | fail) only [hP_let, hP_if, hP_B, q_lit, nI_add, pk_mul, q_lt, q_le, q_eq, q_cl, q_g, Bool.not_eq_true', decide_eq_false_iff_not, decide_eq_true_eq, q_div, q_rm, q_sub, q_m1, Nat.zero_add, Nat.add_zero, Nat.not_lt_zero, rM_ga hx.1, hi, reduceIte]
        refine m_rightY hx.2.2.2 ?_
        simp (disch := first | omega | (simp only [fIn, fR, fC, Nat.reduceEqDiff, decide_false, decide_true, Bool.false_or, Bool.or_false, Bool.false_and, Bool.and_false, Bool.or_self, Bool.true_and, Bool.true_or, Bool.and_true, Bool.or_true, Bool.and_self]; done) | fail) only [q_lit, nI_add, pk_mul, q_lt, q_le, q_eq, q_cl, q_g, Bool.not_eq_true', decide_eq_false_iff_not, decide_eq_true_eq, q_div, q_rm, q_sub, q_m1, Nat.zero_add, Nat.add_zero, Nat.reduceEqDiff, reduceIte]
        refine m_isWhat (most := 1) (by decide) hx.2.2.2 (fun _ _ _ => ?_) (fun h => absurd ⟨b, hb, rfl⟩ h)
        simp (disch := first | omega | (simp only [fIn, fR, fC, Nat.reduceEqDiff, decide_false, decide_true, Bool.false_or, Bool.or_false, Bool.false_and, Bool.and_false, Bool.or_self, Bool.true_and, Bool.true_or, Bool.and_true, Bool.or_true, Bool.and_self]; done) | fail) only [hP_some, hP_let, hP_gd, hP_B, hP_if, reduceIte, q_lit, nI_add, pk_mul, q_lt, q_le, q_eq, q_cl, q_g, Bool.not_eq_true', decide_eq_false_iff_not, decide_eq_true_eq, q_div, q_rm, q_sub, q_m1, Nat.zero_add, Nat.add_zero, Nat.reduceEqDiff]
        refine m_errs hx.1 hx.2.1 ho hk hi hl (by omega) (fun w' hf => ⟨rfl, ?_, (fr_rd hf rfl).trans hx.2.2.2⟩)
        exact fr_then (fr_nS fr_refl rfl) hf (by decide)
    · refine ⟨g, r, False, 0, hp0, fun c => c.elim, fun _ => ?_, fun c => c.elim, fun _ w1 hx hs => ?_⟩
      · unfold f150_0
        simp (disch := first | omega | (simp only [fIn, fR, fC, Nat.reduceEqDiff, decide_false, decide_true, Bool.false_or, Bool.or_false, Bool.false_and, Bool.and_false, Bool.or_self, Bool.true_and, Bool.true_or, Bool.and_true, Bool.or_true, Bool.and_self]; done) | fail) only [hP_if, q_lit, nI_add, pk_mul, q_lt, q_le, q_eq, q_cl, q_g, Bool.not_eq_true', decide_eq_false_iff_not, decide_eq_true_eq, q_div, q_rm, q_sub, q_m1, Nat.zero_add, Nat.add_zero, Nat.not_lt_zero, rC_ga hC, hi, reduceIte, hP_xb]
        exact c_wantWhat (most := 1) (by decide) (fun a ha e => absurd ⟨a, by omega, e⟩ c2) (fun h => ⟨rfl, rfl⟩)
      · unfold f271_80 f271_80_j23
        simp (disch := first | omega | (simp only [fIn, fR, fC, Nat.reduceEqDiff, decide_false, decide_true, Bool.false_or, Bool.or_false, Bool.false_and, Bool.and_false, Bool.or_self, Bool.true_and, Bool.true_or, Bool.and_true, Bool.or_true, Bool.and_self]; done) | fail) only [hP_let, hP_if, hP_B, q_lit, nI_add, pk_mul, q_lt, q_le, q_eq, q_cl, q_g, Bool.not_eq_true', decide_eq_false_iff_not, decide_eq_true_eq, q_div, q_rm, q_sub, q_m1, Nat.zero_add, Nat.add_zero, Nat.not_lt_zero, rM_ga hx.1, hi, reduceIte]
        refine m_rightY hx.2.2.2 ?_
        simp (disch := first | omega | (simp only [fIn, fR, fC, Nat.reduceEqDiff, decide_false, decide_true, Bool.false_or, Bool.or_false, Bool.false_and, Bool.and_false, Bool.or_self, Bool.true_and, Bool.true_or, Bool.and_true, Bool.or_true, Bool.and_self]; done) | fail) only [q_lit, nI_add, pk_mul, q_lt, q_le, q_eq, q_cl, q_g, Bool.not_eq_true', decide_eq_false_iff_not, decide_eq_true_eq, q_div, q_rm, q_sub, q_m1, Nat.zero_add, Nat.add_zero, Nat.reduceEqDiff, reduceIte]
        refine m_isWhat (most := 1) (by decide) hx.2.2.2 (fun a ha e => absurd ⟨a, by omega, e⟩ c2) (fun h => ?_)
        rw [if_pos rfl, hP_some]
        exact ⟨fr_nS (fr_nS fr_refl rfl) rfl, rd_nS⟩
  · refine ⟨g, r, False, 0, hp0, fun c => c.elim, fun _ => ?_, fun c => c.elim, fun _ w1 hx hs => ?_⟩
    · unfold f150_0
      rw [hP_if, hP_if]
      simp only [q_lit, rC_ga hC]
      rcases inR_no (by omega) c1 with d1 | ⟨d1, d2, -⟩
      · rw [if_pos d1, hP_some]; exact ⟨rfl, rfl⟩
      · rw [if_neg d1, if_neg d2, hP_some]; exact ⟨rfl, rfl⟩
    · have no : hP (f271_80_j23 x1 x2 (nI 0) (nS w1 80 0 (nI 0))) (fun _ w2 => fr pQ w1 w2 ∧ wI w2 80 0 = nI 1) := by
        unfold f271_80_j23
        simp only [hP_B, q_lit]
        refine m_rightN (by decide) (by decide) hx.2.2.2 ?_
        rw [if_pos rfl, hP_some]
        exact ⟨fr_nS (fr_nS fr_refl rfl) rfl, rd_nS⟩
      unfold f271_80
      simp only [hP_let, hP_if, q_lit, rM_ga hx.1]
      rcases inR_no (by omega) c1 with d1 | ⟨d1, d2, -⟩
      · rw [if_pos d1]; exact no
      · rw [if_neg d1, if_neg d2]; exact no
/-- the first of the least, none at first -/
def fBe (f : Nat → Nat) : Nat → Option (Nat × Nat)
  | 0 => none
  | k + 1 => match fBe f k with
    | none => some (k, f k)
    | some (b, l) => if f k < l then some (k, f k) else some (b, l)
def e1 (o : Option (Nat × Nat)) : Int32 := match o with
  | none => -nI 1
  | some (b, _) => nI b
def e2 (o : Option (Nat × Nat)) : Int32 := match o with
  | none => nI 0
  | some (_, l) => nI l
theorem fBe_b {f : Nat → Nat} {B : Nat} (hf : ∀ k, f k ≤ B) : ∀ k b l, fBe f k = some (b, l) → b < k ∧ l ≤ B
  | 0, b, l, h => by cases h
  | k + 1, b, l, h => by
    have ih := fBe_b hf k
    have h : (match fBe f k with | none => some (k, f k) | some (b, l) => if f k < l then some (k, f k) else some (b, l)) = some (b, l) := h
    cases e : fBe f k with
    | none => rw [e] at h; cases h; exact ⟨by omega, hf _⟩
    | some x =>
      obtain ⟨b2, l2⟩ := x
      rw [e] at h
      dsimp only at h
      split at h
      · cases h; exact ⟨by omega, hf _⟩
      · cases h; have := ih b l e; omega
theorem op_fun : opA Inv f151_0 f272_80 := by
  refine opA_ask (fun w g r hp hI => ?_)
  obtain ⟨hM, hMr, hC, hCr, ho, hk, hl1, hcm, -⟩ := hp
  have hga := gOk_ga ho
  have hca := gOk_ca ho
  have hL : ∃ L : Nat → List gO, ∀ i, i < gGa g → r (2 + i) = some (L i) := by
    refine ⟨fun i => (r (2 + i)).getD [], fun i hi => ?_⟩
    obtain ⟨l, kk, hl, -, -⟩ := hMr.2.2 i hi
    show r (2 + i) = some ((r (2 + i)).getD [])
    rw [hl]
    rfl
  obtain ⟨L, hL⟩ := hL
  have hB : ∀ k, (fun i => 3 * gEr g (L i) 1 (gCa g) + gEr g (L i) 0 (gCa g)) k ≤ 40 := by
    intro k
    have h1 := gEr_le g (L k) 1 (gCa g)
    have h2 := gEr_le g (L k) 0 (gCa g)
    show 3 * gEr g (L k) 1 (gCa g) + gEr g (L k) 0 (gCa g) ≤ 40
    omega
  have hbb := fBe_b hB
  refine ⟨e1 (fBe (fun i => 3 * gEr g (L i) 1 (gCa g) + gEr g (L i) 0 (gCa g)) (gGa g)), ?_, fun w1 hf1 => ?_⟩
  · unfold f151_0 f89_23
    simp only [hP_B, hP_some]
    refine hP_loopF (fun n s => ∃ k w2, k + n = gGa g ∧ s = (e1 (fBe (fun i => 3 * gEr g (L i) 1 (gCa g) + gEr g (L i) 0 (gCa g)) k), e2 (fBe (fun i => 3 * gEr g (L i) 1 (gCa g) + gEr g (L i) 0 (gCa g)) k), nI k, w2) ∧ fr pN w w2) (gGa g) (by omega) ⟨0, w, by omega, rfl, fr_refl⟩ ?_
    rintro n s rec ⟨k, w2, hkn, rfl, hf2⟩ ih
    have hC2 := rC_fr (by decide) hf2 hC
    simp only [f89_23_b6]
    by_cases c : k < gGa g
    · simp (disch := first | omega | (simp only [fIn, fR, fC, Nat.reduceEqDiff, decide_false, decide_true, Bool.false_or, Bool.or_false, Bool.false_and, Bool.and_false, Bool.or_self, Bool.true_and, Bool.true_or, Bool.and_true, Bool.or_true, Bool.and_self]; done) | fail) only [hP_some, hP_let, hP_gd, hP_B, hP_if, reduceIte, q_lit, nI_add, pk_mul, q_lt, q_le, q_eq, q_cl, q_g, Bool.not_eq_true', decide_eq_false_iff_not, decide_eq_true_eq, q_div, q_rm, q_sub, q_m1, Nat.zero_add, Nat.add_zero, rC_ga hC2, c]
      refine c_wrong hC2 (rCr_fr (by decide) hf2 hCr) ho hk hl1.2 c (hL k c) (by omega) (fun w3 hf3 => ?_)
      refine c_wrong (rC_fr (by decide) hf3 hC2) (rCr_fr (by decide) hf3 (rCr_fr (by decide) hf2 hCr)) ho hk hl1.2 c (hL k c) (by omega) (fun w4 hf4 => ?_)
      have hf5 := fr_then (fr_then hf2 hf3 (by decide : fLe pN pN = true)) hf4 (by decide : fLe pN pN = true)
      have hBk : 3 * gEr g (L k) 1 (gCa g) + gEr g (L k) 0 (gCa g) ≤ 40 := hB k
      simp (disch := first | omega | (simp only [fIn, fR, fC, Nat.reduceEqDiff, decide_false, decide_true, Bool.false_or, Bool.or_false, Bool.false_and, Bool.and_false, Bool.or_self, Bool.true_and, Bool.true_or, Bool.and_true, Bool.or_true, Bool.and_self]; done) | fail) only [q_lit, nI_add, pk_mul, q_lt, q_le, q_eq, q_cl, q_g, Bool.not_eq_true', decide_eq_false_iff_not, decide_eq_true_eq, q_div, q_rm, q_sub, q_m1, Nat.zero_add, Nat.add_zero]
      have eS : fBe (fun i => 3 * gEr g (L i) 1 (gCa g) + gEr g (L i) 0 (gCa g)) (k + 1) = (match fBe (fun i => 3 * gEr g (L i) 1 (gCa g) + gEr g (L i) 0 (gCa g)) k with | none => some (k, 3 * gEr g (L k) 1 (gCa g) + gEr g (L k) 0 (gCa g)) | some (b, l) => if 3 * gEr g (L k) 1 (gCa g) + gEr g (L k) 0 (gCa g) < l then some (k, 3 * gEr g (L k) 1 (gCa g) + gEr g (L k) 0 (gCa g)) else some (b, l)) := rfl
      have go : ∀ o, fBe (fun i => 3 * gEr g (L i) 1 (gCa g) + gEr g (L i) 0 (gCa g)) (k + 1) = o → hP (rec (e1 o, e2 o, nI (k + 1), w4)) (fun v w1 => v = e1 (fBe (fun i => 3 * gEr g (L i) 1 (gCa g) + gEr g (L i) 0 (gCa g)) (gGa g)) ∧ fr pQ w w1) := fun o ho9 => ih (n - 1) _ (by omega) ⟨k + 1, w4, by omega, by rw [ho9], hf5⟩
      cases e : fBe (fun i => 3 * gEr g (L i) 1 (gCa g) + gEr g (L i) 0 (gCa g)) k with
      | none =>
        rw [e] at eS
        rw [if_pos (show e1 none = -nI 1 from rfl)]
        exact go _ eS
      | some x =>
        obtain ⟨b, l⟩ := x
        rw [e] at eS
        obtain ⟨b1, b2⟩ := hbb k b l e
        have h11 : e1 (some (b, l)) = nI b := rfl
        have h12 : e2 (some (b, l)) = nI l := rfl
        simp (disch := first | omega | (simp only [fIn, fR, fC, Nat.reduceEqDiff, decide_false, decide_true, Bool.false_or, Bool.or_false, Bool.false_and, Bool.and_false, Bool.or_self, Bool.true_and, Bool.true_or, Bool.and_true, Bool.or_true, Bool.and_self]; done) | fail) only [h11, h12, q_neq, reduceIte, q_lit, nI_add, pk_mul, q_lt, q_le, q_eq, q_cl, q_g, Bool.not_eq_true', decide_eq_false_iff_not, decide_eq_true_eq, q_div, q_rm, q_sub, q_m1, Nat.zero_add, Nat.add_zero]
        dsimp only at eS
        by_cases c3 : 3 * gEr g (L k) 1 (gCa g) + gEr g (L k) 0 (gCa g) < l
        · rw [if_pos c3] at eS ⊢
          exact go _ eS
        · rw [if_neg c3] at eS ⊢
          exact go _ eS
    · simp (disch := first | omega | (simp only [fIn, fR, fC, Nat.reduceEqDiff, decide_false, decide_true, Bool.false_or, Bool.or_false, Bool.false_and, Bool.and_false, Bool.or_self, Bool.true_and, Bool.true_or, Bool.and_true, Bool.or_true, Bool.and_self]; done) | fail) only [hP_some, hP_let, hP_gd, hP_B, hP_if, reduceIte, q_lit, nI_add, pk_mul, q_lt, q_le, q_eq, q_cl, q_g, Bool.not_eq_true', decide_eq_false_iff_not, decide_eq_true_eq, q_div, q_rm, q_sub, q_m1, Nat.zero_add, Nat.add_zero, rC_ga hC2, c]
      rw [show k = gGa g by omega]
      exact ⟨rfl, fr_up hf2 (by decide)⟩
  · have hM1 := rM_fr (g := g) pQ_rM hf1 hM
    have hMr1 := rMr_fr pQ_rM hf1 hMr
    unfold f272_80
    simp only [hP_let]
    refine hP_loopF (fun n s => ∃ k w2, k + n = gGa g ∧ s = (e1 (fBe (fun i => 3 * gEr g (L i) 1 (gCa g) + gEr g (L i) 0 (gCa g)) k), e2 (fBe (fun i => 3 * gEr g (L i) 1 (gCa g) + gEr g (L i) 0 (gCa g)) k), nI k, w2) ∧ fr ([103, 104], [(80, 0)]) w1 w2) (gGa g) (by omega) ⟨0, nS w1 80 0 0, by omega, rfl, fr_nS fr_refl rfl⟩ ?_
    rintro n s rec ⟨k, w2, hkn, rfl, hf2⟩ ih
    have hM2 := rM_fr (g := g) (by decide) hf2 hM1
    have hMr2 := rMr_fr (by decide) hf2 hMr1
    simp only [f272_80_b11]
    by_cases c : k < gGa g
    · simp (disch := first | omega | (simp only [fIn, fR, fC, Nat.reduceEqDiff, decide_false, decide_true, Bool.false_or, Bool.or_false, Bool.false_and, Bool.and_false, Bool.or_self, Bool.true_and, Bool.true_or, Bool.and_true, Bool.or_true, Bool.and_self]; done) | fail) only [hP_some, hP_let, hP_gd, hP_B, hP_if, reduceIte, q_lit, nI_add, pk_mul, q_lt, q_le, q_eq, q_cl, q_g, Bool.not_eq_true', decide_eq_false_iff_not, decide_eq_true_eq, q_div, q_rm, q_sub, q_m1, Nat.zero_add, Nat.add_zero, rM_ga hM2, c]
      refine m_errs hM2 hMr2 ho hk c (hL k c) (by omega) (fun w3 hf3 => ?_)
      refine m_errs (rM_fr (by decide) hf3 hM2) (rMr_fr (by decide) hf3 hMr2) ho hk c (hL k c) (by omega) (fun w4 hf4 => ?_)
      have hf5 : fr ([103, 104], [(80, 0)]) w1 w4 := fr_then (fr_then hf2 hf3 (by decide)) hf4 (by decide)
      have hBk : 3 * gEr g (L k) 1 (gCa g) + gEr g (L k) 0 (gCa g) ≤ 40 := hB k
      simp (disch := first | omega | (simp only [fIn, fR, fC, Nat.reduceEqDiff, decide_false, decide_true, Bool.false_or, Bool.or_false, Bool.false_and, Bool.and_false, Bool.or_self, Bool.true_and, Bool.true_or, Bool.and_true, Bool.or_true, Bool.and_self]; done) | fail) only [q_lit, nI_add, pk_mul, q_lt, q_le, q_eq, q_cl, q_g, Bool.not_eq_true', decide_eq_false_iff_not, decide_eq_true_eq, q_div, q_rm, q_sub, q_m1, Nat.zero_add, Nat.add_zero]
      have eS : fBe (fun i => 3 * gEr g (L i) 1 (gCa g) + gEr g (L i) 0 (gCa g)) (k + 1) = (match fBe (fun i => 3 * gEr g (L i) 1 (gCa g) + gEr g (L i) 0 (gCa g)) k with | none => some (k, 3 * gEr g (L k) 1 (gCa g) + gEr g (L k) 0 (gCa g)) | some (b, l) => if 3 * gEr g (L k) 1 (gCa g) + gEr g (L k) 0 (gCa g) < l then some (k, 3 * gEr g (L k) 1 (gCa g) + gEr g (L k) 0 (gCa g)) else some (b, l)) := rfl
      have go : ∀ o, fBe (fun i => 3 * gEr g (L i) 1 (gCa g) + gEr g (L i) 0 (gCa g)) (k + 1) = o → hP (rec (e1 o, e2 o, nI (k + 1), w4)) (fun b w2 => fr pQ w1 w2 ∧ b = e1 (fBe (fun i => 3 * gEr g (L i) 1 (gCa g) + gEr g (L i) 0 (gCa g)) (gGa g))) := fun o ho9 => ih (n - 1) _ (by omega) ⟨k + 1, w4, by omega, by rw [ho9], hf5⟩
      cases e : fBe (fun i => 3 * gEr g (L i) 1 (gCa g) + gEr g (L i) 0 (gCa g)) k with
      | none =>
        rw [e] at eS
        rw [if_pos (show e1 none = -nI 1 from rfl)]
        exact go _ eS
      | some x =>
        obtain ⟨b, l⟩ := x
        rw [e] at eS
        obtain ⟨b1, b2⟩ := hbb k b l e
        have h11 : e1 (some (b, l)) = nI b := rfl
        have h12 : e2 (some (b, l)) = nI l := rfl
        simp (disch := first | omega | (simp only [fIn, fR, fC, Nat.reduceEqDiff, decide_false, decide_true, Bool.false_or, Bool.or_false, Bool.false_and, Bool.and_false, Bool.or_self, Bool.true_and, Bool.true_or, Bool.and_true, Bool.or_true, Bool.and_self]; done) | fail) only [h11, h12, q_neq, reduceIte, q_lit, nI_add, pk_mul, q_lt, q_le, q_eq, q_cl, q_g, Bool.not_eq_true', decide_eq_false_iff_not, decide_eq_true_eq, q_div, q_rm, q_sub, q_m1, Nat.zero_add, Nat.add_zero]
        dsimp only at eS
        by_cases c3 : 3 * gEr g (L k) 1 (gCa g) + gEr g (L k) 0 (gCa g) < l
        · rw [if_pos c3] at eS ⊢
          exact go _ eS
        · rw [if_neg c3] at eS ⊢
          exact go _ eS
    · simp (disch := first | omega | (simp only [fIn, fR, fC, Nat.reduceEqDiff, decide_false, decide_true, Bool.false_or, Bool.or_false, Bool.false_and, Bool.and_false, Bool.or_self, Bool.true_and, Bool.true_or, Bool.and_true, Bool.or_true, Bool.and_self]; done) | fail) only [hP_some, hP_let, hP_gd, hP_B, hP_if, reduceIte, q_lit, nI_add, pk_mul, q_lt, q_le, q_eq, q_cl, q_g, Bool.not_eq_true', decide_eq_false_iff_not, decide_eq_true_eq, q_div, q_rm, q_sub, q_m1, Nat.zero_add, Nat.add_zero, rM_ga hM2, c]
      rw [show k = gGa g by omega]
      exact ⟨fr_up hf2 (by decide), rfl⟩
