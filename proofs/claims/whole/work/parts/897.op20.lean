/-! ===== OPERATIONS: risk ===== -/
theorem m_unseenT {g : gS} {r : gR} {w : mW} {Q : Int32 → mW → Prop} {c : Nat} (hr : rM g w) (hR : rMr r g w) (ho : gOk g) (hk : rOk r g) (hm : wI w 80 66 = nI 0) (hc : c < 40) (hq : ∀ w', fr pMq w w' → wI w' 80 70 = nI (gRnd g (gLk g)) → Q (nI (gUn g r c)) w') : hP (f242_80 (nI c) w) Q := by
  have hla := gOk_la ho
  have hT := lay_T ho (gLk g) (Nat.le_refl _)
  have hnd := gNd_b g r (gCh g) (gMi g) 0 c
  have hlo := lay_ok ho
  have hT7 : gRnd g (gLk g) ≤ 207 := by rw [← hT]; exact hlo.1
  unfold f242_80
  simp only [hP_B]
  refine m_laysAll hr ho (fun w1 hf1 hl1 => ?_)
  have hr1 := rM_fr (by decide) hf1 hr
  have hp1 := hl1.1
  rw [hT] at hp1
  simp (disch := first | omega | (simp only [fIn, fR, fC, Nat.reduceEqDiff, decide_false, decide_true, Bool.false_or, Bool.or_false, Bool.false_and, Bool.and_false, Bool.or_self, Bool.true_and, Bool.true_or, Bool.and_true, Bool.or_true, Bool.and_self]; done) | fail) only [hP_some, hP_let, hP_gd, hP_B, hP_if, reduceIte, q_lit, nI_add, pk_mul, q_lt, q_le, q_eq, q_cl, q_g, Bool.not_eq_true', decide_eq_false_iff_not, decide_eq_true_eq, q_div, q_rm, q_sub, q_m1, Nat.zero_add, Nat.add_zero, hp1]
  by_cases c0 : gRnd g (gLk g) = 0
  · rw [if_pos c0]
    have := hq w1 (fr_up hf1 (by decide)) hp1
    unfold gUn at this
    rw [c0] at this
    exact this
  · rw [if_neg c0]
    refine m_need hr1 (rMr_fr (by decide) hf1 hR) ho hk hc ((fr_rd hf1 rfl).trans hm) (fun w2 hf2 => ?_)
    have hl2 := rLk_fr hl1 hf2 rfl (fun _ => rfl)
    refine m_watch (by omega) hlo.1 hlo.2 hc hnd.1 hnd.2 hl2 (fun w3 hf3 hS => ?_)
    have hf : fr pMq w w3 := fr_then (fr_then (fr_up hf1 (by decide)) hf2 (by decide)) hf3 (by decide)
    have hp3 := (rLk_fr hl2 hf3 rfl (fun _ => rfl)).1
    have hr3 := rM_fr (by decide) hf hr
    rw [hT] at hp3 hS
    refine hP_loopF (fun m s => ∃ k, k + m = gRnd g (gLk g) ∧ s = (nI (cUn (bL (gLay g 0 (gW g) 99 0 (gLk g)) c) (gN1 g r 0 c) (gRnd g (gLk g)) (gLa g) k), nI k, w3)) (gRnd g (gLk g)) (by omega) ⟨0, by omega, rfl⟩ ?_
    rintro m s rec ⟨k, hkm, rfl⟩ ih
    simp only [f242_80_b30]
    by_cases c1 : k < gRnd g (gLk g)
    · simp (disch := first | omega | (simp only [fIn, fR, fC, Nat.reduceEqDiff, decide_false, decide_true, Bool.false_or, Bool.or_false, Bool.false_and, Bool.and_false, Bool.or_self, Bool.true_and, Bool.true_or, Bool.and_true, Bool.or_true, Bool.and_self]; done) | fail) only [hP_some, hP_let, hP_gd, hP_B, hP_if, reduceIte, q_lit, nI_add, pk_mul, q_lt, q_le, q_eq, q_cl, q_g, Bool.not_eq_true', decide_eq_false_iff_not, decide_eq_true_eq, q_div, q_rm, q_sub, q_m1, Nat.zero_add, Nat.add_zero, hp3, c1]
      refine m_delay (n := gN1 g r 0 c) hT7 hnd.1 hnd.2 c1 hS ?_
      have hB := dl_B (b := bL (gLay g 0 (gW g) 99 0 (gLk g)) c) (n := gN1 g r 0 c) (s := k) hT7 hnd.2
      have hb := eN_lt hB
      have hcu := cUn_le (bL (gLay g 0 (gW g) 99 0 (gLk g)) c) (gN1 g r 0 c) (gRnd g (gLk g)) (gLa g) k
      have e9 := oLate_N (la := gLa g) (N := 1000000) (o := dl (bL (gLay g 0 (gW g) 99 0 (gLk g)) c) (gN1 g r 0 c) (gRnd g (gLk g)) k) (by omega)
      unfold eN
      simp (disch := first | omega | (simp only [fIn, fR, fC, Nat.reduceEqDiff, decide_false, decide_true, Bool.false_or, Bool.or_false, Bool.false_and, Bool.and_false, Bool.or_self, Bool.true_and, Bool.true_or, Bool.and_true, Bool.or_true, Bool.and_self]; done) | fail) only [hP_some, hP_let, hP_gd, hP_B, hP_if, reduceIte, q_lit, nI_add, pk_mul, q_lt, q_le, q_eq, q_cl, q_g, Bool.not_eq_true', decide_eq_false_iff_not, decide_eq_true_eq, q_div, q_rm, q_sub, q_m1, Nat.zero_add, Nat.add_zero, rM_la hr3, e9]
      have next : hP (rec (nI (cUn (bL (gLay g 0 (gW g) 99 0 (gLk g)) c) (gN1 g r 0 c) (gRnd g (gLk g)) (gLa g) k + (if oLate (gLa g) (dl (bL (gLay g 0 (gW g) 99 0 (gLk g)) c) (gN1 g r 0 c) (gRnd g (gLk g)) k) = true then 1 else 0)), nI (k + 1), w3)) Q := ih (m - 1) _ (by omega) ⟨k + 1, by omega, rfl⟩
      by_cases c2 : oLate (gLa g) (dl (bL (gLay g 0 (gW g) 99 0 (gLk g)) c) (gN1 g r 0 c) (gRnd g (gLk g)) k) = true
      · rw [if_pos c2] at next ⊢
        exact next
      · rw [if_neg c2] at next ⊢
        exact next
    · have e : k = gRnd g (gLk g) := by omega
      simp (disch := first | omega | (simp only [fIn, fR, fC, Nat.reduceEqDiff, decide_false, decide_true, Bool.false_or, Bool.or_false, Bool.false_and, Bool.and_false, Bool.or_self, Bool.true_and, Bool.true_or, Bool.and_true, Bool.or_true, Bool.and_self]; done) | fail) only [hP_some, hP_let, hP_gd, hP_B, hP_if, reduceIte, q_lit, nI_add, pk_mul, q_lt, q_le, q_eq, q_cl, q_g, Bool.not_eq_true', decide_eq_false_iff_not, decide_eq_true_eq, q_div, q_rm, q_sub, q_m1, Nat.zero_add, Nat.add_zero, hp3, c1]
      rw [e]
      exact hq w3 hf hp3

def wSt (g : gS) (r : gR) : Nat → Nat
  | 0 => 0
  | k + 1 => wSt g r k + gTr g r (gCh g) k
def wLt (g : gS) (r : gR) : Nat → Nat
  | 0 => 0
  | k + 1 => wLt g r k + gTr g r (gCh g) k * gUn g r (g 5 k)
theorem wSt_le (g : gS) (r : gR) : ∀ k, wSt g r k ≤ 99 * k
  | 0 => Nat.le_refl _
  | k + 1 => by
    have := wSt_le g r k
    have h2 := gTr_b g r (gCh g) k
    show wSt g r k + gTr g r (gCh g) k ≤ _
    omega
theorem gUn_le {g : gS} (r : gR) (ho : gOk g) (c : Nat) : gUn g r c ≤ 108 := by
  have h := cUn_le (bL (gLay g 0 (gW g) 99 0 (gLk g)) c) (gN1 g r 0 c) (gRnd g (gLk g)) (gLa g) (gRnd g (gLk g))
  have := gRnd_T ho
  unfold gUn
  omega
theorem wLt_le {g : gS} (r : gR) (ho : gOk g) : ∀ k, wLt g r k ≤ 10692 * k
  | 0 => Nat.le_refl _
  | k + 1 => by
    have := wLt_le r ho k
    have h2 := gTr_b g r (gCh g) k
    have h3 := gUn_le r ho (g 5 k)
    have h4 : gTr g r (gCh g) k * gUn g r (g 5 k) ≤ 99 * 108 := Nat.mul_le_mul h2 h3
    show wLt g r k + gTr g r (gCh g) k * gUn g r (g 5 k) ≤ _
    omega
theorem c_allW {g : gS} {r : gR} {w : mW} {Q : Int32 → mW → Prop} (hr : rC g w) (hR : rCr r g w) (ho : gOk g) (hk : rOk r g) (hq : ∀ w', fr pN w w' → Q (nI (wSt g r (gSw g))) w') : hP (f86_23 w) Q := by
  have hsw := gOk_sw ho
  unfold f86_23
  refine hP_loopF (fun n s => ∃ k w1, k + n = gSw g ∧ s = (nI (wSt g r k), nI k, w1) ∧ fr pN w w1) (gSw g) (by omega) ⟨0, w, by omega, rfl, fr_refl⟩ ?_
  rintro n s rec ⟨k, w1, hkn, rfl, hf⟩ ih
  have hr1 := rC_fr (by decide) hf hr
  simp only [f86_23_b4]
  by_cases c1 : k < gSw g
  · simp (disch := first | omega | (simp only [fIn, fR, fC, Nat.reduceEqDiff, decide_false, decide_true, Bool.false_or, Bool.or_false, Bool.false_and, Bool.and_false, Bool.or_self, Bool.true_and, Bool.true_or, Bool.and_true, Bool.or_true, Bool.and_self]; done) | fail) only [hP_some, hP_let, hP_gd, hP_B, hP_if, reduceIte, q_lit, nI_add, pk_mul, q_lt, q_le, q_eq, q_cl, q_g, Bool.not_eq_true', decide_eq_false_iff_not, decide_eq_true_eq, q_div, q_rm, q_sub, q_m1, Nat.zero_add, Nat.add_zero, rC_sw hr1, c1]
    refine c_weight hr1 (rCr_fr (by decide) hf hR) ho hk c1 (fun w2 hf2 => ?_)
    simp (disch := first | omega | (simp only [fIn, fR, fC, Nat.reduceEqDiff, decide_false, decide_true, Bool.false_or, Bool.or_false, Bool.false_and, Bool.and_false, Bool.or_self, Bool.true_and, Bool.true_or, Bool.and_true, Bool.or_true, Bool.and_self]; done) | fail) only [q_lit, nI_add, pk_mul, q_lt, q_le, q_eq, q_cl, q_g, Bool.not_eq_true', decide_eq_false_iff_not, decide_eq_true_eq, q_div, q_rm, q_sub, q_m1, Nat.zero_add, Nat.add_zero]
    exact ih (n - 1) _ (by omega) ⟨k + 1, w2, by omega, rfl, fr_then hf hf2 (by decide)⟩
  · have e : k = gSw g := by omega
    simp (disch := first | omega | (simp only [fIn, fR, fC, Nat.reduceEqDiff, decide_false, decide_true, Bool.false_or, Bool.or_false, Bool.false_and, Bool.and_false, Bool.or_self, Bool.true_and, Bool.true_or, Bool.and_true, Bool.or_true, Bool.and_self]; done) | fail) only [hP_some, hP_let, hP_gd, hP_B, hP_if, reduceIte, q_lit, nI_add, pk_mul, q_lt, q_le, q_eq, q_cl, q_g, Bool.not_eq_true', decide_eq_false_iff_not, decide_eq_true_eq, q_div, q_rm, q_sub, q_m1, Nat.zero_add, Nat.add_zero, rC_sw hr1, c1]
    rw [e]
    exact hq w1 hf
theorem m_allW {g : gS} {r : gR} {w : mW} {Q : Int32 → mW → Prop} (hr : rM g w) (hR : rMr r g w) (ho : gOk g) (hk : rOk r g) (hm : wI w 80 66 = nI 0) (hq : ∀ w', fr ([103, 104], []) w w' → Q (nI (wSt g r (gSw g))) w') : hP (f284_80 w) Q := by
  have hsw := gOk_sw ho
  unfold f284_80
  refine hP_loopF (fun n s => ∃ k w1, k + n = gSw g ∧ s = (nI (wSt g r k), nI k, w1) ∧ fr ([103, 104], []) w w1) (gSw g) (by omega) ⟨0, w, by omega, rfl, fr_refl⟩ ?_
  rintro n s rec ⟨k, w1, hkn, rfl, hf⟩ ih
  have hr1 := rM_fr (by decide) hf hr
  simp only [f284_80_b4]
  by_cases c1 : k < gSw g
  · simp (disch := first | omega | (simp only [fIn, fR, fC, Nat.reduceEqDiff, decide_false, decide_true, Bool.false_or, Bool.or_false, Bool.false_and, Bool.and_false, Bool.or_self, Bool.true_and, Bool.true_or, Bool.and_true, Bool.or_true, Bool.and_self]; done) | fail) only [hP_some, hP_let, hP_gd, hP_B, hP_if, reduceIte, q_lit, nI_add, pk_mul, q_lt, q_le, q_eq, q_cl, q_g, Bool.not_eq_true', decide_eq_false_iff_not, decide_eq_true_eq, q_div, q_rm, q_sub, q_m1, Nat.zero_add, Nat.add_zero, rM_sw hr1, c1]
    refine m_trouble hr1 (rMr_fr (by decide) hf hR) ho hk c1 ((fr_rd hf rfl).trans hm) (fun w2 hf2 => ?_)
    simp (disch := first | omega | (simp only [fIn, fR, fC, Nat.reduceEqDiff, decide_false, decide_true, Bool.false_or, Bool.or_false, Bool.false_and, Bool.and_false, Bool.or_self, Bool.true_and, Bool.true_or, Bool.and_true, Bool.or_true, Bool.and_self]; done) | fail) only [q_lit, nI_add, pk_mul, q_lt, q_le, q_eq, q_cl, q_g, Bool.not_eq_true', decide_eq_false_iff_not, decide_eq_true_eq, q_div, q_rm, q_sub, q_m1, Nat.zero_add, Nat.add_zero]
    exact ih (n - 1) _ (by omega) ⟨k + 1, w2, by omega, rfl, fr_then hf hf2 (by decide)⟩
  · have e : k = gSw g := by omega
    simp (disch := first | omega | (simp only [fIn, fR, fC, Nat.reduceEqDiff, decide_false, decide_true, Bool.false_or, Bool.or_false, Bool.false_and, Bool.and_false, Bool.or_self, Bool.true_and, Bool.true_or, Bool.and_true, Bool.or_true, Bool.and_self]; done) | fail) only [hP_some, hP_let, hP_gd, hP_B, hP_if, reduceIte, q_lit, nI_add, pk_mul, q_lt, q_le, q_eq, q_cl, q_g, Bool.not_eq_true', decide_eq_false_iff_not, decide_eq_true_eq, q_div, q_rm, q_sub, q_m1, Nat.zero_add, Nat.add_zero, rM_sw hr1, c1]
    rw [e]
    exact hq w1 hf
theorem c_lateW {g : gS} {r : gR} {w : mW} {Q : Int32 → mW → Prop} (hr : rC g w) (hR : rCr r g w) (ho : gOk g) (hk : rOk r g) (hq : ∀ w', fr pTD w w' → Q (nI (wLt g r (gSw g))) w') : hP (f103_23 w) Q := by
  have hsw := gOk_sw ho
  have hn := gOk_n ho
  unfold f103_23
  refine hP_loopF (fun n s => ∃ k w1, k + n = gSw g ∧ s = (nI (wLt g r k), nI k, w1) ∧ fr pTD w w1) (gSw g) (by omega) ⟨0, w, by omega, rfl, fr_refl⟩ ?_
  rintro n s rec ⟨k, w1, hkn, rfl, hf⟩ ih
  have hr1 := rC_fr (by decide) hf hr
  simp only [f103_23_b4]
  by_cases c1 : k < gSw g
  · have hat := gOk_at ho k c1
    simp (disch := first | omega | (simp only [fIn, fR, fC, Nat.reduceEqDiff, decide_false, decide_true, Bool.false_or, Bool.or_false, Bool.false_and, Bool.and_false, Bool.or_self, Bool.true_and, Bool.true_or, Bool.and_true, Bool.or_true, Bool.and_self]; done) | fail) only [hP_some, hP_let, hP_gd, hP_B, hP_if, reduceIte, q_lit, nI_add, pk_mul, q_lt, q_le, q_eq, q_cl, q_g, Bool.not_eq_true', decide_eq_false_iff_not, decide_eq_true_eq, q_div, q_rm, q_sub, q_m1, Nat.zero_add, Nat.add_zero, rC_sw hr1, c1]
    refine c_weight hr1 (rCr_fr (by decide) hf hR) ho hk c1 (fun w2 hf2 => ?_)
    have hf3 : fr pTD w w2 := fr_then hf hf2 (by decide)
    have hr2 := rC_fr (by decide) hf3 hr
    simp (disch := first | omega | (simp only [fIn, fR, fC, Nat.reduceEqDiff, decide_false, decide_true, Bool.false_or, Bool.or_false, Bool.false_and, Bool.and_false, Bool.or_self, Bool.true_and, Bool.true_or, Bool.and_true, Bool.or_true, Bool.and_self]; done) | fail) only [rC_at hr2]
    refine ⟨by omega, c_unseen hr2 (rCr_fr (by decide) hf3 hR) ho hk (by omega) (fun w3 hf4 => ?_)⟩
    simp (disch := first | omega | (simp only [fIn, fR, fC, Nat.reduceEqDiff, decide_false, decide_true, Bool.false_or, Bool.or_false, Bool.false_and, Bool.and_false, Bool.or_self, Bool.true_and, Bool.true_or, Bool.and_true, Bool.or_true, Bool.and_self]; done) | fail) only [q_lit, nI_add, pk_mul, q_lt, q_le, q_eq, q_cl, q_g, Bool.not_eq_true', decide_eq_false_iff_not, decide_eq_true_eq, q_div, q_rm, q_sub, q_m1, Nat.zero_add, Nat.add_zero]
    exact ih (n - 1) _ (by omega) ⟨k + 1, w3, by omega, rfl, fr_then hf3 hf4 (by decide)⟩
  · have e : k = gSw g := by omega
    simp (disch := first | omega | (simp only [fIn, fR, fC, Nat.reduceEqDiff, decide_false, decide_true, Bool.false_or, Bool.or_false, Bool.false_and, Bool.and_false, Bool.or_self, Bool.true_and, Bool.true_or, Bool.and_true, Bool.or_true, Bool.and_self]; done) | fail) only [hP_some, hP_let, hP_gd, hP_B, hP_if, reduceIte, q_lit, nI_add, pk_mul, q_lt, q_le, q_eq, q_cl, q_g, Bool.not_eq_true', decide_eq_false_iff_not, decide_eq_true_eq, q_div, q_rm, q_sub, q_m1, Nat.zero_add, Nat.add_zero, rC_sw hr1, c1]
    rw [e]
    exact hq w1 hf
theorem op_risk (x1 : Int32) : opB Inv (f323_0_116 x1) (f288_80 x1) := by
  refine opB_g1 (f := f162_0 x1) (body' := fun w3 => (nB (f284_80   w3) fun v4 w5 => (if v4 = 0 then (some (x1, w5)) else (nB (f228_80   w5) fun v6 w7 => (if (wI w7 80 70) = 0 then (some (1, w7)) else (mLoop (f288_80_b45 x1 v4  ) nF (0, 0, w7))))))) (fun w => rfl) (fun w => rfl) (fun w => rfl) (fun w g r hp => ?_)
  obtain ⟨hM, hMr, hC, hCr, ho, hk, hl1, hcm, -⟩ := hp
  have hn := gOk_n ho
  have hsw := gOk_sw ho
  have hT := gRnd_T ho
  have hW := wSt_le g r (gSw g)
  have hL := wLt_le r ho (gSw g)
  have hprod : wSt g r (gSw g) * gRnd g (gLk g) ≤ 1188 * 108 := Nat.mul_le_mul (by omega) hT
  refine ⟨inR x1 (1 + 1), gdC_what (by decide), fun w1 h1 h2 => gdM_what (by decide) h2, ?_⟩
  rintro ⟨b, hb, rfl⟩
  refine ⟨nI (if wSt g r (gSw g) = 0 then b else if gRnd g (gLk g) = 0 then 1 else (if b = 0 then wLt g r (gSw g) else wSt g r (gSw g) * gRnd g (gLk g)) / Nat.gcd (wLt g r (gSw g)) (wSt g r (gSw g) * gRnd g (gLk g))), ?_, fun w1 hx => ?_⟩
  · simp only [hP_B]
    refine c_allW hC hCr ho hk (fun w2 hf2 => ?_)
    have hC2 := rC_fr (by decide) hf2 hC
    have hCr2 := rCr_fr (by decide) hf2 hCr
    simp (disch := first | omega | (simp only [fIn, fR, fC, Nat.reduceEqDiff, decide_false, decide_true, Bool.false_or, Bool.or_false, Bool.false_and, Bool.and_false, Bool.or_self, Bool.true_and, Bool.true_or, Bool.and_true, Bool.or_true, Bool.and_self]; done) | fail) only [hP_some, hP_let, hP_gd, hP_B, hP_if, reduceIte, q_lit, nI_add, pk_mul, q_lt, q_le, q_eq, q_cl, q_g, Bool.not_eq_true', decide_eq_false_iff_not, decide_eq_true_eq, q_div, q_rm, q_sub, q_m1, Nat.zero_add, Nat.add_zero]
    by_cases c0 : wSt g r (gSw g) = 0
    · rw [if_pos c0, if_pos c0]
      by_cases cb : b = 0
      · rw [if_pos cb, cb]; exact ⟨rfl, fr_up hf2 (by decide)⟩
      · rw [if_neg cb, show b = 1 by omega]; exact ⟨rfl, fr_up hf2 (by decide)⟩
    · rw [if_neg c0, if_neg c0]
      refine c_rounds hC2 ho ?_
      simp (disch := first | omega | (simp only [fIn, fR, fC, Nat.reduceEqDiff, decide_false, decide_true, Bool.false_or, Bool.or_false, Bool.false_and, Bool.and_false, Bool.or_self, Bool.true_and, Bool.true_or, Bool.and_true, Bool.or_true, Bool.and_self]; done) | fail) only [hP_some, hP_let, hP_gd, hP_B, hP_if, reduceIte, q_lit, nI_add, pk_mul, q_lt, q_le, q_eq, q_cl, q_g, Bool.not_eq_true', decide_eq_false_iff_not, decide_eq_true_eq, q_div, q_rm, q_sub, q_m1, Nat.zero_add, Nat.add_zero]
      by_cases c1 : gRnd g (gLk g) = 0
      · rw [if_pos c1, if_pos c1]; exact ⟨rfl, fr_up hf2 (by decide)⟩
      · rw [if_neg c1, if_neg c1]
        have hp0 : ¬ wSt g r (gSw g) * gRnd g (gLk g) = 0 := Nat.mul_ne_zero c0 c1
        refine c_lateW hC2 hCr2 ho hk (fun w3 hf3 => ?_)
        have hf : fr pQ w w3 := fr_then (fr_up hf2 (by decide)) hf3 (by decide)
        by_cases cb : b = 0
        · rw [if_pos cb, if_pos cb]
          refine c_upper (by omega) (by omega) ?_
          rw [if_neg hp0]
          exact ⟨rfl, hf⟩
        · rw [if_neg cb, if_neg cb]
          refine c_lower (by omega) (by omega) ?_
          rw [if_neg hp0]
          exact ⟨rfl, hf⟩
  · obtain ⟨hM1, hMr1, hcm1, h8⟩ := hx
    simp only [hP_B]
    refine m_allW hM1 hMr1 ho hk hcm1 (fun w2 hf2 => ?_)
    simp (disch := first | omega | (simp only [fIn, fR, fC, Nat.reduceEqDiff, decide_false, decide_true, Bool.false_or, Bool.or_false, Bool.false_and, Bool.and_false, Bool.or_self, Bool.true_and, Bool.true_or, Bool.and_true, Bool.or_true, Bool.and_self]; done) | fail) only [hP_some, hP_let, hP_gd, hP_B, hP_if, reduceIte, q_lit, nI_add, pk_mul, q_lt, q_le, q_eq, q_cl, q_g, Bool.not_eq_true', decide_eq_false_iff_not, decide_eq_true_eq, q_div, q_rm, q_sub, q_m1, Nat.zero_add, Nat.add_zero]
    by_cases c0 : wSt g r (gSw g) = 0
    · rw [if_pos c0, if_pos c0]; exact ⟨rfl, fr_up hf2 (by decide), (fr_rd hf2 rfl).trans h8⟩
    · rw [if_neg c0, if_neg c0]
      refine m_laysAll (rM_fr (by decide) hf2 hM1) ho (fun w3 hf3 hl3 => ?_)
      have hp3 := hl3.1
      rw [lay_T ho (gLk g) (Nat.le_refl _)] at hp3
      have hf13 : fr pMq w1 w3 := fr_then (fr_up hf2 (by decide)) hf3 (by decide)
      simp (disch := first | omega | (simp only [fIn, fR, fC, Nat.reduceEqDiff, decide_false, decide_true, Bool.false_or, Bool.or_false, Bool.false_and, Bool.and_false, Bool.or_self, Bool.true_and, Bool.true_or, Bool.and_true, Bool.or_true, Bool.and_self]; done) | fail) only [hP_some, hP_let, hP_gd, hP_B, hP_if, reduceIte, q_lit, nI_add, pk_mul, q_lt, q_le, q_eq, q_cl, q_g, Bool.not_eq_true', decide_eq_false_iff_not, decide_eq_true_eq, q_div, q_rm, q_sub, q_m1, Nat.zero_add, Nat.add_zero, hp3]
      by_cases c1 : gRnd g (gLk g) = 0
      · rw [if_pos c1, if_pos c1]; exact ⟨rfl, fr_up hf13 (by decide), (fr_rd hf13 rfl).trans h8⟩
      · rw [if_neg c1, if_neg c1]
        have hp0 : ¬ wSt g r (gSw g) * gRnd g (gLk g) = 0 := Nat.mul_ne_zero c0 c1
        refine hP_loopF (fun n s => ∃ k w4, k + n = gSw g ∧ s = (nI (wLt g r k), nI k, w4) ∧ fr pMq w1 w4 ∧ wI w4 80 70 = nI (gRnd g (gLk g))) (gSw g) (by omega) ⟨0, w3, by omega, rfl, hf13, hp3⟩ ?_
        rintro n s rec ⟨k, w4, hkn, rfl, hf4, hp4⟩ ih
        have hM4 := rM_fr (by decide) hf4 hM1
        simp only [f288_80_b45]
        by_cases c2 : k < gSw g
        · have hat := gOk_at ho k c2
          simp (disch := first | omega | (simp only [fIn, fR, fC, Nat.reduceEqDiff, decide_false, decide_true, Bool.false_or, Bool.or_false, Bool.false_and, Bool.and_false, Bool.or_self, Bool.true_and, Bool.true_or, Bool.and_true, Bool.or_true, Bool.and_self]; done) | fail) only [hP_some, hP_let, hP_gd, hP_B, hP_if, reduceIte, q_lit, nI_add, pk_mul, q_lt, q_le, q_eq, q_cl, q_g, Bool.not_eq_true', decide_eq_false_iff_not, decide_eq_true_eq, q_div, q_rm, q_sub, q_m1, Nat.zero_add, Nat.add_zero, rM_sw hM4, c2]
          refine m_trouble hM4 (rMr_fr (by decide) hf4 hMr1) ho hk c2 ((fr_rd hf4 rfl).trans hcm1) (fun w5 hf5 => ?_)
          have hf15 : fr pMq w1 w5 := fr_then hf4 hf5 (by decide)
          have hM5 := rM_fr (by decide) hf15 hM1
          simp (disch := first | omega | (simp only [fIn, fR, fC, Nat.reduceEqDiff, decide_false, decide_true, Bool.false_or, Bool.or_false, Bool.false_and, Bool.and_false, Bool.or_self, Bool.true_and, Bool.true_or, Bool.and_true, Bool.or_true, Bool.and_self]; done) | fail) only [rM_at hM5]
          refine ⟨by omega, m_unseenT hM5 (rMr_fr (by decide) hf15 hMr1) ho hk ((fr_rd hf15 rfl).trans hcm1) (by omega) (fun w6 hf6 hp6 => ?_)⟩
          simp (disch := first | omega | (simp only [fIn, fR, fC, Nat.reduceEqDiff, decide_false, decide_true, Bool.false_or, Bool.or_false, Bool.false_and, Bool.and_false, Bool.or_self, Bool.true_and, Bool.true_or, Bool.and_true, Bool.or_true, Bool.and_self]; done) | fail) only [q_lit, nI_add, pk_mul, q_lt, q_le, q_eq, q_cl, q_g, Bool.not_eq_true', decide_eq_false_iff_not, decide_eq_true_eq, q_div, q_rm, q_sub, q_m1, Nat.zero_add, Nat.add_zero]
          exact ih (n - 1) _ (by omega) ⟨k + 1, w6, by omega, rfl, fr_then hf15 hf6 (by decide), hp6⟩
        · have e : k = gSw g := by omega
          subst e
          simp (disch := first | omega | (simp only [fIn, fR, fC, Nat.reduceEqDiff, decide_false, decide_true, Bool.false_or, Bool.or_false, Bool.false_and, Bool.and_false, Bool.or_self, Bool.true_and, Bool.true_or, Bool.and_true, Bool.or_true, Bool.and_self]; done) | fail) only [hP_some, hP_let, hP_gd, hP_B, hP_if, reduceIte, q_lit, nI_add, pk_mul, q_lt, q_le, q_eq, q_cl, q_g, Bool.not_eq_true', decide_eq_false_iff_not, decide_eq_true_eq, q_div, q_rm, q_sub, q_m1, Nat.zero_add, Nat.add_zero, rM_sw hM4, c2, hp4]
          refine m_portion (by omega) (by omega) (by omega) (by omega) ?_
          exact ⟨rfl, fr_up hf4 (by decide), (fr_rd hf4 rfl).trans h8⟩
