/-! ===== the class: delays, seconds unseen ===== -/
section Q2
variable {g : gS} {r : gR} {w : mW}
abbrev pTD : fP := ([33, 50, 43, 44, 45, 53, 65, 66, 67, 68, 69, 70, 71, 72, 73, 74, 75, 76], [(42, 2)])
abbrev gDl (g : gS) (r : gR) (c s : Nat) : Option Nat := dl (bL (gLay g 0 (gW g) 99 0 (gLk g)) c) (gN1 g r 0 c) (gRnd g (gLk g)) s
theorem gDl_B {g : gS} (ho : gOk g) (r : gR) (c s : Nat) : oB (gDl g r c s) := by
  have hT := lay_T ho (gLk g) (Nat.le_refl _)
  exact dl_B (by rw [← hT]; exact (lay_ok ho).1) (gNd_b g r _ _ _ c).2
theorem gRnd_T {g : gS} (ho : gOk g) : gRnd g (gLk g) ≤ 108 := by
  have h1 := gRnd_le ho (gLk g) (Nat.le_refl _)
  have h2 := gOk_lk ho
  omega
theorem c_takeD {Q : Unit → mW → Prop} {c x3 : Nat} (hr : rC g w) (hR : rCr r g w) (ho : gOk g) (hk : rOk r g) (hc : c < 40) (hx : x3Ok x3) (hq : ∀ w', fr pTD w w' → (∀ a j, 65 ≤ a → a < 77 → ¬ a = x3 → wI w' a j = wI w a j) → (∀ s, s < gRnd g (gLk g) → wI w' x3 s = eC (gDl g r c s)) → Q () w') : hP (f100_23 (nI c) x3 w) Q := by
  have h3 := gOk_n ho
  have h4 := gOk_ch ho
  have h5 := gOk_mi ho
  have hnd := gNd_b g r (gCh g) (gMi g) 0 c
  have hT := lay_T ho (gLk g) (Nat.le_refl _)
  unfold f100_23
  simp only [hP_B, hP_some]
  refine c_take hr ho (fun w1 hf1 hl1 => ?_)
  have hr1 := rC_fr (by decide) hf1 hr
  rw [rC_ch hr1, rC_mi hr1]
  refine c_need (ex := 0) hr1 (rCr_fr (by decide) hf1 hR) ho hk hc (by omega) (by omega) (by omega) (.inr rfl) (fun w2 hf2 => ?_)
  have hl2 := rRd_fr hl1 hf2 rfl (fun _ => rfl) (fun _ => rfl)
  refine c_fill (gRl_ok ho 99 _ (Nat.le_refl _)) (by rw [lay_eq ho, hT]; exact gRnd_T ho) hl2 hc hnd.1 hnd.2 hx (fun w3 hf3 ho3 hs3 => ?_)
  rw [lay_eq ho, hT] at hs3
  refine hq w3 (fr_then (fr_then (fr_up hf1 (by decide)) hf2 (by decide)) hf3 (by decide)) (fun a j a1 a2 a3 => ?_) hs3
  rw [ho3 a j (by omega) a3, fr_rd hf2 (by simp [fIn, fR, fC]; omega), fr_rd hf1 (by simp [fIn, fR, fC]; omega)]
theorem c_unseen {Q : Int32 → mW → Prop} {c : Nat} (hr : rC g w) (hR : rCr r g w) (ho : gOk g) (hk : rOk r g) (hc : c < 40) (hq : ∀ w', fr pTD w w' → Q (nI (gUn g r c)) w') : hP (f102_23 (nI c) w) Q := by
  have hla := gOk_la ho
  have hT8 := gRnd_T ho
  unfold f102_23
  simp only [hP_B]
  refine c_takeD hr hR ho hk hc (.inl rfl) (fun w1 hf1 _ hs1 => ?_)
  have hr1 := rC_fr (by decide) hf1 hr
  refine c_rounds hr1 ho ?_
  refine hP_loopF (fun m s => ∃ k, k + m = gRnd g (gLk g) ∧ s = (nI (cUn (bL (gLay g 0 (gW g) 99 0 (gLk g)) c) (gN1 g r 0 c) (gRnd g (gLk g)) (gLa g) k), nI k, w1)) (gRnd g (gLk g)) (by omega) ⟨0, by omega, rfl⟩ ?_
  rintro m s rec ⟨k, hkm, rfl⟩ ih
  simp only [f102_23_b19]
  by_cases c1 : k < gRnd g (gLk g)
  · have hB := gDl_B ho r c k
    have hb := eC_lt hB
    have hcu := cUn_le (bL (gLay g 0 (gW g) 99 0 (gLk g)) c) (gN1 g r 0 c) (gRnd g (gLk g)) (gLa g) k
    have e9 := oLate_N (la := gLa g) (N := 2147483647) (o := gDl g r c k) (by omega)
    have h53 := hs1 k c1
    unfold eC at h53
    simp (disch := first | omega | (simp only [fIn, fR, fC, Nat.reduceEqDiff, decide_false, decide_true, Bool.false_or, Bool.or_false, Bool.false_and, Bool.and_false, Bool.or_self, Bool.true_and, Bool.true_or, Bool.and_true, Bool.or_true, Bool.and_self]; done) | fail) only [hP_some, hP_let, hP_gd, hP_B, hP_if, reduceIte, q_lit, nI_add, pk_mul, q_lt, q_le, q_eq, q_cl, q_g, Bool.not_eq_true', decide_eq_false_iff_not, decide_eq_true_eq, q_div, q_rm, q_sub, q_m1, Nat.zero_add, Nat.add_zero, c1, show k < 108 by omega, h53, rC_la hr1, e9, true_and]
    have next : hP (rec (nI (cUn (bL (gLay g 0 (gW g) 99 0 (gLk g)) c) (gN1 g r 0 c) (gRnd g (gLk g)) (gLa g) k + (if oLate (gLa g) (gDl g r c k) = true then 1 else 0)), nI (k + 1), w1)) Q := ih (m - 1) _ (by omega) ⟨k + 1, by omega, rfl⟩
    by_cases c2 : oLate (gLa g) (gDl g r c k) = true
    · rw [if_pos c2] at next ⊢
      exact next
    · rw [if_neg c2] at next ⊢
      exact next
  · have e : k = gRnd g (gLk g) := by omega
    simp (disch := first | omega | (simp only [fIn, fR, fC, Nat.reduceEqDiff, decide_false, decide_true, Bool.false_or, Bool.or_false, Bool.false_and, Bool.and_false, Bool.or_self, Bool.true_and, Bool.true_or, Bool.and_true, Bool.or_true, Bool.and_self]; done) | fail) only [hP_some, hP_let, hP_gd, hP_B, hP_if, reduceIte, q_lit, nI_add, pk_mul, q_lt, q_le, q_eq, q_cl, q_g, Bool.not_eq_true', decide_eq_false_iff_not, decide_eq_true_eq, q_div, q_rm, q_sub, q_m1, Nat.zero_add, Nat.add_zero, c1]
    rw [e]
    exact hq w1 hf1
theorem c_delayF {Q : Int32 → mW → Prop} {c s : Nat} (hr : rC g w) (hR : rCr r g w) (ho : gOk g) (hk : rOk r g) (hc : c < 40) (hs : s < gRnd g (gLk g)) (hq : ∀ w', fr pTD w w' → Q (eC (gDl g r c s)) w') : hP (f101_23 (nI c) (nI s) w) Q := by
  have hT8 := gRnd_T ho
  unfold f101_23
  simp only [hP_B]
  refine c_takeD hr hR ho hk hc (.inl rfl) (fun w1 hf1 _ hs1 => ?_)
  simp (disch := first | omega | (simp only [fIn, fR, fC, Nat.reduceEqDiff, decide_false, decide_true, Bool.false_or, Bool.or_false, Bool.false_and, Bool.and_false, Bool.or_self, Bool.true_and, Bool.true_or, Bool.and_true, Bool.or_true, Bool.and_self]; done) | fail) only [hP_some, hP_let, hP_gd, hP_B, hP_if, reduceIte, q_lit, nI_add, pk_mul, q_lt, q_le, q_eq, q_cl, q_g, Bool.not_eq_true', decide_eq_false_iff_not, decide_eq_true_eq, q_div, q_rm, q_sub, q_m1, Nat.zero_add, Nat.add_zero, Nat.not_lt_zero, show s < 108 by omega, hs1 s hs, true_and]
  exact hq w1 hf1
theorem c_worstCl {Q : Int32 → mW → Prop} {c : Nat} (hr : rC g w) (hR : rCr r g w) (ho : gOk g) (hk : rOk r g) (hc : c < 40) (hq : ∀ w', fr pA w w' → Q (eC (gWst (gN1 g r 0) (gLay g 0 (gW g) 99 0 (gLk g)) c)) w') : hP (f96_23 (nI c) w) Q := by
  have h3 := gOk_n ho
  have h4 := gOk_ch ho
  have h5 := gOk_mi ho
  have hnd := gNd_b g r (gCh g) (gMi g) 0 c
  unfold f96_23 f83_23
  simp only [hP_B, hP_some]
  refine c_take hr ho (fun w1 hf1 hl1 => ?_)
  have hr1 := rC_fr (by decide) hf1 hr
  rw [rC_ch hr1, rC_mi hr1]
  refine c_need (ex := 0) hr1 (rCr_fr (by decide) hf1 hR) ho hk hc (by omega) (by omega) (by omega) (.inr rfl) (fun w2 hf2 => ?_)
  have hl2 := rRd_fr hl1 hf2 rfl (fun _ => rfl) (fun _ => rfl)
  refine c_longest42 (gRl_ok ho 99 _ (Nat.le_refl _)) hl2 hc hnd.1 hnd.2 (fun w3 hf3 => ?_)
  rw [lay_eq ho]
  exact hq w3 (fr_then (fr_then (fr_up hf1 (by decide)) hf2 (by decide)) hf3 (by decide))
end Q2
