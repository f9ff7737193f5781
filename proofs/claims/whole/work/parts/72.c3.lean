/-! ===== THE CLASS: needs, weights ===== -/
section C3
variable {g : gS} {r : gR} {w : mW} {Q : Int32 → mW → Prop}
theorem c_has {i : Nat} {o : Option (List gO)} (hi : i < 6) (h : rAtC w i o) (hl : ∀ l, o = some l → 0 < l.length) (hq : Q (if o.isSome = true then nI 1 else nI 0) w) : hP (f64_29 (nI i) w) Q := by
  obtain ⟨a, b, h31, h32, ha, hb, h5⟩ := h
  unfold f64_29
  simp (disch := first | omega | (simp only [fIn, fR, fC, Nat.reduceEqDiff, decide_false, decide_true, Bool.false_or, Bool.or_false, Bool.false_and, Bool.and_false, Bool.or_self, Bool.true_and, Bool.true_or, Bool.and_true, Bool.or_true, Bool.and_self]; done) | fail) only [hP_some, hP_let, hP_gd, hP_B, hP_if, reduceIte, q_lit, nI_add, pk_mul, q_lt, q_le, q_eq, q_cl, q_g, Bool.not_eq_true', decide_eq_false_iff_not, decide_eq_true_eq, q_div, q_rm, q_sub, q_m1, Nat.zero_add, Nat.add_zero, h31, h32]
  refine ⟨hi, hi, ?_⟩
  cases o with
  | none =>
    have h5 : b ≤ a := h5
    rw [if_neg (by omega)]
    exact hq
  | some l =>
    have := hl l rfl
    have h6 := h5.1
    rw [if_pos (by omega)]
    exact hq
theorem oDep_pos {lo hi : Nat} {l : List gO} (h : oDep lo hi 0 l) : 0 < l.length := by
  cases l with
  | nil => cases h
  | cons o t => exact Nat.succ_pos _
abbrev pN : fP := ([33, 50], [])
theorem c_need {c ch mi ex : Nat} (hr : rC g w) (hR : rCr r g w) (ho : gOk g) (hk : rOk r g) (hc : c < 40) (hch : ch < 40) (hmi : mi ≤ 999) (hex : ex ≤ 40) (hce : 0 < gCnt g c (gSw g) ∨ ex = 0) (hq : ∀ w', fr pN w w' → Q (nI (gNd g r ch mi ex c)) w') : hP (f84_23 (nI c) (nI ch) (nI mi) (nI ex) w) Q := by
  have h4 := gOk_n ho
  have h1 := gOk_sw ho
  have h2 := gOk_ti ho
  have hF := gFar_b (g := g) hch hc
  have hG := gOk_glare ho c hc
  have h6 := gWho_lt g c (gSw g)
  have h7 : 2 ^ gSw g ≤ 2 ^ 12 := Nat.pow_le_pow_right (by decide) (by omega)
  have h8 := gCnt_le g c (gSw g)
  have e1 := nBts_who g c 12 (gSw g) (by omega)
  unfold f84_23
  simp only [hP_B]
  refine c_between hr ho hc hch ?_
  refine c_has (i := 0) (o := r 0) (by decide) hR.1 (fun l hl => oDep_pos (hk.1 l hl)) ?_
  cases e0 : r 0 with
  | none =>
    simp (disch := first | omega | (simp only [fIn, fR, fC, Nat.reduceEqDiff, decide_false, decide_true, Bool.false_or, Bool.or_false, Bool.false_and, Bool.and_false, Bool.or_self, Bool.true_and, Bool.true_or, Bool.and_true, Bool.or_true, Bool.and_self]; done) | fail) only [Option.isSome_none, Bool.false_eq_true, hP_some, hP_let, hP_gd, hP_B, hP_if, reduceIte, q_lit, nI_add, pk_mul, q_lt, q_le, q_eq, q_cl, q_g, Bool.not_eq_true', decide_eq_false_iff_not, decide_eq_true_eq, q_div, q_rm, q_sub, q_m1, Nat.zero_add, Nat.add_zero, rC_wd hr, rC_hi hr, rC_sw hr, rC_lk hr, rC_la hr, rC_ti hr, rC_ga hr, rC_ca hr, rC_ch hr, rC_mi hr, rC_deep hr, rC_glare hr, rC_skill hr, rC_case hr, rC_tro hr, rC_at hr, rC_lat hr, rC_las hr]
    refine ⟨hc, c_kept (by decide) (by decide) ?_⟩
    have h10 := hq w fr_refl
    unfold gNd at h10
    rw [e0] at h10
    exact h10
  | some l =>
    simp (disch := first | omega | (simp only [fIn, fR, fC, Nat.reduceEqDiff, decide_false, decide_true, Bool.false_or, Bool.or_false, Bool.false_and, Bool.and_false, Bool.or_self, Bool.true_and, Bool.true_or, Bool.and_true, Bool.or_true, Bool.and_self]; done) | fail) only [Option.isSome_some, hP_some, hP_let, hP_gd, hP_B, hP_if, reduceIte, q_lit, nI_add, pk_mul, q_lt, q_le, q_eq, q_cl, q_g, Bool.not_eq_true', decide_eq_false_iff_not, decide_eq_true_eq, q_div, q_rm, q_sub, q_m1, Nat.zero_add, Nat.add_zero, rd_nS, rd_nSa, rd_nSj, rd_ovn, rd_ovy, rC_wd hr, rC_hi hr, rC_sw hr, rC_lk hr, rC_la hr, rC_ti hr, rC_ga hr, rC_ca hr, rC_ch hr, rC_mi hr, rC_deep hr, rC_glare hr, rC_skill hr, rC_case hr, rC_tro hr, rC_at hr, rC_lat hr, rC_las hr, Nat.reduceEqDiff]
    refine ⟨hc, hc, ?_⟩
    have hf1 : fr pN w (nS (nS (nS w 50 0 (nI (g 1 c))) 50 1 (nI (g 2 c))) 50 2 (nI (gFar g ch c))) := fr_nS (fr_nS (fr_nS fr_refl rfl) rfl) rfl
    refine c_who (rC_fr (by decide) hf1 hr) ho hc ?_
    refine c_bits (by omega) ?_
    rw [e1]
    have n1 : ¬ gTi g < 1 := by omega
    have n2 : ¬ gTi g = 0 := by omega
    simp (disch := first | omega | (simp only [fIn, fR, fC, Nat.reduceEqDiff, decide_false, decide_true, Bool.false_or, Bool.or_false, Bool.false_and, Bool.and_false, Bool.or_self, Bool.true_and, Bool.true_or, Bool.and_true, Bool.or_true, Bool.and_self]; done) | fail) only [hP_some, hP_let, hP_gd, hP_B, hP_if, reduceIte, q_lit, nI_add, pk_mul, q_lt, q_le, q_eq, q_cl, q_g, Bool.not_eq_true', decide_eq_false_iff_not, decide_eq_true_eq, q_div, q_rm, q_sub, q_m1, Nat.zero_add, Nat.add_zero, rd_nS, rd_nSa, rd_nSj, rd_ovn, rd_ovy, rC_wd hr, rC_hi hr, rC_sw hr, rC_lk hr, rC_la hr, rC_ti hr, rC_ga hr, rC_ca hr, rC_ch hr, rC_mi hr, rC_deep hr, rC_glare hr, rC_skill hr, rC_case hr, rC_tro hr, rC_at hr, rC_lat hr, rC_las hr, n1, n2, not_false_eq_true, true_and]
    have hf2 : fr pN w (nS (nS (nS (nS (nS w 50 0 (nI (g 1 c))) 50 1 (nI (g 2 c))) 50 2 (nI (gFar g ch c))) 50 3 (nI (gCnt g c (gSw g) + ex))) 50 4 (nI (mi / gTi g))) := fr_nS (fr_nS hf1 rfl) rfl
    have hR2 := (rCr_fr (by decide) hf2 hR).1
    rw [e0] at hR2
    refine c_gives (V := gV g ch mi ex c) (lo := 0) (hi := 4) (by decide) hR2 (hk.1 l e0) (by decide) (fun k _ hk4 => ?_) (fun w3 hf3 => ?_)
    · have : k = 0 ∨ k = 1 ∨ k = 2 ∨ k = 3 ∨ k = 4 := by omega
      rcases this with rfl | rfl | rfl | rfl | rfl
      · show wI _ 50 4 = _; simp (disch := first | omega | (simp only [fIn, fR, fC, Nat.reduceEqDiff, decide_false, decide_true, Bool.false_or, Bool.or_false, Bool.false_and, Bool.and_false, Bool.or_self, Bool.true_and, Bool.true_or, Bool.and_true, Bool.or_true, Bool.and_self]; done) | fail) only [rd_nS, rd_nSa, rd_nSj, rd_ovn, rd_ovy]; rfl
      · show wI _ 50 0 = _; simp (disch := first | omega | (simp only [fIn, fR, fC, Nat.reduceEqDiff, decide_false, decide_true, Bool.false_or, Bool.or_false, Bool.false_and, Bool.and_false, Bool.or_self, Bool.true_and, Bool.true_or, Bool.and_true, Bool.or_true, Bool.and_self]; done) | fail) only [rd_nS, rd_nSa, rd_nSj, rd_ovn, rd_ovy]; rfl
      · show wI _ 50 1 = _; simp (disch := first | omega | (simp only [fIn, fR, fC, Nat.reduceEqDiff, decide_false, decide_true, Bool.false_or, Bool.or_false, Bool.false_and, Bool.and_false, Bool.or_self, Bool.true_and, Bool.true_or, Bool.and_true, Bool.or_true, Bool.and_self]; done) | fail) only [rd_nS, rd_nSa, rd_nSj, rd_ovn, rd_ovy]; rfl
      · show wI _ 50 2 = _; simp (disch := first | omega | (simp only [fIn, fR, fC, Nat.reduceEqDiff, decide_false, decide_true, Bool.false_or, Bool.or_false, Bool.false_and, Bool.and_false, Bool.or_self, Bool.true_and, Bool.true_or, Bool.and_true, Bool.or_true, Bool.and_self]; done) | fail) only [rd_nS, rd_nSa, rd_nSj, rd_ovn, rd_ovy]; rfl
      · show wI _ 50 3 = _
        simp (disch := first | omega | (simp only [fIn, fR, fC, Nat.reduceEqDiff, decide_false, decide_true, Bool.false_or, Bool.or_false, Bool.false_and, Bool.and_false, Bool.or_self, Bool.true_and, Bool.true_or, Bool.and_true, Bool.or_true, Bool.and_self]; done) | fail) only [rd_nS, rd_nSa, rd_nSj, rd_ovn, rd_ovy]
        show _ = nI (gCrd g ex c)
        unfold gCrd
        congr 1
        split <;> omega
    · refine c_kept (by decide) (by decide) ?_
      have h10 := hq w3 (fr_then hf2 hf3 (by decide))
      unfold gNd at h10
      rw [e0] at h10
      exact h10
theorem c_weight {s : Nat} (hr : rC g w) (hR : rCr r g w) (ho : gOk g) (hk : rOk r g) (hs : s < gSw g) (hq : ∀ w', fr pN w w' → Q (nI (gTr g r (gCh g) s)) w') : hP (f85_23 (nI s) w) Q := by
  have h4 := gOk_n ho
  have h1 := gOk_sw ho
  have h5 := gOk_ch ho
  have h9 := gOk_at ho s hs
  have h10 := gOk_skill ho s hs
  have hc : g 5 s < 40 := by omega
  have h6 := gWho_lt g (g 5 s) (gSw g)
  have h7 : 2 ^ gSw g ≤ 2 ^ 12 := Nat.pow_le_pow_right (by decide) (by omega)
  have h8 := gCnt_le g (g 5 s) (gSw g)
  have e1 := nBts_who g (g 5 s) 12 (gSw g) (by omega)
  unfold f85_23
  simp only [hP_B]
  refine c_has (i := 1) (o := r 1) (by decide) hR.2.1 (fun l hl => oDep_pos (hk.2.1 l hl)) ?_
  cases e0 : r 1 with
  | none =>
    simp (disch := first | omega | (simp only [fIn, fR, fC, Nat.reduceEqDiff, decide_false, decide_true, Bool.false_or, Bool.or_false, Bool.false_and, Bool.and_false, Bool.or_self, Bool.true_and, Bool.true_or, Bool.and_true, Bool.or_true, Bool.and_self]; done) | fail) only [Option.isSome_none, Bool.false_eq_true, hP_some, hP_let, hP_gd, hP_B, hP_if, reduceIte, q_lit, nI_add, pk_mul, q_lt, q_le, q_eq, q_cl, q_g, Bool.not_eq_true', decide_eq_false_iff_not, decide_eq_true_eq, q_div, q_rm, q_sub, q_m1, Nat.zero_add, Nat.add_zero, rC_wd hr, rC_hi hr, rC_sw hr, rC_lk hr, rC_la hr, rC_ti hr, rC_ga hr, rC_ca hr, rC_ch hr, rC_mi hr, rC_deep hr, rC_glare hr, rC_skill hr, rC_case hr, rC_tro hr, rC_at hr, rC_lat hr, rC_las hr]
    refine ⟨by omega, ?_⟩
    have h10 := hq w fr_refl
    unfold gTr at h10
    rw [e0] at h10
    have e9 : nCl 0 99 (nI (10 - g 3 s)) = 10 - g 3 s := by
      unfold nCl
      simp (disch := first | omega | (simp only [fIn, fR, fC, Nat.reduceEqDiff, decide_false, decide_true, Bool.false_or, Bool.or_false, Bool.false_and, Bool.and_false, Bool.or_self, Bool.true_and, Bool.true_or, Bool.and_true, Bool.or_true, Bool.and_self]; done) | fail) only [q_lit, nI_add, pk_mul, q_lt, q_le, q_eq, q_cl, q_g, Bool.not_eq_true', decide_eq_false_iff_not, decide_eq_true_eq, q_div, q_rm, q_sub, q_m1, Nat.zero_add, Nat.add_zero, Nat.not_lt_zero, show ¬ 99 < 10 - g 3 s by omega, reduceIte]
    dsimp only at h10
    rw [e9] at h10
    exact h10
  | some l =>
    simp (disch := first | omega | (simp only [fIn, fR, fC, Nat.reduceEqDiff, decide_false, decide_true, Bool.false_or, Bool.or_false, Bool.false_and, Bool.and_false, Bool.or_self, Bool.true_and, Bool.true_or, Bool.and_true, Bool.or_true, Bool.and_self]; done) | fail) only [Option.isSome_some, hP_some, hP_let, hP_gd, hP_B, hP_if, reduceIte, q_lit, nI_add, pk_mul, q_lt, q_le, q_eq, q_cl, q_g, Bool.not_eq_true', decide_eq_false_iff_not, decide_eq_true_eq, q_div, q_rm, q_sub, q_m1, Nat.zero_add, Nat.add_zero, rd_nS, rd_nSa, rd_nSj, rd_ovn, rd_ovy, rC_wd hr, rC_hi hr, rC_sw hr, rC_lk hr, rC_la hr, rC_ti hr, rC_ga hr, rC_ca hr, rC_ch hr, rC_mi hr, rC_deep hr, rC_glare hr, rC_skill hr, rC_case hr, rC_tro hr, rC_at hr, rC_lat hr, rC_las hr, Nat.reduceEqDiff]
    refine ⟨by omega, by omega, hc, hc, ?_⟩
    have hf1 : fr pN w (nS (nS (nS w 50 5 (nI (g 3 s))) 50 0 (nI (g 1 (g 5 s)))) 50 1 (nI (g 2 (g 5 s)))) := fr_nS (fr_nS (fr_nS fr_refl rfl) rfl) rfl
    refine c_between (rC_fr (by decide) hf1 hr) ho hc (by omega) ?_
    have hf2 : fr pN w (nS (nS (nS (nS w 50 5 (nI (g 3 s))) 50 0 (nI (g 1 (g 5 s)))) 50 1 (nI (g 2 (g 5 s)))) 50 2 (nI (gFar g (gCh g) (g 5 s)))) := fr_nS hf1 rfl
    refine c_who (rC_fr (by decide) hf2 hr) ho hc ?_
    refine c_bits (by omega) ?_
    rw [e1]
    have hf3 : fr pN w (nS (nS (nS (nS (nS w 50 5 (nI (g 3 s))) 50 0 (nI (g 1 (g 5 s)))) 50 1 (nI (g 2 (g 5 s)))) 50 2 (nI (gFar g (gCh g) (g 5 s)))) 50 3 (nI (gCnt g (g 5 s) (gSw g)))) := fr_nS hf2 rfl
    have hR2 := (rCr_fr (by decide) hf3 hR).2.1
    rw [e0] at hR2
    refine c_gives (V := gVs g (gCh g) s) (lo := 1) (hi := 5) (by decide) hR2 (hk.2.1 l e0) (by decide) (fun k hk1 hk4 => ?_) (fun w3 hf4 => ?_)
    · have : k = 1 ∨ k = 2 ∨ k = 3 ∨ k = 4 ∨ k = 5 := by omega
      rcases this with rfl | rfl | rfl | rfl | rfl
      · show wI _ 50 0 = _; simp (disch := first | omega | (simp only [fIn, fR, fC, Nat.reduceEqDiff, decide_false, decide_true, Bool.false_or, Bool.or_false, Bool.false_and, Bool.and_false, Bool.or_self, Bool.true_and, Bool.true_or, Bool.and_true, Bool.or_true, Bool.and_self]; done) | fail) only [rd_nS, rd_nSa, rd_nSj, rd_ovn, rd_ovy]; rfl
      · show wI _ 50 1 = _; simp (disch := first | omega | (simp only [fIn, fR, fC, Nat.reduceEqDiff, decide_false, decide_true, Bool.false_or, Bool.or_false, Bool.false_and, Bool.and_false, Bool.or_self, Bool.true_and, Bool.true_or, Bool.and_true, Bool.or_true, Bool.and_self]; done) | fail) only [rd_nS, rd_nSa, rd_nSj, rd_ovn, rd_ovy]; rfl
      · show wI _ 50 2 = _; simp (disch := first | omega | (simp only [fIn, fR, fC, Nat.reduceEqDiff, decide_false, decide_true, Bool.false_or, Bool.or_false, Bool.false_and, Bool.and_false, Bool.or_self, Bool.true_and, Bool.true_or, Bool.and_true, Bool.or_true, Bool.and_self]; done) | fail) only [rd_nS, rd_nSa, rd_nSj, rd_ovn, rd_ovy]; rfl
      · show wI _ 50 3 = _
        simp (disch := first | omega | (simp only [fIn, fR, fC, Nat.reduceEqDiff, decide_false, decide_true, Bool.false_or, Bool.or_false, Bool.false_and, Bool.and_false, Bool.or_self, Bool.true_and, Bool.true_or, Bool.and_true, Bool.or_true, Bool.and_self]; done) | fail) only [rd_nS, rd_nSa, rd_nSj, rd_ovn, rd_ovy]
        show _ = nI (gCrd g 0 (g 5 s))
        unfold gCrd
        congr 1
        split <;> omega
      · show wI _ 50 5 = _; simp (disch := first | omega | (simp only [fIn, fR, fC, Nat.reduceEqDiff, decide_false, decide_true, Bool.false_or, Bool.or_false, Bool.false_and, Bool.and_false, Bool.or_self, Bool.true_and, Bool.true_or, Bool.and_true, Bool.or_true, Bool.and_self]; done) | fail) only [rd_nS, rd_nSa, rd_nSj, rd_ovn, rd_ovy]; rfl
    · refine c_kept (by decide) (by decide) ?_
      have h10 := hq w3 (fr_then hf3 hf4 (by decide))
      unfold gTr at h10
      rw [e0] at h10
      exact h10
end C3
