/-! ===== OPERATIONS: swap, without, blind ===== -/
theorem fr_set {R : List Nat} {K : List (Nat × Nat)} {c : Nat × Nat} {w w' : mW} {v : Int32} (h : fr (R, c :: K) w w') (h2 : wJ w' c.1 c.2 = wJ w c.1 c.2) : fr (R, K) (nS w c.1 c.2 v) (nS w' c.1 c.2 v) := by
  have h3 : fr (R, c :: K) w (nS w' c.1 c.2 v) := fr_nS h (by simp [fIn, fC])
  have h4 : fr (R, c :: K) (nS w c.1 c.2 v) (nS w' c.1 c.2 v) := by
    refine ⟨fun a j hp => ?_, fun a j hp => h.2.1 a j hp, h.2.2⟩
    rw [h3.1 a j hp]
    have : ¬ (a = c.1 ∧ j = c.2) := by
      rintro ⟨rfl, rfl⟩
      simp [fIn, fC] at hp
    by_cases e : a = c.1
    · subst e
      rw [rd_nSj (fun e2 => this ⟨rfl, e2⟩)]
    · rw [rd_nSa e]
  exact fr_backC h4 (by rw [rd_nS, rd_nS]) h2
/-- rules without the word tired don't see the minutes -/
theorem oEv_no {V V' : Nat → Int32} (hv : ∀ k, ¬ k = 0 → V k = V' k) : ∀ (l : List gO) (st : List Int32), ¬ (2, 0) ∈ l → oEv V l st = oEv V' l st
  | [], _, _ => rfl
  | o :: t, st, h => by
    show oEv V t (oOne V o st) = oEv V' t (oOne V' o st)
    have e : oOne V o st = oOne V' o st := by
      unfold oOne
      by_cases c2 : o.1 = 2
      · have : ¬ o.2 = 0 := by
          intro e2
          apply h
          have : o = (2, 0) := by obtain ⟨a, b⟩ := o; dsimp only at c2 e2; rw [c2, e2]
          rw [← this]
          exact List.mem_cons_self
        rw [hv o.2 this]
      · simp only [c2, reduceIte]
    rw [e]
    exact oEv_no hv t _ (fun hm => h (List.mem_cons_of_mem _ hm))
theorem gNd_no {g : gS} {r : gR} (h : ∀ l, r 0 = some l → ¬ (2, 0) ∈ l) (ch mi mi' ex c : Nat) : gNd g r ch mi ex c = gNd g r ch mi' ex c := by
  unfold gNd
  cases e : r 0 with
  | none => rfl
  | some l =>
    dsimp only
    unfold oVal9
    rw [oEv_no (V' := gV g ch mi' ex c) (fun k hk => by unfold gV; rw [if_neg hk, if_neg hk]) l [] (h l e)]
theorem gWall_no {g : gS} {r : gR} (h : ∀ l, r 0 = some l → ¬ (2, 0) ∈ l) (ch mi mi' ex lf : Nat) : gWall g r ch mi ex lf = gWall g r ch mi' ex lf := by
  unfold gWall
  rw [show gNd g r ch mi ex = gNd g r ch mi' ex from funext fun c => gNd_no h ch mi mi' ex c]
/-- the class's loop over minutes, by a step -/
theorem c_lastMin {g : gS} {r : gR} {w w0 : mW} {Q : Int32 → mW → Prop} {st v : Nat} (hr : rC g w) (hR : rCr r g w) (ho : gOk g) (hk : rOk r g) (hst : 1 ≤ st) (hst2 : st ≤ 1000) (hf0 : fr pA w w0) (hl0 : rRd 42 43 44 w0 (gRl g 99 (gLk g))) (hv : v ≤ 1000) (hlow : ∀ k, k < v → k % st = 0 → ¬ oLate (gLa g) (gWall g r (gCh g) k 0 99) = true) (hup : v < 1000 → v % st = 0 ∧ oLate (gLa g) (gWall g r (gCh g) v 0 99) = true) (hq : ∀ w', fr pA w w' → Q (dn9 v) w') : hP (mLoop (f112_23_b37 (nI st)) nF (nI 0, w0)) Q := by
  have hn := gOk_n ho
  have hch := gOk_ch ho
  have hla := gOk_la ho
  refine hP_loopF (fun n s => ∃ k w1, k + n = 2000 ∧ k % st = 0 ∧ (k ≤ v ∨ v = 1000) ∧ s = (nI k, w1) ∧ fr pA w w1 ∧ rRd 42 43 44 w1 (gRl g 99 (gLk g))) 2000 (by omega) ⟨0, w0, by omega, Nat.zero_mod _, .inl (Nat.zero_le _), rfl, hf0, hl0⟩ ?_
  rintro n s rec ⟨k, w1, hkn, hks, hkv, rfl, hf, hl⟩ ih
  have hr1 := rC_fr (by decide) hf hr
  simp only [f112_23_b37]
  by_cases c1 : 999 < k
  · have e : v = 1000 := by omega
    subst e
    simp (disch := first | omega | (simp only [fIn, fR, fC, Nat.reduceEqDiff, decide_false, decide_true, Bool.false_or, Bool.or_false, Bool.false_and, Bool.and_false, Bool.or_self, Bool.true_and, Bool.true_or, Bool.and_true, Bool.or_true, Bool.and_self]; done) | fail) only [hP_some, hP_let, hP_gd, hP_B, hP_if, reduceIte, q_lit, nI_add, pk_mul, q_lt, q_le, q_eq, q_cl, q_g, Bool.not_eq_true', decide_eq_false_iff_not, decide_eq_true_eq, q_div, q_rm, q_sub, q_m1, Nat.zero_add, Nat.add_zero, c1]
    exact hq w1 hf
  · simp (disch := first | omega | (simp only [fIn, fR, fC, Nat.reduceEqDiff, decide_false, decide_true, Bool.false_or, Bool.or_false, Bool.false_and, Bool.and_false, Bool.or_self, Bool.true_and, Bool.true_or, Bool.and_true, Bool.or_true, Bool.and_self]; done) | fail) only [hP_some, hP_let, hP_gd, hP_B, hP_if, reduceIte, q_lit, nI_add, pk_mul, q_lt, q_le, q_eq, q_cl, q_g, Bool.not_eq_true', decide_eq_false_iff_not, decide_eq_true_eq, q_div, q_rm, q_sub, q_m1, Nat.zero_add, Nat.add_zero, c1, rC_ch hr1]
    refine c_worstG hr1 (rCr_fr (by decide) hf hR) ho hk (by omega) (by omega) (by omega) hl (fun w3 hf3 hl3 => ?_)
    have hC3 := rC_fr (by decide) hf3 hr1
    have hb := eC_lt (wall_B (r := r) ho (gCh g) k 0)
    unfold eC
    simp (disch := first | omega | (simp only [fIn, fR, fC, Nat.reduceEqDiff, decide_false, decide_true, Bool.false_or, Bool.or_false, Bool.false_and, Bool.and_false, Bool.or_self, Bool.true_and, Bool.true_or, Bool.and_true, Bool.or_true, Bool.and_self]; done) | fail) only [hP_some, hP_let, hP_gd, hP_B, hP_if, reduceIte, q_lit, nI_add, pk_mul, q_lt, q_le, q_eq, q_cl, q_g, Bool.not_eq_true', decide_eq_false_iff_not, decide_eq_true_eq, q_div, q_rm, q_sub, q_m1, Nat.zero_add, Nat.add_zero, rC_la hC3, oLate_N (show gLa g < 2147483647 by omega)]
    by_cases c2 : oLate (gLa g) (gWall g r (gCh g) k 0 99) = true
    · have e : k = v := by
        apply Classical.byContradiction
        intro h9
        exact hlow k (by omega) hks c2
      rw [if_pos c2]
      subst e
      have h9 := hq w3 (fr_then hf hf3 (by decide))
      unfold dn9 at h9
      by_cases c3 : k = 0
      · rw [if_pos c3] at h9 ⊢
        exact h9
      · rw [if_neg c3] at h9 ⊢
        exact h9
    · rw [if_neg c2]
      have e : ¬ k = v := fun e => by
        subst e
        by_cases h9 : k < 1000
        · exact c2 (hup h9).2
        · omega
      refine ih (n - st) _ (by omega) ⟨k + st, w3, by omega, by rw [Nat.add_mod_right]; exact hks, ?_, rfl, fr_then hf hf3 (by decide), hl3⟩
      by_cases h9 : v = 1000
      · exact .inr h9
      · left
        have hvs := (hup (by omega)).1
        have hlt : k < v := by omega
        apply Classical.byContradiction
        intro h10
        have h11 := Nat.sub_mod_eq_zero_of_mod_eq (hvs.trans hks.symm)
        rw [Nat.mod_eq_of_lt (by omega)] at h11
        omega
theorem op_swap : opA Inv f146_0 f263_80 := by
  refine opA_ask (fun w g r hp hI => ?_)
  obtain ⟨hM, hMr, hC, hCr, ho, hk, hl1, hcm, hti⟩ := hp
  have hn := gOk_n ho
  have hch := gOk_ch ho
  have hmi := gOk_mi ho
  have hla := gOk_la ho
  have htr := gOk_ti ho
  have hsw := gOk_sw ho
  have hlk := gOk_lk ho
  obtain ⟨v, hv, hlow, hup⟩ := first_ex (fun x => x % gTi g = 0 ∧ oLate (gLa g) (gWall g r (gCh g) x 0 99) = true) 1000
  refine ⟨dn9 v, ?_, fun w1 hf1 => ?_⟩
  · unfold f146_0 f112_23
    simp only [hP_B, hP_some]
    refine c_take hC ho (fun w2 hf2 hl2 => ?_)
    have h29 : wI w2 29 5 = wI w 29 5 := fr_rd hf2 rfl
    have hC2 := rC_fr (by decide) hf2 hC
    simp (disch := first | omega | (simp only [fIn, fR, fC, Nat.reduceEqDiff, decide_false, decide_true, Bool.false_or, Bool.or_false, Bool.false_and, Bool.and_false, Bool.or_self, Bool.true_and, Bool.true_or, Bool.and_true, Bool.or_true, Bool.and_self]; done) | fail) only [hP_some, hP_let, hP_gd, hP_B, hP_if, reduceIte, q_lit, nI_add, pk_mul, q_lt, q_le, q_eq, q_cl, q_g, Bool.not_eq_true', decide_eq_false_iff_not, decide_eq_true_eq, q_div, q_rm, q_sub, q_m1, Nat.zero_add, Nat.add_zero, h29]
    rcases hti with h5 | ⟨h5, hno⟩
    · simp (disch := first | omega | (simp only [fIn, fR, fC, Nat.reduceEqDiff, decide_false, decide_true, Bool.false_or, Bool.or_false, Bool.false_and, Bool.and_false, Bool.or_self, Bool.true_and, Bool.true_or, Bool.and_true, Bool.or_true, Bool.and_self]; done) | fail) only [h5, q_lit, nI_add, pk_mul, q_lt, q_le, q_eq, q_cl, q_g, Bool.not_eq_true', decide_eq_false_iff_not, decide_eq_true_eq, q_div, q_rm, q_sub, q_m1, Nat.zero_add, Nat.add_zero, Nat.reduceEqDiff, reduceIte, rC_ti hC2, q_max, show max 1 (gTi g) = gTi g by omega]
      exact c_lastMin (v := v) hC hCr ho hk (by omega) (by omega) (fr_up hf2 (by decide)) hl2 hv (fun k hk h6 h7 => hlow k hk ⟨h6, h7⟩) hup (fun w3 hf3 => ⟨rfl, fr_up hf3 (by decide)⟩)
    · simp (disch := first | omega | (simp only [fIn, fR, fC, Nat.reduceEqDiff, decide_false, decide_true, Bool.false_or, Bool.or_false, Bool.false_and, Bool.and_false, Bool.or_self, Bool.true_and, Bool.true_or, Bool.and_true, Bool.or_true, Bool.and_self]; done) | fail) only [h5, q_lit, nI_add, pk_mul, q_lt, q_le, q_eq, q_cl, q_g, Bool.not_eq_true', decide_eq_false_iff_not, decide_eq_true_eq, q_div, q_rm, q_sub, q_m1, Nat.zero_add, Nat.add_zero, reduceIte]
      have e : ∀ x, gWall g r (gCh g) x 0 99 = gWall g r (gCh g) 0 0 99 := fun x => gWall_no hno _ _ _ _ _
      refine c_lastMin (v := v) hC hCr ho hk (by omega) (by omega) (fr_up hf2 (by decide)) hl2 hv (fun k hk h6 h7 => ?_) (fun h6 => ?_) (fun w3 hf3 => ⟨rfl, fr_up hf3 (by decide)⟩)
      · have : k = 0 := by omega
        subst this
        exact hlow 0 hk ⟨Nat.zero_mod _, h7⟩
      · have h7 := hup h6
        have : v = 0 := by
          apply Classical.byContradiction
          intro h8
          refine hlow 0 (by omega) ⟨Nat.zero_mod _, ?_⟩
          rw [e] at h7
          exact h7.2
        subst this
        exact ⟨Nat.zero_mod _, h7.2⟩
  · have hM1 := rM_fr (g := g) pQ_rM hf1 hM
    have hMr1 := rMr_fr pQ_rM hf1 hMr
    have hcm1 : wI w1 80 66 = nI 0 := (fr_rd hf1 (by decide +kernel)).trans hcm
    unfold f263_80
    simp only [hP_let]
    have e37 : wI (nS w1 80 0 0) 100 37 = nI (gMi g) := by rw [rd_nSa (by decide)]; exact rM_mi hM1
    rw [e37]
    refine hP_loopF (fun n s => ∃ k w2 b, k + n = 1001 ∧ (k < 1000 → k ≤ v ∧ b = dn9 k) ∧ (1000 ≤ k → k = 1000 ∧ b = dn9 v) ∧ s = (b, nI k, w2) ∧ fr ([103, 104, 105, 106, 107], [(100, 37), (80, 0), (80, 70)]) w1 w2 ∧ wJ w2 100 37 = wJ w1 100 37) 1001 (by omega) ⟨0, nS w1 80 0 0, dn9 0, by omega, fun _ => ⟨Nat.zero_le _, rfl⟩, fun h => by omega, rfl, fr_nS fr_refl rfl, rfl⟩ ?_
    rintro n s rec ⟨k, w2, b, hkn, hlo, hhi, rfl, hf2, hj⟩ ih
    simp only [f263_80_b17, f263_80_j52]
    by_cases c1 : 999 < k
    · obtain ⟨-, rfl⟩ := hhi (by omega)
      simp (disch := first | omega | (simp only [fIn, fR, fC, Nat.reduceEqDiff, decide_false, decide_true, Bool.false_or, Bool.or_false, Bool.false_and, Bool.and_false, Bool.or_self, Bool.true_and, Bool.true_or, Bool.and_true, Bool.or_true, Bool.and_self]; done) | fail) only [hP_some, hP_let, hP_gd, hP_B, hP_if, reduceIte, q_lit, nI_add, pk_mul, q_lt, q_le, q_eq, q_cl, q_g, Bool.not_eq_true', decide_eq_false_iff_not, decide_eq_true_eq, q_div, q_rm, q_sub, q_m1, Nat.zero_add, Nat.add_zero, show 999 < k from c1]
      refine ⟨fr_up (fr_backC (R := [103, 104, 105, 106, 107]) (c := (100, 37)) (K := [(80, 0), (80, 70)]) (fr_nS hf2 rfl) (rd_nS.trans (rM_mi hM1).symm) ((rd_nS_J).trans hj)) (by decide), trivial⟩
    · obtain ⟨hkv, rfl⟩ := hlo (by omega)
      have hs := fr_set (c := (100, 37)) (v := nI k) hf2 hj
      have hM3 : rM (mUp g 0 9 k) (nS w2 100 37 (nI k)) := rM_fr (by decide) hs (rM_mi2 hM1 hsw hlk k)
      have hMr3 : rMr r (mUp g 0 9 k) (nS w2 100 37 (nI k)) := rMr_fr (by decide) hs (rMr_g rfl (rMr_nS hMr1))
      have hf3 : fr ([103, 104, 105, 106, 107], [(100, 37), (80, 0), (80, 70)]) w1 (nS w2 100 37 (nI k)) := fr_nS hf2 rfl
      have hj3 : wJ (nS w2 100 37 (nI k)) 100 37 = wJ w1 100 37 := (rd_nS_J).trans hj
      have hcm3 : wI (nS w2 100 37 (nI k)) 80 66 = nI 0 := (fr_rd hf3 (by decide)).trans hcm1
      have hm9 : k % gTi g < 1000 := Nat.lt_of_le_of_lt (Nat.mod_le _ _) (by omega)
      have hti3 : wI (nS w2 100 37 (nI k)) 80 6 = nI (gTi g) := by have h9 := rM_ti hM3; exact h9
      have yes : ∀ w4, fr ([103, 104, 105, 106, 107], [(100, 37), (80, 0), (80, 70)]) w1 w4 → wJ w4 100 37 = wJ w1 100 37 → ¬ (k % gTi g = 0 ∧ oLate (gLa g) (gWall g r (gCh g) k 0 99) = true) → hP (rec (nI k, nI (k + 1), w4)) (fun b w2 => fr pQ w1 w2 ∧ b = dn9 v) := by
        intro w4 h1 h2 h3
        have hne : ¬ k = v := fun e => by subst e; exact h3 (hup (by omega))
        refine ih (n - 1) _ (by omega) ⟨k + 1, w4, nI k, by omega, fun h => ⟨by omega, ?_⟩, fun h => ⟨by omega, ?_⟩, rfl, h1, h2⟩
        · unfold dn9; rw [if_neg (by omega)]; rfl
        · unfold dn9; rw [if_neg (by omega), show v - 1 = k by omega]
      simp (disch := first | omega | (simp only [fIn, fR, fC, Nat.reduceEqDiff, decide_false, decide_true, Bool.false_or, Bool.or_false, Bool.false_and, Bool.and_false, Bool.or_self, Bool.true_and, Bool.true_or, Bool.and_true, Bool.or_true, Bool.and_self]; done) | fail) only [hP_some, hP_let, hP_gd, hP_B, hP_if, reduceIte, q_lit, nI_add, pk_mul, q_lt, q_le, q_eq, q_cl, q_g, Bool.not_eq_true', decide_eq_false_iff_not, decide_eq_true_eq, q_div, q_rm, q_sub, q_m1, Nat.zero_add, Nat.add_zero, show ¬ 999 < k from c1, hti3, Nat.reduceEqDiff, Nat.reduceAdd]
      refine ⟨by omega, ?_⟩
      by_cases c2 : k % gTi g = 0
      · rw [if_pos c2]
        refine m_worstAll hM3 hMr3 (gOk_mi2 ho (by omega)) (rOk_g rfl hk) hcm3 (fun w4 hf4 _ => ?_)
        have eW : gWall (mUp g 0 9 k) r (gCh (mUp g 0 9 k)) (gMi (mUp g 0 9 k)) 0 99 = gWall g r (gCh g) k 0 99 := (gAg_mi g k).wall r (gCh g) k 0 99
        rw [eW]
        have hM4 := rM_fr (g := mUp g 0 9 k) (by decide) hf4 hM3
        have hla4 : wI w4 80 5 = nI (gLa g) := by have h9 := rM_la hM4; exact h9
        have hb := eN_lt (wall_B (r := r) ho (gCh g) k 0)
        have hf5 : fr ([103, 104, 105, 106, 107], [(100, 37), (80, 0), (80, 70)]) w1 w4 := fr_then hf3 hf4 (by decide)
        have hj5 : wJ w4 100 37 = wJ w1 100 37 := (fr_rdJ hf4 rfl).trans hj3
        unfold eN
        simp (disch := first | omega | (simp only [fIn, fR, fC, Nat.reduceEqDiff, decide_false, decide_true, Bool.false_or, Bool.or_false, Bool.false_and, Bool.and_false, Bool.or_self, Bool.true_and, Bool.true_or, Bool.and_true, Bool.or_true, Bool.and_self]; done) | fail) only [hP_some, hP_let, hP_gd, hP_B, hP_if, reduceIte, q_lit, nI_add, pk_mul, q_lt, q_le, q_eq, q_cl, q_g, Bool.not_eq_true', decide_eq_false_iff_not, decide_eq_true_eq, q_div, q_rm, q_sub, q_m1, Nat.zero_add, Nat.add_zero, hla4, oLate_N (show gLa g < 1000000 by omega)]
        by_cases c3 : oLate (gLa g) (gWall g r (gCh g) k 0 99) = true
        · rw [if_pos c3]
          have e : k = v := by
            apply Classical.byContradiction
            intro h9
            exact hlow k (by omega) ⟨c2, c3⟩
          refine ih (1001 - 1000) _ (by omega) ⟨1000, w4, dn9 k, by omega, fun h => by omega, fun h => ⟨rfl, by rw [e]⟩, rfl, hf5, hj5⟩
        · rw [if_neg c3]
          exact yes w4 hf5 hj5 (fun h => c3 h.2)
      · rw [if_neg c2]
        exact yes _ hf3 hj3 (fun h => c2 h.1)
