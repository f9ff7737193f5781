/-! ===== OPERATIONS: lengths ===== -/
section LEM
variable {g : gS} {r : gR} {w : mW} {Q : Int32 → mW → Prop}
def oBl (g : gS) (w w2 : mW) : Prop := oBs g w w2 ∧ ∀ k, k < gLk g → wI w2 100 (12 + k) = nI (g 6 k)
theorem oBl_then {w w2 w3 : mW} {p : fP} (h : oBl g w w2) (hf : fr p w2 w3) (hp : fLe p pOM = true) (h1 : fOff [100, 101] [] p = true) : oBl g w w3 := ⟨oBs_then h.1 hf hp h1, fun k hk => (fr_rd hf (fOff_row h1 (by decide) _)).trans (h.2 k hk)⟩
theorem oBl_set {w w2 : mW} {j : Nat} {v : Int32} (ho : gOk g) (hj : j < gLk g) (h : oBl g w w2) : oBl g w (nS w2 100 (24 + j) v) := by
  have hlk := gOk_lk ho
  have hsw := gOk_sw ho
  obtain ⟨⟨a1, a2, a3, a4, a5⟩, a6⟩ := h
  refine ⟨⟨fr_nS a1 rfl, fun i hi => (rd_nSa (by decide)).trans (a2 i hi), fun i hi => ?_, ?_, ?_⟩, fun k hk => ?_⟩
  · rw [rd_nSj (by omega)]; exact a3 i hi
  · rw [rd_nSj (by omega)]; exact a4
  · rw [rd_nSj (by omega)]; exact a5
  · rw [rd_nSj (by omega)]; exact a6 k hk
theorem lnO_step {n x m : Nat} (h : m < n) : lnO n x (n - 1 - m) = 1 + x / 4 ^ m % 4 := by
  unfold lnO
  rw [show n - 1 - (n - 1 - m) = m by omega]
theorem m_lengths (hM : rM g w) (hR : rMr r g w) (ho : gOk g) (hk : rOk r g) (hm : wI w 80 66 = nI 0) (hl1 : ∀ k, k < gLk g → 1 ≤ g 7 k) (h5 : gLk g ≤ 5) (hq : ∀ w', fr ([100, 101, 103, 104, 105, 106, 107, 108, 109], [(80, 70), (80, 71)]) w w' → (∀ i, i < 38 → wI w' 100 i = wI w 100 i) → wI w' 80 71 = nI (gLk g) → (∀ i, i < gLk g → wI w' 108 i = nI (lnO (gLk g) (lnB g r (4 ^ gLk g)).1 i)) → hP (f235 (eN (lnB g r (4 ^ gLk g)).2) w') Q) : hP (f180_80_100_101 w) (fun _ w3 => hP (mLoop f259_80_b32 nF (nI 1, nI 0, w3)) Q) := by
  have hn := gOk_n ho
  have hsw := gOk_sw ho
  have hp4 := p4_le h5
  have hp0 : 0 < 4 ^ gLk g := Nat.pow_pos (by decide)
  have hB := fun k => bst_B (f := fun x => lnF g r x) (fun x => lnF_B (r := r) ho hl1 x) k
  refine m_copies (L := 38) (fun _ _ _ => rfl) (by decide) (by decide) (fun w1 hf1 hc1 => ?_)
  have hB1 : oBl g w w1 := ⟨⟨fr_up hf1 (by decide), hc1, fun i hi => (fr_rd hf1 rfl).trans (rM_at hM i hi), (fr_rd hf1 rfl).trans (rM_ch hM), (fr_rd hf1 rfl).trans (rM_mi hM)⟩, fun k hk => (fr_rd hf1 rfl).trans (rM_lat hM k hk)⟩
  have hn4 : ∀ w2, oBl g w w2 → wI w2 80 4 = nI (gLk g) := fun w2 h => (fr_rd h.1.1 rfl).trans (rM_lk hM)
  refine hP_loopF (fun n s => ∃ k, k + n = gLk g ∧ s = (nI (4 ^ k), nI k, w1)) (gLk g) (by omega) ⟨0, by omega, rfl⟩ ?_
  rintro n s rec ⟨k, hkn, rfl⟩ ih
  simp only [f259_80_b32]
  by_cases c1 : k < gLk g
  · rw [if_pos (by rw [hn4 w1 hB1, q_lt (by omega) (by omega)]; exact c1), hP_let]
    refine ih (n - 1) _ (by omega) ⟨k + 1, by omega, ?_⟩
    rw [Nat.pow_succ, ← pk_mul, ← nI_add]
    rfl
  · have e : k = gLk g := by omega
    subst e
    rw [if_neg (by rw [hn4 w1 hB1, q_lt (by omega) (by omega)]; exact c1)]
    refine hP_loopF (fun n s => ∃ k w2, k + n = 4 ^ gLk g ∧ s = ((if k = 0 then -nI 1 else eN (lnB g r k).2), nI k, w2) ∧ oBl g w w2 ∧ (¬ k = 0 → ∀ i, i < gLk g → wI w2 108 i = nI (lnO (gLk g) (lnB g r k).1 i))) (4 ^ gLk g) (by omega) ⟨0, w1, by omega, rfl, hB1, fun h => absurd rfl h⟩ ?_
    rintro n s rec1 ⟨k, w2, hkn, rfl, hB2, h108⟩ ih1
    simp only [f259_80_b54]
    by_cases c2 : k < 4 ^ gLk g
    · rw [if_pos (by rw [q_lt (by omega) (by omega)]; exact c2), hP_let, hn4 w2 hB2]
      have ed : nI (gLk g) - 1 = dn9 (gLk g) := by
        unfold dn9
        by_cases h0 : gLk g = 0
        · rw [if_pos h0, h0]; decide
        · rw [if_neg h0, q_lit, q_sub (by omega)]
      rw [ed]
      refine hP_loopF (fun m s => ∃ w3, m ≤ gLk g ∧ s = (nI (k / 4 ^ (gLk g - m)), dn9 m, w3) ∧ oBl g w w3 ∧ (∀ j, m ≤ j → j < gLk g → wI w3 100 (24 + j) = nI (lnO (gLk g) k j)) ∧ ∀ i, wI w3 108 i = wI w2 108 i) (gLk g) (by omega) ⟨w2, Nat.le_refl _, by rw [Nat.sub_self, Nat.pow_zero, Nat.div_one], hB2, fun j h1 h2 => by omega, fun _ => rfl⟩ ?_
      rintro m s rec2 ⟨w3, hm1, rfl, hB3, hd3, h8⟩ ih2
      simp only [f259_80_b70]
      cases m with
      | zero =>
        rw [if_pos (show dn9 0 < 0 by decide), hP_B]
        have hA := gLn_A g k
        have hs3 : snM (gLn g k) (gLn g k) w3 100 0 := by
          refine ⟨fun i hi => ?_, fun j hj => ?_, fun j hj => ?_, hB3.1.2.2.2.1, hB3.1.2.2.2.2⟩
          · rw [Nat.zero_add]; exact hB3.1.2.2.1 i hi
          · exact hB3.2 j hj
          · have hj : j < gLk g := hj
            rw [gLn7 g k hj]; exact hd3 j (Nat.zero_le _) hj
        have hM3 : rM (gLn g k) w3 := rM_of (by decide) hB3.1.1 hM hA.pl hs3
        have hR3 : rMr r (gLn g k) w3 := rMr_of (by decide) hB3.1.1 hR hA.pl
        refine m_worstAll (ex := 0) hM3 hR3 (gLn_ok k ho hl1) (rOk_g (gPl_ga hA.pl) hk) ((fr_rd hB3.1.1 rfl).trans hm) (fun w4 hf4 _ => ?_)
        have hB4 : oBl g w w4 := oBl_then hB3 hf4 (by decide) (by decide)
        have hd4 : ∀ j, j < gLk g → wI w4 100 (24 + j) = nI (lnO (gLk g) k j) := fun j hj => (fr_rd hf4 rfl).trans (hd3 j (Nat.zero_le _) hj)
        have e0 : lnB g r (k + 1) = if oLt (lnF g r k) (lnB g r k).2 = true then (k, lnF g r k) else lnB g r k := rfl
        -- this one is the best: its row is kept
        have keep : lnB g r (k + 1) = (k, lnF g r k) → hP (mLoop (f259_80_b129 (nI (4 ^ gLk g)) (eN (lnF g r k)) (nI k) rec1) nF (0, w4)) Q := by
          intro eb
          refine hP_loopF (fun m s => ∃ j w5, j + m = gLk g ∧ s = (nI j, w5) ∧ oBl g w w5 ∧ (∀ i, i < gLk g → wI w5 100 (24 + i) = nI (lnO (gLk g) k i)) ∧ ∀ i, i < j → wI w5 108 i = nI (lnO (gLk g) k i)) (gLk g) (by omega) ⟨0, w4, by omega, rfl, hB4, hd4, fun i hi => absurd hi (Nat.not_lt_zero _)⟩ ?_
          rintro m s rec3 ⟨j, w5, hjm, rfl, hB5, hd5, h85⟩ ih3
          simp only [f259_80_b129]
          by_cases c3 : j < gLk g
          · simp (disch := first | omega | (simp only [fIn, fR, fC, Nat.reduceEqDiff, decide_false, decide_true, Bool.false_or, Bool.or_false, Bool.false_and, Bool.and_false, Bool.or_self, Bool.true_and, Bool.true_or, Bool.and_true, Bool.or_true, Bool.and_self]; done) | fail) only [hP_some, hP_let, hP_gd, hP_B, hP_if, reduceIte, q_lit, nI_add, pk_mul, q_lt, q_le, q_eq, q_cl, q_g, Bool.not_eq_true', decide_eq_false_iff_not, decide_eq_true_eq, q_div, q_rm, q_sub, q_m1, Nat.zero_add, Nat.add_zero, hn4 w5 hB5, c3, hd5 j c3]
            have f8 : fr ([108], []) w5 (nS w5 108 j (nI (lnO (gLk g) k j))) := fr_nS fr_refl rfl
            refine ⟨by omega, by omega, ih3 (m - 1) _ (by omega) ⟨j + 1, _, by omega, rfl, oBl_then hB5 f8 (by decide) (by decide), fun i hi => (rd_nSa (by decide)).trans (hd5 i hi), fun i hi => ?_⟩⟩
            by_cases e2 : i = j
            · rw [e2, rd_nS]
            · rw [rd_nSj e2]; exact h85 i (by omega)
          · have e2 : j = gLk g := by omega
            subst e2
            rw [if_neg (by rw [hn4 w5 hB5, q_lt (by omega) (by omega)]; exact c3)]
            refine ih1 (n - 1) _ (by omega) ⟨k + 1, w5, by omega, ?_, hB5, fun _ i hi => ?_⟩
            · rw [if_neg (by omega), eb, ← nI_add]; rfl
            · rw [eb]; exact h85 i hi
        show hP (if (if k = 0 then -nI 1 else eN (lnB g r k).2) = (-1) then _ else if eN (lnF g r k) < (if k = 0 then -nI 1 else eN (lnB g r k).2) then _ else _) Q
        by_cases ck : k = 0
        · have eb : lnB g r (k + 1) = (k, lnF g r k) := by rw [ck]; exact bst_one (fun x => lnF g r x)
          rw [if_pos ck, if_pos (show -nI 1 = (-1 : Int32) by decide)]
          exact keep eb
        · rw [if_neg ck]
          have ene : ¬ eN (lnB g r k).2 = (-1 : Int32) := by
            have : oN 1000000 (lnB g r k).2 < 1000001 := eN_lt (hB k)
            have h9 := q_neq (a := oN 1000000 (lnB g r k).2) (by omega)
            unfold eN
            rw [show (nI (oN 1000000 (lnB g r k).2) = (-1 : Int32)) = False from h9]
            exact fun h => h
          rw [if_neg ene]
          have e9 : (eN (lnF g r k) < eN (lnB g r k).2) = (oLt (lnF g r k) (lnB g r k).2 = true) := eN_oLt (lnF_B ho hl1 k) (hB k)
          by_cases c3 : oLt (lnF g r k) (lnB g r k).2 = true
          · rw [if_pos (by rw [e9]; exact c3)]
            rw [if_pos c3] at e0
            exact keep e0
          · rw [if_neg (by rw [e9]; exact c3)]
            rw [if_neg c3] at e0
            refine ih1 (n - 1) _ (by omega) ⟨k + 1, w4, by omega, ?_, hB4, fun _ i hi => ?_⟩
            · rw [if_neg (by omega), e0, ← nI_add]; rfl
            · rw [e0, fr_rd hf4 rfl, h8 i]; exact h108 ck i hi
      | succ m =>
        have hd : dn9 (m + 1) = nI m := by unfold dn9; rw [if_neg (by omega)]; rfl
        have hx4 : k / 4 ^ (gLk g - (m + 1)) < 2147483648 := by
          have := Nat.div_le_self k (4 ^ (gLk g - (m + 1)))
          omega
        rw [hd, if_neg (by rw [q_lit, q_lt (by omega) (by omega)]; omega), hP_gd, hP_let, hP_let]
        have e24 : (24 : Int32) + nI m = nI (24 + m) := by rw [q_lit, nI_add]
        have ev : (1 : Int32) + nRm (nI (k / 4 ^ (gLk g - (m + 1)))) 4 = nI (lnO (gLk g) k m) := by
          have e8 := lnO_step (n := gLk g) (x := k) (m := gLk g - (m + 1)) (by omega)
          rw [show gLk g - 1 - (gLk g - (m + 1)) = m by omega] at e8
          rw [e8]
          show nI 1 + nRm _ (nI 4) = _
          rw [q_rm hx4 (by decide) (by decide), nI_add]
        rw [e24, ev, q_cl (by omega)]
        refine ⟨by rw [q_g (by omega)]; omega, ih2 m _ (by omega) ⟨nS w3 100 (24 + m) (nI (lnO (gLk g) k m)), by omega, ?_, oBl_set ho (by omega) hB3, fun j h1 h2 => ?_, fun i => (rd_nSa (by decide)).trans (h8 i)⟩⟩
        · have e7 : nI (k / 4 ^ (gLk g - (m + 1))) / 4 = nI (k / 4 ^ (gLk g - m)) := by
            show nI _ / nI 4 = _
            rw [q_div hx4 (by decide) (by decide), Nat.div_div_eq_div_mul, ← Nat.pow_succ, show (gLk g - (m + 1)).succ = gLk g - m by omega]
          rw [e7]
          have e6 : nI m + (-1 : Int32) = dn9 m := dn9_s m
          rw [e6]
        · by_cases e2 : j = m
          · rw [e2, rd_nS]
          · rw [rd_nSj (by omega)]; exact hd3 j (by omega) h2
    · have e : k = 4 ^ gLk g := by omega
      rw [if_neg (by rw [q_lt (by omega) (by omega)]; exact c2), hP_B]
      have k0 : ¬ k = 0 := by omega
      refine m_copies (L := 38) (fun _ _ _ => rfl) (by decide) (by decide) (fun w10 hf10 hc10 => ?_)
      rw [hP_let, hP_B, if_neg k0]
      have hf11 : fr ([100, 101, 103, 104, 105, 106, 107, 108, 109], [(80, 70), (80, 71)]) w (nS w10 80 71 (wI w10 80 4)) := fr_nS (fr_then (fr_up hB2.1.1 (by decide)) hf10 (by decide)) rfl
      subst e
      refine hP_mono (hq _ hf11 (fun i hi => ?_) ?_ (fun i hi => ?_)) (fun v4 w5 h5 => by rw [hP_some]; exact h5)
      · rw [rd_nSa (by decide), hc10 i hi]; exact hB2.1.2.1 i hi
      · rw [rd_nS, fr_rd hf10 rfl]; exact hn4 w2 hB2
      · rw [rd_nSa (by decide), fr_rd hf10 rfl]; exact h108 k0 i hi
theorem op_lengths : opA Inv f142_0 f259_80 := by
  intro w hI
  have hI0 := hI
  obtain ⟨g, r, h, D, H, hp, hh, hD, hH, hi, ht, hm, hrw⟩ := hI
  obtain ⟨hM, hMr, hC, hCr, ho, hk, ⟨hl1, hl2⟩, hcm, hti⟩ := id hp
  have hlk := gOk_lk ho
  unfold f142_0
  by_cases c : 5 < gLk g
  · rw [if_pos (by rw [rC_lk hC, q_lit, q_lt (by omega) (by omega)]; exact c), hP_some]
    refine ⟨⟨rfl, fun _ => rfl⟩, ?_⟩
    unfold f259_80
    have f0 : fr ([], [(80, 0)]) w (nS w 80 0 0) := fr_nS fr_refl rfl
    rw [hP_let, if_pos (by rw [rd_nSj (by decide), rM_lk hM, q_lit, q_lt (by omega) (by omega)]; exact c), hP_some]
    exact ⟨rfl, Inv_fr (by decide) f0 hI0, sK_fr f0 (by decide), fr_cT f0⟩
  · have hvB := bst_B (f := fun x => lnF g r x) (fun x => lnF_B (r := r) ho hl1 x) (4 ^ gLk g)
    rw [if_neg (by rw [rC_lk hC, q_lit, q_lt (by omega) (by omega)]; exact c), hP_B]
    refine c_lengths hC hCr ho hk hl1 (by omega) (fun w1 hf1 hb1 => ?_)
    rw [hP_let, hP_B]
    refine c_orNone hvB ?_
    rw [hP_some]
    have hC1 := rC_fr (by decide) hf1 hC
    rw [rC_lk hC1]
    have hf2 : fr ([33, 50, 51, 52, 43, 44, 79], [(23, 7), (42, 2), (42, 4), (42, 5), (42, 6), (0, 15)]) w (nS w1 0 15 (nI (gLk g))) := fr_nS (fr_up hf1 (by decide)) rfl
    refine ⟨sK_fr hf2 (by decide), ?_⟩
    unfold f259_80
    have hf3 : fr ([33, 50, 51, 52, 43, 44, 79], [(23, 7), (42, 2), (42, 4), (42, 5), (42, 6), (0, 15), (80, 0)]) w (nS (nS w1 0 15 (nI (gLk g))) 80 0 0) := fr_nS (fr_up hf2 (by decide)) rfl
    have hM3 := rM_fr (by decide) hf3 hM
    rw [hP_let, if_neg (by rw [rM_lk hM3, q_lit, q_lt (by omega) (by omega)]; exact c), hP_B]
    refine m_lengths hM3 (rMr_fr (by decide) hf3 hMr) ho hk ((fr_rd hf3 rfl).trans hcm) hl1 (by omega) (fun w4 hf4 h100 h71 hb4 => ?_)
    refine m_shown hvB ?_
    have hE : fr ([33, 50, 51, 52, 43, 44, 79, 100, 101, 103, 104, 105, 106, 107, 108, 109], [(23, 7), (42, 2), (42, 4), (42, 5), (42, 6), (0, 15), (80, 0), (80, 70), (80, 71)]) w w4 := fr_then (fr_up hf3 (by decide)) hf4 (by decide)
    have e100 : ∀ i, i < 38 → wI w4 100 i = wI w 100 i := fun i hi => (h100 i hi).trans (fr_rd hf3 rfl)
    have hsw := gOk_sw ho
    refine ⟨rfl, ⟨g, r, h, D, H, iPool_of (by decide) hE hp (gPl_refl g) (snOk_g ho hl1) ?_ ?_, iHist_fr (by decide) hE hh, iDum_fr (by decide) hE hD, iHd_fr (by decide) hE hH, iImg_fr (by decide) hE hi, iText_fr (by decide) hE ht, iMisc_fr (by decide) hE hm, .inr ⟨gLk g, hlk, h71, ?_, fun i hi => ?_⟩⟩, sK_fr hE (by decide), fr_cT hE⟩
    · exact mv_snM (a := 100) (fun i hi => by rw [Nat.zero_add]; exact e100 i hi) hsw hlk (snM_rM hM)
    · exact snC_rC (rC_fr (by decide) hE hC)
    · rw [fr_rd hf4 rfl, rd_nSa (by decide), rd_nS]
    · rw [hb4 i hi]
      have : wI w4 79 i = wI w1 79 i := by rw [fr_rd hf4 rfl, rd_nSa (by decide), rd_nSa (by decide)]
      rw [this, hb1 i hi]
end LEM
