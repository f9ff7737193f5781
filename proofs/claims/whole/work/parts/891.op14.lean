/-! ===== OPERATIONS: chair, minutes, swim, lasts, change ===== -/
def InvX (g : gS) (r : gR) (h : List gS) (D : List Nat) (H : List (Nat × Nat)) (w : mW) : Prop := iPool g r w ∧ iHist g h w 102 63 38 34 ∧ iDum D w 74 110 34 39 ∧ iHd g H w 75 111 34 40 41 ∧ iImg g w ∧ iText w ∧ iMisc w ∧ iRow w
theorem act_end {g g' : gS} {r : gR} {h : List gS} {D : List Nat} {H : List (Nat × Nat)} {w w' u w2 W : mW} {kd wh was : Nat} (hX : InvX g r h D H w) (hp' : gPl g g') (hs' : snOk g' g') (hu : unB g kd wh was) (he : snEq g g (unE kd wh was g'))
    (f1 : fr ([38], [(34, 5)]) w w') (c1 : wI w' 34 5 = nI (nxt h g).length) (c2 : ∀ j i, j + nxO h < h.length → i < 3 → wI w' 38 (3 * j + i) = wI w 38 (3 * (j + nxO h) + i)) (c3 : ∀ j, j + nxO h = h.length → wI w' 38 (3 * j) = nI kd ∧ wI w' 38 (3 * j + 1) = nI wh ∧ wI w' 38 (3 * j + 2) = nI was)
    (f2 : fr ([35, 36, 37], [(34, 1), (34, 4), (80, 0), (116, 0)]) w' u) (f3 : fr ([102], [(80, 63)]) u w2) (m1 : wI w2 80 63 = nI (nxt h g).length) (m2 : ∀ j i, j + nxO h < h.length → i < 38 → wI w2 102 (38 * j + i) = wI u 102 (38 * (j + nxO h) + i)) (m3 : ∀ j i, j + nxO h = h.length → i < 38 → wI w2 102 (38 * j + i) = wI u 100 i)
    (f4 : fr ([100], []) w2 W) (sM : snM g' g' W 100 0) (sC : snC g' g' W 34 35 36 37) : Inv W ∧ sK w W ∧ cT 1 w W := by
  obtain ⟨hp, hh, hD, hH, hi, ht, hm, hrw⟩ := hX
  obtain ⟨hM, hMr, hC, hCr, ho, hk9, ⟨hl1, hl2⟩, hcm, hti⟩ := id hp
  have fA : fr ([38, 102, 35, 36, 37, 100], [(34, 5), (80, 63), (34, 1), (34, 4), (80, 0), (116, 0)]) w u := fr_then (fr_up f1 (by decide)) f2 (by decide)
  have fB : fr ([35, 36, 37, 100, 102], [(80, 63), (34, 1), (34, 4), (80, 0), (116, 0)]) w' W := fr_then (fr_then (fr_up f2 (by decide)) f3 (by decide)) f4 (by decide)
  have fE : fr ([38, 102, 35, 36, 37, 100], [(34, 5), (80, 63), (34, 1), (34, 4), (80, 0), (116, 0)]) w W := fr_then (fr_then fA f3 (by decide)) f4 (by decide)
  have fC : fr ([38, 35, 36, 37], [(34, 5), (34, 1), (34, 4), (80, 0), (116, 0)]) w u := fr_then (fr_up f1 (by decide)) f2 (by decide)
  refine ⟨⟨g', r, nxt h g, D, H, iPool_of (by decide) fE hp hp' hs' sM sC, ?_, iDum_fr (by decide) fE hD, iHd_g hp' (iHd_fr (by decide) fE hH), iImg_g hp' (iImg_fr (by decide) fE hi), iText_fr (by decide) fE ht, iMisc_fr (by decide) fE hm, iRow_fr (by decide) fE hrw⟩, sK_fr fE (by decide), fr_cT fE⟩
  refine hist_next hh hM hp' (snOk_g ho hl1) hu he ?_ (fun j i hj hi => ?_) (fun j hj => ?_) ?_ (fun j i hj hi => ?_) (fun j i hj hi => ?_) (gOk_sw ho) (gOk_lk ho)
  · rw [fr_rd fB rfl]; exact c1
  · rw [fr_rd fB rfl]; exact c2 j i hj hi
  · rw [fr_rd fB rfl, fr_rd fB rfl, fr_rd fB rfl]; exact c3 j hj
  · rw [fr_rd f4 rfl]; exact m1
  · rw [fr_rd f4 rfl, m2 j i hj hi]; exact fr_rd fC rfl
  · rw [fr_rd f4 rfl, m3 j i hj hi]; exact fr_rd fC rfl
theorem opB_mut {A : mW → Option ((Unit ⊕ Nat) × mW)} {A' : mW → Option (Int32 × mW)} {body : mW → Option ((Int32 ⊕ Nat) × mW)} {body' : mW → Option (Int32 × mW)} {f : mW → Option ((Int32 ⊕ Nat) × mW)} {F m : mW → Option (Int32 × mW)}
    (hF : ∀ w, F w = nXh (f w) (fun v w2 => nLet (nSJ w2 116 0 v.toInt64) fun w3 => some (0, w3)) (fun x w6 => if x = 1 then (fun w4 => some (1, w4)) w6 else none))
    (hf : ∀ w, f w = nXb (A w) fun _ w2 => body w2) (hm : ∀ w, m w = nLet (nS w 80 0 0) fun w1 => nB (A' w1) fun v w3 => if v = 0 then some (0, w3) else body' w3)
    (h : ∀ w g r h D H, InvX g r h D H w → ∃ P1 : Prop, gdC A w P1 ∧ (∀ w1, rM g w1 → wI w1 80 0 = nI 0 → gdM A' w1 P1) ∧ (P1 → ∃ V, hP (body w) (fun v w1 => v = .inl V ∧ sK w w1 ∧ rM g w1 ∧ hP (body' (nS (nSJ w1 116 0 V.toInt64) 80 0 (nI 0))) (fun b w2 => b = V ∧ wI w2 80 0 = nI 0 ∧ wJ w2 116 0 = V.toInt64 ∧ Inv w2 ∧ sK w w2 ∧ cT 1 w w2)))) : opB Inv F m := by
  intro w hI
  have hI0 := hI
  obtain ⟨g, r, hh, D, H, hX⟩ := hI0
  obtain ⟨P1, hA, hA', hb⟩ := h w g r hh D H hX
  obtain ⟨⟨hM, -⟩, -⟩ := hX
  rw [hF, hP_xh, hf, hP_xb]
  by_cases c1 : P1
  · obtain ⟨V, b1⟩ := hb c1
    refine hA.1 c1 _ ?_
    refine hP_mono b1 (fun v w1 hv => ?_)
    obtain ⟨rfl, hs, hM1, b2⟩ := hv
    dsimp only
    rw [hP_let, hP_some]
    refine ⟨hs, ?_⟩
    have hMx : rM g (nS (nSJ w1 116 0 V.toInt64) 80 0 (nI 0)) := rM_fr (p := ([], [(80, 0), (116, 0)])) (by decide) (fr_nS (fr_nSJ fr_refl rfl) rfl) hM1
    rw [hm, hP_let, hP_B]
    refine (hA' _ hMx rd_nS).1 c1 _ ?_
    rw [if_neg (by decide)]
    refine hP_mono b2 (fun b w2 hv => ?_)
    obtain ⟨rfl, h0, hj, hr⟩ := hv
    refine ⟨h0, fun _ => ?_, hr⟩
    rw [hj]
    exact lgc_refl _
  · refine hA.2 c1 _ ?_
    dsimp only
    rw [if_pos rfl, hP_some]
    have hMx : rM g (nS (nThr w) 80 0 (nI 0)) := rM_cg (w := w) (fun a ha j => ?_) (fun x hx => ?_) hM
    · have hf9 : fr ([], [(80, 0)]) (nThr w) (nS (nS (nThr w) 80 0 (nI 0)) 80 0 (nI 1)) := fr_nS (fr_nS fr_refl rfl) rfl
      have hq : fq ([], [(80, 0)]) w (nS (nS (nThr w) 80 0 (nI 0)) 80 0 (nI 1)) := fq_then (fq_thr (q := ([], [(80, 0)])) fr_refl (by decide)) hf9
      have hs : ∀ j, wI (nThr w) 2000000 j = wI w 2000000 j := fun j => rfl
      refine ⟨⟨rfl, hs⟩, ?_⟩
      rw [hm, hP_let, hP_B]
      refine (hA' _ hMx rd_nS).2 c1 _ ?_
      rw [if_pos (show nI 0 = 0 from rfl), hP_some]
      exact ⟨rd_nS, fun e => absurd e (by decide), Inv_fr (by decide) hf9 (Inv_thr hI), ⟨hq.2.1, fun j => hq.1 2000000 j rfl⟩, hq.2.2⟩
    · exact (fr_rd (p := ([], [(80, 0)])) (w := nThr w) (fr_nS fr_refl rfl) (fOff_row (by decide : fOff rMR rMK ([], [(80, 0)]) = true) ha j))
    · exact (fr_rd (p := ([], [(80, 0)])) (w := nThr w) (fr_nS fr_refl rfl) (fOff_cell (by decide : fOff rMR rMK ([], [(80, 0)]) = true) hx))
theorem gPl_up {g : gS} {a j v : Nat} (h : 5 ≤ a ∨ (a = 0 ∧ 8 ≤ j)) : gPl g (mUp g a j v) := by
  refine ⟨fun i hi => ?_, fun b h1 h2 => ?_⟩
  · rcases h with h | ⟨rfl, h⟩
    · unfold mUp; rw [if_neg (by omega)]
    · unfold mUp; rw [if_pos rfl, if_neg (by omega)]
  · unfold mUp; rw [if_neg (by omega)]
theorem op_chair (x1 : Int32) : opA Inv (f136_0 x1) (f250_80 x1) := by
  intro w hI
  have no := refu1 hI
  obtain ⟨g, r, h, D, H, hX⟩ := hI
  obtain ⟨hp, hh, hD, hH, hi, ht, hm, hrw⟩ := id hX
  obtain ⟨hM, hMr, hC, hCr, ho, hk9, ⟨hl1, hl2⟩, hcm, hti⟩ := id hp
  have hn := gOk_n ho
  have hch := gOk_ch ho
  have s1 : sK w (nS w 0 4 (wI w 0 4 + 1)) := sK_fr (p := ([], [(0, 4)])) (fr_nS fr_refl rfl) (by decide)
  unfold f136_0 f46_24
  by_cases c : inR x1 (gW g * gH g)
  · obtain ⟨a, ha, rfl⟩ := c
    simp (disch := first | omega | (simp only [fIn, fR, fC, Nat.reduceEqDiff, decide_false, decide_true, Bool.false_or, Bool.or_false, Bool.false_and, Bool.and_false, Bool.or_self, Bool.true_and, Bool.true_or, Bool.and_true, Bool.or_true, Bool.and_self]; done) | fail) only [hP_some, hP_let, hP_gd, hP_B, hP_if, reduceIte, q_lit, nI_add, pk_mul, q_lt, q_le, q_eq, q_cl, q_g, Bool.not_eq_true', decide_eq_false_iff_not, decide_eq_true_eq, q_div, q_rm, q_sub, q_m1, Nat.zero_add, Nat.add_zero, Nat.not_lt_zero, rC_wd hC, rC_hi hC, rC_ch hC, ha, Nat.reduceEqDiff]
    refine c_note (g := g) hh.2.1 hh.2.2.1 (fun w' f1 c1 c2 c3 => ?_)
    refine ⟨sK_fr (p := ([38], [(34, 5), (34, 1)])) (fr_nS (fr_up f1 (by decide)) rfl) (by decide), ?_⟩
    have f2 : fr ([35, 36, 37], [(34, 1), (34, 4), (80, 0), (116, 0)]) w' (nS (nS w' 34 1 (nI a)) 80 0 (nI 0)) := fr_nS (fr_nS fr_refl rfl) rfl
    have fA : fr ([38], [(34, 5), (34, 1), (80, 0)]) w (nS (nS w' 34 1 (nI a)) 80 0 (nI 0)) := fr_nS (fr_nS (fr_up f1 (by decide)) rfl) rfl
    have hMu := rM_fr (by decide) fA hM
    unfold f250_80 f218_80 f249_80
    simp (disch := first | omega | (simp only [fIn, fR, fC, Nat.reduceEqDiff, decide_false, decide_true, Bool.false_or, Bool.or_false, Bool.false_and, Bool.and_false, Bool.or_self, Bool.true_and, Bool.true_or, Bool.and_true, Bool.or_true, Bool.and_self]; done) | fail) only [hP_some, hP_let, hP_gd, hP_B, hP_if, reduceIte, q_lit, nI_add, pk_mul, q_lt, q_le, q_eq, q_cl, q_g, Bool.not_eq_true', decide_eq_false_iff_not, decide_eq_true_eq, q_div, q_rm, q_sub, q_m1, Nat.zero_add, Nat.add_zero, Nat.not_lt_zero, rM_wd hMu, rM_hi hMu, ha]
    refine m_keeps (g := g) ((fr_rd fA rfl).trans hh.1) hh.2.2.1 (fun w2 f3 m1 m2 m3 => ?_)
    refine ⟨by decide, by decide, ?_⟩
    have hM2 : rM g w2 := rM_fr (by decide) f3 hMu
    refine ⟨(rM_ch hM2).symm, ?_⟩
    have sM0 := snM_rM hM2
    have sC0 := snC_rC hC
    have f4 : fr ([100], []) w2 (nS w2 100 36 (nI a)) := fr_nS fr_refl rfl
    refine act_end hX (g' := mUp g 0 8 a) (kd := 1) (wh := 0) (was := gCh g) (gPl_up (.inr ⟨rfl, by omega⟩)) ?_ (.inr (.inl ⟨rfl, rfl, hch⟩)) ?_ f1 c1 c2 c3 f2 f3 m1 m2 m3 f4 ?_ ?_
    · obtain ⟨q1, q2, q3, q4, q5⟩ := snOk_g ho hl1
      exact ⟨q1, q2, q3, ha, q5⟩
    · exact ⟨fun _ _ => rfl, fun _ _ => rfl, fun _ _ => rfl, rfl, rfl⟩
    · obtain ⟨q1, q2, q3, q4, q5⟩ := sM0
      have hsw := gOk_sw ho
      have hlk := gOk_lk ho
      refine ⟨fun i hi => ?_, fun i hi => ?_, fun i hi => ?_, ?_, ?_⟩
      · have hi : i < gSw g := hi
        rw [rd_nSj (by omega)]; exact q1 i hi
      · have hi : i < gLk g := hi
        rw [rd_nSj (by omega)]; exact q2 i hi
      · have hi : i < gLk g := hi
        rw [rd_nSj (by omega)]; exact q3 i hi
      · exact rd_nS
      · rw [rd_nSj (by decide)]; exact q5
    · have fz : fr ([100, 102, 38], [(80, 0), (80, 63), (34, 5), (34, 1)]) w (nS w2 100 36 (nI a)) := fr_nS (fr_then (fr_up fA (by decide)) f3 (by decide)) rfl
      obtain ⟨q1, q2, q3, q4, q5⟩ := sC0
      refine ⟨fun i hi => ?_, fun i hi => ?_, fun i hi => ?_, ?_, ?_⟩
      · rw [fr_rd fz rfl]; exact q1 i hi
      · rw [fr_rd fz rfl]; exact q2 i hi
      · rw [fr_rd fz rfl]; exact q3 i hi
      · rw [rd_nSa (by decide), fr_rd f3 rfl, rd_nSa (by decide), rd_nS]; rfl
      · rw [fr_rd fz rfl]; exact q5
  · have hR : hP (if x1 < 0 then some ((0 : Int32), w) else (if x1 < ((wI w 24 0) * (wI w 24 1)) then (some (1, w)) else (some (0, w)))) (fun v w1 => v = 0 ∧ w1 = w) := by
      rcases inR_no0 (by omega) c with c3 | ⟨c3, c4, -⟩
      · rw [if_pos c3, hP_some]; exact ⟨rfl, rfl⟩
      · rw [if_neg c3, rC_wd hC, rC_hi hC, pk_mul, if_neg c4, hP_some]; exact ⟨rfl, rfl⟩
    rw [hP_B]
    refine hP_mono hR (fun v w1 hv => ?_)
    obtain ⟨rfl, rfl⟩ := hv
    rw [if_pos rfl, hP_let, hP_some]
    refine ⟨s1, ?_⟩
    unfold f250_80 f218_80
    rw [hP_let]
    rcases inR_no0 (by omega) c with c3 | ⟨c3, c4, -⟩
    · rw [if_pos c3, hP_B]
      exact hP_mono no (fun v2 w2 h2 => by rw [hP_some]; exact h2)
    · rw [if_neg c3, hP_B, hP_some, rd_nSj (by decide), rd_nSj (by decide), rd_nSa (by decide), rd_nSa (by decide), rM_wd hM, rM_hi hM, pk_mul, if_neg c4, hP_B]
      exact hP_mono no (fun v2 w2 h2 => by rw [hP_some]; exact h2)
theorem op_minutes (x1 : Int32) : opA Inv (f139_0 x1) (f254_80 x1) := by
  intro w hI
  have no := refu1 hI
  obtain ⟨g, r, h, D, H, hX⟩ := hI
  obtain ⟨hp, hh, hD, hH, hi, ht, hm, hrw⟩ := id hX
  obtain ⟨hM, hMr, hC, hCr, ho, hk9, ⟨hl1, hl2⟩, hcm, hti⟩ := id hp
  have hmi := gOk_mi ho
  have s1 : sK w (nS w 0 4 (wI w 0 4 + 1)) := sK_fr (p := ([], [(0, 4)])) (fr_nS fr_refl rfl) (by decide)
  unfold f139_0
  by_cases c : inR x1 1000
  · obtain ⟨a, ha, rfl⟩ := c
    simp (disch := first | omega | (simp only [fIn, fR, fC, Nat.reduceEqDiff, decide_false, decide_true, Bool.false_or, Bool.or_false, Bool.false_and, Bool.and_false, Bool.or_self, Bool.true_and, Bool.true_or, Bool.and_true, Bool.or_true, Bool.and_self]; done) | fail) only [hP_some, hP_let, hP_gd, hP_B, hP_if, reduceIte, q_lit, nI_add, pk_mul, q_lt, q_le, q_eq, q_cl, q_g, Bool.not_eq_true', decide_eq_false_iff_not, decide_eq_true_eq, q_div, q_rm, q_sub, q_m1, Nat.zero_add, Nat.add_zero, Nat.not_lt_zero, rC_mi hC, show ¬ 999 < a by omega]
    refine c_note (g := g) hh.2.1 hh.2.2.1 (fun w' f1 c1 c2 c3 => ?_)
    refine ⟨sK_fr (p := ([38], [(34, 5), (34, 4)])) (fr_nS (fr_up f1 (by decide)) rfl) (by decide), ?_⟩
    have f2 : fr ([35, 36, 37], [(34, 1), (34, 4), (80, 0), (116, 0)]) w' (nS (nS w' 34 4 (nI a)) 80 0 (nI 0)) := fr_nS (fr_nS fr_refl rfl) rfl
    have fA : fr ([38], [(34, 5), (34, 4), (80, 0)]) w (nS (nS w' 34 4 (nI a)) 80 0 (nI 0)) := fr_nS (fr_nS (fr_up f1 (by decide)) rfl) rfl
    have hMu := rM_fr (by decide) fA hM
    unfold f254_80 f249_80
    simp (disch := first | omega | (simp only [fIn, fR, fC, Nat.reduceEqDiff, decide_false, decide_true, Bool.false_or, Bool.or_false, Bool.false_and, Bool.and_false, Bool.or_self, Bool.true_and, Bool.true_or, Bool.and_true, Bool.or_true, Bool.and_self]; done) | fail) only [hP_some, hP_let, hP_gd, hP_B, hP_if, reduceIte, q_lit, nI_add, pk_mul, q_lt, q_le, q_eq, q_cl, q_g, Bool.not_eq_true', decide_eq_false_iff_not, decide_eq_true_eq, q_div, q_rm, q_sub, q_m1, Nat.zero_add, Nat.add_zero]
    refine m_within (by decide) (by decide) (fun a' _ _ e => ?_) (fun hn => absurd rfl (hn a (by omega) (by omega)))
    simp (disch := first | omega | (simp only [fIn, fR, fC, Nat.reduceEqDiff, decide_false, decide_true, Bool.false_or, Bool.or_false, Bool.false_and, Bool.and_false, Bool.or_self, Bool.true_and, Bool.true_or, Bool.and_true, Bool.or_true, Bool.and_self]; done) | fail) only [hP_some, hP_let, hP_gd, hP_B, hP_if, reduceIte, q_lit, nI_add, pk_mul, q_lt, q_le, q_eq, q_cl, q_g, Bool.not_eq_true', decide_eq_false_iff_not, decide_eq_true_eq, q_div, q_rm, q_sub, q_m1, Nat.zero_add, Nat.add_zero, Nat.reduceEqDiff]
    refine m_keeps (g := g) ((fr_rd fA rfl).trans hh.1) hh.2.2.1 (fun w2 f3 m1 m2 m3 => ?_)
    refine ⟨by decide, by decide, ?_⟩
    have hM2 : rM g w2 := rM_fr (by decide) f3 hMu
    refine ⟨(rM_mi hM2).symm, ?_⟩
    have sM0 := snM_rM hM2
    have sC0 := snC_rC hC
    have f4 : fr ([100], []) w2 (nS w2 100 37 (nI a)) := fr_nS fr_refl rfl
    refine act_end hX (g' := mUp g 0 9 a) (kd := 4) (wh := 0) (was := gMi g) (gPl_up (.inr ⟨rfl, by omega⟩)) ?_ (.inr (.inr (.inr (.inr ⟨rfl, rfl, hmi⟩)))) ?_ f1 c1 c2 c3 f2 f3 m1 m2 m3 f4 ?_ ?_
    · obtain ⟨q1, q2, q3, q4, q5⟩ := snOk_g ho hl1
      exact ⟨q1, q2, q3, q4, (show a ≤ 999 by omega)⟩
    · exact ⟨fun _ _ => rfl, fun _ _ => rfl, fun _ _ => rfl, rfl, rfl⟩
    · obtain ⟨q1, q2, q3, q4, q5⟩ := sM0
      have hsw := gOk_sw ho
      have hlk := gOk_lk ho
      refine ⟨fun i hi => ?_, fun i hi => ?_, fun i hi => ?_, ?_, ?_⟩
      · have hi : i < gSw g := hi
        rw [rd_nSj (by omega)]; exact q1 i hi
      · have hi : i < gLk g := hi
        rw [rd_nSj (by omega)]; exact q2 i hi
      · have hi : i < gLk g := hi
        rw [rd_nSj (by omega)]; exact q3 i hi
      · rw [rd_nSj (by decide)]; exact q4
      · exact rd_nS
    · have fz : fr ([100, 102, 38], [(80, 0), (80, 63), (34, 5), (34, 4)]) w (nS w2 100 37 (nI a)) := fr_nS (fr_then (fr_up fA (by decide)) f3 (by decide)) rfl
      obtain ⟨q1, q2, q3, q4, q5⟩ := sC0
      refine ⟨fun i hi => ?_, fun i hi => ?_, fun i hi => ?_, ?_, ?_⟩
      · rw [fr_rd fz rfl]; exact q1 i hi
      · rw [fr_rd fz rfl]; exact q2 i hi
      · rw [fr_rd fz rfl]; exact q3 i hi
      · rw [fr_rd fz rfl]; exact q4
      · rw [rd_nSa (by decide), fr_rd f3 rfl, rd_nSa (by decide), rd_nS]; rfl
  · have hR : hP (if x1 < 0 then (nLet (nS w 0 4 ((wI w 0 4) + 1)) fun w1 => (some ((-1 : Int32), w1))) else (if 999 < x1 then (nLet (nS w 0 4 ((wI w 0 4) + 1)) fun w6 => (some ((-1), w6))) else (nLet (wI w 34 4) fun v2 => (nB (f3_34  4 0 v2 w) fun v3 w4 => (nLet (nS w4 34 4 x1) fun w5 => (some (v2, w5))))))) (fun v w1 => v = -1 ∧ w1 = nS w 0 4 (wI w 0 4 + 1)) := by
      rcases inR_no0 (by decide) c with c3 | ⟨c3, c4, a, ha, ha2, rfl⟩
      · rw [if_pos c3, hP_let, hP_some]; exact ⟨rfl, rfl⟩
      · rw [if_neg c3, if_pos (by rw [q_lit, q_lt (by omega) ha2]; omega), hP_let, hP_some]; exact ⟨rfl, rfl⟩
    refine hP_mono hR (fun v w1 hv => ?_)
    obtain ⟨rfl, rfl⟩ := hv
    refine ⟨s1, ?_⟩
    unfold f254_80
    rw [hP_let, hP_B]
    refine m_within (lo := 0) (hi := 999) (by decide) (by decide) (fun a' _ _ e => absurd ⟨a', by omega, e⟩ c) (fun hn => ?_)
    rw [if_pos (show nI 0 = 0 from rfl), hP_B]
    exact hP_mono no (fun v2 w2 h2 => by rw [hP_some]; exact h2)
