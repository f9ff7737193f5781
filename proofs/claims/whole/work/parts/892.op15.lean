/-! ===== OPERATIONS: swim, lasts, change ===== -/
theorem refuB {w w1 : mW} (hI : Inv w) (e1 : w1 = nS w 0 4 (wI w 0 4 + 1)) {V : Int64} : hP (f216_80 1 (nS (nSJ w1 116 0 V) 80 0 (nI 0))) (fun b w2 => b = (-1 : Int32) ∧ wI w2 80 0 = nI 0 ∧ wJ w2 116 0 = V ∧ Inv w2 ∧ sK w w2 ∧ cT 1 w w2) := by
  subst e1
  unfold f216_80
  simp only [hP_gd, hP_let, hP_some]
  refine ⟨by decide, by decide, trivial, ?_, ?_, ?_⟩
  · rw [rd_nSa (by decide), rd_nS]
  · rw [rd_nS_J, rd_nS_J, rd_nSJ]
  refine refu (k := 1) (.inl rfl) hI (fr_nS (fr_nS (fr_nSJ (fr_nS fr_refl rfl) rfl) rfl) rfl) ?_ ?_
  · rw [rd_nSa (by decide), rd_nSa (by decide), rd_nSJ_I, rd_nS]; rfl
  · show wI (nS _ 88 1 _) 88 1 = _
    rw [rd_nS]; rfl
theorem op_swim (x1 x2 : Int32) : opB Inv (f309_0_116 x1 x2) (f248_80 x1 x2) := by
  refine opB_mut (f := f135_0 x1 x2) (fun w => rfl) (fun w => rfl) (fun w => rfl) (fun w g r h D H hX => ?_)
  have hI : Inv w := ⟨g, r, h, D, H, hX⟩
  obtain ⟨hp, hh, hD, hH, hi, ht, hm, hrw⟩ := id hX
  obtain ⟨hM, hMr, hC, hCr, ho, hk9, ⟨hl1, hl2⟩, hcm, hti⟩ := id hp
  have hn := gOk_n ho
  have hsw := gOk_sw ho
  have hlk := gOk_lk ho
  refine ⟨inR x1 (gSw g), gdC_sw hC ho, fun w1 h1 h2 => gdM_sw h1 ho h2, ?_⟩
  rintro ⟨s, hs, rfl⟩
  by_cases c : inR x2 (gW g * gH g)
  · obtain ⟨a, ha, rfl⟩ := c
    refine ⟨nI (g 5 s), ?_⟩
    unfold f46_24
    have hats := gOk_at ho s hs
    simp (disch := first | omega | (simp only [fIn, fR, fC, Nat.reduceEqDiff, decide_false, decide_true, Bool.false_or, Bool.or_false, Bool.false_and, Bool.and_false, Bool.or_self, Bool.true_and, Bool.true_or, Bool.and_true, Bool.or_true, Bool.and_self]; done) | fail) only [hP_some, hP_let, hP_gd, hP_B, hP_if, reduceIte, q_lit, nI_add, pk_mul, q_lt, q_le, q_eq, q_cl, q_g, Bool.not_eq_true', decide_eq_false_iff_not, decide_eq_true_eq, q_div, q_rm, q_sub, q_m1, Nat.zero_add, Nat.add_zero, Nat.not_lt_zero, rC_wd hC, rC_hi hC, rC_at hC, ha, Nat.reduceEqDiff]
    refine ⟨by omega, ?_⟩
    refine c_note (g := g) hh.2.1 hh.2.2.1 (fun w' f1 c1 c2 c3 => ?_)
    refine ⟨by omega, trivial, sK_fr (p := ([38, 35], [(34, 5)])) (fr_nS (fr_up f1 (by decide)) rfl) (by decide), ?_, ?_⟩
    · exact rM_fr (p := ([38, 35], [(34, 5)])) (by decide) (fr_nS (fr_up f1 (by decide)) rfl) hM
    generalize hV : (nI (g 5 s)).toInt64 = V
    have f2 : fr ([35, 36, 37], [(34, 1), (34, 4), (80, 0), (116, 0)]) w' (nS (nSJ (nS w' 35 s (nI a)) 116 0 V) 80 0 (nI 0)) := fr_nS (fr_nSJ (fr_nS fr_refl rfl) rfl) rfl
    have fA : fr ([38, 35], [(34, 5), (80, 0), (116, 0)]) w (nS (nSJ (nS w' 35 s (nI a)) 116 0 V) 80 0 (nI 0)) := fr_nS (fr_nSJ (fr_nS (fr_up f1 (by decide)) rfl) rfl) rfl
    have hMu := rM_fr (by decide) fA hM
    unfold f218_80 f249_80
    simp (disch := first | omega | (simp only [fIn, fR, fC, Nat.reduceEqDiff, decide_false, decide_true, Bool.false_or, Bool.or_false, Bool.false_and, Bool.and_false, Bool.or_self, Bool.true_and, Bool.true_or, Bool.and_true, Bool.or_true, Bool.and_self]; done) | fail) only [hP_some, hP_let, hP_gd, hP_B, hP_if, reduceIte, q_lit, nI_add, pk_mul, q_lt, q_le, q_eq, q_cl, q_g, Bool.not_eq_true', decide_eq_false_iff_not, decide_eq_true_eq, q_div, q_rm, q_sub, q_m1, Nat.zero_add, Nat.add_zero, Nat.not_lt_zero, rM_wd hMu, rM_hi hMu, ha]
    refine m_keeps (g := g) ((fr_rd fA rfl).trans hh.1) hh.2.2.1 (fun w2 f3 m1 m2 m3 => ?_)
    refine ⟨by omega, by omega, ?_⟩
    have hM2 : rM g w2 := rM_fr (by decide) f3 hMu
    refine ⟨rM_at hM2 s hs, ?_, ?_, ?_⟩
    · rw [rd_nSa (by decide), fr_rd f3 rfl, rd_nS]
    · rw [rd_nS_J, fr_rdJ f3 rfl, rd_nS_J, rd_nSJ]
    have sM0 := snM_rM hM2
    have sC0 := snC_rC hC
    have f4 : fr ([100], []) w2 (nS w2 100 s (nI a)) := fr_nS fr_refl rfl
    have e5 : ∀ i, (mUp g 5 s a) 5 i = if i = s then a else g 5 i := fun i => by simp [mUp]
    refine act_end hX (g' := mUp g 5 s a) (kd := 0) (wh := s) (was := g 5 s) (gPl_up (.inl (by omega))) ?_ (.inl ⟨rfl, hs, hats⟩) ?_ f1 c1 c2 c3 f2 f3 m1 m2 m3 f4 ?_ ?_
    · obtain ⟨q1, q2, q3, q4, q5⟩ := snOk_g ho hl1
      refine ⟨fun i hi => ?_, q2, q3, q4, q5⟩
      rw [e5]
      split
      · exact ha
      · exact q1 i hi
    · refine ⟨fun i hi => ?_, fun _ _ => rfl, fun _ _ => rfl, rfl, rfl⟩
      show g 5 i = mUp (mUp g 5 s a) 5 s (g 5 s) 5 i
      have : mUp (mUp g 5 s a) 5 s (g 5 s) 5 i = if i = s then g 5 s else (mUp g 5 s a) 5 i := by simp [mUp]
      rw [this, e5]
      by_cases e : i = s
      · rw [if_pos e, e]
      · rw [if_neg e, if_neg e]
    · obtain ⟨q1, q2, q3, q4, q5⟩ := sM0
      refine ⟨fun i hi => ?_, fun i hi => ?_, fun i hi => ?_, ?_, ?_⟩
      · have hi : i < gSw g := hi
        rw [e5, Nat.zero_add]
        by_cases e : i = s
        · rw [if_pos e, e, rd_nS]
        · rw [if_neg e, rd_nSj e]; have := q1 i hi; rw [Nat.zero_add] at this; exact this
      · have hi : i < gLk g := hi
        rw [rd_nSj (by omega)]; exact q2 i hi
      · have hi : i < gLk g := hi
        rw [rd_nSj (by omega)]; exact q3 i hi
      · rw [rd_nSj (by omega)]; exact q4
      · rw [rd_nSj (by omega)]; exact q5
    · have fz : fr ([100, 102, 38, 35], [(80, 0), (80, 63), (34, 5), (116, 0)]) w (nS w2 100 s (nI a)) := fr_nS (fr_then (fr_up fA (by decide)) f3 (by decide)) rfl
      obtain ⟨q1, q2, q3, q4, q5⟩ := sC0
      refine ⟨fun i hi => ?_, fun i hi => ?_, fun i hi => ?_, ?_, ?_⟩
      · rw [rd_nSa (by decide), fr_rd f3 rfl, rd_nSa (by decide), rd_nSJ_I, e5]
        by_cases e : i = s
        · rw [if_pos e, e, rd_nS]
        · rw [if_neg e, rd_nSj e, fr_rd f1 rfl]; exact q1 i hi
      · rw [fr_rd fz rfl]; exact q2 i hi
      · rw [fr_rd fz rfl]; exact q3 i hi
      · rw [fr_rd fz rfl]; exact q4
      · rw [fr_rd fz rfl]; exact q5
  · refine ⟨-1, ?_⟩
    have hR : hP (f46_24 x2 w) (fun v w1 => v = 0 ∧ w1 = w) := by
      unfold f46_24
      rcases inR_no0 (by omega) c with c3 | ⟨c3, c4, -⟩
      · rw [if_pos c3, hP_some]; exact ⟨rfl, rfl⟩
      · rw [if_neg c3, rC_wd hC, rC_hi hC, pk_mul, if_neg c4, hP_some]; exact ⟨rfl, rfl⟩
    rw [hP_B]
    refine hP_mono hR (fun v w1 hv => ?_)
    obtain ⟨rfl, rfl⟩ := hv
    rw [if_pos rfl, hP_let, hP_some]
    have fN : fr ([], [(0, 4)]) w1 (nS w1 0 4 (wI w1 0 4 + 1)) := fr_nS fr_refl rfl
    refine ⟨rfl, sK_fr fN (by decide), rM_fr (by decide) fN hM, ?_⟩
    have no := refuB hI rfl (V := (-1 : Int32).toInt64)
    unfold f218_80
    rcases inR_no0 (by omega) c with c3 | ⟨c3, c4, -⟩
    · rw [if_pos c3, hP_B]
      exact hP_mono no (fun v2 w2 h2 => by rw [hP_some]; exact h2)
    · rw [if_neg c3, hP_B, hP_some, rd_nSj (by decide), rd_nSj (by decide), rd_nSJ_I, rd_nSJ_I, rd_nSa (by decide), rd_nSa (by decide), rM_wd hM, rM_hi hM, pk_mul, if_neg c4, hP_B]
      exact hP_mono no (fun v2 w2 h2 => by rw [hP_some]; exact h2)
theorem op_lasts (x1 x2 : Int32) : opB Inv (f310_0_116 x1 x2) (f251_80 x1 x2) := by
  refine opB_mut (f := f137_0 x1 x2) (fun w => rfl) (fun w => rfl) (fun w => rfl) (fun w g r h D H hX => ?_)
  have hI : Inv w := ⟨g, r, h, D, H, hX⟩
  obtain ⟨hp, hh, hD, hH, hi, ht, hm, hrw⟩ := id hX
  obtain ⟨hM, hMr, hC, hCr, ho, hk9, ⟨hl1, hl2⟩, hcm, hti⟩ := id hp
  have hn := gOk_n ho
  have hsw := gOk_sw ho
  have hlk := gOk_lk ho
  refine ⟨inR x1 (gLk g), gdC_look hC ho, fun w1 h1 h2 => gdM_look h1 ho h2, ?_⟩
  rintro ⟨s, hs, rfl⟩
  by_cases c : ∃ a, 1 ≤ a ∧ a ≤ 9 ∧ x2 = nI a
  · obtain ⟨a, ha1, ha2, rfl⟩ := c
    refine ⟨nI (g 7 s), ?_⟩
    have h7 := gOk_las ho s hs
    have h7b := hl1 s hs
    simp (disch := first | omega | (simp only [fIn, fR, fC, Nat.reduceEqDiff, decide_false, decide_true, Bool.false_or, Bool.or_false, Bool.false_and, Bool.and_false, Bool.or_self, Bool.true_and, Bool.true_or, Bool.and_true, Bool.or_true, Bool.and_self]; done) | fail) only [hP_some, hP_let, hP_gd, hP_B, hP_if, reduceIte, q_lit, nI_add, pk_mul, q_lt, q_le, q_eq, q_cl, q_g, Bool.not_eq_true', decide_eq_false_iff_not, decide_eq_true_eq, q_div, q_rm, q_sub, q_m1, Nat.zero_add, Nat.add_zero, show ¬ a < 1 by omega, show ¬ 9 < a by omega, rC_las hC]
    refine ⟨by omega, ?_⟩
    refine c_note (g := g) hh.2.1 hh.2.2.1 (fun w' f1 c1 c2 c3 => ?_)
    refine ⟨by omega, trivial, sK_fr (p := ([38, 37], [(34, 5)])) (fr_nS (fr_up f1 (by decide)) rfl) (by decide), ?_, ?_⟩
    · exact rM_fr (p := ([38, 37], [(34, 5)])) (by decide) (fr_nS (fr_up f1 (by decide)) rfl) hM
    generalize hV : (nI (g 7 s)).toInt64 = V
    have f2 : fr ([35, 36, 37], [(34, 1), (34, 4), (80, 0), (116, 0)]) w' (nS (nSJ (nS w' 37 s (nI a)) 116 0 V) 80 0 (nI 0)) := fr_nS (fr_nSJ (fr_nS fr_refl rfl) rfl) rfl
    have fA : fr ([38, 37], [(34, 5), (80, 0), (116, 0)]) w (nS (nSJ (nS w' 37 s (nI a)) 116 0 V) 80 0 (nI 0)) := fr_nS (fr_nSJ (fr_nS (fr_up f1 (by decide)) rfl) rfl) rfl
    have hMu := rM_fr (by decide) fA hM
    refine m_within (by decide) (by decide) (fun a' _ _ e => ?_) (fun hn => absurd rfl (hn a (by omega) (by omega)))
    unfold f249_80
    simp (disch := first | omega | (simp only [fIn, fR, fC, Nat.reduceEqDiff, decide_false, decide_true, Bool.false_or, Bool.or_false, Bool.false_and, Bool.and_false, Bool.or_self, Bool.true_and, Bool.true_or, Bool.and_true, Bool.or_true, Bool.and_self]; done) | fail) only [hP_some, hP_let, hP_gd, hP_B, hP_if, reduceIte, q_lit, nI_add, pk_mul, q_lt, q_le, q_eq, q_cl, q_g, Bool.not_eq_true', decide_eq_false_iff_not, decide_eq_true_eq, q_div, q_rm, q_sub, q_m1, Nat.zero_add, Nat.add_zero, Nat.reduceEqDiff]
    refine m_keeps (g := g) ((fr_rd fA rfl).trans hh.1) hh.2.2.1 (fun w2 f3 m1 m2 m3 => ?_)
    refine ⟨by omega, by omega, ?_⟩
    have hM2 : rM g w2 := rM_fr (by decide) f3 hMu
    refine ⟨rM_las hM2 s hs, ?_, ?_, ?_⟩
    · rw [rd_nSa (by decide), fr_rd f3 rfl, rd_nS]
    · rw [rd_nS_J, fr_rdJ f3 rfl, rd_nS_J, rd_nSJ]
    have sM0 := snM_rM hM2
    have sC0 := snC_rC hC
    have f4 : fr ([100], []) w2 (nS w2 100 (24 + s) (nI a)) := fr_nS fr_refl rfl
    have e5 : ∀ i, (mUp g 7 s a) 7 i = if i = s then a else g 7 i := fun i => by simp [mUp]
    refine act_end hX (g' := mUp g 7 s a) (kd := 2) (wh := s) (was := g 7 s) (gPl_up (.inl (by omega))) ?_ (.inr (.inr (.inl ⟨rfl, hs, h7b, h7⟩))) ?_ f1 c1 c2 c3 f2 f3 m1 m2 m3 f4 ?_ ?_
    · obtain ⟨q1, q2, q3, q4, q5⟩ := snOk_g ho hl1
      refine ⟨q1, q2, fun i hi => ?_, q4, q5⟩
      rw [e5]
      split
      · exact ⟨ha1, ha2⟩
      · exact q3 i hi
    · refine ⟨fun _ _ => rfl, fun _ _ => rfl, fun i hi => ?_, rfl, rfl⟩
      show g 7 i = mUp (mUp g 7 s a) 7 s (g 7 s) 7 i
      have : mUp (mUp g 7 s a) 7 s (g 7 s) 7 i = if i = s then g 7 s else (mUp g 7 s a) 7 i := by simp [mUp]
      rw [this, e5]
      by_cases e : i = s
      · rw [if_pos e, e]
      · rw [if_neg e, if_neg e]
    · obtain ⟨q1, q2, q3, q4, q5⟩ := sM0
      refine ⟨fun i hi => ?_, fun i hi => ?_, fun i hi => ?_, ?_, ?_⟩
      · have hi : i < gSw g := hi
        rw [rd_nSj (by omega)]; exact q1 i hi
      · have hi : i < gLk g := hi
        rw [rd_nSj (by omega)]; exact q2 i hi
      · have hi : i < gLk g := hi
        rw [e5]
        show wI (nS w2 100 (24 + s) (nI a)) 100 (24 + i) = _
        by_cases e : i = s
        · rw [if_pos e, e, rd_nS]
        · rw [if_neg e, rd_nSj (by omega)]; exact q3 i hi
      · rw [rd_nSj (by omega)]; exact q4
      · rw [rd_nSj (by omega)]; exact q5
    · have fz : fr ([100, 102, 38, 37], [(80, 0), (80, 63), (34, 5), (116, 0)]) w (nS w2 100 (24 + s) (nI a)) := fr_nS (fr_then (fr_up fA (by decide)) f3 (by decide)) rfl
      obtain ⟨q1, q2, q3, q4, q5⟩ := sC0
      refine ⟨fun i hi => ?_, fun i hi => ?_, fun i hi => ?_, ?_, ?_⟩
      · rw [fr_rd fz rfl]; exact q1 i hi
      · rw [fr_rd fz rfl]; exact q2 i hi
      · rw [rd_nSa (by decide), fr_rd f3 rfl, rd_nSa (by decide), rd_nSJ_I, e5]
        by_cases e : i = s
        · rw [if_pos e, e, rd_nS]
        · rw [if_neg e, rd_nSj e, fr_rd f1 rfl]; exact q3 i hi
      · rw [fr_rd fz rfl]; exact q4
      · rw [fr_rd fz rfl]; exact q5
  · refine ⟨-1, ?_⟩
    have hR : hP (if x2 < 1 then (nLet (nS w 0 4 ((wI w 0 4) + 1)) fun w3 => (some ((.inl (-1) : Int32 ⊕ Nat), w3))) else (if 9 < x2 then (nLet (nS w 0 4 ((wI w 0 4) + 1)) fun w8 => (some (.inl (-1), w8))) else (nGd (nG (nI s) 12) (nLet (wI w 37 (nI s).toNatClampNeg) fun v4 => (nB (f3_34  2 (nI s) v4 w) fun v5 w6 => (nGd (nG (nI s) 12) (nLet (nS w6 37 (nI s).toNatClampNeg x2) fun w7 => (some (.inl v4, w7))))))))) (fun v w1 => v = .inl (-1) ∧ w1 = nS w 0 4 (wI w 0 4 + 1)) := by
      by_cases c1 : x2 < 1
      · rw [if_pos c1, hP_let, hP_some]; exact ⟨rfl, rfl⟩
      · rw [if_neg c1]
        by_cases c2 : 9 < x2
        · rw [if_pos c2, hP_let, hP_some]; exact ⟨rfl, rfl⟩
        · exfalso
          rcases q_any x2 with h9 | ⟨b, hb, rfl⟩
          · apply c1
            have h0 : x2 < 0 := h9
            rw [Int32.lt_iff_toInt_lt] at h0 ⊢
            have e0 : (0 : Int32).toInt = 0 := by decide
            have e1 : (1 : Int32).toInt = 1 := by decide
            omega
          · rw [q_lit, q_lt (by omega) (by omega)] at c1 c2
            exact c ⟨b, by omega, by omega, rfl⟩
    refine hP_mono hR (fun v w1 hv => ?_)
    obtain ⟨rfl, rfl⟩ := hv
    have fN : fr ([], [(0, 4)]) w (nS w 0 4 (wI w 0 4 + 1)) := fr_nS fr_refl rfl
    refine ⟨rfl, sK_fr fN (by decide), rM_fr (by decide) fN hM, ?_⟩
    have no := refuB hI rfl (V := (-1 : Int32).toInt64)
    rw [hP_B]
    refine m_within (lo := 1) (hi := 9) (by decide) (by decide) (fun a' h1 h2 e => absurd ⟨a', h1, h2, e⟩ c) (fun hn => ?_)
    rw [if_pos (show nI 0 = 0 from rfl), hP_B]
    exact hP_mono no (fun v2 w2 h2 => by rw [hP_some]; exact h2)
