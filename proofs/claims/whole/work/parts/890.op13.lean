/-! ===== OPERATIONS: forget, dummy, heads ===== -/
theorem refu {k : Nat} {w u : mW} (hk : k = 1 ∨ k = 2) (hI : Inv w) (hf : fr ([], [(0, 3 + k), (80, 0), (88, k), (116, 0)]) w u) (h1 : wI u 0 (3 + k) = wI w 0 (3 + k) + nI 1) (h2 : wI u 88 k = wI w 88 k + nI 1) : Inv u ∧ sK w u ∧ cT 1 w u := by
  obtain ⟨g, r, h, D, H, hp, hh, hD, hH, hi, ht, ⟨m1, m2, m3, m4⟩, hrw⟩ := hI
  obtain ⟨hM, hMr, hC, hCr, ho, hk9, ⟨hl1, hl2⟩, hcm, hti⟩ := id hp
  rcases hk with rfl | rfl
  · have sM : snM g g u 100 0 := snM_rM (rM_fr (by decide) hf hM)
    have sC : snC g g u 34 35 36 37 := snC_rC (rC_fr (by decide) hf hC)
    refine ⟨⟨g, r, h, D, H, iPool_of (by decide) hf hp (gPl_refl g) (snOk_g ho hl1) sM sC, iHist_fr (by decide) hf hh, iDum_fr (by decide) hf hD, iHd_fr (by decide) hf hH, iImg_fr (by decide) hf hi, iText_fr (by decide) hf ht, ⟨?_, ?_, ?_, ?_⟩, iRow_fr (by decide) hf hrw⟩, sK_fr hf (by decide), fr_cT hf⟩
    · rw [fr_rd hf rfl, fr_rd hf rfl]; exact m1
    · rw [fr_rd hf rfl, fr_rd hf rfl]; exact m2
    · rw [h2, m3, ← h1]
    · rw [fr_rd hf rfl, fr_rd hf rfl]; exact m4
  · have sM : snM g g u 100 0 := snM_rM (rM_fr (by decide) hf hM)
    have sC : snC g g u 34 35 36 37 := snC_rC (rC_fr (by decide) hf hC)
    refine ⟨⟨g, r, h, D, H, iPool_of (by decide) hf hp (gPl_refl g) (snOk_g ho hl1) sM sC, iHist_fr (by decide) hf hh, iDum_fr (by decide) hf hD, iHd_fr (by decide) hf hH, iImg_fr (by decide) hf hi, iText_fr (by decide) hf ht, ⟨?_, ?_, ?_, ?_⟩, iRow_fr (by decide) hf hrw⟩, sK_fr hf (by decide), fr_cT hf⟩
    · rw [fr_rd hf rfl, fr_rd hf rfl]; exact m1
    · rw [fr_rd hf rfl, fr_rd hf rfl]; exact m2
    · rw [fr_rd hf rfl, fr_rd hf rfl]; exact m3
    · rw [h2, m4, ← h1]
theorem refu1 {w : mW} (hI : Inv w) : hP (f216_80 1 (nS (nS w 0 4 (wI w 0 4 + 1)) 80 0 0)) (fun v2 w2 => (-1 : Int32) = v2 ∧ Inv w2 ∧ sK w w2 ∧ cT 1 w w2) := by
  unfold f216_80
  simp only [hP_gd, hP_let, hP_some]
  refine ⟨by decide, by decide, trivial, ?_⟩
  refine refu (k := 1) (.inl rfl) hI (fr_nS (fr_nS (fr_nS fr_refl rfl) rfl) rfl) ?_ ?_
  · rw [rd_nSa (by decide), rd_nSa (by decide), rd_nS]; rfl
  · show wI (nS _ 88 1 _) 88 1 = _
    rw [rd_nS]; rfl
theorem refu2 {w : mW} (hI : Inv w) : hP (f216_80 2 (nS (nS w 0 5 (wI w 0 5 + 1)) 80 0 0)) (fun v2 w2 => (-1 : Int32) = v2 ∧ Inv w2 ∧ sK w w2 ∧ cT 1 w w2) := by
  unfold f216_80
  simp only [hP_gd, hP_let, hP_some]
  refine ⟨by decide, by decide, trivial, ?_⟩
  refine refu (k := 2) (.inr rfl) hI (fr_nS (fr_nS (fr_nS fr_refl rfl) rfl) rfl) ?_ ?_
  · rw [rd_nSa (by decide), rd_nSa (by decide), rd_nS]; rfl
  · show wI (nS _ 88 2 _) 88 2 = _
    rw [rd_nS]; rfl
theorem iPool_fr {g : gS} {r : gR} {p : fP} {w w' : mW} (hd : fOff poR poK p = true) (hd2 : fOff [100, 35, 36, 37] [(34, 1), (34, 4)] p = true) (hf : fr p w w') (h : iPool g r w) : iPool g r w' := by
  obtain ⟨hM, hMr, hC, hCr, ho, hk9, ⟨hl1, hl2⟩, hcm, hti⟩ := id h
  have e100 : ∀ j, wI w' 100 j = wI w 100 j := fun j => fr_rd hf (fOff_row hd2 (by decide) j)
  have e35 : ∀ j, wI w' 35 j = wI w 35 j := fun j => fr_rd hf (fOff_row hd2 (by decide) j)
  have e36 : ∀ j, wI w' 36 j = wI w 36 j := fun j => fr_rd hf (fOff_row hd2 (by decide) j)
  have e37 : ∀ j, wI w' 37 j = wI w 37 j := fun j => fr_rd hf (fOff_row hd2 (by decide) j)
  have e1 : wI w' 34 1 = wI w 34 1 := fr_rd hf (fOff_cell hd2 (a := 34) (j := 1) (by decide))
  have e4 : wI w' 34 4 = wI w 34 4 := fr_rd hf (fOff_cell hd2 (a := 34) (j := 4) (by decide))
  refine iPool_of hd hf h (gPl_refl g) (snOk_g ho hl1) ?_ ?_
  · have := snM_rM hM
    simp only [snM, e100] at this ⊢
    exact this
  · have := snC_rC hC
    simp only [snC, e35, e36, e37, e1, e4] at this ⊢
    exact this
theorem inR_no0 {x : Int32} {n : Nat} (hn : n < 2147483648) (h : ¬ inR x n) : x < 0 ∨ (¬ x < 0 ∧ ¬ x < nI n ∧ ∃ a, n ≤ a ∧ a < 2147483648 ∧ x = nI a) := inR_no hn h
theorem op_forget : opV Inv f157_0 f280_80 := by
  rintro w ⟨g, r, h, D, H, hp, hh, hD, hH, hi, ht, hm, hrw⟩
  unfold f157_0 f280_80
  simp only [hP_let, hP_some]
  have hf : fr ([], [(34, 7), (34, 9), (80, 0), (80, 74), (80, 75)]) w (nS (nS (nS (nS (nS w 34 7 0) 34 9 0) 80 0 0) 80 74 0) 80 75 0) := fr_nS (fr_nS (fr_nS (fr_nS (fr_nS fr_refl rfl) rfl) rfl) rfl) rfl
  refine ⟨sK_fr (p := ([], [(34, 7), (34, 9)])) (fr_nS (fr_nS fr_refl rfl) rfl) (by decide), ⟨g, r, h, [], [], iPool_fr (by decide) (by decide) hf hp, iHist_fr (by decide) hf hh, ⟨?_, ?_, by decide, fun i hi => absurd hi (Nat.not_lt_zero _)⟩, ⟨?_, ?_, by decide, fun i hi => absurd hi (Nat.not_lt_zero _)⟩, iImg_fr (by decide) hf hi, iText_fr (by decide) hf ht, iMisc_fr (by decide) hf hm, iRow_fr (by decide) hf hrw⟩, sK_fr hf (by decide), fr_cT hf⟩
  · rw [rd_nSj (by decide), rd_nS]; rfl
  · rw [rd_nSa (by decide), rd_nSa (by decide), rd_nSa (by decide), rd_nSj (by decide), rd_nS]; rfl
  · rw [rd_nS]; rfl
  · rw [rd_nSa (by decide), rd_nSa (by decide), rd_nSa (by decide), rd_nS]; rfl
theorem getD_app {α : Type} (l : List α) (a d : α) (i : Nat) : (l ++ [a]).getD i d = if i < l.length then l.getD i d else if i = l.length then a else d := by
  simp only [List.getD_eq_getElem?_getD]
  by_cases c : i < l.length
  · rw [if_pos c, List.getElem?_append_left c]
  · rw [if_neg c, List.getElem?_append_right (by omega)]
    by_cases c2 : i = l.length
    · rw [if_pos c2, c2, Nat.sub_self]; rfl
    · rw [if_neg c2, List.getElem?_eq_none (by rw [List.length_singleton]; omega)]; rfl
theorem op_dummy (x1 : Int32) : opA Inv (f153_0 x1) (f274_80 x1) := by
  intro w hI
  have no := refu2 hI
  obtain ⟨g, r, h, D, H, hp, hh, hD, hH, hi, ht, hm, hrw⟩ := hI
  obtain ⟨d1, d2, d3, d4⟩ := hD
  have s1 : sK w (nS w 0 5 (wI w 0 5 + 1)) := sK_fr (p := ([], [(0, 5)])) (fr_nS fr_refl rfl) (by decide)
  unfold f153_0 f274_80
  by_cases c1 : D.length < 12
  · by_cases c2 : inR x1 1000
    · obtain ⟨a, ha, rfl⟩ := c2
      simp (disch := first | omega | (simp only [fIn, fR, fC, Nat.reduceEqDiff, decide_false, decide_true, Bool.false_or, Bool.or_false, Bool.false_and, Bool.and_false, Bool.or_self, Bool.true_and, Bool.true_or, Bool.and_true, Bool.or_true, Bool.and_self]; done) | fail) only [hP_some, hP_let, hP_gd, hP_B, hP_if, reduceIte, q_lit, nI_add, pk_mul, q_lt, q_le, q_eq, q_cl, q_g, Bool.not_eq_true', decide_eq_false_iff_not, decide_eq_true_eq, q_div, q_rm, q_sub, q_m1, Nat.zero_add, Nat.add_zero, d2, c1, Nat.not_lt_zero, show ¬ 999 < a by omega]
      have hf : fr ([39, 110], [(34, 7), (80, 0), (80, 74)]) w (nS (nS (nS (nS (nS w 39 D.length (nI a)) 34 7 (nI (D.length + 1))) 80 0 (nI 0)) 110 D.length (nI a)) 80 74 (nI (D.length + 1))) := fr_nS (fr_nS (fr_nS (fr_nS (fr_nS fr_refl rfl) rfl) rfl) rfl) rfl
      simp (disch := first | omega | (simp only [fIn, fR, fC, Nat.reduceEqDiff, decide_false, decide_true, Bool.false_or, Bool.or_false, Bool.false_and, Bool.and_false, Bool.or_self, Bool.true_and, Bool.true_or, Bool.and_true, Bool.or_true, Bool.and_self]; done) | fail) only [rd_nS, rd_nSa, rd_nSj, rd_ovn, rd_ovy, d1, d2, q_lit, nI_add, pk_mul, q_lt, q_le, q_eq, q_cl, q_g, Bool.not_eq_true', decide_eq_false_iff_not, decide_eq_true_eq, q_div, q_rm, q_sub, q_m1, Nat.zero_add, Nat.add_zero, show ¬ D.length = 12 by omega, reduceIte]
      refine ⟨trivial, sK_fr (p := ([39], [(34, 7)])) (fr_nS (fr_nS fr_refl rfl) rfl) (by decide), ?_⟩
      refine m_within (by decide) (by decide) (fun a' _ _ e => ?_) (fun hn => absurd rfl (hn a (by omega) (by omega)))
      simp (disch := first | omega | (simp only [fIn, fR, fC, Nat.reduceEqDiff, decide_false, decide_true, Bool.false_or, Bool.or_false, Bool.false_and, Bool.and_false, Bool.or_self, Bool.true_and, Bool.true_or, Bool.and_true, Bool.or_true, Bool.and_self]; done) | fail) only [hP_some, hP_let, hP_gd, hP_B, hP_if, reduceIte, q_lit, nI_add, pk_mul, q_lt, q_le, q_eq, q_cl, q_g, Bool.not_eq_true', decide_eq_false_iff_not, decide_eq_true_eq, q_div, q_rm, q_sub, q_m1, Nat.zero_add, Nat.add_zero, rd_nS, rd_nSa, rd_nSj, rd_ovn, rd_ovy, d1, Nat.reduceEqDiff, c1]
      refine ⟨trivial, trivial, ⟨g, r, h, D ++ [a], H, iPool_fr (by decide) (by decide) hf hp, iHist_fr (by decide) hf hh, ⟨?_, ?_, ?_, fun i hi => ?_⟩, iHd_fr (by decide) hf hH, iImg_fr (by decide) hf hi, iText_fr (by decide) hf ht, iMisc_fr (by decide) hf hm, iRow_fr (by decide) hf hrw⟩, sK_fr hf (by decide), fr_cT hf⟩
      · rw [rd_nS, List.length_append]; rfl
      · rw [rd_nSa (by decide), rd_nSa (by decide), rd_nSa (by decide), rd_nS, List.length_append]; rfl
      · rw [List.length_append]; exact c1
      · rw [List.length_append, List.length_singleton] at hi
        rw [getD_app]
        by_cases c3 : i < D.length
        · simp (disch := first | omega | (simp only [fIn, fR, fC, Nat.reduceEqDiff, decide_false, decide_true, Bool.false_or, Bool.or_false, Bool.false_and, Bool.and_false, Bool.or_self, Bool.true_and, Bool.true_or, Bool.and_true, Bool.or_true, Bool.and_self]; done) | fail) only [if_pos c3, rd_nS, rd_nSa, rd_nSj, rd_ovn, rd_ovy]
          exact d4 i c3
        · have e : i = D.length := by omega
          subst e
          simp (disch := first | omega | (simp only [fIn, fR, fC, Nat.reduceEqDiff, decide_false, decide_true, Bool.false_or, Bool.or_false, Bool.false_and, Bool.and_false, Bool.or_self, Bool.true_and, Bool.true_or, Bool.and_true, Bool.or_true, Bool.and_self]; done) | fail) only [if_neg c3, reduceIte, rd_nS, rd_nSa, rd_nSj, rd_ovn, rd_ovy]
          exact ⟨trivial, trivial, by omega⟩
    · have hC : hP (if x1 < 0 then (nLet (nS w 0 5 ((wI w 0 5) + 1)) fun w2 => (some ((-1 : Int32), w2))) else (if 999 < x1 then (nLet (nS w 0 5 ((wI w 0 5) + 1)) fun w5 => (some ((-1 : Int32), w5))) else (nGd (nG (wI w 34 7) 12) (nLet (nS w 39 ((wI w 34 7)).toNatClampNeg x1) fun w3 => (nLet (nS w3 34 7 ((wI w3 34 7) + 1)) fun w4 => (some ((wI w4 34 7), w4))))))) (fun v w1 => v = -1 ∧ w1 = nS w 0 5 (wI w 0 5 + 1)) := by
        rcases inR_no0 (by decide) c2 with c3 | ⟨c3, c4, a, ha, ha2, rfl⟩
        · rw [if_pos c3]; rw [hP_let, hP_some]; exact ⟨rfl, rfl⟩
        · rw [if_neg c3, if_pos (by rw [q_lit, q_lt (by omega) ha2]; omega)]; rw [hP_let, hP_some]; exact ⟨rfl, rfl⟩
      rw [if_pos (by rw [d2, q_lit, q_lt (by omega) (by omega)]; exact c1)]
      refine hP_mono hC (fun v w1 h1 => ?_)
      obtain ⟨rfl, rfl⟩ := h1
      refine ⟨s1, ?_⟩
      rw [hP_let, if_neg (by rw [rd_nSj (by decide), rd_nSa (by decide), d1, q_lit, q_eq (by omega) (by omega)]; omega), hP_B]
      refine m_within (lo := 0) (hi := 999) (by decide) (by decide) (fun a' _ _ e => absurd ⟨a', by omega, e⟩ c2) (fun hn => ?_)
      rw [if_pos (show nI 0 = 0 from rfl), hP_B]
      exact hP_mono no (fun v2 w2 h2 => by rw [hP_some]; exact h2)
  · rw [if_neg (by rw [d2, q_lit, q_lt (by omega) (by omega)]; exact c1), hP_let, hP_some]
    refine ⟨s1, ?_⟩
    rw [hP_let, if_pos (by rw [rd_nSj (by decide), rd_nSa (by decide), d1, q_lit, q_eq (by omega) (by omega)]; omega), hP_B]
    exact hP_mono no (fun v2 w2 h2 => by rw [hP_some]; exact h2)
theorem op_heads (x1 x2 : Int32) : opA Inv (f156_0 x1 x2) (f279_80 x1 x2) := by
  intro w hI
  have no := refu2 hI
  obtain ⟨g, r, h, D, H, hp, hh, hD, hH, hi, ht, hm, hrw⟩ := hI
  obtain ⟨d1, d2, d3, d4⟩ := hH
  have s1 : sK w (nS w 0 5 (wI w 0 5 + 1)) := sK_fr (p := ([], [(0, 5)])) (fr_nS fr_refl rfl) (by decide)
  obtain ⟨hM, hMr, hC, hCr, ho, hk9, ⟨hl1, hl2⟩, hcm, hti⟩ := id hp
  have hhi := gOk_hi ho
  unfold f156_0 f279_80
  by_cases c1 : H.length < 8
  · have e1 : wI w 34 9 < 8 := by rw [d2, q_lit, q_lt (by omega) (by omega)]; exact c1
    have e2 : ¬ wI (nS (nS w 0 5 (wI w 0 5 + 1)) 80 0 0) 80 75 = 8 := by rw [rd_nSj (by decide), rd_nSa (by decide), d1, q_lit, q_eq (by omega) (by omega)]; omega
    have e3 : wI (nS (nS w 0 5 (wI w 0 5 + 1)) 80 0 0) 80 2 = nI (gH g) := by rw [rd_nSj (by decide), rd_nSa (by decide), rM_hi hM]
    rw [if_pos e1]
    by_cases c2 : inR x1 (gH g)
    · obtain ⟨a, ha, rfl⟩ := c2
      have e4 : ¬ nI a < 0 := by rw [q_lit, q_lt (by omega) (by omega)]; omega
      have e5 : nI a < wI w 24 1 := by rw [rC_hi hC, q_lt (by omega) (by omega)]; exact ha
      rw [if_neg e4, if_pos e5]
      by_cases c3 : inR x2 13
      · obtain ⟨b, hb, rfl⟩ := c3
        have hf : fr ([40, 41, 111], [(34, 9), (80, 0), (80, 75)]) w (nS (nS (nS (nS (nS (nS (nS w 40 H.length (nI a)) 41 H.length (nI b)) 34 9 (nI (H.length + 1))) 80 0 (nI 0)) 111 (2 * H.length) (nI a)) 111 (2 * H.length + 1) (nI b)) 80 75 (nI (H.length + 1))) := fr_nS (fr_nS (fr_nS (fr_nS (fr_nS (fr_nS (fr_nS fr_refl rfl) rfl) rfl) rfl) rfl) rfl) rfl
        simp (disch := first | omega | (simp only [fIn, fR, fC, Nat.reduceEqDiff, decide_false, decide_true, Bool.false_or, Bool.or_false, Bool.false_and, Bool.and_false, Bool.or_self, Bool.true_and, Bool.true_or, Bool.and_true, Bool.or_true, Bool.and_self]; done) | fail) only [hP_some, hP_let, hP_gd, hP_B, hP_if, reduceIte, q_lit, nI_add, pk_mul, q_lt, q_le, q_eq, q_cl, q_g, Bool.not_eq_true', decide_eq_false_iff_not, decide_eq_true_eq, q_div, q_rm, q_sub, q_m1, Nat.zero_add, Nat.add_zero, rd_nS, rd_nSa, rd_nSj, rd_ovn, rd_ovy, d1, d2, Nat.not_lt_zero, show ¬ 12 < b by omega, show ¬ H.length = 8 by omega, rM_hi hM, ha, c1]
        refine ⟨trivial, trivial, sK_fr (p := ([40, 41], [(34, 9)])) (fr_nS (fr_nS (fr_nS fr_refl rfl) rfl) rfl) (by decide), ?_⟩
        refine m_within (by decide) (by decide) (fun a' _ _ e => ?_) (fun hn => absurd rfl (hn b (by omega) (by omega)))
        simp (disch := first | omega | (simp only [fIn, fR, fC, Nat.reduceEqDiff, decide_false, decide_true, Bool.false_or, Bool.or_false, Bool.false_and, Bool.and_false, Bool.or_self, Bool.true_and, Bool.true_or, Bool.and_true, Bool.or_true, Bool.and_self]; done) | fail) only [hP_some, hP_let, hP_gd, hP_B, hP_if, reduceIte, q_lit, nI_add, pk_mul, q_lt, q_le, q_eq, q_cl, q_g, Bool.not_eq_true', decide_eq_false_iff_not, decide_eq_true_eq, q_div, q_rm, q_sub, q_m1, Nat.zero_add, Nat.add_zero, rd_nS, rd_nSa, rd_nSj, rd_ovn, rd_ovy, d1, Nat.reduceEqDiff, c1]
        refine ⟨by omega, by omega, trivial, ⟨g, r, h, D, H ++ [(a, b)], iPool_fr (by decide) (by decide) hf hp, iHist_fr (by decide) hf hh, iDum_fr (by decide) hf hD, ⟨?_, ?_, ?_, fun i hi => ?_⟩, iImg_fr (by decide) hf hi, iText_fr (by decide) hf ht, iMisc_fr (by decide) hf hm, iRow_fr (by decide) hf hrw⟩, sK_fr hf (by decide), fr_cT hf⟩
        · rw [rd_nS, List.length_append]; rfl
        · rw [rd_nSa (by decide), rd_nSa (by decide), rd_nSa (by decide), rd_nSa (by decide), rd_nS, List.length_append]; rfl
        · rw [List.length_append]; exact c1
        · rw [List.length_append, List.length_singleton] at hi
          rw [getD_app]
          by_cases c4 : i < H.length
          · simp (disch := first | omega | (simp only [fIn, fR, fC, Nat.reduceEqDiff, decide_false, decide_true, Bool.false_or, Bool.or_false, Bool.false_and, Bool.and_false, Bool.or_self, Bool.true_and, Bool.true_or, Bool.and_true, Bool.or_true, Bool.and_self]; done) | fail) only [if_pos c4, rd_nS, rd_nSa, rd_nSj, rd_ovn, rd_ovy]
            exact d4 i c4
          · have e : i = H.length := by omega
            subst e
            simp (disch := first | omega | (simp only [fIn, fR, fC, Nat.reduceEqDiff, decide_false, decide_true, Bool.false_or, Bool.or_false, Bool.false_and, Bool.and_false, Bool.or_self, Bool.true_and, Bool.true_or, Bool.and_true, Bool.or_true, Bool.and_self]; done) | fail) only [if_neg c4, reduceIte, rd_nS, rd_nSa, rd_nSj, rd_ovn, rd_ovy]
            exact ⟨trivial, trivial, trivial, trivial, ha, by omega⟩
      · have hX : hP (if x2 < 0 then (nLet (nS w 0 5 ((wI w 0 5) + 1)) fun w4 => (some ((-1 : Int32), w4))) else (if 12 < x2 then (nLet (nS w 0 5 ((wI w 0 5) + 1)) fun w8 => (some ((-1 : Int32), w8))) else (nGd (nG (wI w 34 9) 8) (nLet (nS w 40 ((wI w 34 9)).toNatClampNeg (nI a)) fun w5 => (nGd (nG (wI w5 34 9) 8) (nLet (nS w5 41 ((wI w5 34 9)).toNatClampNeg x2) fun w6 => (nLet (nS w6 34 9 ((wI w6 34 9) + 1)) fun w7 => (some ((wI w7 34 9), w7))))))))) (fun v w1 => v = -1 ∧ w1 = nS w 0 5 (wI w 0 5 + 1)) := by
          rcases inR_no0 (by decide) c3 with c4 | ⟨c4, c5, b, hb, hb2, rfl⟩
          · rw [if_pos c4]; rw [hP_let, hP_some]; exact ⟨rfl, rfl⟩
          · rw [if_neg c4, if_pos (by rw [q_lit, q_lt (by omega) hb2]; omega)]; rw [hP_let, hP_some]; exact ⟨rfl, rfl⟩
        refine hP_mono hX (fun v w1 h1 => ?_)
        obtain ⟨rfl, rfl⟩ := h1
        refine ⟨s1, ?_⟩
        rw [hP_let, if_neg e2, if_neg e4, if_pos (by rw [e3, q_lt (by omega) (by omega)]; exact ha), hP_B]
        refine m_within (lo := 0) (hi := 12) (by decide) (by decide) (fun a' _ _ e => absurd ⟨a', by omega, e⟩ c3) (fun hn => ?_)
        rw [if_pos (show nI 0 = 0 from rfl), hP_B]
        exact hP_mono no (fun v2 w2 h2 => by rw [hP_some]; exact h2)
    · rcases inR_no0 (by omega) c2 with c4 | ⟨c4, c5, -⟩
      · rw [if_pos c4, hP_let, hP_some]
        refine ⟨s1, ?_⟩
        rw [hP_let, if_neg e2, if_pos c4, hP_B]
        exact hP_mono no (fun v2 w2 h2 => by rw [hP_some]; exact h2)
      · rw [if_neg c4, if_neg (by rw [rC_hi hC]; exact c5), hP_let, hP_some]
        refine ⟨s1, ?_⟩
        rw [hP_let, if_neg e2, if_neg c4, if_neg (by rw [e3]; exact c5), hP_B]
        exact hP_mono no (fun v2 w2 h2 => by rw [hP_some]; exact h2)
  · rw [if_neg (by rw [d2, q_lit, q_lt (by omega) (by omega)]; exact c1), hP_let, hP_some]
    refine ⟨s1, ?_⟩
    rw [hP_let, if_pos (by rw [rd_nSj (by decide), rd_nSa (by decide), d1, q_lit, q_eq (by omega) (by omega)]; omega), hP_B]
    exact hP_mono no (fun v2 w2 h2 => by rw [hP_some]; exact h2)
