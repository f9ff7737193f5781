/-! ===== OPERATIONS: undo ===== -/
theorem unE_pl (g : gS) {kd wh was : Nat} : gPl g (unE kd wh was g) := by
  unfold unE
  split
  · exact gPl_up (.inl (by omega))
  · split
    · exact gPl_up (.inr ⟨rfl, by omega⟩)
    · split
      · exact gPl_up (.inl (by omega))
      · split
        · exact gSwp_pl g wh was
        · exact gPl_up (.inr ⟨rfl, by omega⟩)
theorem mUpI {α : Type} (f : Nat → Nat → α) (a j : Nat) (v : α) (i : Nat) : mUp f a j v a i = if i = j then v else f a i := by simp [mUp]
theorem snEq_unE {g s t : gS} {kd wh was : Nat} (h : snEq g s t) (hu : unB g kd wh was) : snEq g (unE kd wh was s) (unE kd wh was t) := by
  obtain ⟨q1, q2, q3, q4, q5⟩ := h
  rcases hu with ⟨rfl, h1, h2⟩ | ⟨rfl, h1, h2⟩ | ⟨rfl, h1, h2, h3⟩ | ⟨rfl, h1, h2, h3⟩ | ⟨rfl, h1, h2⟩
  · show snEq g (mUp s 5 wh was) (mUp t 5 wh was)
    refine ⟨fun i hi => ?_, q2, q3, q4, q5⟩
    rw [mUpI, mUpI, q1 i hi]
  · show snEq g (mUp s 0 8 was) (mUp t 0 8 was)
    exact ⟨q1, q2, q3, rfl, q5⟩
  · show snEq g (mUp s 7 wh was) (mUp t 7 wh was)
    refine ⟨q1, q2, fun i hi => ?_, q4, q5⟩
    rw [mUpI, mUpI, q3 i hi]
  · show snEq g (gSwp s wh was) (gSwp t wh was)
    refine ⟨fun i hi => ?_, fun i hi => ?_, fun i hi => ?_, ?_, ?_⟩
    · rw [gSwp5, gSwp5]; exact q1 i hi
    · rw [gSwp6, gSwp6, q2 i hi, q2 wh h1, q2 was h2]
    · rw [gSwp7, gSwp7, q3 i hi, q3 wh h1, q3 was h2]
    · rw [gSwp0, gSwp0]; exact q4
    · rw [gSwp0, gSwp0]; exact q5
  · show snEq g (mUp s 0 9 was) (mUp t 0 9 was)
    exact ⟨q1, q2, q3, q4, rfl⟩
theorem snEq_tr {g s t u : gS} (h1 : snEq g s t) (h2 : snEq g t u) : snEq g s u := ⟨fun i hi => (h1.1 i hi).trans (h2.1 i hi), fun i hi => (h1.2.1 i hi).trans (h2.2.1 i hi), fun i hi => (h1.2.2.1 i hi).trans (h2.2.2.1 i hi), h1.2.2.2.1.trans h2.2.2.2.1, h1.2.2.2.2.trans h2.2.2.2.2⟩
/-- the history with its last act taken back -/
theorem hist_back {g g' s : gS} {h : List gS} {w W : mW} {n : Nat} (hh : iHist g h w 102 63 38 34) (hn : h.length = n + 1) (hp : gPl g g') (he : snEq g (h.getD n g) g') (m1 : wI W 80 63 = nI n) (c1 : wI W 34 5 = nI n) (e102 : ∀ j, wI W 102 j = wI w 102 j) (e38 : ∀ j, wI W 38 j = wI w 38 j) : iHist g' (h.take n) W 102 63 38 34 := by
  obtain ⟨h1, h2, hl, h3⟩ := hh
  have hlen : (h.take n).length = n := by rw [List.length_take]; omega
  have esw := gPl_sw hp
  have elk := gPl_lk hp
  have eM : ∀ s w a off, snM g' s w a off = snM g s w a off := fun s w a off => by simp only [snM, esw, elk]
  have eO : ∀ s, snOk g' s = snOk g s := fun s => by simp only [snOk, esw, elk, gPl_w hp, gPl_h hp]
  have eB : ∀ a b c, unB g' a b c = unB g a b c := fun a b c => by simp only [unB, esw, elk, gPl_w hp, gPl_h hp]
  have eE : ∀ s t, snEq g' s t = snEq g s t := fun s t => by simp only [snEq, esw, elk]
  have gd : ∀ j, j < n → (h.take n).getD j g' = h.getD j g := by
    intro j hj
    rw [List.getD_eq_getElem?_getD, List.getD_eq_getElem?_getD, List.getElem?_take_of_lt hj, List.getElem?_eq_getElem (by omega)]
    rfl
  refine ⟨by rw [hlen]; exact m1, by rw [hlen]; exact c1, by omega, fun j hj => ?_⟩
  rw [hlen] at hj
  obtain ⟨b1, b2, kd, wh, was, b3, b4, b5, b6, b7⟩ := h3 j (by omega)
  rw [gd j hj, eM, eO]
  unfold unL
  simp only [eB, eE, e38]
  refine ⟨?_, b2, kd, wh, was, b3, b4, b5, b6, ?_⟩
  · simp only [snM, e102]
    exact b1
  · by_cases c : j + 1 < n
    · rw [gd (j + 1) c]; exact b7
    · have e : j + 1 = n := by omega
      have e2 : (h.take n).getD (j + 1) g' = g' := by
        rw [List.getD_eq_getElem?_getD, List.getElem?_eq_none (by omega)]; rfl
      rw [e2]
      rw [e] at b7
      exact snEq_tr b7 (snEq_unE he b6)
theorem op_undo : opA Inv f140_0 f217_80 := by
  intro w hI
  have hI0 := hI
  obtain ⟨g, r, h, D, H, hX⟩ := hI
  obtain ⟨hp, hh, hD, hH, hi, ht, hm, hrw⟩ := id hX
  obtain ⟨hM, hMr, hC, hCr, ho, hk9, ⟨hl1, hl2⟩, hcm, hti⟩ := id hp
  obtain ⟨h1, h2, hl, h3⟩ := id hh
  have hsw := gOk_sw ho
  have hlk := gOk_lk ho
  have hncell := gOk_n ho
  unfold f140_0
  by_cases c0 : h.length = 0
  · rw [h2, if_pos (by rw [c0]; rfl), hP_some]
    refine ⟨⟨rfl, fun _ => rfl⟩, ?_⟩
    unfold f217_80
    have f0 : fr ([], [(80, 0)]) w (nS w 80 0 0) := fr_nS fr_refl rfl
    rw [hP_let, if_pos (by rw [rd_nSj (by decide), h1, c0]; rfl), hP_some]
    exact ⟨rfl, Inv_fr (by decide) f0 hI0, sK_fr f0 (by decide), fr_cT f0⟩
  · obtain ⟨n, hn⟩ : ∃ n, h.length = n + 1 := ⟨h.length - 1, by omega⟩
    obtain ⟨b1, b2, kd, wh, was, b3, b4, b5, b6, b7⟩ := h3 n (by omega)
    have eg : h.getD (n + 1) g = g := by rw [List.getD_eq_getElem?_getD, List.getElem?_eq_none (by omega)]; rfl
    rw [eg] at b7
    rw [if_neg (by rw [h2, q_lit, q_eq (by omega) (by omega)]; exact c0), hP_B]
    -- what the class writes
    have hpl := unE_pl g (kd := kd) (wh := wh) (was := was)
    have cls : hP (f4_34 w) (fun _ w1 => fr ([35, 36, 37], [(34, 1), (34, 4), (34, 5)]) w w1 ∧ wI w1 34 5 = nI n ∧ snC g (unE kd wh was g) w1 34 35 36 37) := by
      obtain ⟨q1, q2, q3, q4, q5⟩ := snC_rC hC
      unfold f4_34
      rw [if_neg (by rw [h2, hn, q_lit, q_lt (by omega) (by omega)]; omega)]
      have e5 : wI w 34 5 - 1 = nI n := by rw [h2, hn, q_lit, q_sub (by omega)]; rfl
      rw [hP_let, e5]
      have f0 : fr ([35, 36, 37], [(34, 1), (34, 4), (34, 5)]) w (nS w 34 5 (nI n)) := fr_nS fr_refl rfl
      have z5 : wI (nS w 34 5 (nI n)) 34 5 = nI n := rd_nS
      have b4' : wI (nS w 34 5 (nI n)) 38 (3 * n + 1) = nI wh := (rd_nSa (by decide)).trans b4
      have b5' : wI (nS w 34 5 (nI n)) 38 (3 * n + 2) = nI was := (rd_nSa (by decide)).trans b5
      have b3' : wI (nS w 34 5 (nI n)) 38 (3 * n) = nI kd := (rd_nSa (by decide)).trans b3
      simp (disch := first | omega | (simp only [fIn, fR, fC, Nat.reduceEqDiff, decide_false, decide_true, Bool.false_or, Bool.or_false, Bool.false_and, Bool.and_false, Bool.or_self, Bool.true_and, Bool.true_or, Bool.and_true, Bool.or_true, Bool.and_self]; done) | fail) only [hP_some, hP_let, hP_gd, hP_B, hP_if, reduceIte, q_lit, nI_add, pk_mul, q_lt, q_le, q_eq, q_cl, q_g, Bool.not_eq_true', decide_eq_false_iff_not, decide_eq_true_eq, q_div, q_rm, q_sub, q_m1, Nat.zero_add, Nat.add_zero, z5, b3', b4', b5']
      refine ⟨by omega, by omega, by omega, ?_⟩
      rcases b6 with ⟨rfl, u1, u2⟩ | ⟨rfl, u1, u2⟩ | ⟨rfl, u1, u2, u3⟩ | ⟨rfl, u1, u2, u3⟩ | ⟨rfl, u1, u2⟩
      · simp (disch := first | omega | (simp only [fIn, fR, fC, Nat.reduceEqDiff, decide_false, decide_true, Bool.false_or, Bool.or_false, Bool.false_and, Bool.and_false, Bool.or_self, Bool.true_and, Bool.true_or, Bool.and_true, Bool.or_true, Bool.and_self]; done) | fail) only [q_lit, nI_add, pk_mul, q_lt, q_le, q_eq, q_cl, q_g, Bool.not_eq_true', decide_eq_false_iff_not, decide_eq_true_eq, q_div, q_rm, q_sub, q_m1, Nat.zero_add, Nat.add_zero, reduceIte]
        refine ⟨by omega, fr_nS f0 rfl, (rd_nSa (by decide)).trans rd_nS, ?_⟩
        show snC g (mUp g 5 wh was) _ 34 35 36 37
        refine ⟨fun i hi => ?_, fun i hi => ?_, fun i hi => ?_, ?_, ?_⟩
        · rw [mUpI, rd_nSi, rd_nSa (by decide), q1 i hi]
          split <;> rfl
        · rw [rd_nSa (by decide), rd_nSa (by decide)]; exact q2 i hi
        · rw [rd_nSa (by decide), rd_nSa (by decide)]; exact q3 i hi
        · rw [rd_nSa (by decide), rd_nSj (by decide)]; exact q4
        · rw [rd_nSa (by decide), rd_nSj (by decide)]; exact q5
      · simp (disch := first | omega | (simp only [fIn, fR, fC, Nat.reduceEqDiff, decide_false, decide_true, Bool.false_or, Bool.or_false, Bool.false_and, Bool.and_false, Bool.or_self, Bool.true_and, Bool.true_or, Bool.and_true, Bool.or_true, Bool.and_self]; done) | fail) only [q_lit, nI_add, pk_mul, q_lt, q_le, q_eq, q_cl, q_g, Bool.not_eq_true', decide_eq_false_iff_not, decide_eq_true_eq, q_div, q_rm, q_sub, q_m1, Nat.zero_add, Nat.add_zero, reduceIte, Nat.reduceEqDiff]
        refine ⟨fr_nS f0 rfl, (rd_nSj (by decide)).trans rd_nS, ?_⟩
        show snC g (mUp g 0 8 was) _ 34 35 36 37
        refine ⟨fun i hi => ?_, fun i hi => ?_, fun i hi => ?_, ?_, ?_⟩
        · rw [rd_nSa (by decide), rd_nSa (by decide)]; exact q1 i hi
        · rw [rd_nSa (by decide), rd_nSa (by decide)]; exact q2 i hi
        · rw [rd_nSa (by decide), rd_nSa (by decide)]; exact q3 i hi
        · exact rd_nS
        · rw [rd_nSj (by decide), rd_nSj (by decide)]; exact q5
      · simp (disch := first | omega | (simp only [fIn, fR, fC, Nat.reduceEqDiff, decide_false, decide_true, Bool.false_or, Bool.or_false, Bool.false_and, Bool.and_false, Bool.or_self, Bool.true_and, Bool.true_or, Bool.and_true, Bool.or_true, Bool.and_self]; done) | fail) only [q_lit, nI_add, pk_mul, q_lt, q_le, q_eq, q_cl, q_g, Bool.not_eq_true', decide_eq_false_iff_not, decide_eq_true_eq, q_div, q_rm, q_sub, q_m1, Nat.zero_add, Nat.add_zero, reduceIte, Nat.reduceEqDiff]
        refine ⟨by omega, fr_nS f0 rfl, (rd_nSa (by decide)).trans rd_nS, ?_⟩
        show snC g (mUp g 7 wh was) _ 34 35 36 37
        refine ⟨fun i hi => ?_, fun i hi => ?_, fun i hi => ?_, ?_, ?_⟩
        · rw [rd_nSa (by decide), rd_nSa (by decide)]; exact q1 i hi
        · rw [rd_nSa (by decide), rd_nSa (by decide)]; exact q2 i hi
        · rw [mUpI, rd_nSi, rd_nSa (by decide), q3 i hi]
          split <;> rfl
        · rw [rd_nSa (by decide), rd_nSj (by decide)]; exact q4
        · rw [rd_nSa (by decide), rd_nSj (by decide)]; exact q5
      · simp (disch := first | omega | (simp only [fIn, fR, fC, Nat.reduceEqDiff, decide_false, decide_true, Bool.false_or, Bool.or_false, Bool.false_and, Bool.and_false, Bool.or_self, Bool.true_and, Bool.true_or, Bool.and_true, Bool.or_true, Bool.and_self]; done) | fail) only [q_lit, nI_add, pk_mul, q_lt, q_le, q_eq, q_cl, q_g, Bool.not_eq_true', decide_eq_false_iff_not, decide_eq_true_eq, q_div, q_rm, q_sub, q_m1, Nat.zero_add, Nat.add_zero, reduceIte, Nat.reduceEqDiff]
        refine c_changeOver (by omega) (by omega) u3 (fun w3 fc k6 k7 => ?_)
        refine ⟨fr_then f0 fc (by decide), (fr_rd fc rfl).trans rd_nS, ?_⟩
        show snC g (gSwp g wh was) _ 34 35 36 37
        refine ⟨fun i hi => ?_, fun i hi => ?_, fun i hi => ?_, ?_, ?_⟩
        · rw [gSwp5, fr_rd fc rfl, rd_nSa (by decide)]; exact q1 i hi
        · rw [gSwp6, k6, rd_nSa (by decide), rd_nSa (by decide), rd_nSa (by decide), q2 i hi, q2 wh u1, q2 was u2]
          split
          · rfl
          · split <;> rfl
        · rw [gSwp7, k7, rd_nSa (by decide), rd_nSa (by decide), rd_nSa (by decide), q3 i hi, q3 wh u1, q3 was u2]
          split
          · rfl
          · split <;> rfl
        · rw [gSwp0, fr_rd fc rfl, rd_nSj (by decide)]; exact q4
        · rw [gSwp0, fr_rd fc rfl, rd_nSj (by decide)]; exact q5
      · simp (disch := first | omega | (simp only [fIn, fR, fC, Nat.reduceEqDiff, decide_false, decide_true, Bool.false_or, Bool.or_false, Bool.false_and, Bool.and_false, Bool.or_self, Bool.true_and, Bool.true_or, Bool.and_true, Bool.or_true, Bool.and_self]; done) | fail) only [q_lit, nI_add, pk_mul, q_lt, q_le, q_eq, q_cl, q_g, Bool.not_eq_true', decide_eq_false_iff_not, decide_eq_true_eq, q_div, q_rm, q_sub, q_m1, Nat.zero_add, Nat.add_zero, reduceIte, Nat.reduceEqDiff]
        refine ⟨fr_nS f0 rfl, (rd_nSj (by decide)).trans rd_nS, ?_⟩
        show snC g (mUp g 0 9 was) _ 34 35 36 37
        refine ⟨fun i hi => ?_, fun i hi => ?_, fun i hi => ?_, ?_, ?_⟩
        · rw [rd_nSa (by decide), rd_nSa (by decide)]; exact q1 i hi
        · rw [rd_nSa (by decide), rd_nSa (by decide)]; exact q2 i hi
        · rw [rd_nSa (by decide), rd_nSa (by decide)]; exact q3 i hi
        · rw [rd_nSj (by decide), rd_nSj (by decide)]; exact q4
        · exact rd_nS
    refine hP_mono cls (fun _ w1 hc => ?_)
    obtain ⟨fC, e5, sC⟩ := hc
    generalize hg' : unE kd wh was g = g' at hpl b7 sC
    rw [hP_some, e5]
    refine ⟨sK_fr fC (by decide), ?_⟩
    unfold f217_80
    have e63 : wI (nS w1 80 0 0) 80 63 = nI (n + 1) := by rw [rd_nSj (by decide), fr_rd fC rfl, h1, hn]
    rw [hP_let, e63, if_neg (by rw [q_lit, q_eq (by omega) (by omega)]; omega), hP_let, show nI (n + 1) - 1 = nI n by rw [q_lit, q_sub (by omega)]; rfl]
    have fM : fr ([35, 36, 37, 100], [(34, 1), (34, 4), (34, 5), (80, 0), (80, 63)]) w (nS (nS w1 80 0 0) 80 63 (nI n)) := fr_nS (fr_nS (fr_up fC (by decide)) rfl) rfl
    refine hP_loopF (fun m s => ∃ k w2, k + m = 38 ∧ s = (nI k, w2) ∧ fr ([100], []) (nS (nS w1 80 0 0) 80 63 (nI n)) w2 ∧ ∀ i, i < k → wI w2 100 i = wI w 102 (38 * n + i)) 38 (by decide) ⟨0, _, rfl, rfl, fr_refl, fun i hi => absurd hi (Nat.not_lt_zero _)⟩ ?_
    rintro m s rec ⟨k, w2, hk, rfl, hf2, hc2⟩ ih
    have x63 : wI w2 80 63 = nI n := (fr_rd hf2 rfl).trans rd_nS
    simp only [f217_80_b26]
    by_cases c : k < 38
    · simp (disch := first | omega | (simp only [fIn, fR, fC, Nat.reduceEqDiff, decide_false, decide_true, Bool.false_or, Bool.or_false, Bool.false_and, Bool.and_false, Bool.or_self, Bool.true_and, Bool.true_or, Bool.and_true, Bool.or_true, Bool.and_self]; done) | fail) only [hP_some, hP_let, hP_gd, hP_B, hP_if, reduceIte, q_lit, nI_add, pk_mul, q_lt, q_le, q_eq, q_cl, q_g, Bool.not_eq_true', decide_eq_false_iff_not, decide_eq_true_eq, q_div, q_rm, q_sub, q_m1, Nat.zero_add, Nat.add_zero, x63, c]
      refine ⟨by omega, trivial, ?_⟩
      refine ih (m - 1) _ (by omega) ⟨k + 1, _, by omega, rfl, fr_nS hf2 rfl, fun i hi => ?_⟩
      by_cases e : i = k
      · rw [e, rd_nS, fr_rd hf2 rfl, fr_rd fM rfl]
      · rw [rd_nSj e]; exact hc2 i (by omega)
    · simp (disch := first | omega | (simp only [fIn, fR, fC, Nat.reduceEqDiff, decide_false, decide_true, Bool.false_or, Bool.or_false, Bool.false_and, Bool.and_false, Bool.or_self, Bool.true_and, Bool.true_or, Bool.and_true, Bool.or_true, Bool.and_self]; done) | fail) only [hP_some, hP_let, hP_gd, hP_B, hP_if, reduceIte, q_lit, nI_add, pk_mul, q_lt, q_le, q_eq, q_cl, q_g, Bool.not_eq_true', decide_eq_false_iff_not, decide_eq_true_eq, q_div, q_rm, q_sub, q_m1, Nat.zero_add, Nat.add_zero, x63, c]
      have e : k = 38 := by omega
      subst e
      have fE : fr ([35, 36, 37, 100], [(34, 1), (34, 4), (34, 5), (80, 0), (80, 63)]) w w2 := fr_then fM hf2 (by decide)
      have esw := gPl_sw hpl
      have elk := gPl_lk hpl
      have fV : fr ([100], [(80, 0), (80, 63)]) w1 w2 := fr_then (fr_nS (fr_nS fr_refl rfl) rfl) hf2 (by decide)
      refine ⟨trivial, ⟨g', r, h.take n, D, H, iPool_of (by decide) fE hp hpl ?_ ?_ ?_, hist_back (s := g) hh hn hpl b7 x63 ?_ (fun j => fr_rd fE rfl) (fun j => fr_rd fE rfl), iDum_fr (by decide) fE hD, iHd_g hpl (iHd_fr (by decide) fE hH), iImg_g hpl (iImg_fr (by decide) fE hi), iText_fr (by decide) fE ht, iMisc_fr (by decide) fE hm, iRow_fr (by decide) fE hrw⟩, sK_fr fE (by decide), fr_cT fE⟩
      · obtain ⟨v1, v2, v3, v4, v5⟩ := b2
        obtain ⟨q1, q2, q3, q4, q5⟩ := b7
        unfold snOk
        rw [esw, elk, gPl_w hpl, gPl_h hpl, ← q4, ← q5]
        exact ⟨fun i hi => by rw [← q1 i hi]; exact v1 i hi, fun i hi => by rw [← q2 i hi]; exact v2 i hi, fun i hi => by rw [← q3 i hi]; exact v3 i hi, v4, v5⟩
      · obtain ⟨v1, v2, v3, v4, v5⟩ := b1
        obtain ⟨q1, q2, q3, q4, q5⟩ := b7
        unfold snM
        rw [esw, elk, ← q4, ← q5]
        refine ⟨fun i hi => ?_, fun i hi => ?_, fun i hi => ?_, ?_, ?_⟩
        · rw [Nat.zero_add, hc2 i (by omega), ← q1 i hi]; exact v1 i hi
        · rw [hc2 (0 + 12 + i) (by omega), ← q2 i hi, ← v2 i hi]; congr 1; omega
        · rw [hc2 (0 + 24 + i) (by omega), ← q3 i hi, ← v3 i hi]; congr 1; omega
        · rw [hc2 _ (by decide)]; exact v4
        · rw [hc2 _ (by decide)]; exact v5
      · obtain ⟨q1, q2, q3, q4, q5⟩ := sC
        unfold snC
        rw [esw, elk]
        refine ⟨fun i hi => ?_, fun i hi => ?_, fun i hi => ?_, ?_, ?_⟩
        · rw [fr_rd fV rfl]; exact q1 i hi
        · rw [fr_rd fV rfl]; exact q2 i hi
        · rw [fr_rd fV rfl]; exact q3 i hi
        · rw [fr_rd fV rfl]; exact q4
        · rw [fr_rd fV rfl]; exact q5
      · rw [fr_rd fV rfl]; exact e5
