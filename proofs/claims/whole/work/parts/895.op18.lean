/-! ===== OPERATIONS: image, restore ===== -/
theorem m_copies {B : (Int32 × mW → Option (Unit × mW)) → Int32 × mW → Option (Unit × mW)} {a b L : Nat} {w : mW} {Q : Unit → mW → Prop} (hB : ∀ rec x w, B rec (x, w) = if x < nI L then nGd (nG x L) (nGd (nG x L) (nLet (nS w b x.toNatClampNeg (wI w a x.toNatClampNeg)) fun w1 => rec (x + 1, w1))) else some ((), w)) (hL : L < 20000) (hab : ¬ a = b) (hq : ∀ w', fr ([b], []) w w' → (∀ i, i < L → wI w' b i = wI w a i) → Q () w') : hP (mLoop B nF (0, w)) Q := by
  have hb : ∀ j, fIn ([b], []) b j = true := fun j => by simp [fIn, fR]
  have ha : ∀ j, fIn ([b], []) a j = false := fun j => by simp [fIn, fR, fC]; exact fun e => hab e.symm
  refine hP_loopF (fun n s => ∃ k w1, k + n = L ∧ s = (nI k, w1) ∧ fr ([b], []) w w1 ∧ ∀ i, i < k → wI w1 b i = wI w a i) L hL ⟨0, w, by omega, rfl, fr_refl, fun i hi => absurd hi (Nat.not_lt_zero _)⟩ ?_
  rintro n s rec ⟨k, w1, hk, rfl, hf, hc⟩ ih
  rw [hB]
  by_cases c : k < L
  · simp (disch := first | omega | (simp only [fIn, fR, fC, Nat.reduceEqDiff, decide_false, decide_true, Bool.false_or, Bool.or_false, Bool.false_and, Bool.and_false, Bool.or_self, Bool.true_and, Bool.true_or, Bool.and_true, Bool.or_true, Bool.and_self]; done) | fail) only [hP_some, hP_let, hP_gd, hP_B, hP_if, reduceIte, q_lit, nI_add, pk_mul, q_lt, q_le, q_eq, q_cl, q_g, Bool.not_eq_true', decide_eq_false_iff_not, decide_eq_true_eq, q_div, q_rm, q_sub, q_m1, Nat.zero_add, Nat.add_zero, c]
    refine ⟨trivial, trivial, ?_⟩
    refine ih (n - 1) _ (by omega) ⟨k + 1, _, by omega, rfl, fr_nS hf (hb _), fun i hi => ?_⟩
    by_cases e : i = k
    · rw [e, rd_nS, fr_rd hf (ha _)]
    · rw [rd_nSj e]; exact hc i (by omega)
  · have e : k = L := by omega
    simp (disch := first | omega | (simp only [fIn, fR, fC, Nat.reduceEqDiff, decide_false, decide_true, Bool.false_or, Bool.or_false, Bool.false_and, Bool.and_false, Bool.or_self, Bool.true_and, Bool.true_or, Bool.and_true, Bool.or_true, Bool.and_self]; done) | fail) only [hP_some, hP_let, hP_gd, hP_B, hP_if, reduceIte, q_lit, nI_add, pk_mul, q_lt, q_le, q_eq, q_cl, q_g, Bool.not_eq_true', decide_eq_false_iff_not, decide_eq_true_eq, q_div, q_rm, q_sub, q_m1, Nat.zero_add, Nat.add_zero, c]
    subst e
    exact hq _ hf hc
/-- a state of the class copied -/
def cpC (w w' : mW) (b b1 b2 b3 b4 b5 b6 b7 a a1 a2 a3 a4 a5 a6 a7 : Nat) : Prop := (∀ i, i < 12 → wI w' b1 i = wI w a1 i) ∧ (∀ i, i < 12 → wI w' b2 i = wI w a2 i) ∧ (∀ i, i < 12 → wI w' b3 i = wI w a3 i) ∧ (∀ i, i < 120 → wI w' b4 i = wI w a4 i) ∧ (∀ i, i < 12 → wI w' b5 i = wI w a5 i) ∧ (∀ i, i < 8 → wI w' b6 i = wI w a6 i) ∧ (∀ i, i < 8 → wI w' b7 i = wI w a7 i) ∧ wI w' b 1 = wI w a 1 ∧ wI w' b 4 = wI w a 4 ∧ wI w' b 5 = wI w a 5 ∧ wI w' b 7 = wI w a 7 ∧ wI w' b 9 = wI w a 9
theorem c_keep {w : mW} {Q : Unit → mW → Prop} (hq : ∀ w', fr ([56, 57, 58, 59, 60, 61, 62], [(55, 1), (55, 4), (55, 5), (55, 7), (55, 9)]) w w' → cpC w w' 55 56 57 58 59 60 61 62 34 35 36 37 38 39 40 41 → Q () w') : hP (f2_55_34 w) Q := by
  unfold f2_55_34
  simp only [hP_let, hP_some]
  refine hq _ (fr_cpy (fr_cpy (fr_nS (fr_cpy (fr_nS (fr_cpy (fr_nS (fr_nS (fr_cpy (fr_cpy (fr_nS (fr_cpy fr_refl rfl) rfl) rfl) rfl) rfl) rfl) rfl) rfl) rfl) rfl) rfl) rfl) ?_
  refine ⟨fun i hi => ?_, fun i hi => ?_, fun i hi => ?_, fun i hi => ?_, fun i hi => ?_, fun i hi => ?_, fun i hi => ?_, ?_, ?_, ?_, ?_, ?_⟩ <;> simp (disch := first | omega | (simp only [fIn, fR, fC, Nat.reduceEqDiff, decide_false, decide_true, Bool.false_or, Bool.or_false, Bool.false_and, Bool.and_false, Bool.or_self, Bool.true_and, Bool.true_or, Bool.and_true, Bool.or_true, Bool.and_self]; done) | fail) only [rd_cpya, rd_cpyy, rd_nSa, rd_nSj, rd_nS]
theorem c_bring {w : mW} {Q : Unit → mW → Prop} (hq : ∀ w', fr ([35, 36, 37, 38, 39, 40, 41], [(34, 1), (34, 4), (34, 5), (34, 7), (34, 9)]) w w' → cpC w w' 34 35 36 37 38 39 40 41 55 56 57 58 59 60 61 62 → Q () w') : hP (f2_34_55 w) Q := by
  unfold f2_34_55
  simp only [hP_let, hP_some]
  refine hq _ (fr_cpy (fr_cpy (fr_nS (fr_cpy (fr_nS (fr_cpy (fr_nS (fr_nS (fr_cpy (fr_cpy (fr_nS (fr_cpy fr_refl rfl) rfl) rfl) rfl) rfl) rfl) rfl) rfl) rfl) rfl) rfl) rfl) ?_
  refine ⟨fun i hi => ?_, fun i hi => ?_, fun i hi => ?_, fun i hi => ?_, fun i hi => ?_, fun i hi => ?_, fun i hi => ?_, ?_, ?_, ?_, ?_, ?_⟩ <;> simp (disch := first | omega | (simp only [fIn, fR, fC, Nat.reduceEqDiff, decide_false, decide_true, Bool.false_or, Bool.or_false, Bool.false_and, Bool.and_false, Bool.or_self, Bool.true_and, Bool.true_or, Bool.and_true, Bool.or_true, Bool.and_self]; done) | fail) only [rd_cpya, rd_cpyy, rd_nSa, rd_nSj, rd_nS]
section MOVE
variable {g s : gS} {w w' : mW}
theorem mv_snC {b b1 b2 b3 b4 b5 b6 b7 a a1 a2 a3 a4 a5 a6 a7 : Nat} (hc : cpC w w' b b1 b2 b3 b4 b5 b6 b7 a a1 a2 a3 a4 a5 a6 a7) (hsw : gSw g ≤ 12) (hlk : gLk g ≤ 12) (h : snC g s w a a1 a2 a3) : snC g s w' b b1 b2 b3 := by
  obtain ⟨k1, k2, k3, k4, k5, k6, k7, k8, k9, k10, k11, k12⟩ := hc
  obtain ⟨q1, q2, q3, q4, q5⟩ := h
  exact ⟨fun i hi => (k1 i (by omega)).trans (q1 i hi), fun i hi => (k2 i (by omega)).trans (q2 i hi), fun i hi => (k3 i (by omega)).trans (q3 i hi), k8.trans q4, k9.trans q5⟩
theorem mv_snM {a b o : Nat} (hc : ∀ i, i < 38 → wI w' b (o + i) = wI w a (o + i)) (hsw : gSw g ≤ 12) (hlk : gLk g ≤ 12) (h : snM g s w a o) : snM g s w' b o := by
  obtain ⟨q1, q2, q3, q4, q5⟩ := h
  refine ⟨fun i hi => ?_, fun i hi => ?_, fun i hi => ?_, ?_, ?_⟩
  · rw [hc i (by omega)]; exact q1 i hi
  · rw [Nat.add_assoc, hc (12 + i) (by omega), ← Nat.add_assoc]; exact q2 i hi
  · rw [Nat.add_assoc, hc (24 + i) (by omega), ← Nat.add_assoc]; exact q3 i hi
  · rw [hc 36 (by omega)]; exact q4
  · rw [hc 37 (by omega)]; exact q5
theorem mv_hist {h : List gS} {b b1 b2 b3 b4 b5 b6 b7 a a1 a2 a3 a4 a5 a6 a7 ma mb ja jb : Nat} (hc : cpC w w' b b1 b2 b3 b4 b5 b6 b7 a a1 a2 a3 a4 a5 a6 a7) (hm : ∀ i, i < 1520 → wI w' mb i = wI w ma i) (hj : wI w' 80 jb = wI w 80 ja) (hsw : gSw g ≤ 12) (hlk : gLk g ≤ 12) (hh : iHist g h w ma ja a4 a) : iHist g h w' mb jb b4 b := by
  obtain ⟨k1, k2, k3, k4, k5, k6, k7, k8, k9, k10, k11, k12⟩ := hc
  obtain ⟨q1, q2, q3, q4⟩ := hh
  refine ⟨hj.trans q1, k10.trans q2, q3, fun j hj => ?_⟩
  obtain ⟨b1, b2, kd, wh, was, b3, b4, b5, b6⟩ := q4 j hj
  exact ⟨mv_snM (fun i hi => hm _ (by omega)) hsw hlk b1, b2, kd, wh, was, (k4 _ (by omega)).trans b3, (k4 _ (by omega)).trans b4, (k4 _ (by omega)).trans b5, b6⟩
theorem mv_dum {D : List Nat} {b b1 b2 b3 b4 b5 b6 b7 a a1 a2 a3 a4 a5 a6 a7 ma mb ja jb : Nat} (hc : cpC w w' b b1 b2 b3 b4 b5 b6 b7 a a1 a2 a3 a4 a5 a6 a7) (hm : ∀ i, i < 12 → wI w' mb i = wI w ma i) (hj : wI w' 80 jb = wI w 80 ja) (hh : iDum D w ja ma a a5) : iDum D w' jb mb b b5 := by
  obtain ⟨k1, k2, k3, k4, k5, k6, k7, k8, k9, k10, k11, k12⟩ := hc
  obtain ⟨q1, q2, q3, q4⟩ := hh
  exact ⟨hj.trans q1, k11.trans q2, q3, fun i hi => ⟨(hm i (by omega)).trans (q4 i hi).1, (k5 i (by omega)).trans (q4 i hi).2.1, (q4 i hi).2.2⟩⟩
theorem mv_hd {H : List (Nat × Nat)} {b b1 b2 b3 b4 b5 b6 b7 a a1 a2 a3 a4 a5 a6 a7 ma mb ja jb : Nat} (hc : cpC w w' b b1 b2 b3 b4 b5 b6 b7 a a1 a2 a3 a4 a5 a6 a7) (hm : ∀ i, i < 16 → wI w' mb i = wI w ma i) (hj : wI w' 80 jb = wI w 80 ja) (hh : iHd g H w ja ma a a6 a7) : iHd g H w' jb mb b b6 b7 := by
  obtain ⟨k1, k2, k3, k4, k5, k6, k7, k8, k9, k10, k11, k12⟩ := hc
  obtain ⟨q1, q2, q3, q4⟩ := hh
  refine ⟨hj.trans q1, k12.trans q2, q3, fun i hi => ?_⟩
  obtain ⟨v1, v2, v3, v4, v5⟩ := q4 i hi
  exact ⟨(hm _ (by omega)).trans v1, (hm _ (by omega)).trans v2, (k6 i (by omega)).trans v3, (k7 i (by omega)).trans v4, v5⟩
end MOVE
theorem op_image : opV Inv f163_0 f289_80 := by
  rintro w ⟨g, r, h, D, H, hp, hh, hD, hH, hi, ht, hm, hrw⟩
  obtain ⟨hM, hMr, hC, hCr, ho, hk9, ⟨hl1, hl2⟩, hcm, hti⟩ := id hp
  have hsw := gOk_sw ho
  have hlk := gOk_lk ho
  unfold f163_0
  rw [hP_B]
  refine c_keep (fun w' fC kC => ?_)
  rw [hP_let, hP_some]
  have fC2 : fr ([56, 57, 58, 59, 60, 61, 62], [(55, 1), (55, 4), (55, 5), (55, 7), (55, 9), (0, 11)]) w (nS w' 0 11 1) := fr_nS (fr_up fC (by decide)) rfl
  refine ⟨sK_fr fC2 (by decide), ?_⟩
  unfold f289_80
  simp only [hP_let, hP_B]
  refine m_copies (L := 38) (fun _ _ _ => rfl) (by decide) (by decide) (fun u1 g1 x1 => ?_)
  refine m_copies (L := 1520) (fun _ _ _ => rfl) (by decide) (by decide) (fun u2 g2 x2 => ?_)
  refine m_copies (L := 12) (fun _ _ _ => rfl) (by decide) (by decide) (fun u3 g3 x3 => ?_)
  refine m_copies (L := 16) (fun _ _ _ => rfl) (by decide) (by decide) (fun u4 g4 x4 => ?_)
  rw [hP_some]
  generalize hv : nS (nS (nS (nS (nS (nS w' 0 11 1) 80 0 0) 80 79 1) 80 80 _) 80 81 _) 80 82 _ = v at g1 x1
  have fV : fr ([56, 57, 58, 59, 60, 61, 62], [(55, 1), (55, 4), (55, 5), (55, 7), (55, 9), (0, 11), (80, 0), (80, 79), (80, 80), (80, 81), (80, 82)]) w v := by rw [← hv]; exact fr_nS (fr_nS (fr_nS (fr_nS (fr_nS (fr_up fC2 (by decide)) rfl) rfl) rfl) rfl) rfl
  have fW : fr ([112, 113, 114, 115], []) v u4 := fr_then (fr_then (fr_then (fr_up g1 (by decide)) g2 (by decide)) g3 (by decide)) g4 (by decide)
  have fE : fr ([56, 57, 58, 59, 60, 61, 62, 112, 113, 114, 115], [(55, 1), (55, 4), (55, 5), (55, 7), (55, 9), (0, 11), (80, 0), (80, 79), (80, 80), (80, 81), (80, 82)]) w u4 := fr_then (fr_up fV (by decide)) fW (by decide)
  have e79 : wI v 80 79 = nI 1 := by rw [← hv, rd_nSj (by decide), rd_nSj (by decide), rd_nSj (by decide), rd_nS]; rfl
  have e80 : wI v 80 80 = wI w 80 63 := by rw [← hv, rd_nSj (by decide), rd_nSj (by decide), rd_nS, rd_nSj (by decide), rd_nSj (by decide)]; exact fr_rd fC2 rfl
  have e81 : wI v 80 81 = wI w 80 74 := by rw [← hv, rd_nSj (by decide), rd_nS, rd_nSj (by decide), rd_nSj (by decide), rd_nSj (by decide)]; exact fr_rd fC2 rfl
  have e82 : wI v 80 82 = wI w 80 75 := by rw [← hv, rd_nS, rd_nSj (by decide), rd_nSj (by decide), rd_nSj (by decide), rd_nSj (by decide)]; exact fr_rd fC2 rfl
  have e11 : wI v 0 11 = nI 1 := by rw [← hv, rd_nSa (by decide), rd_nSa (by decide), rd_nSa (by decide), rd_nSa (by decide), rd_nSa (by decide), rd_nS]; rfl
  have fX : fr ([112, 113, 114, 115], [(0, 11), (80, 0), (80, 79), (80, 80), (80, 81), (80, 82)]) w' u4 := by
    refine fr_then ?_ fW (by decide)
    rw [← hv]
    exact fr_nS (fr_nS (fr_nS (fr_nS (fr_nS (fr_nS fr_refl rfl) rfl) rfl) rfl) rfl) rfl
  have kC4 : cpC w u4 55 56 57 58 59 60 61 62 34 35 36 37 38 39 40 41 := by
    obtain ⟨k1, k2, k3, k4, k5, k6, k7, k8, k9, k10, k11, k12⟩ := kC
    exact ⟨fun i hi => (fr_rd fX rfl).trans (k1 i hi), fun i hi => (fr_rd fX rfl).trans (k2 i hi), fun i hi => (fr_rd fX rfl).trans (k3 i hi), fun i hi => (fr_rd fX rfl).trans (k4 i hi), fun i hi => (fr_rd fX rfl).trans (k5 i hi), fun i hi => (fr_rd fX rfl).trans (k6 i hi), fun i hi => (fr_rd fX rfl).trans (k7 i hi), (fr_rd fX rfl).trans k8, (fr_rd fX rfl).trans k9, (fr_rd fX rfl).trans k10, (fr_rd fX rfl).trans k11, (fr_rd fX rfl).trans k12⟩
  have r112 : ∀ i, i < 38 → wI u4 112 i = wI w 100 i := fun i hi => by rw [fr_rd g4 rfl, fr_rd g3 rfl, fr_rd g2 rfl, x1 i hi]; exact fr_rd fV rfl
  have r113 : ∀ i, i < 1520 → wI u4 113 i = wI w 102 i := fun i hi => by rw [fr_rd g4 rfl, fr_rd g3 rfl, x2 i hi, fr_rd g1 rfl]; exact fr_rd fV rfl
  have r114 : ∀ i, i < 12 → wI u4 114 i = wI w 110 i := fun i hi => by rw [fr_rd g4 rfl, x3 i hi, fr_rd g2 rfl, fr_rd g1 rfl]; exact fr_rd fV rfl
  have r115 : ∀ i, i < 16 → wI u4 115 i = wI w 111 i := fun i hi => by rw [x4 i hi, fr_rd g3 rfl, fr_rd g2 rfl, fr_rd g1 rfl]; exact fr_rd fV rfl
  refine ⟨⟨g, r, h, D, H, iPool_fr (by decide) (by decide) fE hp, iHist_fr (by decide) fE hh, iDum_fr (by decide) fE hD, iHd_fr (by decide) fE hH, .inr ⟨(fr_rd fW rfl).trans e79, (fr_rd fW rfl).trans e11, g, h, D, H, gPl_refl g, snOk_g ho hl1, ?_, mv_snC kC4 hsw hlk (snC_rC hC), ?_, ?_, ?_⟩, iText_fr (by decide) fE ht, iMisc_fr (by decide) fE hm, iRow_fr (by decide) fE hrw⟩, sK_fr fE (by decide), fr_cT fE⟩
  · exact mv_snM (a := 100) (fun i hi => by rw [Nat.zero_add]; exact r112 i hi) hsw hlk (snM_rM hM)
  · exact mv_hist kC4 r113 ((fr_rd fW rfl).trans e80) hsw hlk hh
  · exact mv_dum kC4 r114 ((fr_rd fW rfl).trans e81) hD
  · exact mv_hd kC4 r115 ((fr_rd fW rfl).trans e82) hH
theorem op_restore : opA Inv f164_0 f290_80 := by
  intro w hI
  have hI0 := hI
  obtain ⟨g, r, h, D, H, hp, hh, hD, hH, hi, ht, hm, hrw⟩ := hI
  obtain ⟨hM, hMr, hC, hCr, ho, hk9, ⟨hl1, hl2⟩, hcm, hti⟩ := id hp
  have hsw := gOk_sw ho
  have hlk := gOk_lk ho
  unfold f164_0
  rcases id hi with ⟨i1, i2⟩ | ⟨i1, i2, gi, hh', D', H', ip, iok, iM, iC, ih, iD, iH⟩
  · rw [i2, if_pos (show nI 0 = 0 from rfl), hP_some]
    refine ⟨⟨rfl, fun _ => rfl⟩, ?_⟩
    unfold f290_80
    have f0 : fr ([], [(80, 0)]) w (nS w 80 0 0) := fr_nS fr_refl rfl
    rw [hP_let, rd_nSj (by decide), i1, if_pos (show nI 0 = 0 from rfl), hP_some]
    exact ⟨rfl, Inv_fr (by decide) f0 hI0, sK_fr f0 (by decide), fr_cT f0⟩
  · have isw : gSw gi ≤ 12 := by rw [gPl_sw ip]; exact hsw
    have ilk : gLk gi ≤ 12 := by rw [gPl_lk ip]; exact hlk
    rw [i2, if_neg (by decide), hP_B]
    refine c_bring (fun w' fC kC => ?_)
    rw [hP_some]
    refine ⟨sK_fr fC (by decide), ?_⟩
    unfold f290_80
    rw [hP_let, rd_nSj (by decide), fr_rd fC rfl, i1, if_neg (by decide)]
    simp only [hP_let, hP_B]
    refine m_copies (L := 38) (fun _ _ _ => rfl) (by decide) (by decide) (fun u1 g1 x1 => ?_)
    refine m_copies (L := 1520) (fun _ _ _ => rfl) (by decide) (by decide) (fun u2 g2 x2 => ?_)
    refine m_copies (L := 12) (fun _ _ _ => rfl) (by decide) (by decide) (fun u3 g3 x3 => ?_)
    refine m_copies (L := 16) (fun _ _ _ => rfl) (by decide) (by decide) (fun u4 g4 x4 => ?_)
    rw [hP_some]
    generalize hv : nS (nS (nS (nS w' 80 0 0) 80 63 _) 80 74 _) 80 75 _ = v at g1 x1
    have fV : fr ([35, 36, 37, 38, 39, 40, 41], [(34, 1), (34, 4), (34, 5), (34, 7), (34, 9), (80, 0), (80, 63), (80, 74), (80, 75)]) w v := by rw [← hv]; exact fr_nS (fr_nS (fr_nS (fr_nS (fr_up fC (by decide)) rfl) rfl) rfl) rfl
    have fW : fr ([100, 102, 110, 111], []) v u4 := fr_then (fr_then (fr_then (fr_up g1 (by decide)) g2 (by decide)) g3 (by decide)) g4 (by decide)
    have fE : fr ([35, 36, 37, 38, 39, 40, 41, 100, 102, 110, 111], [(34, 1), (34, 4), (34, 5), (34, 7), (34, 9), (80, 0), (80, 63), (80, 74), (80, 75)]) w u4 := fr_then (fr_up fV (by decide)) fW (by decide)
    have e80 : wI v 80 63 = wI w 80 80 := by rw [← hv, rd_nSj (by decide), rd_nSj (by decide), rd_nS, rd_nSj (by decide)]; exact fr_rd fC rfl
    have e81 : wI v 80 74 = wI w 80 81 := by rw [← hv, rd_nSj (by decide), rd_nS, rd_nSj (by decide), rd_nSj (by decide)]; exact fr_rd fC rfl
    have e82 : wI v 80 75 = wI w 80 82 := by rw [← hv, rd_nS, rd_nSj (by decide), rd_nSj (by decide), rd_nSj (by decide)]; exact fr_rd fC rfl
    have fX : fr ([100, 102, 110, 111], [(80, 0), (80, 63), (80, 74), (80, 75)]) w' u4 := by
      refine fr_then ?_ fW (by decide)
      rw [← hv]
      exact fr_nS (fr_nS (fr_nS (fr_nS fr_refl rfl) rfl) rfl) rfl
    have kC4 : cpC w u4 34 35 36 37 38 39 40 41 55 56 57 58 59 60 61 62 := by
      obtain ⟨k1, k2, k3, k4, k5, k6, k7, k8, k9, k10, k11, k12⟩ := kC
      exact ⟨fun i hi => (fr_rd fX rfl).trans (k1 i hi), fun i hi => (fr_rd fX rfl).trans (k2 i hi), fun i hi => (fr_rd fX rfl).trans (k3 i hi), fun i hi => (fr_rd fX rfl).trans (k4 i hi), fun i hi => (fr_rd fX rfl).trans (k5 i hi), fun i hi => (fr_rd fX rfl).trans (k6 i hi), fun i hi => (fr_rd fX rfl).trans (k7 i hi), (fr_rd fX rfl).trans k8, (fr_rd fX rfl).trans k9, (fr_rd fX rfl).trans k10, (fr_rd fX rfl).trans k11, (fr_rd fX rfl).trans k12⟩
    have r100 : ∀ i, i < 38 → wI u4 100 i = wI w 112 i := fun i hi => by rw [fr_rd g4 rfl, fr_rd g3 rfl, fr_rd g2 rfl, x1 i hi]; exact fr_rd fV rfl
    have r102 : ∀ i, i < 1520 → wI u4 102 i = wI w 113 i := fun i hi => by rw [fr_rd g4 rfl, fr_rd g3 rfl, x2 i hi, fr_rd g1 rfl]; exact fr_rd fV rfl
    have r110 : ∀ i, i < 12 → wI u4 110 i = wI w 114 i := fun i hi => by rw [fr_rd g4 rfl, x3 i hi, fr_rd g2 rfl, fr_rd g1 rfl]; exact fr_rd fV rfl
    have r111 : ∀ i, i < 16 → wI u4 111 i = wI w 115 i := fun i hi => by rw [x4 i hi, fr_rd g3 rfl, fr_rd g2 rfl, fr_rd g1 rfl]; exact fr_rd fV rfl
    refine ⟨rfl, ⟨gi, r, hh', D', H', iPool_of (by decide) fE hp ip iok ?_ (mv_snC kC4 isw ilk iC), ?_, ?_, ?_, iImg_g ip (iImg_fr (by decide) fE hi), iText_fr (by decide) fE ht, iMisc_fr (by decide) fE hm, iRow_fr (by decide) fE hrw⟩, sK_fr fE (by decide), fr_cT fE⟩
    · exact mv_snM (a := 112) (fun i hi => by rw [Nat.zero_add]; exact r100 i hi) isw ilk iM
    · exact mv_hist kC4 r102 ((fr_rd fW rfl).trans e80) isw ilk ih
    · exact mv_dum kC4 r110 ((fr_rd fW rfl).trans e81) iD
    · exact mv_hd kC4 r111 ((fr_rd fW rfl).trans e82) iH
