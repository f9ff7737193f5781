/-! ===== THE TEXT: the class reads all of it ===== -/
section CALL2
variable {bt : Nat → Nat} {n : Nat} {w : mW}
theorem c_fill4 {Q : Unit → mW → Prop} {x : Int32} (hq : ∀ w', fr ([4], []) w w' → (∀ i, i < 40 → wI w' 4 i = x) → Q () w') : hP (f300_4 x w) Q := by
  unfold f300_4
  refine hP_loopF (fun m st => ∃ i w1, i + m = 40 ∧ st = (nI i, w1) ∧ fr ([4], []) w w1 ∧ ∀ j, j < i → wI w1 4 j = x) 40 (by decide) ⟨0, w, rfl, rfl, fr_refl, fun j hj => absurd hj (Nat.not_lt_zero _)⟩ ?_
  rintro m st rec ⟨i, w1, him, rfl, f1, h1⟩ ih
  simp only [f300_4_b5]
  by_cases c : i < 40
  · have ei : nI i + 1 = nI (i + 1) := by rw [← nI_add]; rfl
    rw [if_pos (by rw [q_lit, q_lt (by omega) (by omega)]; exact c), hP_gd, hP_let, q_cl (by omega), ei]
    refine ⟨by rw [q_g (by omega)]; exact c, ih (m - 1) _ (by omega) ⟨i + 1, _, by omega, rfl, fr_nS f1 rfl, fun j hj => ?_⟩⟩
    by_cases e : j = i
    · rw [e, rd_nS]
    · rw [rd_nSj e]; exact h1 j (by omega)
  · rw [if_neg (by rw [q_lit, q_lt (by omega) (by omega)]; exact c), hP_some]
    exact hq w1 f1 (fun j hj => h1 j (by omega))
theorem c_fill5 {Q : Unit → mW → Prop} {x : Int32} (hq : ∀ w', fr ([5], []) w w' → (∀ i, i < 40 → wI w' 5 i = x) → Q () w') : hP (f300_5 x w) Q := by
  unfold f300_5
  refine hP_loopF (fun m st => ∃ i w1, i + m = 40 ∧ st = (nI i, w1) ∧ fr ([5], []) w w1 ∧ ∀ j, j < i → wI w1 5 j = x) 40 (by decide) ⟨0, w, rfl, rfl, fr_refl, fun j hj => absurd hj (Nat.not_lt_zero _)⟩ ?_
  rintro m st rec ⟨i, w1, him, rfl, f1, h1⟩ ih
  simp only [f300_5_b5]
  by_cases c : i < 40
  · have ei : nI i + 1 = nI (i + 1) := by rw [← nI_add]; rfl
    rw [if_pos (by rw [q_lit, q_lt (by omega) (by omega)]; exact c), hP_gd, hP_let, q_cl (by omega), ei]
    refine ⟨by rw [q_g (by omega)]; exact c, ih (m - 1) _ (by omega) ⟨i + 1, _, by omega, rfl, fr_nS f1 rfl, fun j hj => ?_⟩⟩
    by_cases e : j = i
    · rw [e, rd_nS]
    · rw [rd_nSj e]; exact h1 j (by omega)
  · rw [if_neg (by rw [q_lit, q_lt (by omega) (by omega)]; exact c), hP_some]
    exact hq w1 f1 (fun j hj => h1 j (by omega))
theorem c_fill10 {Q : Unit → mW → Prop} {x : Int32} (hq : ∀ w', fr ([10], []) w w' → (∀ i, i < 6 → wI w' 10 i = x) → Q () w') : hP (f300_10 x w) Q := by
  unfold f300_10
  refine hP_loopF (fun m st => ∃ i w1, i + m = 6 ∧ st = (nI i, w1) ∧ fr ([10], []) w w1 ∧ ∀ j, j < i → wI w1 10 j = x) 6 (by decide) ⟨0, w, rfl, rfl, fr_refl, fun j hj => absurd hj (Nat.not_lt_zero _)⟩ ?_
  rintro m st rec ⟨i, w1, him, rfl, f1, h1⟩ ih
  simp only [f300_10_b5]
  by_cases c : i < 6
  · have ei : nI i + 1 = nI (i + 1) := by rw [← nI_add]; rfl
    rw [if_pos (by rw [q_lit, q_lt (by omega) (by omega)]; exact c), hP_gd, hP_let, q_cl (by omega), ei]
    refine ⟨by rw [q_g (by omega)]; exact c, ih (m - 1) _ (by omega) ⟨i + 1, _, by omega, rfl, fr_nS f1 rfl, fun j hj => ?_⟩⟩
    by_cases e : j = i
    · rw [e, rd_nS]
    · rw [rd_nSj e]; exact h1 j (by omega)
  · rw [if_neg (by rw [q_lit, q_lt (by omega) (by omega)]; exact c), hP_some]
    exact hq w1 f1 (fun j hj => h1 j (by omega))
theorem c_fill11 {Q : Unit → mW → Prop} {x : Int32} (hq : ∀ w', fr ([11], []) w w' → (∀ i, i < 6 → wI w' 11 i = x) → Q () w') : hP (f300_11 x w) Q := by
  unfold f300_11
  refine hP_loopF (fun m st => ∃ i w1, i + m = 6 ∧ st = (nI i, w1) ∧ fr ([11], []) w w1 ∧ ∀ j, j < i → wI w1 11 j = x) 6 (by decide) ⟨0, w, rfl, rfl, fr_refl, fun j hj => absurd hj (Nat.not_lt_zero _)⟩ ?_
  rintro m st rec ⟨i, w1, him, rfl, f1, h1⟩ ih
  simp only [f300_11_b5]
  by_cases c : i < 6
  · have ei : nI i + 1 = nI (i + 1) := by rw [← nI_add]; rfl
    rw [if_pos (by rw [q_lit, q_lt (by omega) (by omega)]; exact c), hP_gd, hP_let, q_cl (by omega), ei]
    refine ⟨by rw [q_g (by omega)]; exact c, ih (m - 1) _ (by omega) ⟨i + 1, _, by omega, rfl, fr_nS f1 rfl, fun j hj => ?_⟩⟩
    by_cases e : j = i
    · rw [e, rd_nS]
    · rw [rd_nSj e]; exact h1 j (by omega)
  · rw [if_neg (by rw [q_lit, q_lt (by omega) (by omega)]; exact c), hP_some]
    exact hq w1 f1 (fun j hj => h1 j (by omega))
theorem c_clear {Q : Unit → mW → Prop} (hq : ∀ w', fr ([3, 4, 5, 8, 10, 11], []) w w' → wI w' 3 0 = nI 8 → wI w' 3 1 = nI 5 → wI w' 3 4 = nI 0 → wI w' 3 6 = nI 0 → wI w' 3 7 = nI 60 → wI w' 3 8 = nI 20 → wI w' 3 9 = nI 0 → wI w' 3 10 = nI 0 → wI w' 3 12 = nI 0 → (∀ i, i < 40 → wI w' 4 i = nI 3) → (∀ i, i < 40 → wI w' 5 i = nI 0) → wI w' 8 1 = nI 0 → wI w' 8 5 = nI 0 → (∀ i, i < 6 → wI w' 10 i = nI 0) → (∀ i, i < 6 → wI w' 11 i = nI 0) → Q () w') : hP (f43_3 w) Q := by
  unfold f43_3
  rw [hP_let, hP_let, hP_B]
  refine c_fill4 (fun w1 f1 h1 => ?_)
  rw [hP_B]
  refine c_fill5 (fun w2 f2 h2 => ?_)
  rw [hP_let, hP_let, hP_let, hP_let, hP_let, hP_let, hP_let, hP_B]
  unfold f60_8
  rw [hP_let, hP_let, hP_B]
  refine c_fill10 (fun w3 f3 h3 => ?_)
  rw [hP_B]
  refine c_fill11 (fun w4 f4 h4 => ?_)
  rw [hP_some, hP_some]
  have R3 : ∀ j, wI w4 3 j = wI (nS (nS (nS (nS (nS (nS (nS w2 3 4 0) 3 6 0) 3 7 60) 3 8 20) 3 9 0) 3 10 0) 3 12 0) 3 j := fun j => by
    rw [fr_rd f4 rfl, fr_rd f3 rfl, rd_nSa (by decide), rd_nSa (by decide)]
  have R2 : ∀ j, wI w2 3 j = wI (nS (nS w 3 0 8) 3 1 5) 3 j := fun j => (fr_rd f2 rfl).trans (fr_rd f1 rfl)
  have R8 : ∀ j, wI w4 8 j = wI (nS (nS (nS (nS (nS (nS (nS (nS (nS w2 3 4 0) 3 6 0) 3 7 60) 3 8 20) 3 9 0) 3 10 0) 3 12 0) 8 1 0) 8 5 0) 8 j := fun j => (fr_rd f4 rfl).trans (fr_rd f3 rfl)
  have R4 : ∀ j, wI w4 4 j = wI w1 4 j := fun j => by
    rw [fr_rd f4 rfl, fr_rd f3 rfl, rd_nSa (by decide), rd_nSa (by decide), rd_nSa (by decide), rd_nSa (by decide), rd_nSa (by decide), rd_nSa (by decide), rd_nSa (by decide), rd_nSa (by decide), rd_nSa (by decide), fr_rd f2 rfl]
  have R5 : ∀ j, wI w4 5 j = wI w2 5 j := fun j => by
    rw [fr_rd f4 rfl, fr_rd f3 rfl, rd_nSa (by decide), rd_nSa (by decide), rd_nSa (by decide), rd_nSa (by decide), rd_nSa (by decide), rd_nSa (by decide), rd_nSa (by decide), rd_nSa (by decide), rd_nSa (by decide)]
  refine hq w4 ?_ ?_ ?_ ?_ ?_ ?_ ?_ ?_ ?_ ?_ ?_ ?_ ?_ ?_ ?_ ?_
  · refine fr_then (fr_then (fr_nS (fr_nS (fr_nS (fr_nS (fr_nS (fr_nS (fr_nS (fr_nS (fr_nS (fr_then (fr_then (fr_nS (fr_nS fr_refl rfl) rfl) f1 (by decide)) f2 (by decide)) rfl) rfl) rfl) rfl) rfl) rfl) rfl) rfl) rfl) f3 (by decide)) f4 (by decide)
  · rw [R3, rd_nSj (by decide), rd_nSj (by decide), rd_nSj (by decide), rd_nSj (by decide), rd_nSj (by decide), rd_nSj (by decide), rd_nSj (by decide), R2, rd_nSj (by decide), rd_nS]; rfl
  · rw [R3, rd_nSj (by decide), rd_nSj (by decide), rd_nSj (by decide), rd_nSj (by decide), rd_nSj (by decide), rd_nSj (by decide), rd_nSj (by decide), R2, rd_nS]; rfl
  · rw [R3, rd_nSj (by decide), rd_nSj (by decide), rd_nSj (by decide), rd_nSj (by decide), rd_nSj (by decide), rd_nSj (by decide), rd_nS]; rfl
  · rw [R3, rd_nSj (by decide), rd_nSj (by decide), rd_nSj (by decide), rd_nSj (by decide), rd_nSj (by decide), rd_nS]; rfl
  · rw [R3, rd_nSj (by decide), rd_nSj (by decide), rd_nSj (by decide), rd_nSj (by decide), rd_nS]; rfl
  · rw [R3, rd_nSj (by decide), rd_nSj (by decide), rd_nSj (by decide), rd_nS]; rfl
  · rw [R3, rd_nSj (by decide), rd_nSj (by decide), rd_nS]; rfl
  · rw [R3, rd_nSj (by decide), rd_nS]; rfl
  · rw [R3, rd_nS]; rfl
  · intro i hi; rw [R4]; exact h1 i hi
  · intro i hi; rw [R5]; exact h2 i hi
  · rw [R8, rd_nSj (by decide), rd_nS]; rfl
  · rw [R8, rd_nS]; rfl
  · intro i hi; rw [fr_rd f4 rfl]; exact h3 i hi
  · exact h4
theorem c_read (hn : n ≤ 700) (hb : ∀ i, i < n → bt i < 256 ∧ wI w 1 i = sBy (bt i)) : hP (f16_2_1 (nI n) w) (fun v w' => fz pPa w w' ∧ (match txR bt n (rnE bSp bt n 0) with
    | .inl f => v = nI 0 ∧ wI w' 2 2 = nI f.1 ∧ wI w' 2 3 = nI f.2
    | .inr x => v = nI 1 ∧ pCx x.1 x.2 w')) := by
  unfold f16_2_1
  rw [hP_B]
  refine c_clear (fun w1 f1 a0 a1 a4 a6 a7 a8 a9 a10 a12 d1 d2 b1 b5 r1 r2 => ?_)
  rw [hP_B]
  unfold f1_13
  rw [hP_let, hP_let, hP_let, hP_let, hP_let, hP_some, hP_let, hP_let, hP_let, hP_let, hP_let, hP_B]
  have f2 : fr ([2, 13], []) w1 (nS (nSJ (nSJ (nS (nS (nS (nS (nS (nS (nS w1 13 1 0) 13 4 0) 13 5 0) 13 7 0) 13 9 0) 2 2 0) 2 3 (-1)) 2 5 0) 2 6 0) 2 7 0) := fr_nS (fr_nSJ (fr_nSJ (fr_nS (fr_nS (fr_nS (fr_nS (fr_nS (fr_nS (fr_nS fr_refl rfl) rfl) rfl) rfl) rfl) rfl) rfl) rfl) rfl) rfl
  have e1 : wI (nS (nSJ (nSJ (nS (nS (nS (nS (nS (nS (nS w1 13 1 0) 13 4 0) 13 5 0) 13 7 0) 13 9 0) 2 2 0) 2 3 (-1)) 2 5 0) 2 6 0) 2 7 0) 13 1 = nI 0 := by
    rw [rd_nSa (by decide), rd_nSJ_I, rd_nSJ_I, rd_nSa (by decide), rd_nSa (by decide), rd_nSj (by decide), rd_nSj (by decide), rd_nSj (by decide), rd_nSj (by decide), rd_nS]; rfl
  have e4 : wI (nS (nSJ (nSJ (nS (nS (nS (nS (nS (nS (nS w1 13 1 0) 13 4 0) 13 5 0) 13 7 0) 13 9 0) 2 2 0) 2 3 (-1)) 2 5 0) 2 6 0) 2 7 0) 13 4 = nI 0 := by
    rw [rd_nSa (by decide), rd_nSJ_I, rd_nSJ_I, rd_nSa (by decide), rd_nSa (by decide), rd_nSj (by decide), rd_nSj (by decide), rd_nSj (by decide), rd_nS]; rfl
  have e5 : wI (nS (nSJ (nSJ (nS (nS (nS (nS (nS (nS (nS w1 13 1 0) 13 4 0) 13 5 0) 13 7 0) 13 9 0) 2 2 0) 2 3 (-1)) 2 5 0) 2 6 0) 2 7 0) 13 5 = nI 0 := by
    rw [rd_nSa (by decide), rd_nSJ_I, rd_nSJ_I, rd_nSa (by decide), rd_nSa (by decide), rd_nSj (by decide), rd_nSj (by decide), rd_nS]; rfl
  have e7 : wI (nS (nSJ (nSJ (nS (nS (nS (nS (nS (nS (nS w1 13 1 0) 13 4 0) 13 5 0) 13 7 0) 13 9 0) 2 2 0) 2 3 (-1)) 2 5 0) 2 6 0) 2 7 0) 13 7 = nI 0 := by
    rw [rd_nSa (by decide), rd_nSJ_I, rd_nSJ_I, rd_nSa (by decide), rd_nSa (by decide), rd_nSj (by decide), rd_nS]; rfl
  have e9 : wI (nS (nSJ (nSJ (nS (nS (nS (nS (nS (nS (nS w1 13 1 0) 13 4 0) 13 5 0) 13 7 0) 13 9 0) 2 2 0) 2 3 (-1)) 2 5 0) 2 6 0) 2 7 0) 13 9 = nI 0 := by
    rw [rd_nSa (by decide), rd_nSJ_I, rd_nSJ_I, rd_nSa (by decide), rd_nSa (by decide), rd_nS]; rfl
  have eo : wI (nS (nSJ (nSJ (nS (nS (nS (nS (nS (nS (nS w1 13 1 0) 13 4 0) 13 5 0) 13 7 0) 13 9 0) 2 2 0) 2 3 (-1)) 2 5 0) 2 6 0) 2 7 0) 2 7 = nI 0 := by rw [rd_nS]; rfl
  have t5 : wJ (nS (nSJ (nSJ (nS (nS (nS (nS (nS (nS (nS w1 13 1 0) 13 4 0) 13 5 0) 13 7 0) 13 9 0) 2 2 0) 2 3 (-1)) 2 5 0) 2 6 0) 2 7 0) 2 5 = 0 := by
    show wJ (nSJ (nSJ (nS (nS (nS (nS (nS (nS (nS w1 13 1 0) 13 4 0) 13 5 0) 13 7 0) 13 9 0) 2 2 0) 2 3 (-1)) 2 5 0) 2 6 0) 2 5 = 0
    rw [rd_nSJa (by decide), rd_nSJ]
  have t6 : wJ (nS (nSJ (nSJ (nS (nS (nS (nS (nS (nS (nS w1 13 1 0) 13 4 0) 13 5 0) 13 7 0) 13 9 0) 2 2 0) 2 3 (-1)) 2 5 0) 2 6 0) 2 7 0) 2 6 = 0 := by
    show wJ (nSJ (nSJ (nS (nS (nS (nS (nS (nS (nS w1 13 1 0) 13 4 0) 13 5 0) 13 7 0) 13 9 0) 2 2 0) 2 3 (-1)) 2 5 0) 2 6 0) 2 6 = 0
    rw [rd_nSJ]
  generalize nS (nSJ (nSJ (nS (nS (nS (nS (nS (nS (nS w1 13 1 0) 13 4 0) 13 5 0) 13 7 0) 13 9 0) 2 2 0) 2 3 (-1)) 2 5 0) 2 6 0) 2 7 0 = w2 at f2 e1 e4 e5 e7 e9 eo t5 t6
  have F2 : fz pPa w w2 := fz_fr (fz_fr fz_refl (fr_up f1 (by decide))) (fr_up f2 (by decide))
  have X2 : pCx σ00 0 w2 := by
    have z : ∀ s, ¬ s < gSw g00 := fun s h => absurd h (Nat.not_lt_zero _)
    have zk : ∀ s, ¬ s < gLk g00 := fun s h => absurd h (Nat.not_lt_zero _)
    refine pCx_of ⟨(fr_rd f2 rfl).trans a0, (fr_rd f2 rfl).trans a1, (fr_rd f2 rfl).trans a4, (fr_rd f2 rfl).trans a6, (fr_rd f2 rfl).trans a7, (fr_rd f2 rfl).trans a8, (fr_rd f2 rfl).trans a9, (fr_rd f2 rfl).trans a10, e1, (fr_rd f2 rfl).trans a12, fun i hi => (fr_rd f2 rfl).trans (d1 i hi), fun i hi => (fr_rd f2 rfl).trans (d2 i hi), fun i hi => absurd hi (z i), fun i hi => absurd hi (z i), fun i hi => absurd hi (zk i), fun i hi => absurd hi (zk i), fun i j hi _ => absurd hi (Nat.not_lt_zero _)⟩ (fun c hc => ?_) ⟨0, eo, by decide, fun i hi => Nat.zero_testBit i⟩ ⟨⟨e4, e5, e7, e9⟩, [], ⟨(fr_rd f2 rfl).trans b1, (fun i o e => by cases e), (fr_rd f2 rfl).trans b5⟩, Nat.le_refl _, fun i hi => ⟨(fr_rd f2 rfl).trans (r1 i hi), (fr_rd f2 rfl).trans (r2 i hi)⟩⟩
    rw [t5, t6]
    exact ⟨b64_0 c, b64_0 c⟩
  unfold f69_21_1
  have em : nMin (nI n) 700 = nI n := by
    rw [q_lit, q_min (by omega) (by omega), Nat.min_eq_left hn]
  rw [hP_let, hP_let, hP_let, em, hP_B]
  have f3 : fz ([], [(21, 1), (21, 2)]) w2 (nS (nS (nST w2 (some 1)) 21 1 (nI n)) 21 2 0) := fz_nS (fz_nS (fz_nST fz_refl) rfl) rfl
  have F3 : fz pPa w (nS (nS (nST w2 (some 1)) 21 1 (nI n)) 21 2 0) := fz_then F2 f3 (by decide)
  have T3 : cTx bt n (nS (nS (nST w2 (some 1)) 21 1 (nI n)) 21 2 0) := by
    refine ⟨rfl, ?_, hn, fun i hi => ⟨(hb i hi).1, (fz_rd F3 rfl).trans (hb i hi).2⟩⟩
    rw [rd_nSj (by decide), rd_nS]
  have p3 : wI (nS (nS (nST w2 (some 1)) 21 1 (nI n)) 21 2 0) 21 2 = nI 0 := by rw [rd_nS]; rfl
  have X3 : pCx σ00 0 (nS (nS (nST w2 (some 1)) 21 1 (nI n)) 21 2 0) := pCx_of (qC_fz (by decide) f3 X2.1) (tdC_fz X2.2.1 f3 rfl rfl) (onC_fz X2.2.2.1 f3 rfl) (pCr_fz (pCx_r X2) f3 (by decide) (Nat.le_refl _))
  generalize nS (nS (nST w2 (some 1)) 21 1 (nI n)) 21 2 0 = w3 at f3 F3 T3 p3 X3
  refine c_adv T3 p3 (Nat.zero_le _) (fun w4 f4 x4 k4 => ?_)
  rw [hP_some, hP_B]
  have F4 : fz pPa w w4 := fz_then F3 f4 (by decide)
  have X4 := pCx_N X3 (fz_up f4 (by decide)) (Nat.zero_le (rnE bSp bt n 0))
  have lines : ∀ (g : gS) (s5 : Nat) (w5 : mW), gOk g → gLk g = 0 → gCa g = 0 → gGa g = 0 → gMi g = 0 → fz pPa w w5 → tkC bt n s5 w5 → pCx (g, noT, noT, noT, fun _ => none) s5 w5 → txR bt n (rnE bSp bt n 0) = lnL bt n 700 (g, noT, noT, noT, fun _ => none) s5 → hP (mLoop f16_2_1_b72 nF (0, w5)) (fun v w' => fz pPa w w' ∧ (match txR bt n (rnE bSp bt n 0) with
    | .inl f => v = nI 0 ∧ wI w' 2 2 = nI f.1 ∧ wI w' 2 3 = nI f.2
    | .inr x => v = nI 1 ∧ pCx x.1 x.2 w')) := by
    intro g s5 w5 ho g3 g7 g6 g9 F5 k5 X5 e
    refine hP_mono (c_lines (ok_σ g ho g3 g7 g6 g9) k5 X5) (fun v w6 hp => ?_)
    obtain ⟨f6, x6, h6⟩ := hp
    refine ⟨fz_then F5 f6 (by decide), ?_⟩
    rw [e]
    cases hl : lnL bt n 700 (g, noT, noT, noT, fun _ => none) s5 with
    | inl f => rw [hl] at h6; exact h6
    | inr x => rw [hl] at h6; exact ⟨h6.1, h6.2.2⟩
  refine c_isWd (c := 0) (k := 1000000) (by decide) rfl k4 (fun hy => ?_) (fun hno => ?_)
  · rw [if_neg (by decide), hP_B]
    have bad : ∀ f w', txR bt n (rnE bSp bt n 0) = .inl f → fz pPa w w' → wI w' 2 2 = nI f.1 → wI w' 2 3 = nI f.2 → hP (some ((0 : Int32), w')) (fun v w' => fz pPa w w' ∧ (match txR bt n (rnE bSp bt n 0) with
      | .inl f => v = nI 0 ∧ wI w' 2 2 = nI f.1 ∧ wI w' 2 3 = nI f.2
      | .inr x => v = nI 1 ∧ pCx x.1 x.2 w')) := by
      intro f w' e ff a b
      rw [hP_some, e]
      exact ⟨ff, rfl, a, b⟩
    have eT : txR bt n (rnE bSp bt n 0) = pThen (szR bt n (rnE bSp bt n 0)) fun g s1 => lnL bt n 700 (g, noT, noT, noT, fun _ => none) s1 := by
      unfold txR
      rw [if_pos hy]
    unfold f24_2
    rw [hP_B]
    refine c_on k4 (fun w5 f5 x5 k5 => ?_)
    have F5 : fz pPa w w5 := fz_then F4 f5 (by decide)
    have X5 := pCx_N X4 (fz_up f5 (by decide)) (nx_ge bt n (rnE bSp bt n 0))
    rw [hP_B]
    refine c_nm (a := 1) (b := 8) (by decide) (by decide) k5 (fun f w6 e6 f6 x6 z1 z2 => ?_) (fun a s6 w6 e6 f6 x6 k6 t6' => ?_)
    · rw [if_pos (show nI 0 = 0 from rfl), hP_some]
      exact bad f w6 (eT.trans (pThen_n (pThen_n e6))) (fz_then F5 f6 (by decide)) z1 z2
    have m6 := nmR_ok e6 k5.2.1
    rw [if_neg (by decide), hP_let, t6', hP_B]
    have X6 := pCx_N X5 (fz_up f6 (by decide)) (show nx bt n (rnE bSp bt n 0) ≤ s6 by omega)
    have g6 : fz ([], [(3, 0)]) w6 (nS w6 3 0 (nI a)) := fz_nS fz_refl rfl
    have F6 : fz pPa w (nS w6 3 0 (nI a)) := fz_then (fz_then F5 f6 (by decide)) g6 (by decide)
    have k6' : tkC bt n s6 (nS w6 3 0 (nI a)) := kC_7 k6 g6 rfl rfl (fun _ => rfl) (fun _ => rfl)
    have X6' : pCx (gU g00 0 0 a, noT, noT, noT, fun _ => none) s6 (nS w6 3 0 (nI a)) := pCx_of (qC_uwd X6.1) (tdC_fz X6.2.1 g6 rfl rfl) (onC_fz X6.2.2.1 g6 rfl) (pCr_fz (pCx_r X6) g6 (by decide) (Nat.le_refl _))
    refine c_nm (a := 1) (b := 5) (by decide) (by decide) k6' (fun f w7 e7' f7 x7 z1 z2 => ?_) (fun b s7 w7 e7' f7 x7 k7 t7 => ?_)
    · rw [if_pos (show nI 0 = 0 from rfl), hP_some]
      exact bad f w7 (eT.trans (pThen_n ((pThen_y e6).trans (pThen_n e7')))) (fz_then F6 f7 (by decide)) z1 z2
    have m7 := nmR_ok e7' k6.2.1
    rw [if_neg (by decide), hP_let, t7, hP_B]
    have X7 := pCx_N X6' (fz_up f7 (by decide)) (show s6 ≤ s7 by omega)
    have g7 : fz ([], [(3, 1)]) w7 (nS w7 3 1 (nI b)) := fz_nS fz_refl rfl
    have F7 : fz pPa w (nS w7 3 1 (nI b)) := fz_then (fz_then F6 f7 (by decide)) g7 (by decide)
    have k7' : tkC bt n s7 (nS w7 3 1 (nI b)) := kC_7 k7 g7 rfl rfl (fun _ => rfl) (fun _ => rfl)
    have X7' : pCx (gU (gU g00 0 0 a) 0 1 b, noT, noT, noT, fun _ => none) s7 (nS w7 3 1 (nI b)) := pCx_of (qC_uhi X7.1) (tdC_fz X7.2.1 g7 rfl rfl) (onC_fz X7.2.2.1 g7 rfl) (pCr_fz (pCx_r X7) g7 (by decide) (Nat.le_refl _))
    refine c_pass (b := 59) (by decide) k7' (fun hy2 w8 f8 x8 k8 => ?_) (fun hno2 => ?_)
    · rw [hP_gd, hP_some, if_neg (by decide)]
      refine ⟨by decide, lines _ _ w8 (ok_sz ⟨m6.1, m6.2.1⟩ ⟨m7.1, m7.2.1⟩) rfl rfl rfl rfl (fz_then F7 f8 (by decide)) k8 (pCx_N X7' (fz_up f8 (by decide)) (nx_ge bt n s7)) ?_⟩
      exact eT.trans (pThen_y ((pThen_y e6).trans ((pThen_y e7').trans (by unfold seR; rw [if_pos hy2]))))
    · rw [hP_gd, hP_some, if_pos (show nI 0 = 0 from rfl)]
      exact ⟨by decide, bad (1, s7) _ (eT.trans (pThen_n ((pThen_y e6).trans ((pThen_y e7').trans (by unfold seR; rw [if_neg hno2]))))) (fz_nS (fz_nS F7 rfl) rfl) ((rd_nSj (by decide)).trans rd_nS) rd_nS⟩
  · rw [if_pos (show nI 0 = 0 from rfl)]
    exact lines g00 _ w4 ok_00 rfl rfl rfl rfl F4 k4 X4 (by unfold txR; rw [if_neg hno]; rfl)
end CALL2
