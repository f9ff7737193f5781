/-! ===== ACTS AND THEIR HISTORY ===== -/
def nxO (h : List gS) : Nat := if h.length < 40 then 0 else 1
def nxt (h : List gS) (g : gS) : List gS := h.drop (nxO h) ++ [g]
theorem nxO_le (h : List gS) : nxO h ≤ 1 := by unfold nxO; split <;> omega
theorem nxt_len {h : List gS} {g : gS} (hl : h.length ≤ 40) : (nxt h g).length + nxO h = h.length + 1 := by
  unfold nxt nxO
  rw [List.length_append, List.length_drop, List.length_singleton]
  split <;> omega
theorem nxt_getD {h : List gS} {g d : gS} {j : Nat} (hl : h.length ≤ 40) (hj : j + nxO h ≤ h.length) : (nxt h g).getD j d = h.getD (j + nxO h) g := by
  have h1 := nxO_le h
  have h2 : (h.drop (nxO h)).length = h.length - nxO h := List.length_drop
  unfold nxt
  by_cases c : j + nxO h < h.length
  · rw [List.getD_eq_getElem?_getD, List.getD_eq_getElem?_getD, List.getElem?_append_left (by omega), List.getElem?_drop, Nat.add_comm (nxO h) j, List.getElem?_eq_getElem c]
    rfl
  · have e : j + nxO h = h.length := by omega
    rw [List.getD_eq_getElem?_getD, List.getElem?_append_right (by omega), show j - (h.drop (nxO h)).length = 0 by omega, e, List.getD_eq_getElem?_getD, List.getElem?_eq_none (Nat.le_refl _)]
    rfl
theorem nxt_past {h : List gS} {g d : gS} {j : Nat} (hl : h.length ≤ 40) (hj : j + nxO h = h.length + 1) : (nxt h g).getD j d = d := by
  have := nxt_len (g := g) hl
  rw [List.getD_eq_getElem?_getD, List.getElem?_eq_none (by omega)]
  rfl
section NOTE
variable {g : gS} {w : mW} {h : List gS}
/-- the class notes an act -/
theorem c_note {kd wh was : Nat} {Q : Unit → mW → Prop} (h5 : wI w 34 5 = nI h.length) (hl : h.length ≤ 40) (hq : ∀ w', fr ([38], [(34, 5)]) w w' → wI w' 34 5 = nI (nxt h g).length → (∀ j i, j + nxO h < h.length → i < 3 → wI w' 38 (3 * j + i) = wI w 38 (3 * (j + nxO h) + i)) → (∀ j, j + nxO h = h.length → wI w' 38 (3 * j) = nI kd ∧ wI w' 38 (3 * j + 1) = nI wh ∧ wI w' 38 (3 * j + 2) = nI was) → Q () w') : hP (f3_34 (nI kd) (nI wh) (nI was) w) Q := by
  have hlen := nxt_len (g := g) hl
  have J : ∀ w1 n, n < 40 → n + nxO h = h.length → wI w1 34 5 = nI n → fr ([38], [(34, 5)]) w w1 → (∀ j i, j + nxO h < h.length → i < 3 → wI w1 38 (3 * j + i) = wI w 38 (3 * (j + nxO h) + i)) → hP (f3_34_j35 (nI kd) (nI wh) (nI was) w1) Q := by
    intro w1 n hn he h1 hf hr
    unfold f3_34_j35
    simp (disch := first | omega | (simp only [fIn, fR, fC, Nat.reduceEqDiff, decide_false, decide_true, Bool.false_or, Bool.or_false, Bool.false_and, Bool.and_false, Bool.or_self, Bool.true_and, Bool.true_or, Bool.and_true, Bool.or_true, Bool.and_self]; done) | fail) only [hP_some, hP_let, hP_gd, hP_B, hP_if, reduceIte, q_lit, nI_add, pk_mul, q_lt, q_le, q_eq, q_cl, q_g, Bool.not_eq_true', decide_eq_false_iff_not, decide_eq_true_eq, q_div, q_rm, q_sub, q_m1, Nat.zero_add, Nat.add_zero, rd_nS, rd_nSa, rd_nSj, rd_ovn, rd_ovy, h1]
    refine ⟨by omega, by omega, by omega, ?_⟩
    refine hq _ (fr_nS (fr_nS (fr_nS (fr_nS hf rfl) rfl) rfl) rfl) ?_ (fun j i hj hi => ?_) (fun j hj => ?_)
    · rw [rd_nS]; congr 1; omega
    · rw [rd_nSa (by decide), rd_nSj (by omega), rd_nSj (by omega), rd_nSj (by omega)]
      exact hr j i hj hi
    · have e : j = n := by omega
      subst e
      refine ⟨?_, ?_, ?_⟩
      · rw [rd_nSa (by decide), rd_nSj (by omega), rd_nSj (by omega), rd_nS]
      · rw [rd_nSa (by decide), rd_nSj (by omega), rd_nS]
      · rw [rd_nSa (by decide), rd_nS]
  unfold f3_34
  by_cases c : h.length < 40
  · have e0 : nxO h = 0 := by unfold nxO; rw [if_pos c]
    rw [h5, if_pos (by rw [q_lit, q_lt (by omega) (by omega)]; exact c)]
    exact J w h.length c (by omega) h5 fr_refl (fun j i hj hi => by rw [e0, Nat.add_zero])
  · have e0 : nxO h = 1 := by unfold nxO; rw [if_neg c]
    have el : h.length = 40 := by omega
    rw [h5, if_neg (by rw [q_lit, q_lt (by omega) (by omega)]; exact c)]
    simp only [hP_gd, hP_let]
    refine ⟨by decide, ?_⟩
    refine J _ 39 (by omega) (by omega) rd_nS (fr_nS (fr_cpy fr_refl rfl) rfl) (fun j i hj hi => ?_)
    have e9 : 3 * j + i < 0 + ((120 : Int32) - (3 : Int32)).toNatClampNeg := by
      show 3 * j + i < 0 + 117
      omega
    rw [rd_nSa (by decide), rd_cpy, if_pos ⟨Nat.zero_le _, e9⟩, e0]
    congr 1
    show 3 + (3 * j + i - 0) = _
    omega
/-- the reference keeps the state -/
theorem m_keeps {Q : Unit → mW → Prop} (h5 : wI w 80 63 = nI h.length) (hl : h.length ≤ 40) (hq : ∀ w', fr ([102], [(80, 63)]) w w' → wI w' 80 63 = nI (nxt h g).length → (∀ j i, j + nxO h < h.length → i < 38 → wI w' 102 (38 * j + i) = wI w 102 (38 * (j + nxO h) + i)) → (∀ j i, j + nxO h = h.length → i < 38 → wI w' 102 (38 * j + i) = wI w 100 i) → Q () w') : hP (f215_80 w) Q := by
  have hlen := nxt_len (g := g) hl
  have J : ∀ w1 n, n < 40 → n + nxO h = h.length → wI w1 80 63 = nI n → fr ([102], [(80, 63)]) w w1 → (∀ j i, j + nxO h < h.length → i < 38 → wI w1 102 (38 * j + i) = wI w 102 (38 * (j + nxO h) + i)) → hP (mLoop f215_80_b52 nF (nI 0, w1)) Q := by
    intro w1 n hn he h1 hf hr
    refine hP_loopF (fun m s => ∃ k w2, k + m = 38 ∧ s = (nI k, w2) ∧ fr ([102], [(80, 63)]) w w2 ∧ wI w2 80 63 = nI n ∧ (∀ j i, j + nxO h < h.length → i < 38 → wI w2 102 (38 * j + i) = wI w 102 (38 * (j + nxO h) + i)) ∧ ∀ i, i < k → wI w2 102 (38 * n + i) = wI w 100 i) 38 (by decide) ⟨0, w1, rfl, rfl, hf, h1, hr, fun i hi => absurd hi (Nat.not_lt_zero _)⟩ ?_
    rintro m s rec ⟨k, w2, hk, rfl, hf2, h2, hr2, hc2⟩ ih
    simp only [f215_80_b52]
    by_cases c : k < 38
    · simp (disch := first | omega | (simp only [fIn, fR, fC, Nat.reduceEqDiff, decide_false, decide_true, Bool.false_or, Bool.or_false, Bool.false_and, Bool.and_false, Bool.or_self, Bool.true_and, Bool.true_or, Bool.and_true, Bool.or_true, Bool.and_self]; done) | fail) only [hP_some, hP_let, hP_gd, hP_B, hP_if, reduceIte, q_lit, nI_add, pk_mul, q_lt, q_le, q_eq, q_cl, q_g, Bool.not_eq_true', decide_eq_false_iff_not, decide_eq_true_eq, q_div, q_rm, q_sub, q_m1, Nat.zero_add, Nat.add_zero, h2, c]
      refine ⟨trivial, by omega, ?_⟩
      refine ih (m - 1) _ (by omega) ⟨k + 1, _, by omega, rfl, fr_nS hf2 rfl, (rd_nSa (by decide)).trans h2, fun j i hj hi => ?_, fun i hi => ?_⟩
      · rw [rd_nSj (by omega)]; exact hr2 j i hj hi
      · by_cases e : i = k
        · rw [e, rd_nS]; exact fr_rd hf2 rfl
        · rw [rd_nSj (by omega)]; exact hc2 i (by omega)
    · simp (disch := first | omega | (simp only [fIn, fR, fC, Nat.reduceEqDiff, decide_false, decide_true, Bool.false_or, Bool.or_false, Bool.false_and, Bool.and_false, Bool.or_self, Bool.true_and, Bool.true_or, Bool.and_true, Bool.or_true, Bool.and_self]; done) | fail) only [hP_some, hP_let, hP_gd, hP_B, hP_if, reduceIte, q_lit, nI_add, pk_mul, q_lt, q_le, q_eq, q_cl, q_g, Bool.not_eq_true', decide_eq_false_iff_not, decide_eq_true_eq, q_div, q_rm, q_sub, q_m1, Nat.zero_add, Nat.add_zero, h2, c]
      refine hq _ (fr_nS hf2 rfl) ?_ (fun j i hj hi => ?_) (fun j i hj hi => ?_)
      · rw [rd_nS]; congr 1; omega
      · rw [rd_nSa (by decide)]; exact hr2 j i hj hi
      · have e : j = n := by omega
        rw [rd_nSa (by decide), e]; exact hc2 i (by omega)
  unfold f215_80
  by_cases c : h.length < 40
  · have e0 : nxO h = 0 := by unfold nxO; rw [if_pos c]
    rw [h5, if_neg (by rw [q_lit, q_eq (by omega) (by omega)]; omega)]
    exact J w h.length c (by omega) h5 fr_refl (fun j i hj hi => by rw [e0, Nat.add_zero])
  · have e0 : nxO h = 1 := by unfold nxO; rw [if_neg c]
    have el : h.length = 40 := by omega
    rw [h5, if_pos (by rw [q_lit, q_eq (by omega) (by omega)]; omega)]
    refine hP_loopF (fun m s => ∃ k w2, k + m = 1482 ∧ s = (nI (k + 38), w2) ∧ fr ([102], [(80, 63)]) w w2 ∧ wI w2 80 63 = nI 40 ∧ (∀ i, k ≤ i → wI w2 102 i = wI w 102 i) ∧ ∀ i, i < k → wI w2 102 i = wI w 102 (i + 38)) 1482 (by decide) ⟨0, w, rfl, rfl, fr_refl, by rw [h5, el], fun i hi => rfl, fun i hi => absurd hi (Nat.not_lt_zero _)⟩ ?_
    rintro m s rec ⟨k, w2, hk, rfl, hf2, h2, ha, hb⟩ ih
    simp only [f215_80_b12]
    by_cases c : k + 38 < 1520
    · simp (disch := first | omega | (simp only [fIn, fR, fC, Nat.reduceEqDiff, decide_false, decide_true, Bool.false_or, Bool.or_false, Bool.false_and, Bool.and_false, Bool.or_self, Bool.true_and, Bool.true_or, Bool.and_true, Bool.or_true, Bool.and_self]; done) | fail) only [hP_some, hP_let, hP_gd, hP_B, hP_if, reduceIte, q_lit, nI_add, pk_mul, q_lt, q_le, q_eq, q_cl, q_g, Bool.not_eq_true', decide_eq_false_iff_not, decide_eq_true_eq, q_div, q_rm, q_sub, q_m1, Nat.zero_add, Nat.add_zero, h2, c, Nat.add_sub_cancel]
      refine ⟨trivial, by omega, ?_⟩
      refine ih (m - 1) _ (by omega) ⟨k + 1, _, by omega, by rw [show k + 1 + 38 = k + 38 + 1 by omega], fr_nS hf2 rfl, (rd_nSa (by decide)).trans h2, fun i hi => ?_, fun i hi => ?_⟩
      · rw [rd_nSj (by omega)]; exact ha i (by omega)
      · by_cases e : i = k
        · rw [e, rd_nS]; exact ha _ (by omega)
        · rw [rd_nSj (by omega)]; exact hb i (by omega)
    · simp (disch := first | omega | (simp only [fIn, fR, fC, Nat.reduceEqDiff, decide_false, decide_true, Bool.false_or, Bool.or_false, Bool.false_and, Bool.and_false, Bool.or_self, Bool.true_and, Bool.true_or, Bool.and_true, Bool.or_true, Bool.and_self]; done) | fail) only [hP_some, hP_let, hP_gd, hP_B, hP_if, reduceIte, q_lit, nI_add, pk_mul, q_lt, q_le, q_eq, q_cl, q_g, Bool.not_eq_true', decide_eq_false_iff_not, decide_eq_true_eq, q_div, q_rm, q_sub, q_m1, Nat.zero_add, Nat.add_zero, h2, c]
      refine J _ 39 (by omega) (by omega) rd_nS (fr_nS hf2 rfl) (fun j i hj hi => ?_)
      rw [rd_nSa (by decide), hb _ (by omega), e0]
      congr 1
      omega
end NOTE
/-- the history after an act -/
theorem hist_next {g g' : gS} {h : List gS} {w w' : mW} {kd wh was : Nat} (hh : iHist g h w 102 63 38 34) (hM : rM g w) (hp : gPl g g') (hsk : snOk g g) (hu : unB g kd wh was) (he : snEq g g (unE kd wh was g'))
    (c1 : wI w' 34 5 = nI (nxt h g).length) (c2 : ∀ j i, j + nxO h < h.length → i < 3 → wI w' 38 (3 * j + i) = wI w 38 (3 * (j + nxO h) + i)) (c3 : ∀ j, j + nxO h = h.length → wI w' 38 (3 * j) = nI kd ∧ wI w' 38 (3 * j + 1) = nI wh ∧ wI w' 38 (3 * j + 2) = nI was)
    (m1 : wI w' 80 63 = nI (nxt h g).length) (m2 : ∀ j i, j + nxO h < h.length → i < 38 → wI w' 102 (38 * j + i) = wI w 102 (38 * (j + nxO h) + i)) (m3 : ∀ j i, j + nxO h = h.length → i < 38 → wI w' 102 (38 * j + i) = wI w 100 i) (hsw : gSw g ≤ 12) (hlk : gLk g ≤ 12) : iHist g' (nxt h g) w' 102 63 38 34 := by
  obtain ⟨h1, h2, hl, h3⟩ := hh
  have hlen := nxt_len (g := g) hl
  have hO := nxO_le h
  have esw := gPl_sw hp
  have elk := gPl_lk hp
  have eM : ∀ s w a off, snM g' s w a off = snM g s w a off := fun s w a off => by simp only [snM, esw, elk]
  have eO : ∀ s, snOk g' s = snOk g s := fun s => by simp only [snOk, esw, elk, gPl_w hp, gPl_h hp]
  have eB : ∀ a b c, unB g' a b c = unB g a b c := fun a b c => by simp only [unB, esw, elk, gPl_w hp, gPl_h hp]
  have eE : ∀ s t, snEq g' s t = snEq g s t := fun s t => by simp only [snEq, esw, elk]
  refine ⟨m1, c1, by unfold nxO at hlen; split at hlen <;> omega, fun j hj => ?_⟩
  rw [nxt_getD hl (by omega), eM, eO]
  unfold unL
  simp only [eB, eE]
  by_cases c : j + nxO h < h.length
  · obtain ⟨b1, b2, kd', wh', was', b3, b4, b5, b6, b7⟩ := h3 (j + nxO h) c
    refine ⟨?_, b2, kd', wh', was', ?_, ?_, ?_, b6, ?_⟩
    · obtain ⟨d1, d2, d3, d4, d5⟩ := b1
      refine ⟨fun i hi => ?_, fun i hi => ?_, fun i hi => ?_, ?_, ?_⟩
      · rw [m2 j i c (by omega)]; exact d1 i hi
      · rw [Nat.add_assoc, m2 j (12 + i) c (by omega), ← Nat.add_assoc]; exact d2 i hi
      · rw [Nat.add_assoc, m2 j (24 + i) c (by omega), ← Nat.add_assoc]; exact d3 i hi
      · rw [m2 j 36 c (by omega)]; exact d4
      · rw [m2 j 37 c (by omega)]; exact d5
    · have := c2 j 0 c (by omega); rw [Nat.add_zero, Nat.add_zero] at this; rw [this]; exact b3
    · rw [c2 j 1 c (by omega)]; exact b4
    · rw [c2 j 2 c (by omega)]; exact b5
    · rw [nxt_getD hl (by omega), show j + 1 + nxO h = j + nxO h + 1 by omega]; exact b7
  · have e : j + nxO h = h.length := by omega
    have eg : h.getD (j + nxO h) g = g := by rw [e, List.getD_eq_getElem?_getD, List.getElem?_eq_none (Nat.le_refl _)]; rfl
    rw [eg, nxt_past hl (by omega)]
    obtain ⟨q1, q2, q3⟩ := c3 j e
    refine ⟨⟨fun i hi => ?_, fun i hi => ?_, fun i hi => ?_, ?_, ?_⟩, hsk, kd, wh, was, q1, q2, q3, hu, he⟩
    · rw [m3 j i e (by omega)]; exact rM_at hM i hi
    · rw [Nat.add_assoc, m3 j (12 + i) e (by omega)]; exact rM_lat hM i hi
    · rw [Nat.add_assoc, m3 j (24 + i) e (by omega)]; exact rM_las hM i hi
    · rw [m3 j 36 e (by omega)]; exact rM_ch hM
    · rw [m3 j 37 e (by omega)]; exact rM_mi hM
