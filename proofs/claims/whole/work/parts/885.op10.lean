/-! ===== OPERATIONS: game, fun ===== -/
theorem gTro_lt (g : gS) : ∀ n, gTro g n < 2 ^ n
  | 0 => Nat.zero_lt_one
  | n + 1 => by
    have h1 := gTro_lt g n
    show gTro g n + _ < _
    rw [Nat.pow_succ]
    split <;> omega
theorem gTro_bit (g : gS) (k : Nat) : ∀ n, k < n → gTro g n / 2 ^ k % 2 = if g 4 (5 * k + 4) = 1 then 1 else 0
  | 0, h => absurd h (Nat.not_lt_zero _)
  | n + 1, h => by
    have h1 := gTro_lt g n
    show (gTro g n + _) / 2 ^ k % 2 = _
    by_cases e : k = n
    · subst e
      split
      · rw [Nat.add_div_right _ (Nat.two_pow_pos k), Nat.div_eq_of_lt h1]
      · rw [Nat.add_zero, Nat.div_eq_of_lt h1]
    · have ih := gTro_bit g k n (by omega)
      split
      · have h2 : 2 ^ n = 2 ^ k * (2 * 2 ^ (n - k - 1)) := by
          rw [← Nat.mul_assoc, ← Nat.pow_succ, ← Nat.pow_add]
          congr 1
          omega
        rw [h2, Nat.add_mul_div_left _ _ (Nat.two_pow_pos k)]
        omega
      · rw [Nat.add_zero]; exact ih
theorem sd_u32 {k : Nat} (h : k < 32) : (((nI k).toUInt32 &&& Int32.toUInt32 31).toBitVec % 32).toNat = k := by
  have g : ∀ k, k < 32 → (((nI k).toUInt32 &&& Int32.toUInt32 31).toBitVec % 32).toNat = k := by decide +kernel
  exact g k h
theorem q_usr {a k : Nat} (ha : a < 2147483648) (hk : k < 32) : nUsr (nI a) (nI k) = nI (a / 2 ^ k) := pk_ushrN (by omega) _ k (sd_u32 hk)
/-- what a rule of a game is told of a case -/
def gVg (g : gS) (k j : Nat) : Int32 := nI (g 4 (5 * k + (j - 6)))
def gEr (g : gS) (l : List gO) (wh : Nat) : Nat → Nat
  | 0 => 0
  | k + 1 => gEr g l wh k + (if g 4 (5 * k + 4) = wh ∧ (if wh = 1 then ¬ oVal9 (gVg g k) l = 0 else oVal9 (gVg g k) l = 0) then 1 else 0)
theorem gEr_le (g : gS) (l : List gO) (wh : Nat) : ∀ k, gEr g l wh k ≤ k
  | 0 => Nat.le_refl _
  | k + 1 => by
    have := gEr_le g l wh k
    have h1 : ∀ (p : Prop) [Decidable p], (if p then 1 else 0) ≤ 1 := fun p _ => by split <;> omega
    exact Nat.add_le_add this (h1 _)
section GM
variable {g : gS} {r : gR} {w : mW} {Q : Int32 → mW → Prop}
theorem m_says {i k : Nat} {l : List gO} (hr : rM g w) (hR : rMr r g w) (ho : gOk g) (hk : rOk r g) (hi : i < gGa g) (hl : r (2 + i) = some l) (hkc : k < gCa g) (hq : ∀ w', fr ([103, 104], []) w w' → Q (oVal9 (gVg g k) l) w') : hP (f269_80 (nI i) (nI k) w) Q := by
  have hca := gOk_ca ho
  have hga := gOk_ga ho
  unfold f269_80
  refine hP_loopF (fun n s => ∃ j w1, j + n = 4 ∧ s = (nI j, w1) ∧ fr ([103], []) w w1 ∧ ∀ q, q < j → wI w1 103 (6 + q) = nI (g 4 (5 * k + q))) 4 (by omega) ⟨0, w, by omega, rfl, fr_refl, fun q hq => absurd hq (Nat.not_lt_zero _)⟩ ?_
  rintro n s rec ⟨j, w1, hjn, rfl, hf, hv⟩ ih
  simp only [f269_80_b2]
  by_cases c : j < 4
  · simp (disch := first | omega | (simp only [fIn, fR, fC, Nat.reduceEqDiff, decide_false, decide_true, Bool.false_or, Bool.or_false, Bool.false_and, Bool.and_false, Bool.or_self, Bool.true_and, Bool.true_or, Bool.and_true, Bool.or_true, Bool.and_self]; done) | fail) only [hP_some, hP_let, hP_gd, hP_B, hP_if, reduceIte, q_lit, nI_add, pk_mul, q_lt, q_le, q_eq, q_cl, q_g, Bool.not_eq_true', decide_eq_false_iff_not, decide_eq_true_eq, q_div, q_rm, q_sub, q_m1, Nat.zero_add, Nat.add_zero, c, fr_rd hf, rM_case hr]
    refine ⟨by omega, by omega, ih (n - 1) _ (by omega) ⟨j + 1, _, by omega, rfl, fr_nS hf rfl, fun q hq => ?_⟩⟩
    by_cases e : q = j
    · subst e; rw [rd_nS]
    · rw [rd_nSj (by omega)]; exact hv q (by omega)
  · obtain ⟨l2, kk, a1, a2, a3⟩ := hR.2.2 i hi
    rw [hl] at a1
    cases a1
    have hlen := cdM_len l kk a3
    simp (disch := first | omega | (simp only [fIn, fR, fC, Nat.reduceEqDiff, decide_false, decide_true, Bool.false_or, Bool.or_false, Bool.false_and, Bool.and_false, Bool.or_self, Bool.true_and, Bool.true_or, Bool.and_true, Bool.or_true, Bool.and_self]; done) | fail) only [hP_some, hP_let, hP_gd, hP_B, hP_if, reduceIte, q_lit, nI_add, pk_mul, q_lt, q_le, q_eq, q_cl, q_g, Bool.not_eq_true', decide_eq_false_iff_not, decide_eq_true_eq, q_div, q_rm, q_sub, q_m1, Nat.zero_add, Nat.add_zero, c, fr_rd hf, a2]
    refine ⟨by omega, m_reck (V := gVg g k) (lo := 6) (hi := 9) (cdM_cg (fun j => fr_rd hf rfl) l kk a3) (hk.2.2 i l hi hl) (by decide) (fun q q1 q2 => ?_) (fun w2 hf2 => hq w2 (fr_then (fr_up hf (by decide)) hf2 (by decide)))⟩
    have := hv (q - 6) (by omega)
    rw [show 6 + (q - 6) = q by omega] at this
    exact this
theorem c_says {i k : Nat} {l : List gO} (hr : rC g w) (hR : rCr r g w) (ho : gOk g) (hk : rOk r g) (hi : i < gGa g) (hl : r (2 + i) = some l) (hkc : k < gCa g) (hq : ∀ w', fr pN w w' → Q (if oVal9 (gVg g k) l = 0 then nI 0 else nI 1) w') : hP (f87_23 (nI i) (nI k) w) Q := by
  have hca := gOk_ca ho
  have hga := gOk_ga ho
  unfold f87_23
  refine hP_loopF (fun n s => ∃ j w1, j + n = 4 ∧ s = (nI j, w1) ∧ fr ([50], []) w w1 ∧ ∀ q, q < j → wI w1 50 (6 + q) = nI (g 4 (5 * k + q))) 4 (by omega) ⟨0, w, by omega, rfl, fr_refl, fun q hq => absurd hq (Nat.not_lt_zero _)⟩ ?_
  rintro n s rec ⟨j, w1, hjn, rfl, hf, hv⟩ ih
  simp only [f87_23_b2]
  by_cases c : j < 4
  · simp (disch := first | omega | (simp only [fIn, fR, fC, Nat.reduceEqDiff, decide_false, decide_true, Bool.false_or, Bool.or_false, Bool.false_and, Bool.and_false, Bool.or_self, Bool.true_and, Bool.true_or, Bool.and_true, Bool.or_true, Bool.and_self]; done) | fail) only [hP_some, hP_let, hP_gd, hP_B, hP_if, reduceIte, q_lit, nI_add, pk_mul, q_lt, q_le, q_eq, q_cl, q_g, Bool.not_eq_true', decide_eq_false_iff_not, decide_eq_true_eq, q_div, q_rm, q_sub, q_m1, Nat.zero_add, Nat.add_zero, c, fr_rd hf, rC_case hr]
    refine ⟨by omega, by omega, ih (n - 1) _ (by omega) ⟨j + 1, _, by omega, rfl, fr_nS hf rfl, fun q hq => ?_⟩⟩
    by_cases e : q = j
    · subst e; rw [rd_nS]
    · rw [rd_nSj (by omega)]; exact hv q (by omega)
  · obtain ⟨l2, a1, a2⟩ := (rCr_fr (by decide) hf hR).2.2 i hi
    rw [hl] at a1
    cases a1
    rw [hl] at a2
    simp (disch := first | omega | (simp only [fIn, fR, fC, Nat.reduceEqDiff, decide_false, decide_true, Bool.false_or, Bool.or_false, Bool.false_and, Bool.and_false, Bool.or_self, Bool.true_and, Bool.true_or, Bool.and_true, Bool.or_true, Bool.and_self]; done) | fail) only [hP_some, hP_let, hP_gd, hP_B, hP_if, reduceIte, q_lit, nI_add, pk_mul, q_lt, q_le, q_eq, q_cl, q_g, Bool.not_eq_true', decide_eq_false_iff_not, decide_eq_true_eq, q_div, q_rm, q_sub, q_m1, Nat.zero_add, Nat.add_zero, c]
    refine c_gives (V := gVg g k) (lo := 6) (hi := 9) (by omega) a2 (hk.2.2 i l hi hl) (by decide) (fun q q1 q2 => ?_) (fun w2 hf2 => ?_)
    · have := hv (q - 6) (by omega)
      have e : cvx q = 6 + (q - 6) := by unfold cvx; rw [if_neg (by omega), if_neg (by omega)]; omega
      rw [e]
      exact this
    · have h9 := hq w2 (fr_then (fr_up hf (by decide)) hf2 (by decide))
      rw [q_ite]
      exact h9
theorem m_errs {i wh : Nat} {l : List gO} (hr : rM g w) (hR : rMr r g w) (ho : gOk g) (hk : rOk r g) (hi : i < gGa g) (hl : r (2 + i) = some l) (hw : wh ≤ 1) (hq : ∀ w', fr ([103, 104], []) w w' → Q (nI (gEr g l wh (gCa g))) w') : hP (f270_80 (nI i) (nI wh) w) Q := by
  have hca := gOk_ca ho
  unfold f270_80
  refine hP_loopF (fun n s => ∃ k w1, k + n = gCa g ∧ s = (nI (gEr g l wh k), nI k, w1) ∧ fr ([103, 104], []) w w1) (gCa g) (by omega) ⟨0, w, by omega, rfl, fr_refl⟩ ?_
  rintro n s rec ⟨k, w1, hkn, rfl, hf⟩ ih
  have hr1 := rM_fr (by decide) hf hr
  have h10 := gEr_le g l wh k
  simp only [f270_80_b5]
  by_cases c : k < gCa g
  · have h9 := gOk_case ho (5 * k + 4) (by omega)
    have next : ∀ w2, fr ([103, 104], []) w w2 → hP (rec (nI (gEr g l wh k + (if g 4 (5 * k + 4) = wh ∧ (if wh = 1 then ¬ oVal9 (gVg g k) l = 0 else oVal9 (gVg g k) l = 0) then 1 else 0)), nI (k + 1), w2)) Q := fun w2 hf2 => ih (n - 1) _ (by omega) ⟨k + 1, w2, by omega, rfl, hf2⟩
    simp (disch := first | omega | (simp only [fIn, fR, fC, Nat.reduceEqDiff, decide_false, decide_true, Bool.false_or, Bool.or_false, Bool.false_and, Bool.and_false, Bool.or_self, Bool.true_and, Bool.true_or, Bool.and_true, Bool.or_true, Bool.and_self]; done) | fail) only [hP_some, hP_let, hP_gd, hP_B, hP_if, reduceIte, q_lit, nI_add, pk_mul, q_lt, q_le, q_eq, q_cl, q_g, Bool.not_eq_true', decide_eq_false_iff_not, decide_eq_true_eq, q_div, q_rm, q_sub, q_m1, Nat.zero_add, Nat.add_zero, rM_ca hr1, rM_case hr1, c]
    refine ⟨by omega, ?_⟩
    by_cases c2 : g 4 (5 * k + 4) = wh
    · rw [if_pos c2]
      refine m_says hr1 (rMr_fr (by decide) hf hR) ho hk hi hl c (fun w2 hf2 => ?_)
      have nx := next w2 (fr_then hf hf2 (by decide))
      unfold f270_80_j45
      have hw2 : wh = 0 ∨ wh = 1 := by omega
      by_cases c3 : oVal9 (gVg g k) l = nI 0
      · rw [if_pos c3]
        rcases hw2 with rfl | rfl
        · simp (disch := first | omega | (simp only [fIn, fR, fC, Nat.reduceEqDiff, decide_false, decide_true, Bool.false_or, Bool.or_false, Bool.false_and, Bool.and_false, Bool.or_self, Bool.true_and, Bool.true_or, Bool.and_true, Bool.or_true, Bool.and_self]; done) | fail) only [hP_some, hP_let, hP_gd, hP_B, hP_if, reduceIte, q_lit, nI_add, pk_mul, q_lt, q_le, q_eq, q_cl, q_g, Bool.not_eq_true', decide_eq_false_iff_not, decide_eq_true_eq, q_div, q_rm, q_sub, q_m1, Nat.zero_add, Nat.add_zero, Nat.reduceEqDiff]
          rw [if_pos ⟨c2, by rw [if_neg (by decide)]; exact c3⟩] at nx
          exact nx
        · simp (disch := first | omega | (simp only [fIn, fR, fC, Nat.reduceEqDiff, decide_false, decide_true, Bool.false_or, Bool.or_false, Bool.false_and, Bool.and_false, Bool.or_self, Bool.true_and, Bool.true_or, Bool.and_true, Bool.or_true, Bool.and_self]; done) | fail) only [hP_some, hP_let, hP_gd, hP_B, hP_if, reduceIte, q_lit, nI_add, pk_mul, q_lt, q_le, q_eq, q_cl, q_g, Bool.not_eq_true', decide_eq_false_iff_not, decide_eq_true_eq, q_div, q_rm, q_sub, q_m1, Nat.zero_add, Nat.add_zero, Nat.reduceEqDiff]
          rw [if_neg (fun h => by have h5 := h.2; rw [if_pos rfl] at h5; exact h5 c3)] at nx
          exact nx
      · rw [if_neg c3]
        rcases hw2 with rfl | rfl
        · simp (disch := first | omega | (simp only [fIn, fR, fC, Nat.reduceEqDiff, decide_false, decide_true, Bool.false_or, Bool.or_false, Bool.false_and, Bool.and_false, Bool.or_self, Bool.true_and, Bool.true_or, Bool.and_true, Bool.or_true, Bool.and_self]; done) | fail) only [hP_some, hP_let, hP_gd, hP_B, hP_if, reduceIte, q_lit, nI_add, pk_mul, q_lt, q_le, q_eq, q_cl, q_g, Bool.not_eq_true', decide_eq_false_iff_not, decide_eq_true_eq, q_div, q_rm, q_sub, q_m1, Nat.zero_add, Nat.add_zero, Nat.reduceEqDiff]
          rw [if_neg (fun h => by have h5 := h.2; rw [if_neg (by decide)] at h5; exact c3 h5)] at nx
          exact nx
        · simp (disch := first | omega | (simp only [fIn, fR, fC, Nat.reduceEqDiff, decide_false, decide_true, Bool.false_or, Bool.or_false, Bool.false_and, Bool.and_false, Bool.or_self, Bool.true_and, Bool.true_or, Bool.and_true, Bool.or_true, Bool.and_self]; done) | fail) only [hP_some, hP_let, hP_gd, hP_B, hP_if, reduceIte, q_lit, nI_add, pk_mul, q_lt, q_le, q_eq, q_cl, q_g, Bool.not_eq_true', decide_eq_false_iff_not, decide_eq_true_eq, q_div, q_rm, q_sub, q_m1, Nat.zero_add, Nat.add_zero, Nat.reduceEqDiff]
          rw [if_pos ⟨c2, by rw [if_pos rfl]; exact c3⟩] at nx
          exact nx
    · rw [if_neg c2]
      have nx := next w1 hf
      rw [if_neg (fun h => c2 h.1)] at nx
      exact nx
  · simp (disch := first | omega | (simp only [fIn, fR, fC, Nat.reduceEqDiff, decide_false, decide_true, Bool.false_or, Bool.or_false, Bool.false_and, Bool.and_false, Bool.or_self, Bool.true_and, Bool.true_or, Bool.and_true, Bool.or_true, Bool.and_self]; done) | fail) only [hP_some, hP_let, hP_gd, hP_B, hP_if, reduceIte, q_lit, nI_add, pk_mul, q_lt, q_le, q_eq, q_cl, q_g, Bool.not_eq_true', decide_eq_false_iff_not, decide_eq_true_eq, q_div, q_rm, q_sub, q_m1, Nat.zero_add, Nat.add_zero, rM_ca hr1, c]
    rw [show k = gCa g by omega]
    exact hq w1 hf
theorem c_wrong {i wh : Nat} {l : List gO} (hr : rC g w) (hR : rCr r g w) (ho : gOk g) (hk : rOk r g) (hfl : ∀ k, k < gCa g → g 4 (5 * k + 4) ≤ 1) (hi : i < gGa g) (hl : r (2 + i) = some l) (hw : wh ≤ 1) (hq : ∀ w', fr pN w w' → Q (nI (gEr g l wh (gCa g))) w') : hP (f88_23 (nI i) (nI wh) w) Q := by
  have hca := gOk_ca ho
  have htr := gTro_lt g (gCa g)
  have htr2 : 2 ^ gCa g ≤ 2 ^ 10 := Nat.pow_le_pow_right (by decide) hca
  unfold f88_23
  refine hP_loopF (fun n s => ∃ k w1, k + n = gCa g ∧ s = (nI (gEr g l wh k), nI k, w1) ∧ fr pN w w1) (gCa g) (by omega) ⟨0, w, by omega, rfl, fr_refl⟩ ?_
  rintro n s rec ⟨k, w1, hkn, rfl, hf⟩ ih
  have hr1 := rC_fr (by decide) hf hr
  have h10 := gEr_le g l wh k
  simp only [f88_23_b5]
  by_cases c : k < gCa g
  · have hd : gTro g (gCa g) / 2 ^ k < 2147483648 := Nat.lt_of_le_of_lt (Nat.div_le_self _ _) (by omega)
    have hbit := gTro_bit g k (gCa g) c
    have hf1 := hfl k c
    have next : ∀ w2, fr pN w w2 → hP (rec (nI (gEr g l wh k + (if g 4 (5 * k + 4) = wh ∧ (if wh = 1 then ¬ oVal9 (gVg g k) l = 0 else oVal9 (gVg g k) l = 0) then 1 else 0)), nI (k + 1), w2)) Q := fun w2 hf2 => ih (n - 1) _ (by omega) ⟨k + 1, w2, by omega, rfl, hf2⟩
    have hw2 : wh = 0 ∨ wh = 1 := by omega
    have go : ∀ t, t = g 4 (5 * k + 4) → hP (f88_23_j37 (nI i) (nI wh) (nI (gEr g l wh k)) (nI k) (nI t) rec w1) Q := by
      intro t ht
      unfold f88_23_j37
      simp (disch := first | omega | (simp only [fIn, fR, fC, Nat.reduceEqDiff, decide_false, decide_true, Bool.false_or, Bool.or_false, Bool.false_and, Bool.and_false, Bool.or_self, Bool.true_and, Bool.true_or, Bool.and_true, Bool.or_true, Bool.and_self]; done) | fail) only [hP_if, hP_B, q_lit, nI_add, pk_mul, q_lt, q_le, q_eq, q_cl, q_g, Bool.not_eq_true', decide_eq_false_iff_not, decide_eq_true_eq, q_div, q_rm, q_sub, q_m1, Nat.zero_add, Nat.add_zero]
      by_cases c2 : t = wh
      · rw [if_pos c2]
        refine c_says hr1 (rCr_fr (by decide) hf hR) ho hk hi hl c (fun w2 hf2 => ?_)
        have nx := next w2 (fr_then hf hf2 (by decide))
        by_cases c3 : oVal9 (gVg g k) l = 0
        · rw [if_pos c3]
          rcases hw2 with rfl | rfl
          · rw [if_pos rfl]
            rw [if_pos ⟨by omega, by rw [if_neg (by decide)]; exact c3⟩] at nx
            exact nx
          · rw [if_neg (by decide)]
            rw [if_neg (fun h => by have h5 := h.2; rw [if_pos rfl] at h5; exact h5 c3)] at nx
            exact nx
        · rw [if_neg c3]
          rcases hw2 with rfl | rfl
          · rw [if_neg (by decide)]
            rw [if_neg (fun h => by have h5 := h.2; rw [if_neg (by decide)] at h5; exact c3 h5)] at nx
            exact nx
          · rw [if_pos rfl]
            rw [if_pos ⟨by omega, by rw [if_pos rfl]; exact c3⟩] at nx
            exact nx
      · rw [if_neg c2]
        have nx := next w1 hf
        rw [if_neg (fun h => c2 (by rw [ht]; exact h.1))] at nx
        exact nx
    simp (disch := first | omega | (simp only [fIn, fR, fC, Nat.reduceEqDiff, decide_false, decide_true, Bool.false_or, Bool.or_false, Bool.false_and, Bool.and_false, Bool.or_self, Bool.true_and, Bool.true_or, Bool.and_true, Bool.or_true, Bool.and_self]; done) | fail) only [hP_if, q_lit, nI_add, pk_mul, q_lt, q_le, q_eq, q_cl, q_g, Bool.not_eq_true', decide_eq_false_iff_not, decide_eq_true_eq, q_div, q_rm, q_sub, q_m1, Nat.zero_add, Nat.add_zero, rC_ca hr1, rC_tro hr1, c, q_usr, q_and1, hbit, reduceIte]
    by_cases c4 : g 4 (5 * k + 4) = 1
    · rw [if_pos c4, if_neg (by decide)]
      exact go 1 c4.symm
    · rw [if_neg c4, if_pos rfl]
      exact go 0 (by omega)
  · simp (disch := first | omega | (simp only [fIn, fR, fC, Nat.reduceEqDiff, decide_false, decide_true, Bool.false_or, Bool.or_false, Bool.false_and, Bool.and_false, Bool.or_self, Bool.true_and, Bool.true_or, Bool.and_true, Bool.or_true, Bool.and_self]; done) | fail) only [hP_some, hP_let, hP_gd, hP_B, hP_if, reduceIte, q_lit, nI_add, pk_mul, q_lt, q_le, q_eq, q_cl, q_g, Bool.not_eq_true', decide_eq_false_iff_not, decide_eq_true_eq, q_div, q_rm, q_sub, q_m1, Nat.zero_add, Nat.add_zero, rC_ca hr1, c]
    rw [show k = gCa g by omega]
    exact hq w1 hf
end GM
