/-! ===== OPERATIONS: dummies, more ===== -/
def dS (D : List Nat) : Nat → Nat
  | 0 => 0
  | k + 1 => dS D k + D.getD k 0
theorem dS_le {D : List Nat} (h : ∀ i, i < D.length → D.getD i 0 ≤ 999) : ∀ k, k ≤ D.length → dS D k ≤ 999 * k
  | 0, _ => Nat.le_refl _
  | k + 1, hk => by
    have h1 := dS_le h k (by omega)
    have h2 := h k (by omega)
    show dS D k + D.getD k 0 ≤ _
    omega
def dMx9 (D : List Nat) : Nat → Option Nat
  | 0 => none
  | k + 1 => match dMx9 D k with
    | none => some (D.getD k 0)
    | some m => some (max m (D.getD k 0))
def dAb (D : List Nat) (la : Nat) : Nat → Nat
  | 0 => 0
  | k + 1 => dAb D la k + (if la < D.getD k 0 then 1 else 0)
theorem dAb_le (D : List Nat) (la : Nat) : ∀ k, dAb D la k ≤ k
  | 0 => Nat.le_refl _
  | k + 1 => by
    have := dAb_le D la k
    show _ + _ ≤ _
    split <;> omega
theorem dMx9_le {D : List Nat} (h : ∀ i, i < D.length → D.getD i 0 ≤ 999) : ∀ k, k ≤ D.length → ∀ m, dMx9 D k = some m → m ≤ 999
  | 0, _, m, e => by cases e
  | k + 1, hk, m, e => by
    have h2 := h k (by omega)
    have ih := dMx9_le h k (by omega)
    have e : (match dMx9 D k with | none => some (D.getD k 0) | some m => some (max m (D.getD k 0))) = some m := e
    cases e1 : dMx9 D k with
    | none => rw [e1] at e; cases e; exact h2
    | some x => rw [e1] at e; cases e; have := ih x e1; omega
/-- dummies on one side: the count stands in (a, j), the values in row b -/
def dRow (D : List Nat) (w : mW) (a j b : Nat) : Prop := wI w a j = nI D.length ∧ D.length ≤ 12 ∧ ∀ i, i < D.length → wI w b i = nI (D.getD i 0) ∧ D.getD i 0 ≤ 999
section DU
variable {D : List Nat} {w : mW} {Q : Int32 → mW → Prop}
theorem m_sumOf (h : dRow D w 80 74 110) (hq : Q (nI (dS D D.length)) w) : hP (f275_80 w) Q := by
  obtain ⟨h1, h2, h3⟩ := h
  unfold f275_80
  refine hP_loopF (fun n s => ∃ k, k + n = D.length ∧ s = (nI (dS D k), nI k, w)) D.length (by omega) ⟨0, by omega, rfl⟩ ?_
  rintro n s rec ⟨k, hk, rfl⟩ ih
  simp only [f275_80_b4]
  by_cases c : k < D.length
  · simp (disch := first | omega | (simp only [fIn, fR, fC, Nat.reduceEqDiff, decide_false, decide_true, Bool.false_or, Bool.or_false, Bool.false_and, Bool.and_false, Bool.or_self, Bool.true_and, Bool.true_or, Bool.and_true, Bool.or_true, Bool.and_self]; done) | fail) only [hP_some, hP_let, hP_gd, hP_B, hP_if, reduceIte, q_lit, nI_add, pk_mul, q_lt, q_le, q_eq, q_cl, q_g, Bool.not_eq_true', decide_eq_false_iff_not, decide_eq_true_eq, q_div, q_rm, q_sub, q_m1, Nat.zero_add, Nat.add_zero, h1, c, (h3 k c).1]
    exact ⟨by omega, ih (n - 1) _ (by omega) ⟨k + 1, by omega, rfl⟩⟩
  · simp (disch := first | omega | (simp only [fIn, fR, fC, Nat.reduceEqDiff, decide_false, decide_true, Bool.false_or, Bool.or_false, Bool.false_and, Bool.and_false, Bool.or_self, Bool.true_and, Bool.true_or, Bool.and_true, Bool.or_true, Bool.and_self]; done) | fail) only [hP_some, hP_let, hP_gd, hP_B, hP_if, reduceIte, q_lit, nI_add, pk_mul, q_lt, q_le, q_eq, q_cl, q_g, Bool.not_eq_true', decide_eq_false_iff_not, decide_eq_true_eq, q_div, q_rm, q_sub, q_m1, Nat.zero_add, Nat.add_zero, h1, c]
    rw [show k = D.length by omega]
    exact hq
theorem c_sumOf (h : dRow D w 34 7 39) (hq : Q (nI (dS D D.length)) w) : hP (f6_34 w) Q := by
  obtain ⟨h1, h2, h3⟩ := h
  unfold f6_34
  refine hP_loopF (fun n s => ∃ k, k + n = D.length ∧ s = (nI (dS D k), nI k, w)) D.length (by omega) ⟨0, by omega, rfl⟩ ?_
  rintro n s rec ⟨k, hk, rfl⟩ ih
  simp only [f6_34_b4]
  by_cases c : k < D.length
  · simp (disch := first | omega | (simp only [fIn, fR, fC, Nat.reduceEqDiff, decide_false, decide_true, Bool.false_or, Bool.or_false, Bool.false_and, Bool.and_false, Bool.or_self, Bool.true_and, Bool.true_or, Bool.and_true, Bool.or_true, Bool.and_self]; done) | fail) only [hP_some, hP_let, hP_gd, hP_B, hP_if, reduceIte, q_lit, nI_add, pk_mul, q_lt, q_le, q_eq, q_cl, q_g, Bool.not_eq_true', decide_eq_false_iff_not, decide_eq_true_eq, q_div, q_rm, q_sub, q_m1, Nat.zero_add, Nat.add_zero, h1, c, (h3 k c).1]
    exact ⟨by omega, ih (n - 1) _ (by omega) ⟨k + 1, by omega, rfl⟩⟩
  · simp (disch := first | omega | (simp only [fIn, fR, fC, Nat.reduceEqDiff, decide_false, decide_true, Bool.false_or, Bool.or_false, Bool.false_and, Bool.and_false, Bool.or_self, Bool.true_and, Bool.true_or, Bool.and_true, Bool.or_true, Bool.and_self]; done) | fail) only [hP_some, hP_let, hP_gd, hP_B, hP_if, reduceIte, q_lit, nI_add, pk_mul, q_lt, q_le, q_eq, q_cl, q_g, Bool.not_eq_true', decide_eq_false_iff_not, decide_eq_true_eq, q_div, q_rm, q_sub, q_m1, Nat.zero_add, Nat.add_zero, h1, c]
    rw [show k = D.length by omega]
    exact hq
theorem c_great (h : dRow D w 34 7 39) (hq : Q (fgE (dMx9 D D.length)) w) : hP (f7_34 w) Q := by
  obtain ⟨h1, h2, h3⟩ := h
  have hb := dMx9_le (D := D) (fun i hi => (h3 i hi).2)
  unfold f7_34
  refine hP_loopF (fun n s => ∃ k, k + n = D.length ∧ s = (fgE (dMx9 D k), nI k, w)) D.length (by omega) ⟨0, by omega, rfl⟩ ?_
  rintro n s rec ⟨k, hk, rfl⟩ ih
  simp only [f7_34_b4]
  by_cases c : k < D.length
  · have h9 := (h3 k c).2
    simp (disch := first | omega | (simp only [fIn, fR, fC, Nat.reduceEqDiff, decide_false, decide_true, Bool.false_or, Bool.or_false, Bool.false_and, Bool.and_false, Bool.or_self, Bool.true_and, Bool.true_or, Bool.and_true, Bool.or_true, Bool.and_self]; done) | fail) only [hP_some, hP_let, hP_gd, hP_B, hP_if, reduceIte, q_lit, nI_add, pk_mul, q_lt, q_le, q_eq, q_cl, q_g, Bool.not_eq_true', decide_eq_false_iff_not, decide_eq_true_eq, q_div, q_rm, q_sub, q_m1, Nat.zero_add, Nat.add_zero, h1, c, (h3 k c).1]
    refine ⟨by omega, ?_⟩
    have e : nMax (fgE (dMx9 D k)) (nI (D.getD k 0)) = fgE (dMx9 D (k + 1)) := by
      show _ = fgE (match dMx9 D k with | none => some (D.getD k 0) | some m => some (max m (D.getD k 0)))
      cases e1 : dMx9 D k with
      | none =>
        show nMax (-nI 1) (nI (D.getD k 0)) = nI (D.getD k 0)
        unfold nMax
        rw [if_pos (by rw [q_ngt (by omega)]; trivial)]
      | some m =>
        have := hb k (by omega) m e1
        show nMax (nI m) (nI (D.getD k 0)) = nI (max m (D.getD k 0))
        exact q_max (by omega) (by omega)
    rw [e]
    exact ih (n - 1) _ (by omega) ⟨k + 1, by omega, rfl⟩
  · simp (disch := first | omega | (simp only [fIn, fR, fC, Nat.reduceEqDiff, decide_false, decide_true, Bool.false_or, Bool.or_false, Bool.false_and, Bool.and_false, Bool.or_self, Bool.true_and, Bool.true_or, Bool.and_true, Bool.or_true, Bool.and_self]; done) | fail) only [hP_some, hP_let, hP_gd, hP_B, hP_if, reduceIte, q_lit, nI_add, pk_mul, q_lt, q_le, q_eq, q_cl, q_g, Bool.not_eq_true', decide_eq_false_iff_not, decide_eq_true_eq, q_div, q_rm, q_sub, q_m1, Nat.zero_add, Nat.add_zero, h1, c]
    rw [show k = D.length by omega]
    exact hq
theorem c_above {la : Nat} (hla : la ≤ 300) (h : dRow D w 34 7 39) (hq : Q (nI (dAb D la D.length)) w) : hP (f8_34 (nI la) w) Q := by
  obtain ⟨h1, h2, h3⟩ := h
  unfold f8_34
  refine hP_loopF (fun n s => ∃ k, k + n = D.length ∧ s = (nI (dAb D la k), nI k, w)) D.length (by omega) ⟨0, by omega, rfl⟩ ?_
  rintro n s rec ⟨k, hk, rfl⟩ ih
  simp only [f8_34_b4]
  by_cases c : k < D.length
  · have h9 := (h3 k c).2
    have h10 := dAb_le D la k
    have next : hP (rec (nI (dAb D la k + (if la < D.getD k 0 then 1 else 0)), nI (k + 1), w)) Q := ih (n - 1) _ (by omega) ⟨k + 1, by omega, rfl⟩
    simp (disch := first | omega | (simp only [fIn, fR, fC, Nat.reduceEqDiff, decide_false, decide_true, Bool.false_or, Bool.or_false, Bool.false_and, Bool.and_false, Bool.or_self, Bool.true_and, Bool.true_or, Bool.and_true, Bool.or_true, Bool.and_self]; done) | fail) only [hP_some, hP_let, hP_gd, hP_B, hP_if, reduceIte, q_lit, nI_add, pk_mul, q_lt, q_le, q_eq, q_cl, q_g, Bool.not_eq_true', decide_eq_false_iff_not, decide_eq_true_eq, q_div, q_rm, q_sub, q_m1, Nat.zero_add, Nat.add_zero, h1, c, (h3 k c).1]
    refine ⟨by omega, ?_⟩
    by_cases c2 : la < D.getD k 0
    · rw [if_pos c2] at next ⊢; exact next
    · rw [if_neg c2] at next ⊢; exact next
  · simp (disch := first | omega | (simp only [fIn, fR, fC, Nat.reduceEqDiff, decide_false, decide_true, Bool.false_or, Bool.or_false, Bool.false_and, Bool.and_false, Bool.or_self, Bool.true_and, Bool.true_or, Bool.and_true, Bool.or_true, Bool.and_self]; done) | fail) only [hP_some, hP_let, hP_gd, hP_B, hP_if, reduceIte, q_lit, nI_add, pk_mul, q_lt, q_le, q_eq, q_cl, q_g, Bool.not_eq_true', decide_eq_false_iff_not, decide_eq_true_eq, q_div, q_rm, q_sub, q_m1, Nat.zero_add, Nat.add_zero, h1, c]
    rw [show k = D.length by omega]
    exact hq
theorem m_dloop {la wh : Nat} (hla : la ≤ 300) (hl : wI w 80 5 = nI la) (hw : wh = 2 ∨ wh = 3) (h : dRow D w 80 74 110) (hq : Q (if wh = 2 then fgE (dMx9 D D.length) else nI (dAb D la D.length)) w) : hP (mLoop (f277_80_b52 (nI wh)) nF (-nI 1, nI 0, nI 0, w)) Q := by
  obtain ⟨h1, h2, h3⟩ := h
  have hb := dMx9_le (D := D) (fun i hi => (h3 i hi).2)
  refine hP_loopF (fun n s => ∃ k, k + n = D.length ∧ s = (fgE (dMx9 D k), nI (dAb D la k), nI k, w)) D.length (by omega) ⟨0, by omega, rfl⟩ ?_
  rintro n s rec ⟨k, hk, rfl⟩ ih
  simp only [f277_80_b52, f277_80_j83]
  by_cases c : k < D.length
  · have h9 := (h3 k c).2
    have h10 := dAb_le D la k
    simp (disch := first | omega | (simp only [fIn, fR, fC, Nat.reduceEqDiff, decide_false, decide_true, Bool.false_or, Bool.or_false, Bool.false_and, Bool.and_false, Bool.or_self, Bool.true_and, Bool.true_or, Bool.and_true, Bool.or_true, Bool.and_self]; done) | fail) only [hP_if, hP_gd, hP_let, q_lit, nI_add, pk_mul, q_lt, q_le, q_eq, q_cl, q_g, Bool.not_eq_true', decide_eq_false_iff_not, decide_eq_true_eq, q_div, q_rm, q_sub, q_m1, Nat.zero_add, Nat.add_zero, h1, c, (h3 k c).1, hl, reduceIte]
    have go : ∀ t : Int32, t = fgE (dMx9 D (k + 1)) → (k < 12 ∧ if la < D.getD k 0 then hP (rec (t, nI (dAb D la k + 1), nI (k + 1), w)) Q else hP (rec (t, nI (dAb D la k), nI (k + 1), w)) Q) := by
      intro t ht
      have next : hP (rec (t, nI (dAb D la k + (if la < D.getD k 0 then 1 else 0)), nI (k + 1), w)) Q := ih (n - 1) _ (by omega) ⟨k + 1, by omega, by rw [ht]; rfl⟩
      refine ⟨by omega, ?_⟩
      by_cases c2 : la < D.getD k 0
      · rw [if_pos c2] at next ⊢; exact next
      · rw [if_neg c2] at next ⊢; exact next
    refine ⟨by omega, ?_⟩
    have eS : dMx9 D (k + 1) = (match dMx9 D k with | none => some (D.getD k 0) | some m => some (max m (D.getD k 0))) := rfl
    cases e1 : dMx9 D k with
    | none =>
      rw [e1] at eS
      rw [if_pos (show fgE none < nI (D.getD k 0) by show -nI 1 < _; rw [q_ngt (by omega)]; trivial)]
      exact ⟨by omega, go _ (by rw [eS]; rfl)⟩
    | some m =>
      rw [e1] at eS
      have hm := hb k (by omega) m e1
      have e3 : (fgE (some m) < nI (D.getD k 0)) = (m < D.getD k 0) := q_lt (by omega) (by omega)
      simp only [e3]
      by_cases c2 : m < D.getD k 0
      · rw [if_pos c2]
        refine ⟨by omega, go _ ?_⟩
        rw [eS]
        show nI _ = nI _
        congr 1
        omega
      · rw [if_neg c2]
        refine go _ ?_
        rw [eS]
        show nI _ = nI _
        congr 1
        omega
  · simp (disch := first | omega | (simp only [fIn, fR, fC, Nat.reduceEqDiff, decide_false, decide_true, Bool.false_or, Bool.or_false, Bool.false_and, Bool.and_false, Bool.or_self, Bool.true_and, Bool.true_or, Bool.and_true, Bool.or_true, Bool.and_self]; done) | fail) only [hP_if, q_lit, nI_add, pk_mul, q_lt, q_le, q_eq, q_cl, q_g, Bool.not_eq_true', decide_eq_false_iff_not, decide_eq_true_eq, q_div, q_rm, q_sub, q_m1, Nat.zero_add, Nat.add_zero, h1, c, hP_some, reduceIte]
    rw [show k = D.length by omega]
    rcases hw with rfl | rfl
    · rw [if_pos rfl] at hq ⊢; exact hq
    · rw [if_neg (by decide)] at hq ⊢; exact hq
end DU
theorem dRow_of {D : List Nat} {w : mW} (h : iDum D w 74 110 34 39) : dRow D w 80 74 110 ∧ dRow D w 34 7 39 := ⟨⟨h.1, h.2.2.1, fun i hi => ⟨(h.2.2.2 i hi).1, (h.2.2.2 i hi).2.2⟩⟩, ⟨h.2.1, h.2.2.1, fun i hi => ⟨(h.2.2.2 i hi).2.1, (h.2.2.2 i hi).2.2⟩⟩⟩
theorem dRow_same {D : List Nat} {w w1 : mW} {a j b : Nat} (hs : aSame w w1) (h1 : fIn pQ a j = false) (h2 : ∀ i, fIn pQ b i = false) (h : dRow D w a j b) : dRow D w1 a j b := ⟨(hs a j h1).trans h.1, h.2.1, fun i hi => ⟨(hs b i (h2 i)).trans (h.2.2 i hi).1, (h.2.2 i hi).2⟩⟩
theorem p110 (i : Nat) : fIn pQ 110 i = false := by simp [fIn, fR, fC]
theorem op_dummies (x1 : Int32) : opB Inv (f318_0_116 x1) (f277_80 x1) := by
  refine opB_gx (f := f154_0 x1) (ex := 1) (fun w => rfl) (fun w hI => ?_)
  obtain ⟨g, r, h, D, H, hp, -, hD, -⟩ := hI
  have hp0 := hp
  obtain ⟨hM, hMr, hC, hCr, ho, hk, hl1, hcm, -⟩ := hp
  have hla := gOk_la ho
  obtain ⟨hdM, hdC⟩ := dRow_of hD
  have hsum := dS_le (D := D) (fun i hi => (hdM.2.2 i hi).2) D.length (Nat.le_refl _)
  have h12 := hdM.2.1
  by_cases c1 : inR x1 (3 + 1)
  · obtain ⟨b, hb, rfl⟩ := c1
    have hb4 : b = 0 ∨ b = 1 ∨ b = 2 ∨ b = 3 := by omega
    refine ⟨g, r, True, if b < 2 then nI ((if b = 0 then dS D D.length else (if D.length = 0 then 1 else D.length)) / Nat.gcd (dS D D.length) (if D.length = 0 then 1 else D.length)) else (if b = 2 then fgE (dMx9 D D.length) else nI (dAb D (gLa g) D.length)), hp0, fun _ => ?_, fun c => absurd trivial c, fun _ w1 hx hs => ?_, fun c => absurd trivial c⟩
    · unfold f154_0
      simp only [hP_xb]
      refine c_wantWhat (most := 3) (by decide) (fun _ _ _ => ?_) (fun h => absurd ⟨b, hb, rfl⟩ h)
      rcases hb4 with rfl | rfl | rfl | rfl
      · simp (disch := first | omega | (simp only [fIn, fR, fC, Nat.reduceEqDiff, decide_false, decide_true, Bool.false_or, Bool.or_false, Bool.false_and, Bool.and_false, Bool.or_self, Bool.true_and, Bool.true_or, Bool.and_true, Bool.or_true, Bool.and_self]; done) | fail) only [hP_some, hP_let, hP_gd, hP_B, hP_if, reduceIte, q_lit, nI_add, pk_mul, q_lt, q_le, q_eq, q_cl, q_g, Bool.not_eq_true', decide_eq_false_iff_not, decide_eq_true_eq, q_div, q_rm, q_sub, q_m1, Nat.zero_add, Nat.add_zero, Nat.reduceLT]
        refine c_sumOf hdC ?_
        rw [hdC.1]
        refine c_upper (by omega) (by omega) ⟨?_, fr_refl⟩
        by_cases c0 : D.length = 0
        · rw [if_pos c0, if_pos c0, c0]; simp [dS]
        · rw [if_neg c0, if_neg c0]
      · simp (disch := first | omega | (simp only [fIn, fR, fC, Nat.reduceEqDiff, decide_false, decide_true, Bool.false_or, Bool.or_false, Bool.false_and, Bool.and_false, Bool.or_self, Bool.true_and, Bool.true_or, Bool.and_true, Bool.or_true, Bool.and_self]; done) | fail) only [hP_some, hP_let, hP_gd, hP_B, hP_if, reduceIte, q_lit, nI_add, pk_mul, q_lt, q_le, q_eq, q_cl, q_g, Bool.not_eq_true', decide_eq_false_iff_not, decide_eq_true_eq, q_div, q_rm, q_sub, q_m1, Nat.zero_add, Nat.add_zero, Nat.reduceLT, Nat.reduceEqDiff]
        refine c_sumOf hdC ?_
        rw [hdC.1]
        refine c_lower (by omega) (by omega) ⟨?_, fr_refl⟩
        by_cases c0 : D.length = 0
        · rw [if_pos c0, if_pos c0, c0]; simp [dS]
        · rw [if_neg c0, if_neg c0]
      · simp (disch := first | omega | (simp only [fIn, fR, fC, Nat.reduceEqDiff, decide_false, decide_true, Bool.false_or, Bool.or_false, Bool.false_and, Bool.and_false, Bool.or_self, Bool.true_and, Bool.true_or, Bool.and_true, Bool.or_true, Bool.and_self]; done) | fail) only [hP_some, hP_let, hP_gd, hP_B, hP_if, reduceIte, q_lit, nI_add, pk_mul, q_lt, q_le, q_eq, q_cl, q_g, Bool.not_eq_true', decide_eq_false_iff_not, decide_eq_true_eq, q_div, q_rm, q_sub, q_m1, Nat.zero_add, Nat.add_zero, Nat.reduceLT, Nat.reduceEqDiff]
        exact c_great hdC ⟨rfl, fr_refl⟩
      · simp (disch := first | omega | (simp only [fIn, fR, fC, Nat.reduceEqDiff, decide_false, decide_true, Bool.false_or, Bool.or_false, Bool.false_and, Bool.and_false, Bool.or_self, Bool.true_and, Bool.true_or, Bool.and_true, Bool.or_true, Bool.and_self]; done) | fail) only [hP_some, hP_let, hP_gd, hP_B, hP_if, reduceIte, q_lit, nI_add, pk_mul, q_lt, q_le, q_eq, q_cl, q_g, Bool.not_eq_true', decide_eq_false_iff_not, decide_eq_true_eq, q_div, q_rm, q_sub, q_m1, Nat.zero_add, Nat.add_zero, Nat.reduceLT, Nat.reduceEqDiff, rC_la hC]
        exact ⟨by decide, c_above (by omega) hdC ⟨rfl, fr_refl⟩⟩
    · have hdM1 := dRow_same hs (by decide +kernel) p110 hdM
      have F1 : fr pQ w1 (nS w1 80 0 (nI 0)) := fr_nS fr_refl rfl
      unfold f277_80
      simp only [hP_let, hP_B, q_lit]
      refine m_isWhat (most := 3) (by decide) hx.2.2.2 (fun _ _ _ => ?_) (fun h => absurd ⟨b, hb, rfl⟩ h)
      simp (disch := first | omega | (simp only [fIn, fR, fC, Nat.reduceEqDiff, decide_false, decide_true, Bool.false_or, Bool.or_false, Bool.false_and, Bool.and_false, Bool.or_self, Bool.true_and, Bool.true_or, Bool.and_true, Bool.or_true, Bool.and_self]; done) | fail) only [hP_some, hP_let, hP_gd, hP_B, hP_if, reduceIte, q_lit, nI_add, pk_mul, q_lt, q_le, q_eq, q_cl, q_g, Bool.not_eq_true', decide_eq_false_iff_not, decide_eq_true_eq, q_div, q_rm, q_sub, q_m1, Nat.zero_add, Nat.add_zero, Nat.reduceEqDiff]
      by_cases c2 : b < 2
      · rw [if_pos c2]
        refine m_sumOf hdM1 ?_
        rw [hdM1.1]
        simp (disch := first | omega | (simp only [fIn, fR, fC, Nat.reduceEqDiff, decide_false, decide_true, Bool.false_or, Bool.or_false, Bool.false_and, Bool.and_false, Bool.or_self, Bool.true_and, Bool.true_or, Bool.and_true, Bool.or_true, Bool.and_self]; done) | fail) only [q_lit, nI_add, pk_mul, q_lt, q_le, q_eq, q_cl, q_g, Bool.not_eq_true', decide_eq_false_iff_not, decide_eq_true_eq, q_div, q_rm, q_sub, q_m1, Nat.zero_add, Nat.add_zero, c2, reduceIte]
        by_cases c0 : D.length = 0
        · rw [if_pos c0]
          rw [c0]
          exact m_portion (show 0 < 131072 by omega) (by omega) (by omega) (by omega) ⟨rfl, F1, hx.2.2.2⟩
        · rw [if_neg c0]
          refine m_portion (by omega) (by omega) (by omega) (by omega) ⟨?_, F1, hx.2.2.2⟩
          rw [if_neg c0]
      · rw [if_neg c2]
        simp only [c2, reduceIte]
        exact m_dloop (la := gLa g) (by omega) (rM_la hx.1) (by omega) hdM1 ⟨rfl, F1, hx.2.2.2⟩
  · refine ⟨g, r, False, 0, hp0, fun c => c.elim, fun _ => ?_, fun c => c.elim, fun _ w1 hx hs => ?_⟩
    · unfold f154_0
      simp only [hP_xb]
      exact c_wantWhat (most := 3) (by decide) (fun a ha e => absurd ⟨a, by omega, e⟩ c1) (fun h => ⟨rfl, rfl⟩)
    · unfold f277_80
      simp only [hP_let, hP_B, q_lit]
      refine m_isWhat (most := 3) (by decide) hx.2.2.2 (fun a ha e => absurd ⟨a, by omega, e⟩ c1) (fun h => ?_)
      rw [if_pos (show nI 0 = nI 0 from rfl), hP_some]
      exact ⟨fr_nS (fr_nS fr_refl rfl) rfl, rd_nS⟩
theorem op_more (x1 : Int32) : opB Inv (f319_0_116 x1) (f278_80 x1) := by
  refine opB_gx (f := f155_0 x1) (ex := 0) (fun w => rfl) (fun w hI => ?_)
  obtain ⟨g, r, h, D, H, hp, -, hD, -⟩ := hI
  have hp0 := hp
  obtain ⟨hdM, hdC⟩ := dRow_of hD
  have hsum := dS_le (D := D) (fun i hi => (hdM.2.2 i hi).2) D.length (Nat.le_refl _)
  have h12 := hdM.2.1
  by_cases c1 : in999 x1
  · obtain ⟨m, m1, m2, rfl⟩ := c1
    have key : ∀ k, (m * k < dS D D.length) = (k < (dS D D.length + m - 1) / m) := by
      intro k
      apply propext
      rw [show (k < (dS D D.length + m - 1) / m) = (k + 1 ≤ (dS D D.length + m - 1) / m) from rfl, Nat.le_div_iff_mul_le (by omega), Nat.add_mul, Nat.one_mul, Nat.mul_comm k m]
      omega
    have hq9 : (dS D D.length + m - 1) / m ≤ 12987 := Nat.le_trans (Nat.div_le_self _ _) (by omega)
    have hq8 : (dS D D.length + m - 1) / m ≤ 11988 := by
      apply Classical.byContradiction
      intro h9
      have := key 11988
      rw [eq_true (show 11988 < (dS D D.length + m - 1) / m by omega)] at this
      have h10 := this.mpr trivial
      have h11 : 1 * 11988 ≤ m * 11988 := Nat.mul_le_mul_right _ m1
      omega
    generalize hq : (dS D D.length + m - 1) / m = q at *
    refine ⟨g, r, True, nI (q - D.length), hp0, fun _ => ?_, fun c => absurd trivial c, fun _ w1 hx hs => ?_, fun c => absurd trivial c⟩
    · unfold f155_0
      simp only [hP_xb]
      refine c_want999 (fun _ _ _ _ => ?_) (fun h => absurd ⟨m, m1, m2, rfl⟩ h)
      simp (disch := first | omega | (simp only [fIn, fR, fC, Nat.reduceEqDiff, decide_false, decide_true, Bool.false_or, Bool.or_false, Bool.false_and, Bool.and_false, Bool.or_self, Bool.true_and, Bool.true_or, Bool.and_true, Bool.or_true, Bool.and_self]; done) | fail) only [hP_if, hP_B, hP_gd, hP_let, hP_some, q_lit, nI_add, pk_mul, q_lt, q_le, q_eq, q_cl, q_g, Bool.not_eq_true', decide_eq_false_iff_not, decide_eq_true_eq, q_div, q_rm, q_sub, q_m1, Nat.zero_add, Nat.add_zero, show ¬ m < 1 by omega, reduceIte]
      refine c_sumOf hdC ?_
      simp (disch := first | omega | (simp only [fIn, fR, fC, Nat.reduceEqDiff, decide_false, decide_true, Bool.false_or, Bool.or_false, Bool.false_and, Bool.and_false, Bool.or_self, Bool.true_and, Bool.true_or, Bool.and_true, Bool.or_true, Bool.and_self]; done) | fail) only [q_lit, nI_add, pk_mul, q_lt, q_le, q_eq, q_cl, q_g, Bool.not_eq_true', decide_eq_false_iff_not, decide_eq_true_eq, q_div, q_rm, q_sub, q_m1, Nat.zero_add, Nat.add_zero, hdC.1, hq]
      refine ⟨by omega, ?_, fr_refl⟩
      by_cases c2 : D.length ≤ q
      · simp (disch := first | omega | (simp only [fIn, fR, fC, Nat.reduceEqDiff, decide_false, decide_true, Bool.false_or, Bool.or_false, Bool.false_and, Bool.and_false, Bool.or_self, Bool.true_and, Bool.true_or, Bool.and_true, Bool.or_true, Bool.and_self]; done) | fail) only [q_lit, nI_add, pk_mul, q_lt, q_le, q_eq, q_cl, q_g, Bool.not_eq_true', decide_eq_false_iff_not, decide_eq_true_eq, q_div, q_rm, q_sub, q_m1, Nat.zero_add, Nat.add_zero, q_max]
        rw [show max 0 (q - D.length) = q - D.length by omega]
      · have e : nMax (nI 0) (nI q - nI D.length) = nI 0 := by
          unfold nMax
          rw [if_neg]
          rw [Int32.lt_iff_toInt_lt, pk_sub_toInt (by omega) (by omega), nI_toInt (by omega)]
          omega
        rw [e, show q - D.length = 0 by omega]
    · have hdM1 := dRow_same hs (by decide +kernel) p110 hdM
      have F1 : fr pQ w1 (nS w1 80 0 (nI 0)) := fr_nS fr_refl rfl
      unfold f278_80
      simp only [hP_let, hP_B, q_lit]
      refine m_within (by decide) (by decide) (fun _ _ _ _ => ?_) (fun h => absurd rfl (h m m1 m2))
      refine m_rightY hx.2.2.2 ?_
      rw [if_neg (by decide)]
      refine hP_loopF (fun n s => ∃ k, k + n = q - D.length ∧ s = (nI k, nS w1 80 0 (nI 0))) (q - D.length) (by omega) ⟨0, by omega, rfl⟩ ?_
      rintro n s rec ⟨k, hkn, rfl⟩ ih
      have hmk : m * (D.length + k) ≤ 999 * 12000 := Nat.mul_le_mul m2 (by omega)
      simp only [f278_80_b25, hP_B]
      refine m_sumOf hdM1 ?_
      simp (disch := first | omega | (simp only [fIn, fR, fC, Nat.reduceEqDiff, decide_false, decide_true, Bool.false_or, Bool.or_false, Bool.false_and, Bool.and_false, Bool.or_self, Bool.true_and, Bool.true_or, Bool.and_true, Bool.or_true, Bool.and_self]; done) | fail) only [hP_if, hP_some, q_lit, nI_add, pk_mul, q_lt, q_le, q_eq, q_cl, q_g, Bool.not_eq_true', decide_eq_false_iff_not, decide_eq_true_eq, q_div, q_rm, q_sub, q_m1, Nat.zero_add, Nat.add_zero, hdM1.1, key]
      by_cases c2 : D.length + k < q
      · rw [if_pos c2]
        exact ih (n - 1) _ (by omega) ⟨k + 1, by omega, rfl⟩
      · rw [if_neg c2, show k = q - D.length by omega]
        exact ⟨rfl, F1, hx.2.2.2⟩
  · refine ⟨g, r, False, 0, hp0, fun c => c.elim, fun _ => ?_, fun c => c.elim, fun _ w1 hx hs => ?_⟩
    · unfold f155_0
      simp only [hP_xb]
      exact c_want999 (fun b b1 b2 e => absurd ⟨b, b1, b2, e⟩ c1) (fun h => ⟨rfl, rfl⟩)
    · unfold f278_80
      simp only [hP_let, hP_B, q_lit]
      refine m_within (by decide) (by decide) (fun b b1 b2 e => absurd ⟨b, b1, b2, e⟩ c1) (fun h => ?_)
      refine m_rightN (by decide) (by decide) hx.2.2.2 ?_
      rw [if_pos (show nI 0 = nI 0 from rfl), hP_some]
      exact ⟨fr_nS (fr_nS fr_refl rfl) rfl, rd_nS⟩
