/-! ===== THE REFERENCE: what rules are told; needs and troubles ===== -/
def gCrd (g : gS) (ex c : Nat) : Nat := if 0 < gCnt g c (gSw g) then gCnt g c (gSw g) + ex else 0
def gV (g : gS) (ch mi ex c k : Nat) : Int32 := if k = 0 then nI (mi / gTi g) else if k = 1 then nI (g 1 c) else if k = 2 then nI (g 2 c) else if k = 3 then nI (gFar g ch c) else nI (gCrd g ex c)
abbrev gR : Type := Nat → Option (List gO)
def rAt (w : mW) (a j : Nat) (o : Option (List gO)) : Prop := match o with
  | none => wI w a j = -nI 1
  | some l => ∃ k, wI w a j = nI k ∧ cdM w k l
def rMr (r : gR) (g : gS) (w : mW) : Prop := rAt w 80 9 (r 0) ∧ rAt w 80 10 (r 1) ∧ ∀ i, i < gGa g → ∃ l k, r (2 + i) = some l ∧ wI w 85 i = nI k ∧ cdM w k l
def rOk (r : gR) (g : gS) : Prop := (∀ l, r 0 = some l → oDep 0 4 0 l) ∧ (∀ l, r 1 = some l → oDep 1 5 0 l) ∧ ∀ i l, i < gGa g → r (2 + i) = some l → oDep 6 9 0 l
theorem rAt_cg {w w' : mW} {a j : Nat} {o : Option (List gO)} (h86 : ∀ j, wI w' 86 j = wI w 86 j) (h : wI w' a j = wI w a j) (hr : rAt w a j o) : rAt w' a j o := by
  cases o with
  | none => exact h.trans hr
  | some l =>
    obtain ⟨k, h1, h2⟩ := hr
    exact ⟨k, h.trans h1, cdM_cg h86 l k h2⟩
theorem rMr_fr {r : gR} {g : gS} {p : fP} {w w' : mW} (hd : fOff rMR rMK p = true) (hf : fr p w w') (h : rMr r g w) : rMr r g w' := by
  have h86 : ∀ j, wI w' 86 j = wI w 86 j := fun j => fr_rd hf (fOff_row hd (by decide) j)
  obtain ⟨h1, h2, h3⟩ := h
  refine ⟨rAt_cg h86 (fr_rd hf (fOff_cell hd (by decide))) h1, rAt_cg h86 (fr_rd hf (fOff_cell hd (by decide))) h2, fun i hi => ?_⟩
  obtain ⟨l, k, a1, a2, a3⟩ := h3 i hi
  exact ⟨l, k, a1, (fr_rd hf (fOff_row hd (by decide) i)).trans a2, cdM_cg h86 l k a3⟩
def nCl (lo hi : Nat) (v : Int32) : Nat := if v < nI lo then lo else if nI hi < v then hi else v.toNatClampNeg
theorem nCl_eq {lo hi : Nat} (hl : lo < 2147483648) {v : Int32} {R : Int32 → Prop} : (if v < nI lo then R (nI lo) else if nI hi < v then R (nI hi) else R v) = R (nI (nCl lo hi v)) := by
  unfold nCl
  by_cases h1 : v < nI lo
  · rw [if_pos h1, if_pos h1]
  · rw [if_neg h1, if_neg h1]
    by_cases h2 : nI hi < v
    · rw [if_pos h2, if_pos h2]
    · rw [if_neg h2, if_neg h2]
      have h3 : ¬ v < 0 := by
        intro h
        apply h1
        rw [Int32.lt_iff_toInt_lt] at h ⊢
        rw [nI_toInt hl]
        have : (0 : Int32).toInt = 0 := by decide
        omega
      obtain ⟨j, hj, rfl⟩ := nI_of h3
      rw [nI_clamp hj]
theorem nCl_b {lo hi : Nat} {v : Int32} (h : lo ≤ hi) (hh : hi < 2147483648) : lo ≤ nCl lo hi v ∧ nCl lo hi v ≤ hi := by
  unfold nCl
  by_cases h1 : v < nI lo
  · rw [if_pos h1]; omega
  · rw [if_neg h1]
    by_cases h2 : nI hi < v
    · rw [if_pos h2]; omega
    · rw [if_neg h2]
      rw [Int32.lt_iff_toInt_lt, nI_toInt (by omega)] at h1
      rw [Int32.lt_iff_toInt_lt, nI_toInt (by omega)] at h2
      have := Int32.toNat_toInt v
      omega
/-- what is needed in a cell -/
def gNd (g : gS) (r : gR) (ch mi ex c : Nat) : Nat := nCl 1 30 (match r 0 with
  | none => nI (1 + gFar g ch c / 3 + g 2 c)
  | some l => oVal9 (gV g ch mi ex c) l)
theorem gNd_b (g : gS) (r : gR) (ch mi ex c : Nat) : 1 ≤ gNd g r ch mi ex c ∧ gNd g r ch mi ex c ≤ 30 := nCl_b (by decide) (by decide)
def gVs (g : gS) (ch s k : Nat) : Int32 := if k = 5 then nI (g 3 s) else gV g ch 0 0 (g 5 s) k
def gTr (g : gS) (r : gR) (ch s : Nat) : Nat := nCl 0 99 (match r 1 with
  | none => nI (10 - g 3 s)
  | some l => oVal9 (gVs g ch s) l)
theorem gTr_b (g : gS) (r : gR) (ch s : Nat) : gTr g r ch s ≤ 99 := (nCl_b (by decide) (by decide)).2
theorem gFar_b {g : gS} {ch c : Nat} (h1 : ch < 40) (h2 : c < 40) : gFar g ch c < 160 := by
  unfold gFar nDf
  have a1 : c % gW g < 40 := Nat.lt_of_le_of_lt (Nat.mod_le _ _) h2
  have a2 : ch % gW g < 40 := Nat.lt_of_le_of_lt (Nat.mod_le _ _) (by omega)
  have a3 : c / gW g < 40 := Nat.lt_of_le_of_lt (Nat.div_le_self _ _) h2
  have a4 : ch / gW g < 40 := Nat.lt_of_le_of_lt (Nat.div_le_self _ _) (by omega)
  generalize c % gW g = x1 at *
  generalize ch % gW g = x2 at *
  generalize c / gW g = x3 at *
  generalize ch / gW g = x4 at *
  omega
section M3
variable {g : gS} {r : gR} {w : mW}
theorem m_tells {Q : Unit → mW → Prop} {c ex : Nat} (hr : rM g w) (ho : gOk g) (hc : c < 40) (hm : wI w 80 66 = nI ex) (hq : ∀ w', fr ([103], []) w w' → (∀ i, i < 5 → wI w' 103 i = gV g (gCh g) (gMi g) ex c i) → Q () w') : hP (f224_80 (nI c) w) Q := by
  have h1 := gOk_sw ho
  have h2 := gOk_ti ho
  have h3 := gOk_mi ho
  have h4 := gOk_n ho
  have h5 := gOk_ch ho
  have h6 := gWho_lt g c (gSw g)
  have h7 : 2 ^ gSw g ≤ 2 ^ 12 := Nat.pow_le_pow_right (by decide) (by omega)
  have h8 := gCnt_le g c (gSw g)
  have e1 := nBts_who g c 12 (gSw g) (by omega)
  unfold f224_80
  simp only [hP_B]
  refine m_who hr ho hc ?_
  refine m_bits (by omega) ?_
  rw [e1]
  simp (disch := first | omega | (simp only [fIn, fR, fC, Nat.reduceEqDiff, decide_false, decide_true, Bool.false_or, Bool.or_false, Bool.false_and, Bool.and_false, Bool.or_self, Bool.true_and, Bool.true_or, Bool.and_true, Bool.or_true, Bool.and_self]; done) | fail) only [hP_some, hP_let, hP_gd, hP_B, hP_if, reduceIte, q_lit, nI_add, pk_mul, q_lt, q_le, q_eq, q_cl, q_g, Bool.not_eq_true', decide_eq_false_iff_not, decide_eq_true_eq, q_div, q_rm, q_sub, q_m1, Nat.zero_add, Nat.add_zero, rd_nS, rd_nSa, rd_nSj, rd_ovn, rd_ovy, rM_wd hr, rM_hi hr, rM_sw hr, rM_lk hr, rM_la hr, rM_ti hr, rM_ga hr, rM_ca hr, rM_ch hr, rM_mi hr, rM_deep hr, rM_glare hr, rM_skill hr, rM_case hr, rM_at hr, rM_lat hr, rM_las hr]
  refine ⟨hc, hc, ?_⟩
  have hf1 : fr ([103], []) w (nS (nS w 103 1 (nI (g 1 c))) 103 2 (nI (g 2 c))) := fr_nS (fr_nS fr_refl rfl) rfl
  refine m_far (rM_fr (by decide) hf1 hr) ho hc ?_
  simp (disch := first | omega | (simp only [fIn, fR, fC, Nat.reduceEqDiff, decide_false, decide_true, Bool.false_or, Bool.or_false, Bool.false_and, Bool.and_false, Bool.or_self, Bool.true_and, Bool.true_or, Bool.and_true, Bool.or_true, Bool.and_self]; done) | fail) only [hP_some, hP_let, hP_gd, hP_B, hP_if, reduceIte, q_lit, nI_add, pk_mul, q_lt, q_le, q_eq, q_cl, q_g, Bool.not_eq_true', decide_eq_false_iff_not, decide_eq_true_eq, q_div, q_rm, q_sub, q_m1, Nat.zero_add, Nat.add_zero, rd_nS, rd_nSa, rd_nSj, rd_ovn, rd_ovy, rM_wd hr, rM_hi hr, rM_sw hr, rM_lk hr, rM_la hr, rM_ti hr, rM_ga hr, rM_ca hr, rM_ch hr, rM_mi hr, rM_deep hr, rM_glare hr, rM_skill hr, rM_case hr, rM_at hr, rM_lat hr, rM_las hr, hm]
  have fin : ∀ v : Nat, v = gCrd g ex c → Q () (nS (nS (nS (nS (nS w 103 1 (nI (g 1 c))) 103 2 (nI (g 2 c))) 103 3 (nI (gFar g (gCh g) c))) 103 4 (nI v)) 103 0 (nI (gMi g / gTi g))) := by
    intro v hv
    refine hq _ (fr_nS (fr_nS (fr_nS hf1 rfl) rfl) rfl) (fun i hi => ?_)
    have : i = 0 ∨ i = 1 ∨ i = 2 ∨ i = 3 ∨ i = 4 := by omega
    rcases this with rfl | rfl | rfl | rfl | rfl
    all_goals simp (disch := first | omega | (simp only [fIn, fR, fC, Nat.reduceEqDiff, decide_false, decide_true, Bool.false_or, Bool.or_false, Bool.false_and, Bool.and_false, Bool.or_self, Bool.true_and, Bool.true_or, Bool.and_true, Bool.or_true, Bool.and_self]; done) | fail) only [rd_nS, rd_nSa, rd_nSj, rd_ovn, rd_ovy]
    · rfl
    · rfl
    · rfl
    · rfl
    · rw [hv]; rfl
  unfold gCrd at fin
  by_cases c0 : 0 < gCnt g c (gSw g)
  · simp only [c0, reduceIte] at fin ⊢
    exact ⟨by omega, fin _ rfl⟩
  · simp only [c0, reduceIte] at fin ⊢
    exact ⟨by omega, fin _ rfl⟩
theorem m_need {Q : Int32 → mW → Prop} {c ex : Nat} (hr : rM g w) (hR : rMr r g w) (ho : gOk g) (hk : rOk r g) (hc : c < 40) (hm : wI w 80 66 = nI ex) (hq : ∀ w', fr ([103, 104], []) w w' → Q (nI (gNd g r (gCh g) (gMi g) ex c)) w') : hP (f225_80 (nI c) w) Q := by
  have h5 := gOk_ch ho
  have h4 := gOk_n ho
  have hF := gFar_b (g := g) (show gCh g < 40 by omega) hc
  have hG := gOk_glare ho c hc
  unfold f225_80
  simp only [hP_B]
  refine m_far hr ho hc ?_
  simp (disch := first | omega | (simp only [fIn, fR, fC, Nat.reduceEqDiff, decide_false, decide_true, Bool.false_or, Bool.or_false, Bool.false_and, Bool.and_false, Bool.or_self, Bool.true_and, Bool.true_or, Bool.and_true, Bool.or_true, Bool.and_self]; done) | fail) only [hP_some, hP_let, hP_gd, hP_B, hP_if, reduceIte, q_lit, nI_add, pk_mul, q_lt, q_le, q_eq, q_cl, q_g, Bool.not_eq_true', decide_eq_false_iff_not, decide_eq_true_eq, q_div, q_rm, q_sub, q_m1, Nat.zero_add, Nat.add_zero, rM_wd hr, rM_hi hr, rM_sw hr, rM_lk hr, rM_la hr, rM_ti hr, rM_ga hr, rM_ca hr, rM_ch hr, rM_mi hr, rM_deep hr, rM_glare hr, rM_skill hr, rM_case hr, rM_at hr, rM_lat hr, rM_las hr]
  refine ⟨hc, ?_⟩
  cases e0 : r 0 with
  | none =>
    have h9 : rAt w 80 9 (r 0) := hR.1
    rw [e0] at h9
    have h9 : wI w 80 9 = -nI 1 := h9
    simp only [h9, reduceIte]
    have h10 := hq w fr_refl
    unfold gNd at h10
    rw [e0] at h10
    dsimp only at h10
    rw [← nCl_eq (R := fun v => Q v w) (by decide)] at h10
    simp (disch := first | omega | (simp only [fIn, fR, fC, Nat.reduceEqDiff, decide_false, decide_true, Bool.false_or, Bool.or_false, Bool.false_and, Bool.and_false, Bool.or_self, Bool.true_and, Bool.true_or, Bool.and_true, Bool.or_true, Bool.and_self]; done) | fail) only [q_lit, nI_add, pk_mul, q_lt, q_le, q_eq, q_cl, q_g, Bool.not_eq_true', decide_eq_false_iff_not, decide_eq_true_eq, q_div, q_rm, q_sub, q_m1, Nat.zero_add, Nat.add_zero] at h10
    exact h10
  | some l =>
    have h9 : rAt w 80 9 (r 0) := hR.1
    rw [e0] at h9
    obtain ⟨k, h9, hcd⟩ := h9
    have hk4 := cdM_len l k hcd
    simp (disch := first | omega | (simp only [fIn, fR, fC, Nat.reduceEqDiff, decide_false, decide_true, Bool.false_or, Bool.or_false, Bool.false_and, Bool.and_false, Bool.or_self, Bool.true_and, Bool.true_or, Bool.and_true, Bool.or_true, Bool.and_self]; done) | fail) only [h9, q_neq, reduceIte]
    refine m_tells hr ho hc hm (fun w1 hf1 hv => ?_)
    simp (disch := first | omega | (simp only [fIn, fR, fC, Nat.reduceEqDiff, decide_false, decide_true, Bool.false_or, Bool.or_false, Bool.false_and, Bool.and_false, Bool.or_self, Bool.true_and, Bool.true_or, Bool.and_true, Bool.or_true, Bool.and_self]; done) | fail) only [fr_rd hf1, h9]
    refine m_reck (V := gV g (gCh g) (gMi g) ex c) (lo := 0) (hi := 4) (cdM_cg (fun j => fr_rd hf1 rfl) l k hcd) (hk.1 l e0) (by decide) (fun i _ hi => hv i (by omega)) (fun w2 hf2 => ?_)
    have h10 := hq w2 (fr_then (fr_up hf1 (by decide)) hf2 (by decide))
    unfold gNd at h10
    rw [e0] at h10
    dsimp only at h10
    rw [← nCl_eq (R := fun v => Q v w2) (by decide)] at h10
    exact h10
theorem m_trouble {Q : Int32 → mW → Prop} {s : Nat} (hr : rM g w) (hR : rMr r g w) (ho : gOk g) (hk : rOk r g) (hs : s < gSw g) (hm : wI w 80 66 = nI 0) (hq : ∀ w', fr ([103, 104], []) w w' → Q (nI (gTr g r (gCh g) s)) w') : hP (f226_80 (nI s) w) Q := by
  have h5 := gOk_ch ho
  have h4 := gOk_n ho
  have h6 := gOk_sw ho
  have h7 := gOk_skill ho s hs
  have h8 := gOk_at ho s hs
  unfold f226_80
  simp (disch := first | omega | (simp only [fIn, fR, fC, Nat.reduceEqDiff, decide_false, decide_true, Bool.false_or, Bool.or_false, Bool.false_and, Bool.and_false, Bool.or_self, Bool.true_and, Bool.true_or, Bool.and_true, Bool.or_true, Bool.and_self]; done) | fail) only [hP_some, hP_let, hP_gd, hP_B, hP_if, reduceIte, q_lit, nI_add, pk_mul, q_lt, q_le, q_eq, q_cl, q_g, Bool.not_eq_true', decide_eq_false_iff_not, decide_eq_true_eq, q_div, q_rm, q_sub, q_m1, Nat.zero_add, Nat.add_zero, rM_wd hr, rM_hi hr, rM_sw hr, rM_lk hr, rM_la hr, rM_ti hr, rM_ga hr, rM_ca hr, rM_ch hr, rM_mi hr, rM_deep hr, rM_glare hr, rM_skill hr, rM_case hr, rM_at hr, rM_lat hr, rM_las hr]
  refine ⟨by omega, ?_⟩
  cases e0 : r 1 with
  | none =>
    have h9 : rAt w 80 10 (r 1) := hR.2.1
    rw [e0] at h9
    have h9 : wI w 80 10 = -nI 1 := h9
    simp only [h9, reduceIte]
    have h10 := hq w fr_refl
    unfold gTr at h10
    rw [e0] at h10
    dsimp only at h10
    rw [← nCl_eq (R := fun v => Q v w) (by decide)] at h10
    simp (disch := first | omega | (simp only [fIn, fR, fC, Nat.reduceEqDiff, decide_false, decide_true, Bool.false_or, Bool.or_false, Bool.false_and, Bool.and_false, Bool.or_self, Bool.true_and, Bool.true_or, Bool.and_true, Bool.or_true, Bool.and_self]; done) | fail) only [q_lit, nI_add, pk_mul, q_lt, q_le, q_eq, q_cl, q_g, Bool.not_eq_true', decide_eq_false_iff_not, decide_eq_true_eq, q_div, q_rm, q_sub, q_m1, Nat.zero_add, Nat.add_zero] at h10
    exact h10
  | some l =>
    have h9 : rAt w 80 10 (r 1) := hR.2.1
    rw [e0] at h9
    obtain ⟨k, h9, hcd⟩ := h9
    have hk4 := cdM_len l k hcd
    simp (disch := first | omega | (simp only [fIn, fR, fC, Nat.reduceEqDiff, decide_false, decide_true, Bool.false_or, Bool.or_false, Bool.false_and, Bool.and_false, Bool.or_self, Bool.true_and, Bool.true_or, Bool.and_true, Bool.or_true, Bool.and_self]; done) | fail) only [h9, q_neq, reduceIte]
    refine ⟨by omega, ?_⟩
    refine m_tells hr ho (by omega) hm (fun w1 hf1 hv => ?_)
    simp (disch := first | omega | (simp only [fIn, fR, fC, Nat.reduceEqDiff, decide_false, decide_true, Bool.false_or, Bool.or_false, Bool.false_and, Bool.and_false, Bool.or_self, Bool.true_and, Bool.true_or, Bool.and_true, Bool.or_true, Bool.and_self]; done) | fail) only [hP_some, hP_let, hP_gd, hP_B, hP_if, reduceIte, q_lit, nI_add, pk_mul, q_lt, q_le, q_eq, q_cl, q_g, Bool.not_eq_true', decide_eq_false_iff_not, decide_eq_true_eq, q_div, q_rm, q_sub, q_m1, Nat.zero_add, Nat.add_zero, rd_nS, rd_nSa, rd_nSj, rd_ovn, rd_ovy, fr_rd hf1, rM_wd hr, rM_hi hr, rM_sw hr, rM_lk hr, rM_la hr, rM_ti hr, rM_ga hr, rM_ca hr, rM_ch hr, rM_mi hr, rM_deep hr, rM_glare hr, rM_skill hr, rM_case hr, rM_at hr, rM_lat hr, rM_las hr, h9]
    refine ⟨by omega, ?_⟩
    have hf2 : fr ([103], []) w (nS w1 103 5 (nI (g 3 s))) := fr_nS hf1 rfl
    refine m_reck (V := gVs g (gCh g) s) (lo := 1) (hi := 5) (cdM_cg (fun j => fr_rd hf2 rfl) l k hcd) (hk.2.1 l e0) (by decide) (fun i hi1 hi => ?_) (fun w2 hf3 => ?_)
    · by_cases e : i = 5
      · subst e
        rw [rd_nS]
        rfl
      · rw [rd_nSj e, hv i (by omega)]
        have e9 : ¬ i = 0 := by omega
        simp only [gVs, gV, e, e9, reduceIte]
    · have h10 := hq w2 (fr_then (fr_up hf2 (by decide)) hf3 (by decide))
      unfold gTr at h10
      rw [e0] at h10
      dsimp only at h10
      rw [← nCl_eq (R := fun v => Q v w2) (by decide)] at h10
      exact h10
end M3
