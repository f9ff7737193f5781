/-! ===== calls that ask: what they may write; what numbers they take ===== -/
abbrev pQ : fP := ([33, 43, 44, 45, 47, 48, 49, 50, 51, 52, 53, 54, 65, 66, 67, 68, 69, 70, 71, 72, 73, 74, 75, 76, 77, 101, 103, 104, 105, 106, 107, 109], [(23, 7), (42, 2), (42, 4), (42, 5), (42, 6), (46, 2), (46, 4), (46, 5), (46, 6), (63, 0), (63, 1), (63, 2), (63, 3), (78, 0), (78, 1), (78, 2), (80, 0), (80, 70), (80, 78)])
theorem pQ_inv : fOff invR invK pQ = true := by decide +kernel
theorem pQ_rM : fOff rMR rMK pQ = true := by decide +kernel
theorem pQ_rC : fOff rCR rCK pQ = true := by decide +kernel
def fq (p : fP) (w w1 : mW) : Prop := (∀ a j, fIn p a j = false → wI w1 a j = wI w a j) ∧ nLn w1 = nLn w ∧ cT 1 w w1
theorem fr_ln {p : fP} {w w1 : mW} (h : fr p w w1) : nLn w1 = nLn w := by unfold nLn; rw [h.2.2]
theorem fr_cT {p : fP} {w w1 : mW} {n : Nat} (h : fr p w w1) : cT n w w1 := by
  have := h.2.2
  unfold cT
  rw [this]
  exact ⟨by omega, by omega⟩
theorem fq_fr {q p : fP} {w w1 : mW} (h : fr q w w1) (hl : fLe q p = true) : fq p w w1 := ⟨(fr_up h hl).1, fr_ln h, fr_cT h⟩
theorem fq_refl {p : fP} {w : mW} : fq p w w := ⟨fun _ _ _ => rfl, rfl, ⟨by omega, by omega⟩⟩
theorem fq_thr {q p : fP} {w w1 : mW} (h : fr q w w1) (hl : fLe q p = true) : fq p w (nThr w1) := by
  refine ⟨fun a j hp => (fr_up h hl).1 a j hp, (show nLn w1 = nLn w from fr_ln h), ?_⟩
  have := h.2.2
  unfold cT nThr
  dsimp only
  rw [this]
  exact ⟨by omega, by omega⟩
theorem fq_J {p : fP} {w w1 : mW} {v : Int64} {a j : Nat} (h : fq p w w1) : fq p w (nSJ w1 a j v) := h
theorem fq_then {p : fP} {w w1 w2 : mW} (h : fq p w w1) (h2 : fr p w1 w2) : fq p w w2 := by
  refine ⟨fun a j hp => (h2.1 a j hp).trans (h.1 a j hp), (fr_ln h2).trans h.2.1, ?_⟩
  have := h2.2.2
  have h3 := h.2.2
  unfold cT at *
  rw [this]
  exact h3
theorem fq_sK {w w1 : mW} (h : fq pQ w w1) : sK w w1 := ⟨h.2.1, fun j => h.1 2000000 j (by simp [fIn, fR, fC])⟩
theorem fq_Inv {w w1 : mW} (h : fq pQ w w1) (hI : Inv w) : Inv w1 := Inv_cg (fun a ha j => h.1 a j (fOff_row pQ_inv ha j)) (fun x hx => h.1 x.1 x.2 (fOff_cell pQ_inv hx)) hI
theorem fq_rM {g : gS} {w w1 : mW} (h : fq pQ w w1) (hr : rM g w) : rM g w1 := rM_cg (fun a ha j => h.1 a j (fOff_row pQ_rM ha j)) (fun x hx => h.1 x.1 x.2 (fOff_cell pQ_rM hx)) hr
theorem fq_rMr {g : gS} {r : gR} {w w1 : mW} (h : fq pQ w w1) (hR : rMr r g w) : rMr r g w1 := by
  have h86 : ∀ j, wI w1 86 j = wI w 86 j := fun j => h.1 86 j (fOff_row pQ_rM (by decide) j)
  obtain ⟨h1, h2, h3⟩ := hR
  refine ⟨rAt_cg h86 (h.1 80 9 (fOff_cell pQ_rM (by decide))) h1, rAt_cg h86 (h.1 80 10 (fOff_cell pQ_rM (by decide))) h2, fun i hi => ?_⟩
  obtain ⟨l, k, a1, a2, a3⟩ := h3 i hi
  exact ⟨l, k, a1, (h.1 85 i (fOff_row pQ_rM (by decide) i)).trans a2, cdM_cg h86 l k a3⟩
def inR (x : Int32) (n : Nat) : Prop := ∃ a, a < n ∧ x = nI a
theorem inR_no {x : Int32} {n : Nat} (hn : n < 2147483648) (h : ¬ inR x n) : x < nI 0 ∨ (¬ x < nI 0 ∧ ¬ x < nI n ∧ ∃ a, n ≤ a ∧ a < 2147483648 ∧ x = nI a) := by
  rcases q_any x with h1 | ⟨a, ha, rfl⟩
  · exact .inl h1
  · right
    have : n ≤ a := by
      apply Classical.byContradiction
      intro c
      exact h ⟨a, by omega, rfl⟩
    refine ⟨?_, ?_, a, this, ha, rfl⟩
    · rw [q_lt ha (by omega)]; omega
    · rw [q_lt ha hn]; omega
section ASK
variable {g : gS} {r : gR} {w : mW} {Q : Int32 → mW → Prop}
theorem m_rightY {c : Nat} (h0 : wI w 80 0 = nI 0) (hq : Q (nI 1) w) : hP (f177_80 (nI 1) (nI c) w) Q := by
  unfold f177_80
  simp (disch := first | omega | (simp only [fIn, fR, fC, Nat.reduceEqDiff, decide_false, decide_true, Bool.false_or, Bool.or_false, Bool.false_and, Bool.and_false, Bool.or_self, Bool.true_and, Bool.true_or, Bool.and_true, Bool.or_true, Bool.and_self]; done) | fail) only [hP_some, hP_let, hP_gd, hP_B, hP_if, reduceIte, q_lit, nI_add, pk_mul, q_lt, q_le, q_eq, q_cl, q_g, Bool.not_eq_true', decide_eq_false_iff_not, decide_eq_true_eq, q_div, q_rm, q_sub, q_m1, Nat.zero_add, Nat.add_zero, h0, Nat.reduceEqDiff]
  exact hq
theorem m_rightN {c : Nat} (hc : 1 ≤ c) (hc2 : c < 100) (h0 : wI w 80 0 = nI 0) (hq : Q (nI 0) (nS w 80 0 (nI c))) : hP (f177_80 (nI 0) (nI c) w) Q := by
  unfold f177_80
  simp (disch := first | omega | (simp only [fIn, fR, fC, Nat.reduceEqDiff, decide_false, decide_true, Bool.false_or, Bool.or_false, Bool.false_and, Bool.and_false, Bool.or_self, Bool.true_and, Bool.true_or, Bool.and_true, Bool.or_true, Bool.and_self]; done) | fail) only [hP_some, hP_let, hP_gd, hP_B, hP_if, reduceIte, q_lit, nI_add, pk_mul, q_lt, q_le, q_eq, q_cl, q_g, Bool.not_eq_true', decide_eq_false_iff_not, decide_eq_true_eq, q_div, q_rm, q_sub, q_m1, Nat.zero_add, Nat.add_zero, rd_nS, rd_nSa, rd_nSj, rd_ovn, rd_ovy, h0, show ¬ c = 0 by omega]
  exact hq
theorem m_within {x : Int32} {lo hi : Nat} (hl : lo ≤ hi) (hh : hi < 2147483647) (h1 : ∀ a, lo ≤ a → a ≤ hi → x = nI a → Q (nI 1) w) (h0 : (∀ a, lo ≤ a → a ≤ hi → ¬ x = nI a) → Q (nI 0) w) : hP (f178 x (nI lo) (nI hi) w) Q := by
  unfold f178
  simp only [hP_if, hP_some, q_lit]
  by_cases c1 : x < nI lo
  · rw [if_pos c1]
    refine h0 (fun a a1 a2 e => ?_)
    rw [e, q_lt (by omega) (by omega)] at c1
    omega
  · rw [if_neg c1]
    by_cases c2 : nI hi < x
    · rw [if_pos c2]
      refine h0 (fun a a1 a2 e => ?_)
      rw [e, q_lt (by omega) (by omega)] at c2
      omega
    · rw [if_neg c2]
      rcases q_any x with h | ⟨a, ha, rfl⟩
      · exfalso
        apply c1
        rw [Int32.lt_iff_toInt_lt] at h ⊢
        rw [nI_toInt (by omega)]
        have : (0 : Int32).toInt = 0 := by decide
        omega
      · rw [q_lt ha (by omega)] at c1
        rw [q_lt (by omega) ha] at c2
        exact h1 a (by omega) (by omega) rfl
theorem m_isWhat {x : Int32} {most : Nat} (hm : most < 2147483647) (h8 : wI w 80 0 = nI 0) (h1 : ∀ a, a ≤ most → x = nI a → Q (nI 1) w) (h0 : ¬ inR x (most + 1) → Q (nI 0) (nS w 80 0 (nI 1))) : hP (f241_80 x (nI most) w) Q := by
  unfold f241_80
  simp only [hP_B, hP_gd, hP_some]
  refine m_within (Nat.zero_le _) hm (fun a _ ha e => ?_) (fun hn => ?_)
  · exact m_rightY h8 ⟨by decide, h1 a ha e⟩
  · exact m_rightN (by decide) (by decide) h8 ⟨by decide, h0 (fun ⟨a, ha, e⟩ => hn a (Nat.zero_le _) (by omega) e)⟩
theorem m_isIx {x : Int32} {n : Nat} {F : mW → Option (Int32 × mW)} (hn : n < 2147483648) (h8 : wI w 80 0 = nI 0)
    (hF : hP (F w) Q ↔ if x < nI 0 then hP (f177_80 (nI 0) (nI 1) w) (fun v w2 => nB01 v = true ∧ Q v w2) else if x < nI n then hP (f177_80 (nI 1) (nI 1) w) (fun v w2 => nB01 v = true ∧ Q v w2) else hP (f177_80 (nI 0) (nI 1) w) (fun v w2 => nB01 v = true ∧ Q v w2))
    (h1 : ∀ a, a < n → x = nI a → Q (nI 1) w) (h0 : ¬ inR x n → Q (nI 0) (nS w 80 0 (nI 1))) : hP (F w) Q := by
  rw [hF]
  by_cases c : inR x n
  · obtain ⟨a, ha, rfl⟩ := c
    rw [if_neg (by rw [q_lt (by omega) (by omega)]; omega), if_pos (by rw [q_lt (by omega) hn]; exact ha)]
    exact m_rightY h8 ⟨by decide, h1 a ha rfl⟩
  · have hz := h0 c
    rcases inR_no hn c with c1 | ⟨c1, c2, -⟩
    · rw [if_pos c1]
      exact m_rightN (by decide) (by decide) h8 ⟨by decide, hz⟩
    · rw [if_neg c1, if_neg c2]
      exact m_rightN (by decide) (by decide) h8 ⟨by decide, hz⟩
theorem m_isCell {x : Int32} (hr : rM g w) (ho : gOk g) (h8 : wI w 80 0 = nI 0) (h1 : ∀ a, a < gW g * gH g → x = nI a → Q (nI 1) w) (h0 : ¬ inR x (gW g * gH g) → Q (nI 0) (nS w 80 0 (nI 1))) : hP (f238_80 x w) Q := by
  have hn := gOk_n ho
  refine m_isIx (n := gW g * gH g) (by omega) h8 ?_ h1 h0
  unfold f238_80 f218_80
  simp (disch := first | omega | (simp only [fIn, fR, fC, Nat.reduceEqDiff, decide_false, decide_true, Bool.false_or, Bool.or_false, Bool.false_and, Bool.and_false, Bool.or_self, Bool.true_and, Bool.true_or, Bool.and_true, Bool.or_true, Bool.and_self]; done) | fail) only [hP_some, hP_let, hP_gd, hP_B, hP_if, reduceIte, q_lit, nI_add, pk_mul, q_lt, q_le, q_eq, q_cl, q_g, Bool.not_eq_true', decide_eq_false_iff_not, decide_eq_true_eq, q_div, q_rm, q_sub, q_m1, Nat.zero_add, Nat.add_zero, rM_wd hr, rM_hi hr, rM_sw hr, rM_lk hr, rM_la hr, rM_ti hr, rM_ga hr, rM_ca hr, rM_ch hr, rM_mi hr, rM_deep hr, rM_glare hr, rM_skill hr, rM_case hr, rM_at hr, rM_lat hr, rM_las hr]
theorem m_isLook {x : Int32} (hr : rM g w) (ho : gOk g) (h8 : wI w 80 0 = nI 0) (h1 : ∀ a, a < gLk g → x = nI a → Q (nI 1) w) (h0 : ¬ inR x (gLk g) → Q (nI 0) (nS w 80 0 (nI 1))) : hP (f239_80 x w) Q := by
  have hn := gOk_lk ho
  refine m_isIx (n := gLk g) (by omega) h8 ?_ h1 h0
  unfold f239_80
  simp (disch := first | omega | (simp only [fIn, fR, fC, Nat.reduceEqDiff, decide_false, decide_true, Bool.false_or, Bool.or_false, Bool.false_and, Bool.and_false, Bool.or_self, Bool.true_and, Bool.true_or, Bool.and_true, Bool.or_true, Bool.and_self]; done) | fail) only [hP_some, hP_let, hP_gd, hP_B, hP_if, reduceIte, q_lit, nI_add, pk_mul, q_lt, q_le, q_eq, q_cl, q_g, Bool.not_eq_true', decide_eq_false_iff_not, decide_eq_true_eq, q_div, q_rm, q_sub, q_m1, Nat.zero_add, Nat.add_zero, rM_wd hr, rM_hi hr, rM_sw hr, rM_lk hr, rM_la hr, rM_ti hr, rM_ga hr, rM_ca hr, rM_ch hr, rM_mi hr, rM_deep hr, rM_glare hr, rM_skill hr, rM_case hr, rM_at hr, rM_lat hr, rM_las hr]
theorem m_isSw {x : Int32} (hr : rM g w) (ho : gOk g) (h8 : wI w 80 0 = nI 0) (h1 : ∀ a, a < gSw g → x = nI a → Q (nI 1) w) (h0 : ¬ inR x (gSw g) → Q (nI 0) (nS w 80 0 (nI 1))) : hP (f240_80 x w) Q := by
  have hn := gOk_sw ho
  refine m_isIx (n := gSw g) (by omega) h8 ?_ h1 h0
  unfold f240_80
  simp (disch := first | omega | (simp only [fIn, fR, fC, Nat.reduceEqDiff, decide_false, decide_true, Bool.false_or, Bool.or_false, Bool.false_and, Bool.and_false, Bool.or_self, Bool.true_and, Bool.true_or, Bool.and_true, Bool.or_true, Bool.and_self]; done) | fail) only [hP_some, hP_let, hP_gd, hP_B, hP_if, reduceIte, q_lit, nI_add, pk_mul, q_lt, q_le, q_eq, q_cl, q_g, Bool.not_eq_true', decide_eq_false_iff_not, decide_eq_true_eq, q_div, q_rm, q_sub, q_m1, Nat.zero_add, Nat.add_zero, rM_wd hr, rM_hi hr, rM_sw hr, rM_lk hr, rM_la hr, rM_ti hr, rM_ga hr, rM_ca hr, rM_ch hr, rM_mi hr, rM_deep hr, rM_glare hr, rM_skill hr, rM_case hr, rM_at hr, rM_lat hr, rM_las hr]
theorem m_shown {o : Option Nat} (hB : oB o) (hq : Q (fgE o) w) : hP (f235 (eN o) w) Q := by
  have h := eN_lt hB
  unfold f235 eN
  simp (disch := first | omega | (simp only [fIn, fR, fC, Nat.reduceEqDiff, decide_false, decide_true, Bool.false_or, Bool.or_false, Bool.false_and, Bool.and_false, Bool.or_self, Bool.true_and, Bool.true_or, Bool.and_true, Bool.or_true, Bool.and_self]; done) | fail) only [hP_some, hP_let, hP_gd, hP_B, hP_if, reduceIte, q_lit, nI_add, pk_mul, q_lt, q_le, q_eq, q_cl, q_g, Bool.not_eq_true', decide_eq_false_iff_not, decide_eq_true_eq, q_div, q_rm, q_sub, q_m1, Nat.zero_add, Nat.add_zero]
  cases o with
  | none => rw [if_neg (by decide)]; exact hq
  | some x => have := hB x rfl; rw [if_pos (by show x < _; omega)]; exact hq
theorem c_orNone {o : Option Nat} (hB : oB o) (hq : Q (fgE o) w) : hP (f170 (eC o) w) Q := by
  have h := eC_lt hB
  unfold f170 eC
  simp (disch := first | omega | (simp only [fIn, fR, fC, Nat.reduceEqDiff, decide_false, decide_true, Bool.false_or, Bool.or_false, Bool.false_and, Bool.and_false, Bool.or_self, Bool.true_and, Bool.true_or, Bool.and_true, Bool.or_true, Bool.and_self]; done) | fail) only [hP_some, hP_let, hP_gd, hP_B, hP_if, reduceIte, q_lit, nI_add, pk_mul, q_lt, q_le, q_eq, q_cl, q_g, Bool.not_eq_true', decide_eq_false_iff_not, decide_eq_true_eq, q_div, q_rm, q_sub, q_m1, Nat.zero_add, Nat.add_zero]
  cases o with
  | none => rw [if_pos (show oN 2147483647 none = 2147483647 from rfl)]; exact hq
  | some x => have := hB x rfl; rw [if_neg (by show ¬ x = _; omega)]; exact hq
end ASK
section ASKC
variable {g : gS} {r : gR} {w : mW} {Q : Unit ⊕ Nat → mW → Prop}
theorem c_wantWhat {x : Int32} {most : Nat} (hm : most < 2147483647) (h1 : ∀ a, a ≤ most → x = nI a → Q (.inl ()) w) (h0 : ¬ inR x (most + 1) → Q (.inr 1) (nThr w)) : hP (f165_0 x (nI most) w) Q := by
  unfold f165_0
  simp only [hP_if, hP_some, q_lit]
  by_cases c : inR x (most + 1)
  · obtain ⟨a, ha, rfl⟩ := c
    rw [if_neg (by rw [q_lt (by omega) (by omega)]; omega), if_neg (by rw [q_lt (by omega) (by omega)]; omega)]
    exact h1 a (by omega) rfl
  · have hz := h0 c
    rcases inR_no (by omega) c with c1 | ⟨c1, c2, a, a1, a2, rfl⟩
    · rw [if_pos c1]; exact hz
    · rw [if_neg c1, if_pos (by rw [q_lt (by omega) a2]; omega)]; exact hz
theorem c_wantCell {x : Int32} (hr : rC g w) (ho : gOk g) (h1 : ∀ a, a < gW g * gH g → x = nI a → Q (.inl ()) w) (h0 : ¬ inR x (gW g * gH g) → Q (.inr 1) (nThr w)) : hP (f166_0 x w) Q := by
  have hn := gOk_n ho
  unfold f166_0 f46_24
  simp (disch := first | omega | (simp only [fIn, fR, fC, Nat.reduceEqDiff, decide_false, decide_true, Bool.false_or, Bool.or_false, Bool.false_and, Bool.and_false, Bool.or_self, Bool.true_and, Bool.true_or, Bool.and_true, Bool.or_true, Bool.and_self]; done) | fail) only [hP_some, hP_let, hP_gd, hP_B, hP_if, reduceIte, q_lit, nI_add, pk_mul, q_lt, q_le, q_eq, q_cl, q_g, Bool.not_eq_true', decide_eq_false_iff_not, decide_eq_true_eq, q_div, q_rm, q_sub, q_m1, Nat.zero_add, Nat.add_zero, rC_wd hr, rC_hi hr, rC_sw hr, rC_lk hr, rC_la hr, rC_ti hr, rC_ga hr, rC_ca hr, rC_ch hr, rC_mi hr, rC_deep hr, rC_glare hr, rC_skill hr, rC_case hr, rC_tro hr, rC_at hr, rC_lat hr, rC_las hr, Nat.reduceEqDiff]
  by_cases c : inR x (gW g * gH g)
  · obtain ⟨a, ha, rfl⟩ := c
    rw [if_neg (by rw [q_lt (by omega) (by omega)]; omega), if_pos (by rw [q_lt (by omega) (by omega)]; exact ha)]
    exact h1 a ha rfl
  · have hz := h0 c
    rcases inR_no (by omega) c with c1 | ⟨c1, c2, -⟩
    · rw [if_pos c1]; exact hz
    · rw [if_neg c1, if_neg c2]; exact hz
theorem c_wantLook {x : Int32} (hr : rC g w) (ho : gOk g) (h1 : ∀ a, a < gLk g → x = nI a → Q (.inl ()) w) (h0 : ¬ inR x (gLk g) → Q (.inr 1) (nThr w)) : hP (f167_0 x w) Q := by
  have hn := gOk_lk ho
  unfold f167_0 f47_24
  simp (disch := first | omega | (simp only [fIn, fR, fC, Nat.reduceEqDiff, decide_false, decide_true, Bool.false_or, Bool.or_false, Bool.false_and, Bool.and_false, Bool.or_self, Bool.true_and, Bool.true_or, Bool.and_true, Bool.or_true, Bool.and_self]; done) | fail) only [hP_some, hP_let, hP_gd, hP_B, hP_if, reduceIte, q_lit, nI_add, pk_mul, q_lt, q_le, q_eq, q_cl, q_g, Bool.not_eq_true', decide_eq_false_iff_not, decide_eq_true_eq, q_div, q_rm, q_sub, q_m1, Nat.zero_add, Nat.add_zero, rC_wd hr, rC_hi hr, rC_sw hr, rC_lk hr, rC_la hr, rC_ti hr, rC_ga hr, rC_ca hr, rC_ch hr, rC_mi hr, rC_deep hr, rC_glare hr, rC_skill hr, rC_case hr, rC_tro hr, rC_at hr, rC_lat hr, rC_las hr, Nat.reduceEqDiff]
  by_cases c : inR x (gLk g)
  · obtain ⟨a, ha, rfl⟩ := c
    rw [if_neg (by rw [q_lt (by omega) (by omega)]; omega), if_pos (by rw [q_lt (by omega) (by omega)]; exact ha)]
    exact h1 a ha rfl
  · have hz := h0 c
    rcases inR_no (by omega) c with c1 | ⟨c1, c2, -⟩
    · rw [if_pos c1]; exact hz
    · rw [if_neg c1, if_neg c2]; exact hz
theorem c_wantSw {x : Int32} (hr : rC g w) (ho : gOk g) (h1 : ∀ a, a < gSw g → x = nI a → Q (.inl ()) w) (h0 : ¬ inR x (gSw g) → Q (.inr 1) (nThr w)) : hP (f168_0 x w) Q := by
  have hn := gOk_sw ho
  unfold f168_0
  simp (disch := first | omega | (simp only [fIn, fR, fC, Nat.reduceEqDiff, decide_false, decide_true, Bool.false_or, Bool.or_false, Bool.false_and, Bool.and_false, Bool.or_self, Bool.true_and, Bool.true_or, Bool.and_true, Bool.or_true, Bool.and_self]; done) | fail) only [hP_some, hP_let, hP_gd, hP_B, hP_if, reduceIte, q_lit, nI_add, pk_mul, q_lt, q_le, q_eq, q_cl, q_g, Bool.not_eq_true', decide_eq_false_iff_not, decide_eq_true_eq, q_div, q_rm, q_sub, q_m1, Nat.zero_add, Nat.add_zero, rC_wd hr, rC_hi hr, rC_sw hr, rC_lk hr, rC_la hr, rC_ti hr, rC_ga hr, rC_ca hr, rC_ch hr, rC_mi hr, rC_deep hr, rC_glare hr, rC_skill hr, rC_case hr, rC_tro hr, rC_at hr, rC_lat hr, rC_las hr]
  by_cases c : inR x (gSw g)
  · obtain ⟨a, ha, rfl⟩ := c
    rw [if_neg (by rw [q_lt (by omega) (by omega)]; omega), if_pos (by rw [q_lt (by omega) (by omega)]; exact ha)]
    exact h1 a ha rfl
  · have hz := h0 c
    rcases inR_no (by omega) c with c1 | ⟨c1, c2, -⟩
    · rw [if_pos c1]; exact hz
    · rw [if_neg c1, if_neg c2]; exact hz
end ASKC
/-! an operation that asks, both sides told by one value -/
def vB (V : Int32 ⊕ Nat) (b : Int32) (w2 : mW) : Prop := match V with
  | .inl v => wI w2 80 0 = nI 0 ∧ b = v
  | .inr e => wI w2 80 0 = nI e
theorem lgc_refl (x : Int64) : lg_cmp x x = 0 := by unfold lg_cmp; simp
theorem opB_ask {f : mW → Option ((Int32 ⊕ Nat) × mW)} {F m : mW → Option (Int32 × mW)} {ex : Nat} (hF : ∀ w, F w = nXh (f w) (fun v w2 => nLet (nSJ w2 116 0 v.toInt64) fun w3 => some (0, w3)) (fun x w6 => if x = ex then (fun w4 => some (1, w4)) w6 else none))
    (h : ∀ w g r, iPool g r w → Inv w → ∃ V : Int32 ⊕ Nat, (∀ e, V = .inr e → e = 1) ∧ hP (f w) (fun v w1 => (match V with | .inl x => v = .inl x | .inr _ => v = .inr ex) ∧ fq pQ w w1) ∧ ∀ w1, fq pQ w w1 → hP (m w1) (fun b w2 => fr pQ w1 w2 ∧ vB V b w2)) : opB Inv F m := by
  intro w hI
  have hI0 := hI
  obtain ⟨g, r, hh, D, H, hp, -⟩ := hI0
  obtain ⟨V, hV, h1, h2⟩ := h w g r hp hI
  rw [hF, hP_xh]
  refine hP_mono h1 (fun v w1 hv => ?_)
  obtain ⟨hv, hq⟩ := hv
  cases V with
  | inl x =>
    dsimp only at hv
    subst hv
    dsimp only
    rw [hP_let, hP_some]
    refine ⟨fq_sK (fq_J hq), hP_mono (h2 _ (fq_J hq)) (fun b w2 hb => ?_)⟩
    obtain ⟨hf, hb1, hb2⟩ := hb
    have hq2 := fq_then (fq_J (v := x.toInt64) (a := 116) (j := 0) hq) hf
    refine ⟨hb1, fun _ => ?_, fq_Inv hq2 hI, fq_sK hq2, hq2.2.2⟩
    have e : wJ w2 116 0 = x.toInt64 := by
      rw [hf.2.1 116 0 (by simp [fIn, fR, fC]), rd_nSJ]
    rw [e, hb2]
    exact lgc_refl _
  | inr e =>
    have := hV e rfl
    subst this
    dsimp only at hv
    subst hv
    dsimp only
    rw [if_pos rfl, hP_some]
    refine ⟨fq_sK hq, hP_mono (h2 _ hq) (fun b w2 hb => ?_)⟩
    obtain ⟨hf, hb1⟩ := hb
    have hq2 := fq_then hq hf
    exact ⟨hb1, fun c => absurd c (by decide), fq_Inv hq2 hI, fq_sK hq2, hq2.2.2⟩
theorem opA_ask {f m : mW → Option (Int32 × mW)} (h : ∀ w g r, iPool g r w → Inv w → ∃ V : Int32, hP (f w) (fun v w1 => v = V ∧ fr pQ w w1) ∧ ∀ w1, fr pQ w w1 → hP (m w1) (fun b w2 => fr pQ w1 w2 ∧ b = V)) : opA Inv f m := by
  intro w hI
  have hI0 := hI
  obtain ⟨g, r, hh, D, H, hp, -⟩ := hI0
  obtain ⟨V, h1, h2⟩ := h w g r hp hI
  refine hP_mono h1 (fun v w1 hv => ?_)
  obtain ⟨rfl, hf⟩ := hv
  have hq := fq_fr hf (by decide +kernel : fLe pQ pQ = true)
  refine ⟨fq_sK hq, hP_mono (h2 _ hf) (fun b w2 hb => ?_)⟩
  have hq2 := fq_then hq hb.1
  exact ⟨hb.2.symm, fq_Inv hq2 hI, fq_sK hq2, hq2.2.2⟩
