/-! ===== THE REFERENCE: the worst ===== -/
def oB (o : Option Nat) : Prop := ∀ x, o = some x → x < 1000
theorem oMax_B {a b : Option Nat} (ha : oB a) (hb : oB b) : oB (oMax a b) := by
  intro x hx
  cases a with
  | none => cases hx
  | some a =>
    cases b with
    | none => cases hx
    | some b =>
      cases hx
      have := ha a rfl
      have := hb b rfl
      omega
theorem eN_lt {o : Option Nat} (h : oB o) : oN 1000000 o < 1000001 := by
  cases o with
  | none => decide
  | some x => have := h x rfl; show x < _; omega
theorem eN_max {a b : Option Nat} (ha : oB a) (hb : oB b) : (if oN 1000000 a < oN 1000000 b then oN 1000000 b else oN 1000000 a) = oN 1000000 (oMax a b) := by
  cases a with
  | none =>
    cases b with
    | none => rfl
    | some b => have := hb b rfl; show (if 1000000 < b then b else 1000000) = 1000000; rw [if_neg (by omega)]
  | some a =>
    cases b with
    | none => have := ha a rfl; show (if a < 1000000 then 1000000 else a) = 1000000; rw [if_pos (by omega)]
    | some b =>
      show (if a < b then b else a) = max a b
      by_cases h : a < b
      · rw [if_pos h]; omega
      · rw [if_neg h]; omega
def gWst (N : Nat → Nat) (L : List Nat) (c : Nat) : Option Nat := if L.length = 0 then none else dMx (bL L c) (N c) L.length L.length
def gWin (P : Nat → Bool) (N : Nat → Nat) (L : List Nat) : Nat → Option Nat
  | 0 => some 0
  | c + 1 => if P c = true then oMax (gWin P N L c) (gWst N L c) else gWin P N L c
theorem dl_B {b : Nat → Bool} {n T s : Nat} (hT : T ≤ 207) (hn : n ≤ 30) : oB (dl b n T s) := fun x hx => by have := dl_le hx; omega
theorem dMx_B {b : Nat → Bool} {n T k : Nat} (hT : T ≤ 207) (hn : n ≤ 30) : oB (dMx b n T k) := fun x hx => by have := dMx_le hx; omega
theorem gWst_B {N : Nat → Nat} {L : List Nat} {c : Nat} (hT : L.length ≤ 207) (hn : N c ≤ 30) : oB (gWst N L c) := by
  unfold gWst
  split
  · intro x hx; cases hx
  · exact dMx_B hT hn
theorem gWin_B {P : Nat → Bool} {N : Nat → Nat} {L : List Nat} (hT : L.length ≤ 207) (hn : ∀ c, N c ≤ 30) : ∀ c, oB (gWin P N L c)
  | 0 => fun x hx => by cases hx; omega
  | c + 1 => by
    show oB (if P c = true then oMax (gWin P N L c) (gWst N L c) else gWin P N L c)
    split
    · exact oMax_B (gWin_B hT hn c) (gWst_B hT (hn c))
    · exact gWin_B hT hn c
def gIn (g : gS) (fm to c : Nat) : Bool := decide (0 < gCnt g c (gSw g)) && (decide (fm ≤ c % gW g) && decide (c % gW g < to))
def lOk (L : List Nat) : Prop := L.length ≤ 207 ∧ ∀ c ∈ L, c < 40 ∨ c = 99
abbrev gN1 (g : gS) (r : gR) (ex c : Nat) : Nat := gNd g r (gCh g) (gMi g) ex c
section M6
variable {g : gS} {r : gR} {w : mW} {Q : Int32 → mW → Prop}
abbrev pD : fP := ([103, 104, 106, 107], [])
theorem m_delay {b : Nat → Bool} {n T s : Nat} (hT : T ≤ 207) (hn1 : 1 ≤ n) (hn : n ≤ 30) (hs : s < T) (hS : rSn w b n T) (hq : Q (eN (dl b n T s)) w) : hP (f230_80 (nI s) (nI n) w) Q := by
  unfold f230_80
  have h1 := hS s hs
  simp (disch := first | omega | (simp only [fIn, fR, fC, Nat.reduceEqDiff, decide_false, decide_true, Bool.false_or, Bool.or_false, Bool.false_and, Bool.and_false, Bool.or_self, Bool.true_and, Bool.true_or, Bool.and_true, Bool.or_true, Bool.and_self]; done) | fail) only [hP_some, hP_let, hP_gd, hP_B, hP_if, reduceIte, q_lit, nI_add, pk_mul, q_lt, q_le, q_eq, q_cl, q_g, Bool.not_eq_true', decide_eq_false_iff_not, decide_eq_true_eq, q_div, q_rm, q_sub, q_m1, Nat.zero_add, Nat.add_zero, h1]
  refine ⟨by omega, ?_⟩
  unfold dl at hq
  cases e : dF b n s T with
  | none =>
    rw [e] at hq
    simp only [reduceIte]
    exact hq
  | some j =>
    rw [e] at hq
    have := (dF_use e).1
    have e1 : ¬ (s + n - 1 + j = 1000000) := by omega
    simp (disch := first | omega | (simp only [fIn, fR, fC, Nat.reduceEqDiff, decide_false, decide_true, Bool.false_or, Bool.or_false, Bool.false_and, Bool.and_false, Bool.or_self, Bool.true_and, Bool.true_or, Bool.and_true, Bool.or_true, Bool.and_self]; done) | fail) only [q_lit, nI_add, pk_mul, q_lt, q_le, q_eq, q_cl, q_g, Bool.not_eq_true', decide_eq_false_iff_not, decide_eq_true_eq, q_div, q_rm, q_sub, q_m1, Nat.zero_add, Nat.add_zero, e1, reduceIte]
    rw [show s + n - 1 + j - s + 1 = j + n by omega]
    exact hq
theorem m_worstOf {L : List Nat} {c ex : Nat} (hr : rM g w) (hR : rMr r g w) (ho : gOk g) (hk : rOk r g) (hm : wI w 80 66 = nI ex) (hL : lOk L) (hl : rLk w L) (hc : c < 40) (hq : ∀ w', fr pD w w' → Q (eN (gWst (gN1 g r ex) L c)) w') : hP (f231_80 (nI c) w) Q := by
  obtain ⟨hT, hM⟩ := hL
  have hnd := gNd_b g r (gCh g) (gMi g) ex c
  unfold f231_80
  simp (disch := first | omega | (simp only [fIn, fR, fC, Nat.reduceEqDiff, decide_false, decide_true, Bool.false_or, Bool.or_false, Bool.false_and, Bool.and_false, Bool.or_self, Bool.true_and, Bool.true_or, Bool.and_true, Bool.or_true, Bool.and_self]; done) | fail) only [hP_if, q_lit, nI_add, pk_mul, q_lt, q_le, q_eq, q_cl, q_g, Bool.not_eq_true', decide_eq_false_iff_not, decide_eq_true_eq, q_div, q_rm, q_sub, q_m1, Nat.zero_add, Nat.add_zero, hl.1]
  by_cases c0 : L.length = 0
  · simp only [c0, reduceIte, hP_some]
    have := hq w fr_refl
    unfold gWst at this
    rw [if_pos c0] at this
    exact this
  · simp only [c0, reduceIte, hP_B]
    refine m_need hr hR ho hk hc hm (fun w1 hf1 => ?_)
    have hl1 := rLk_fr hl hf1 rfl (fun _ => rfl)
    refine m_watch (by omega) hT hM hc hnd.1 hnd.2 hl1 (fun w2 hf2 hS => ?_)
    have hf : fr pD w w2 := fr_then (fr_up hf1 (by decide)) hf2 (by decide)
    have hl2 := (rLk_fr hl1 hf2 rfl (fun _ => rfl)).1
    refine hP_loopF (fun m s => ∃ k, k + m = L.length ∧ s = (eN (dMx (bL L c) (gN1 g r ex c) L.length k), nI k, w2)) L.length (by omega) ⟨0, by omega, rfl⟩ ?_
    rintro m s rec ⟨k, hkm, rfl⟩ ih
    simp only [f231_80_b28]
    have hB1 := dMx_B (b := bL L c) (n := gN1 g r ex c) (k := k) hT hnd.2
    have hB2 := dl_B (b := bL L c) (n := gN1 g r ex c) (s := k) hT hnd.2
    have e1 := eN_lt hB1
    have e2 := eN_lt hB2
    have e3 := eN_max hB1 hB2
    by_cases c1 : k < L.length
    · simp (disch := first | omega | (simp only [fIn, fR, fC, Nat.reduceEqDiff, decide_false, decide_true, Bool.false_or, Bool.or_false, Bool.false_and, Bool.and_false, Bool.or_self, Bool.true_and, Bool.true_or, Bool.and_true, Bool.or_true, Bool.and_self]; done) | fail) only [hP_some, hP_let, hP_gd, hP_B, hP_if, reduceIte, q_lit, nI_add, pk_mul, q_lt, q_le, q_eq, q_cl, q_g, Bool.not_eq_true', decide_eq_false_iff_not, decide_eq_true_eq, q_div, q_rm, q_sub, q_m1, Nat.zero_add, Nat.add_zero, hl2, c1]
      refine m_delay (n := gN1 g r ex c) hT hnd.1 hnd.2 c1 hS ?_
      unfold eN
      simp (disch := first | omega | (simp only [fIn, fR, fC, Nat.reduceEqDiff, decide_false, decide_true, Bool.false_or, Bool.or_false, Bool.false_and, Bool.and_false, Bool.or_self, Bool.true_and, Bool.true_or, Bool.and_true, Bool.or_true, Bool.and_self]; done) | fail) only [q_lit, nI_add, pk_mul, q_lt, q_le, q_eq, q_cl, q_g, Bool.not_eq_true', decide_eq_false_iff_not, decide_eq_true_eq, q_div, q_rm, q_sub, q_m1, Nat.zero_add, Nat.add_zero]
      have next : hP (rec (nI (oN 1000000 (oMax (dMx (bL L c) (gN1 g r ex c) L.length k) (dl (bL L c) (gN1 g r ex c) L.length k))), nI (k + 1), w2)) Q := ih (m - 1) _ (by omega) ⟨k + 1, by omega, rfl⟩
      by_cases c2 : oN 1000000 (dMx (bL L c) (gN1 g r ex c) L.length k) < oN 1000000 (dl (bL L c) (gN1 g r ex c) L.length k)
      · rw [if_pos c2] at e3 ⊢
        rw [← e3] at next
        exact m_delay hT hnd.1 hnd.2 c1 hS next
      · rw [if_neg c2] at e3 ⊢
        rw [← e3] at next
        exact next
    · have e : k = L.length := by omega
      simp (disch := first | omega | (simp only [fIn, fR, fC, Nat.reduceEqDiff, decide_false, decide_true, Bool.false_or, Bool.or_false, Bool.false_and, Bool.and_false, Bool.or_self, Bool.true_and, Bool.true_or, Bool.and_true, Bool.or_true, Bool.and_self]; done) | fail) only [hP_some, hP_let, hP_gd, hP_B, hP_if, reduceIte, q_lit, nI_add, pk_mul, q_lt, q_le, q_eq, q_cl, q_g, Bool.not_eq_true', decide_eq_false_iff_not, decide_eq_true_eq, q_div, q_rm, q_sub, q_m1, Nat.zero_add, Nat.add_zero, hl2, c1]
      have := hq w2 hf
      unfold gWst at this
      rw [if_neg c0] at this
      rw [e]
      exact this
theorem m_isIn {c fm to : Nat} (hr : rM g w) (ho : gOk g) (hc : c < 40) (hfm : fm ≤ 40) (hto : to ≤ 40) (hq : Q (if gIn g fm to c = true then nI 1 else nI 0) w) : hP (f232_80 (nI c) (nI fm) (nI to) w) Q := by
  have hwd := gOk_wd ho
  have h1 := gOk_sw ho
  have h6 := gWho_lt g c (gSw g)
  have h7 : 2 ^ gSw g ≤ 2 ^ 12 := Nat.pow_le_pow_right (by decide) (by omega)
  have h8 := gWho_0 g c (gSw g)
  have a1 : c % gW g < 40 := Nat.lt_of_le_of_lt (Nat.mod_le _ _) hc
  unfold f232_80
  simp only [hP_B]
  refine m_who hr ho hc ?_
  unfold gIn at hq
  simp (disch := first | omega | (simp only [fIn, fR, fC, Nat.reduceEqDiff, decide_false, decide_true, Bool.false_or, Bool.or_false, Bool.false_and, Bool.and_false, Bool.or_self, Bool.true_and, Bool.true_or, Bool.and_true, Bool.or_true, Bool.and_self]; done) | fail) only [hP_some, hP_let, hP_gd, hP_B, hP_if, reduceIte, q_lit, nI_add, pk_mul, q_lt, q_le, q_eq, q_cl, q_g, Bool.not_eq_true', decide_eq_false_iff_not, decide_eq_true_eq, q_div, q_rm, q_sub, q_m1, Nat.zero_add, Nat.add_zero, rM_wd hr, rM_hi hr, rM_sw hr, rM_lk hr, rM_la hr, rM_ti hr, rM_ga hr, rM_ca hr, rM_ch hr, rM_mi hr, rM_deep hr, rM_glare hr, rM_skill hr, rM_case hr, rM_at hr, rM_lat hr, rM_las hr]
  by_cases c0 : gWho g c (gSw g) = 0
  · have c1 : ¬ 0 < gCnt g c (gSw g) := by rw [h8] at c0; omega
    simp only [c0, c1, decide_false, Bool.false_and, reduceIte, Bool.false_eq_true] at hq ⊢
    exact hq
  · have c1 : 0 < gCnt g c (gSw g) := by rw [h8] at c0; omega
    simp only [c0, c1, decide_true, Bool.true_and, reduceIte] at hq ⊢
    refine ⟨by omega, ?_⟩
    by_cases c2 : c % gW g < fm
    · have c3 : ¬ fm ≤ c % gW g := by omega
      simp only [c2, c3, decide_false, Bool.false_and, reduceIte, Bool.false_eq_true] at hq ⊢
      exact hq
    · have c3 : fm ≤ c % gW g := by omega
      simp only [c2, c3, decide_true, Bool.true_and, reduceIte, decide_eq_true_eq] at hq ⊢
      refine ⟨by omega, ?_⟩
      rw [q_ite]
      exact hq
theorem m_worstIn {L : List Nat} {fm to ex : Nat} (hr : rM g w) (hR : rMr r g w) (ho : gOk g) (hk : rOk r g) (hm : wI w 80 66 = nI ex) (hL : lOk L) (hl : rLk w L) (hfm : fm ≤ 40) (hto : to ≤ 40) (hq : ∀ w', fr pD w w' → Q (eN (gWin (gIn g fm to) (gN1 g r ex) L (gW g * gH g))) w') : hP (f233_80 (nI fm) (nI to) w) Q := by
  have hn := gOk_n ho
  unfold f233_80
  refine hP_loopF (fun m s => ∃ k w1, k + m = gW g * gH g ∧ s = (eN (gWin (gIn g fm to) (gN1 g r ex) L k), nI k, w1) ∧ fr pD w w1) (gW g * gH g) (by omega) ⟨0, w, by omega, rfl, fr_refl⟩ ?_
  rintro m s rec ⟨k, w1, hkm, rfl, hf⟩ ih
  have hr1 := rM_fr (by decide) hf hr
  have hR1 := rMr_fr (by decide) hf hR
  have hm1 : wI w1 80 66 = nI ex := (fr_rd hf rfl).trans hm
  have hl1 := rLk_fr hl hf rfl (fun _ => rfl)
  simp only [f233_80_b5, f218_80]
  by_cases c1 : k < gW g * gH g
  · simp (disch := first | omega | (simp only [fIn, fR, fC, Nat.reduceEqDiff, decide_false, decide_true, Bool.false_or, Bool.or_false, Bool.false_and, Bool.and_false, Bool.or_self, Bool.true_and, Bool.true_or, Bool.and_true, Bool.or_true, Bool.and_self]; done) | fail) only [hP_some, hP_let, hP_gd, hP_B, hP_if, reduceIte, q_lit, nI_add, pk_mul, q_lt, q_le, q_eq, q_cl, q_g, Bool.not_eq_true', decide_eq_false_iff_not, decide_eq_true_eq, q_div, q_rm, q_sub, q_m1, Nat.zero_add, Nat.add_zero, rM_wd hr1, rM_hi hr1, c1]
    refine m_isIn hr1 ho (by omega) hfm hto ?_
    have hN : ∀ c, gN1 g r ex c ≤ 30 := fun c => (gNd_b g r (gCh g) (gMi g) ex c).2
    have hB1 := gWin_B (P := gIn g fm to) (N := gN1 g r ex) (L := L) hL.1 hN k
    have hB2 := gWst_B (N := gN1 g r ex) (L := L) (c := k) hL.1 (hN k)
    have e0 : gWin (gIn g fm to) (gN1 g r ex) L (k + 1) = if gIn g fm to k = true then oMax (gWin (gIn g fm to) (gN1 g r ex) L k) (gWst (gN1 g r ex) L k) else gWin (gIn g fm to) (gN1 g r ex) L k := rfl
    by_cases c2 : gIn g fm to k = true
    · rw [if_pos c2] at e0
      simp (disch := first | omega | (simp only [fIn, fR, fC, Nat.reduceEqDiff, decide_false, decide_true, Bool.false_or, Bool.or_false, Bool.false_and, Bool.and_false, Bool.or_self, Bool.true_and, Bool.true_or, Bool.and_true, Bool.or_true, Bool.and_self]; done) | fail) only [c2, reduceIte, q_lit, nI_add, pk_mul, q_lt, q_le, q_eq, q_cl, q_g, Bool.not_eq_true', decide_eq_false_iff_not, decide_eq_true_eq, q_div, q_rm, q_sub, q_m1, Nat.zero_add, Nat.add_zero, Nat.reduceEqDiff]
      refine m_worstOf hr1 hR1 ho hk hm1 hL hl1 (by omega) (fun w2 hf2 => ?_)
      have hf3 : fr pD w w2 := fr_then hf hf2 (by decide)
      have e1 := eN_lt hB1
      have e2 := eN_lt hB2
      have e3 := eN_max hB1 hB2
      rw [← e0] at e3
      unfold eN
      simp (disch := first | omega | (simp only [fIn, fR, fC, Nat.reduceEqDiff, decide_false, decide_true, Bool.false_or, Bool.or_false, Bool.false_and, Bool.and_false, Bool.or_self, Bool.true_and, Bool.true_or, Bool.and_true, Bool.or_true, Bool.and_self]; done) | fail) only [q_lit, nI_add, pk_mul, q_lt, q_le, q_eq, q_cl, q_g, Bool.not_eq_true', decide_eq_false_iff_not, decide_eq_true_eq, q_div, q_rm, q_sub, q_m1, Nat.zero_add, Nat.add_zero]
      have next : hP (rec (nI (oN 1000000 (gWin (gIn g fm to) (gN1 g r ex) L (k + 1))), nI (k + 1), w2)) Q := ih (m - 1) _ (by omega) ⟨k + 1, w2, by omega, rfl, hf3⟩
      rw [← e3] at next
      by_cases c3 : oN 1000000 (gWin (gIn g fm to) (gN1 g r ex) L k) < oN 1000000 (gWst (gN1 g r ex) L k)
      · rw [if_pos c3] at next ⊢
        exact next
      · rw [if_neg c3] at next ⊢
        exact next
    · rw [if_neg c2] at e0
      simp (disch := first | omega | (simp only [fIn, fR, fC, Nat.reduceEqDiff, decide_false, decide_true, Bool.false_or, Bool.or_false, Bool.false_and, Bool.and_false, Bool.or_self, Bool.true_and, Bool.true_or, Bool.and_true, Bool.or_true, Bool.and_self]; done) | fail) only [c2, reduceIte, q_lit, nI_add, pk_mul, q_lt, q_le, q_eq, q_cl, q_g, Bool.not_eq_true', decide_eq_false_iff_not, decide_eq_true_eq, q_div, q_rm, q_sub, q_m1, Nat.zero_add, Nat.add_zero, Nat.reduceEqDiff]
      exact ih (m - 1) _ (by omega) ⟨k + 1, w1, by omega, by rw [e0], hf⟩
  · have e : k = gW g * gH g := by omega
    simp (disch := first | omega | (simp only [fIn, fR, fC, Nat.reduceEqDiff, decide_false, decide_true, Bool.false_or, Bool.or_false, Bool.false_and, Bool.and_false, Bool.or_self, Bool.true_and, Bool.true_or, Bool.and_true, Bool.or_true, Bool.and_self]; done) | fail) only [hP_some, hP_let, hP_gd, hP_B, hP_if, reduceIte, q_lit, nI_add, pk_mul, q_lt, q_le, q_eq, q_cl, q_g, Bool.not_eq_true', decide_eq_false_iff_not, decide_eq_true_eq, q_div, q_rm, q_sub, q_m1, Nat.zero_add, Nat.add_zero, rM_wd hr1, rM_hi hr1, c1]
    rw [e]
    exact hq w1 hf
end M6
