/-! ===== ORDERS: one of them tried ===== -/
/-- alike but for where and how long they look -/
def gA5 (g g' : gS) : Prop := (∀ j, g' 0 j = g 0 j) ∧ ∀ a, 1 ≤ a → a ≤ 5 → g' a = g a
theorem gA5.cnt {g g' : gS} (h : gA5 g g') (c : Nat) : ∀ n, gCnt g' c n = gCnt g c n
  | 0 => rfl
  | n + 1 => by simp only [gCnt, h.cnt c n, h.2 5 (by decide) (by decide)]
theorem gA5.sp {g g' : gS} (h : gA5 g g') : ∀ n, gSp g' n = gSp g n
  | 0 => rfl
  | n + 1 => by simp only [gSp, h.sp n, h.2 5 (by decide) (by decide)]
theorem gA5.far {g g' : gS} (h : gA5 g g') (ch c : Nat) : gFar g' ch c = gFar g ch c := by
  unfold gFar
  have : gW g' = gW g := h.1 0
  rw [this]
theorem gA5.nd {g g' : gS} (h : gA5 g g') (r : gR) (ch mi ex c : Nat) : gNd g' r ch mi ex c = gNd g r ch mi ex c := by
  have e : gV g' ch mi ex c = gV g ch mi ex c := by
    funext k
    have h5 : gTi g' = gTi g := h.1 5
    have h2 : gSw g' = gSw g := h.1 2
    simp only [gV, gCrd, h.far, h.2 1 (by decide) (by decide), h.2 2 (by decide) (by decide), h5, h2, h.cnt]
  unfold gNd
  rw [e, h.far, h.2 2 (by decide) (by decide)]
theorem gA5.pl {g g' : gS} (h : gA5 g g') : gPl g g' := ⟨fun j _ => h.1 j, fun a h1 h2 => h.2 a h1 (by omega)⟩
/-- the looks in another order -/
def gPm (g : gS) (l : List Nat) : gS := fun a => if a = 6 then (fun j => if j < l.length then g 6 (gd l j) else g 6 j) else if a = 7 then (fun j => if j < l.length then g 7 (gd l j) else g 7 j) else g a
theorem gPm_A (g : gS) (l : List Nat) : gA5 g (gPm g l) := by
  refine ⟨fun j => rfl, fun a h1 h2 => ?_⟩
  unfold gPm
  rw [if_neg (by omega), if_neg (by omega)]
theorem gPm6 (g : gS) (l : List Nat) {j : Nat} (h : j < l.length) : gPm g l 6 j = g 6 (gd l j) := by
  show (if j < l.length then g 6 (gd l j) else g 6 j) = _
  rw [if_pos h]
theorem gPm7 (g : gS) (l : List Nat) {j : Nat} (h : j < l.length) : gPm g l 7 j = g 7 (gd l j) := by
  show (if j < l.length then g 7 (gd l j) else g 7 j) = _
  rw [if_pos h]
def lOf (g : gS) (l : List Nat) : Prop := l.length = gLk g ∧ ∀ i, i < gLk g → gd l i < gLk g
theorem gPm_sn {g : gS} {l : List Nat} (hl : lOf g l) (h : snOk g g) : snOk (gPm g l) (gPm g l) := by
  obtain ⟨q1, q2, q3, q4, q5⟩ := h
  refine ⟨q1, fun k hk => ?_, fun k hk => ?_, q4, q5⟩
  · have hk : k < gLk g := hk
    rw [gPm6 g l (by rw [hl.1]; exact hk)]
    exact q2 _ (hl.2 k hk)
  · have hk : k < gLk g := hk
    rw [gPm7 g l (by rw [hl.1]; exact hk)]
    exact q3 _ (hl.2 k hk)
theorem gPm_ok {g : gS} {l : List Nat} (ho : gOk g) (hl1 : ∀ k, k < gLk g → 1 ≤ g 7 k) (hl : lOf g l) : gOk (gPm g l) := gOk_of ho (gPm_A g l).pl (gPm_sn hl (snOk_g ho hl1))
theorem rM_of {g g' : gS} {p : fP} {w w' : mW} (hd : fOff poR poK p = true) (hf : fr p w w') (hM : rM g w) (hp : gPl g g') (hm : snM g' g' w' 100 0) : rM g' w' := by
  have er : ∀ a, a ∈ poR → ∀ j, wI w' a j = wI w a j := fun a ha j => fr_rd hf (fOff_row hd ha j)
  have ek : ∀ x, x ∈ poK → wI w' x.1 x.2 = wI w x.1 x.2 := fun x hx => fr_rd hf (fOff_cell hd hx)
  have e1 : g' 1 = g 1 := hp.2 1 (by decide) (by decide)
  have e2 : g' 2 = g 2 := hp.2 2 (by decide) (by decide)
  have e3 : g' 3 = g 3 := hp.2 3 (by decide) (by decide)
  have e4 : g' 4 = g 4 := hp.2 4 (by decide) (by decide)
  obtain ⟨a1, a2, a3, a4, a5, a6, a7, a8, a9, a10, a11, a12, a13, a14, a15, a16, a17⟩ := hM
  refine ⟨?_, ?_, ?_, ?_, ?_, ?_, ?_, ?_, ?_, ?_, ?_, ?_, ?_, ?_, ?_, ?_, ?_⟩
  · rw [gPl_w hp]; exact (ek (80, 1) (by decide)).trans a1
  · rw [gPl_h hp]; exact (ek (80, 2) (by decide)).trans a2
  · rw [gPl_sw hp]; exact (ek (80, 3) (by decide)).trans a3
  · rw [gPl_lk hp]; exact (ek (80, 4) (by decide)).trans a4
  · rw [gPl_la hp]; exact (ek (80, 5) (by decide)).trans a5
  · rw [gPl_ti hp]; exact (ek (80, 6) (by decide)).trans a6
  · rw [gPl_ga hp]; exact (ek (80, 7) (by decide)).trans a7
  · rw [gPl_ca hp]; exact (ek (80, 8) (by decide)).trans a8
  · exact hm.2.2.2.1
  · exact hm.2.2.2.2
  · rw [e1]; exact fun c hc => (er 81 (by decide) c).trans (a11 c hc)
  · rw [e2]; exact fun c hc => (er 82 (by decide) c).trans (a12 c hc)
  · rw [gPl_sw hp, e3]; exact fun c hc => (er 83 (by decide) c).trans (a13 c hc)
  · rw [gPl_ca hp, e4]; exact fun c hc => (er 84 (by decide) c).trans (a14 c hc)
  · exact fun i hi => by have := hm.1 i hi; rw [Nat.zero_add] at this; exact this
  · exact hm.2.1
  · exact hm.2.2.1
theorem rMr_of {g g' : gS} {r : gR} {p : fP} {w w' : mW} (hd : fOff poR poK p = true) (hf : fr p w w') (hR : rMr r g w) (hp : gPl g g') : rMr r g' w' := by
  have er : ∀ a, a ∈ poR → ∀ j, wI w' a j = wI w a j := fun a ha j => fr_rd hf (fOff_row hd ha j)
  have ek : ∀ x, x ∈ poK → wI w' x.1 x.2 = wI w x.1 x.2 := fun x hx => fr_rd hf (fOff_cell hd hx)
  obtain ⟨q1, q2, q3⟩ := hR
  refine ⟨rAt_cg (er 86 (by decide)) (ek (80, 9) (by decide)) q1, rAt_cg (er 86 (by decide)) (ek (80, 10) (by decide)) q2, fun i hi => ?_⟩
  rw [gPl_ga hp] at hi
  obtain ⟨l, k, b1, b2, b3⟩ := q3 i hi
  exact ⟨l, k, b1, (er 85 (by decide) i).trans b2, cdM_cg (er 86 (by decide)) l k b3⟩
section TRY
variable {g : gS} {r : gR} {w : mW} {Q : Int32 → mW → Prop} {l : List Nat}
abbrev pTR : fP := ([43, 44], [(42, 2), (42, 4), (42, 5), (42, 6)])
theorem c_tryL {ch mi : Nat} (hr : rC g w) (ho : gOk g) (hl1 : ∀ k, k < gLk g → 1 ≤ g 7 k) (hl : lOf g l) (h : rL 54 w l) (hs : rSp w (gSp g (gSw g)) (gNd g r ch mi 0)) (hq : ∀ w', fr pTR w w' → Q (eC (gWall (gPm g l) r ch mi 0 99)) w') : hP (f105_23 w) Q := by
  have hlk := gOk_lk ho
  have hn := gOk_n ho
  have ho' := gPm_ok ho hl1 hl
  have hA := gPm_A g l
  unfold f105_23
  simp only [hP_B]
  refine c_empty42 (fun w0 hf0 hl0 => ?_)
  refine hP_loopF (fun n s => ∃ k w1, k + n = gLk g ∧ s = (nI k, w1) ∧ fr pR w w1 ∧ rRd 42 43 44 w1 (gRl (gPm g l) 99 k)) (gLk g) (by omega) ⟨0, w0, by omega, rfl, hf0, hl0⟩ ?_
  rintro n s rec ⟨k, w1, hk, rfl, hf, hlr⟩ ih
  have hr1 := rC_fr (by decide) hf hr
  simp only [f105_23_b9]
  by_cases c : k < gLk g
  · have hp := hl.2 k c
    have h54 : wI w1 54 k = nI (gd l k) := (fr_rd hf rfl).trans (h k (by rw [hl.1]; exact c))
    have h2 := gOk_las ho _ hp
    have h3 := gOk_lat ho _ hp
    have hlen := gRl_len (gPm g l) 99 k
    have e6 : gPm g l 6 k = g 6 (gd l k) := gPm6 g l (by rw [hl.1]; exact c)
    have e7 : gPm g l 7 k = g 7 (gd l k) := gPm7 g l (by rw [hl.1]; exact c)
    simp (disch := first | omega | (simp only [fIn, fR, fC, Nat.reduceEqDiff, decide_false, decide_true, Bool.false_or, Bool.or_false, Bool.false_and, Bool.and_false, Bool.or_self, Bool.true_and, Bool.true_or, Bool.and_true, Bool.or_true, Bool.and_self]; done) | fail) only [hP_some, hP_let, hP_gd, hP_B, hP_if, reduceIte, q_lit, nI_add, pk_mul, q_lt, q_le, q_eq, q_cl, q_g, Bool.not_eq_true', decide_eq_false_iff_not, decide_eq_true_eq, q_div, q_rm, q_sub, q_m1, Nat.zero_add, Nat.add_zero, rC_lk hr1, c, h54, rC_lat hr1, rC_las hr1]
    refine ⟨by omega, by omega, by omega, by omega, ?_⟩
    have e1 : nI (g 6 (gd l k)) = cE (g 6 (gd l k)) := (if_neg (by omega)).symm
    rw [e1]
    refine c_add42 hlr (by omega) (by omega) (fun w2 hf2 hl2 => ?_)
    refine ih (n - 1) _ (by omega) ⟨k + 1, w2, by omega, rfl, fr_then hf hf2 (by decide), ?_⟩
    simp only [gRl, show ¬ k = 99 by omega, false_or, e6, e7]
    exact hl2
  · have e : k = gLk g := by omega
    simp (disch := first | omega | (simp only [fIn, fR, fC, Nat.reduceEqDiff, decide_false, decide_true, Bool.false_or, Bool.or_false, Bool.false_and, Bool.and_false, Bool.or_self, Bool.true_and, Bool.true_or, Bool.and_true, Bool.or_true, Bool.and_self]; done) | fail) only [hP_some, hP_let, hP_gd, hP_B, hP_if, reduceIte, q_lit, nI_add, pk_mul, q_lt, q_le, q_eq, q_cl, q_g, Bool.not_eq_true', decide_eq_false_iff_not, decide_eq_true_eq, q_div, q_rm, q_sub, q_m1, Nat.zero_add, Nat.add_zero, rC_lk hr1, c]
    rw [e] at hlr
    have hs1 := rSp_fr hs hf rfl (fun _ => rfl) (fun _ => rfl)
    have hs2 : rSp w1 (gSp (gPm g l) (gSw (gPm g l))) (gNd (gPm g l) r ch mi 0) := by
      have en : gNd (gPm g l) r ch mi 0 = gNd g r ch mi 0 := funext fun c => hA.nd r ch mi 0 c
      rw [hA.sp, en]
      exact hs1
    refine c_worstB (g := gPm g l) (S := []) ho' hlr hs2 (fun c => gNd_b (gPm g l) r _ _ _ c) (fun w3 hf3 => ?_)
    exact hq w3 (fr_then (fr_up hf (by decide)) hf3 (by decide))
/-- row 101 keeps what was in row 100 -/
def rK101 (g : gS) (w : mW) : Prop := (∀ k, k < gLk g → wI w 101 (12 + k) = nI (g 6 k)) ∧ ∀ k, k < gLk g → wI w 101 (24 + k) = nI (g 7 k)
def rFix (g : gS) (w : mW) : Prop := (∀ i, i < gSw g → wI w 100 i = nI (g 5 i)) ∧ wI w 100 36 = nI (gCh g) ∧ wI w 100 37 = nI (gMi g)
theorem m_triesL {Q : Unit → mW → Prop} (hn : wI w 80 4 = nI (gLk g)) (ho : gOk g) (hl : lOf g l) (h : rL 109 w l) (hK : rK101 g w) (hF : rFix g w) (hq : ∀ w', fr ([100], []) w w' → snM (gPm g l) (gPm g l) w' 100 0 → Q () w') : hP (f255_80 w) Q := by
  have hlk := gOk_lk ho
  have hsw := gOk_sw ho
  unfold f255_80
  refine hP_loopF (fun n s => ∃ k w1, k + n = gLk g ∧ s = (nI k, w1) ∧ fr ([100], []) w w1 ∧ rFix g w1 ∧ ∀ j, j < k → wI w1 100 (12 + j) = nI (g 6 (gd l j)) ∧ wI w1 100 (24 + j) = nI (g 7 (gd l j))) (gLk g) (by omega) ⟨0, w, by omega, rfl, fr_refl, hF, fun j hj => absurd hj (Nat.not_lt_zero _)⟩ ?_
  rintro n s rec ⟨k, w1, hk, rfl, hf, hF1, hd⟩ ih
  have hn1 : wI w1 80 4 = nI (gLk g) := (fr_rd hf rfl).trans hn
  simp only [f255_80_b2]
  by_cases c : k < gLk g
  · have hp := hl.2 k c
    have h109 : wI w1 109 k = nI (gd l k) := (fr_rd hf rfl).trans (h k (by rw [hl.1]; exact c))
    have ka : wI w1 101 (12 + gd l k) = nI (g 6 (gd l k)) := (fr_rd hf rfl).trans (hK.1 _ hp)
    have kb : wI w1 101 (24 + gd l k) = nI (g 7 (gd l k)) := (fr_rd hf rfl).trans (hK.2 _ hp)
    simp (disch := first | omega | (simp only [fIn, fR, fC, Nat.reduceEqDiff, decide_false, decide_true, Bool.false_or, Bool.or_false, Bool.false_and, Bool.and_false, Bool.or_self, Bool.true_and, Bool.true_or, Bool.and_true, Bool.or_true, Bool.and_self]; done) | fail) only [hP_some, hP_let, hP_gd, hP_B, hP_if, reduceIte, q_lit, nI_add, pk_mul, q_lt, q_le, q_eq, q_cl, q_g, Bool.not_eq_true', decide_eq_false_iff_not, decide_eq_true_eq, q_div, q_rm, q_sub, q_m1, Nat.zero_add, Nat.add_zero, rd_nS, rd_nSa, rd_nSj, rd_ovn, rd_ovy, hn1, c, h109, ka, kb]
    refine ⟨by omega, by omega, by omega, by omega, by omega, by omega, ?_⟩
    refine ih (n - 1) _ (by omega) ⟨k + 1, _, by omega, rfl, fr_nS (fr_nS hf rfl) rfl, ⟨fun i hi => ?_, ?_, ?_⟩, fun j hj => ?_⟩
    · rw [rd_nSj (by omega), rd_nSj (by omega)]; exact hF1.1 i hi
    · rw [rd_nSj (by omega), rd_nSj (by omega)]; exact hF1.2.1
    · rw [rd_nSj (by omega), rd_nSj (by omega)]; exact hF1.2.2
    · by_cases e : j = k
      · subst e
        rw [rd_nSj (by omega), rd_nS, rd_nS]
        exact ⟨rfl, rfl⟩
      · rw [rd_nSj (by omega), rd_nSj (by omega), rd_nSj (by omega), rd_nSj (by omega)]
        exact hd j (by omega)
  · have e : k = gLk g := by omega
    simp (disch := first | omega | (simp only [fIn, fR, fC, Nat.reduceEqDiff, decide_false, decide_true, Bool.false_or, Bool.or_false, Bool.false_and, Bool.and_false, Bool.or_self, Bool.true_and, Bool.true_or, Bool.and_true, Bool.or_true, Bool.and_self]; done) | fail) only [hP_some, hP_let, hP_gd, hP_B, hP_if, reduceIte, q_lit, nI_add, pk_mul, q_lt, q_le, q_eq, q_cl, q_g, Bool.not_eq_true', decide_eq_false_iff_not, decide_eq_true_eq, q_div, q_rm, q_sub, q_m1, Nat.zero_add, Nat.add_zero, hn1, c]
    subst e
    refine hq w1 hf ⟨fun i hi => ?_, fun j hj => ?_, fun j hj => ?_, hF1.2.1, hF1.2.2⟩
    · rw [Nat.zero_add]; exact hF1.1 i hi
    · have hj : j < gLk g := hj
      rw [gPm6 g l (by rw [hl.1]; exact hj)]; exact (hd j hj).1
    · have hj : j < gLk g := hj
      rw [gPm7 g l (by rw [hl.1]; exact hj)]; exact (hd j hj).2
end TRY
