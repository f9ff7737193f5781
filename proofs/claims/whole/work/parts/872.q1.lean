/-! ===== worst on both sides; seconds unseen ===== -/
theorem lay_eq {g : gS} (ho : gOk g) : exL (gRl g 99 (gLk g)) = gLay g 0 (gW g) 99 0 (gLk g) := by
  have h := gOk_lk ho
  rcases gRl_lay ho (gLk g) with e | e
  · exact e
  · omega
theorem wall_eq {g : gS} {r : gR} (ho : gOk g) (ch mi ex : Nat) : gWall g r ch mi ex 99 = gWin (gIn g 0 (gW g)) (gNd g r ch mi ex) (gLay g 0 (gW g) 99 0 (gLk g)) (gW g * gH g) := by
  have hw := gOk_wd ho
  unfold gWall gMx
  rw [lay_eq ho]
  refine gWin_spots (fun c => ?_)
  have hm := Nat.mod_lt c (show 0 < gW g by omega)
  unfold gIn
  simp only [Bool.and_eq_true, decide_eq_true_eq]
  constructor
  · intro h
    exact ⟨gSp_lt ho _ (Nat.le_refl _) c h, (gSp_mem g c _).mp h, Nat.zero_le _, hm⟩
  · intro h
    exact (gSp_mem g c _).mpr h.2.1
theorem lay_ok {g : gS} (ho : gOk g) : lOk (gLay g 0 (gW g) 99 0 (gLk g)) := by
  have h := gLay_len ho 0 (gW g) 99 0 (gLk g) (Nat.le_refl _)
  have h2 := gOk_lk ho
  refine ⟨?_, gLay_mem ho _ _ _ _ _ (Nat.le_refl _)⟩
  split at h <;> omega
theorem lay_T {g : gS} (ho : gOk g) : ∀ k, k ≤ gLk g → (gLay g 0 (gW g) 99 0 k).length = gRnd g k
  | 0, _ => rfl
  | k + 1, h => by
    have hw := gOk_wd ho
    have hm := Nat.mod_lt (g 6 k) (show 0 < gW g by omega)
    have ih := lay_T ho k (by omega)
    simp only [gLay, gRnd, List.length_append, List.length_replicate, ih, Nat.zero_le, hm, and_self, reduceIte]
    split <;> omega
theorem gWin_N {P : Nat → Bool} {g : gS} {r : gR} {ch mi ex : Nat} {L : List Nat} (hL : lOk L) (k : Nat) : oB (gWin P (gNd g r ch mi ex) L k) := gWin_B hL.1 (fun c => (gNd_b g r ch mi ex c).2) k
/-- so many seconds are seen too late -/
def oLate (la : Nat) (o : Option Nat) : Bool := match o with
  | none => true
  | some d => decide (la < d)
def cUn (b : Nat → Bool) (n T la : Nat) : Nat → Nat
  | 0 => 0
  | k + 1 => cUn b n T la k + (if oLate la (dl b n T k) = true then 1 else 0)
theorem cUn_le (b : Nat → Bool) (n T la : Nat) : ∀ k, cUn b n T la k ≤ k
  | 0 => Nat.le_refl _
  | k + 1 => by
    have := cUn_le b n T la k
    show _ + _ ≤ _
    split <;> omega
def gUn (g : gS) (r : gR) (c : Nat) : Nat := cUn (bL (gLay g 0 (gW g) 99 0 (gLk g)) c) (gN1 g r 0 c) (gRnd g (gLk g)) (gLa g) (gRnd g (gLk g))
theorem oLate_N {la N : Nat} {o : Option Nat} (h : la < N) : (la < oN N o) = (oLate la o = true) := by
  cases o with
  | none => exact propext ⟨fun _ => rfl, fun _ => h⟩
  | some d => show (la < d) = (decide (la < d) = true); rw [decide_eq_true_eq]
section Q1
variable {g : gS} {r : gR} {w : mW} {Q : Int32 → mW → Prop}
abbrev pMq : fP := ([103, 104, 105, 106, 107], [(80, 70)])
theorem m_worstAll {ex : Nat} (hr : rM g w) (hR : rMr r g w) (ho : gOk g) (hk : rOk r g) (hm : wI w 80 66 = nI ex) (hq : ∀ w', fr pMq w w' → rLk w' (gLay g 0 (gW g) 99 0 (gLk g)) → Q (eN (gWall g r (gCh g) (gMi g) ex 99)) w') : hP (f234_80 w) Q := by
  have hw := gOk_wd ho
  unfold f234_80
  simp only [hP_B, hP_some]
  refine m_laysAll hr ho (fun w1 hf1 hl1 => ?_)
  have hr1 := rM_fr (by decide) hf1 hr
  rw [rM_wd hr1]
  refine m_worstIn (fm := 0) (to := gW g) hr1 (rMr_fr (by decide) hf1 hR) ho hk ((fr_rd hf1 rfl).trans hm) (lay_ok ho) hl1 (by omega) (by omega) (fun w2 hf2 => ?_)
  rw [← wall_eq ho]
  exact hq w2 (fr_then (fr_up hf1 (by decide)) hf2 (by decide)) (rLk_fr hl1 hf2 rfl (fun _ => rfl))
theorem m_unseen {c : Nat} (hr : rM g w) (hR : rMr r g w) (ho : gOk g) (hk : rOk r g) (hm : wI w 80 66 = nI 0) (hc : c < 40) (hq : ∀ w', fr pMq w w' → Q (nI (gUn g r c)) w') : hP (f242_80 (nI c) w) Q := by
  have hla := gOk_la ho
  have hT := lay_T ho (gLk g) (Nat.le_refl _)
  have hnd := gNd_b g r (gCh g) (gMi g) 0 c
  have hlo := lay_ok ho
  have hT7 : gRnd g (gLk g) ≤ 207 := by rw [← hT]; exact hlo.1
  unfold f242_80
  simp only [hP_B]
  refine m_laysAll hr ho (fun w1 hf1 hl1 => ?_)
  have hr1 := rM_fr (by decide) hf1 hr
  have hp1 := hl1.1
  rw [hT] at hp1
  simp (disch := first | omega | (simp only [fIn, fR, fC, Nat.reduceEqDiff, decide_false, decide_true, Bool.false_or, Bool.or_false, Bool.false_and, Bool.and_false, Bool.or_self, Bool.true_and, Bool.true_or, Bool.and_true, Bool.or_true, Bool.and_self]; done) | fail) only [hP_some, hP_let, hP_gd, hP_B, hP_if, reduceIte, q_lit, nI_add, pk_mul, q_lt, q_le, q_eq, q_cl, q_g, Bool.not_eq_true', decide_eq_false_iff_not, decide_eq_true_eq, q_div, q_rm, q_sub, q_m1, Nat.zero_add, Nat.add_zero, hp1]
  by_cases c0 : gRnd g (gLk g) = 0
  · rw [if_pos c0]
    have := hq w1 (fr_up hf1 (by decide))
    unfold gUn at this
    rw [c0] at this
    exact this
  · rw [if_neg c0]
    refine m_need hr1 (rMr_fr (by decide) hf1 hR) ho hk hc ((fr_rd hf1 rfl).trans hm) (fun w2 hf2 => ?_)
    have hl2 := rLk_fr hl1 hf2 rfl (fun _ => rfl)
    refine m_watch (by omega) hlo.1 hlo.2 hc hnd.1 hnd.2 hl2 (fun w3 hf3 hS => ?_)
    have hf : fr pMq w w3 := fr_then (fr_then (fr_up hf1 (by decide)) hf2 (by decide)) hf3 (by decide)
    have hp3 := (rLk_fr hl2 hf3 rfl (fun _ => rfl)).1
    have hr3 := rM_fr (by decide) hf hr
    rw [hT] at hp3 hS
    refine hP_loopF (fun m s => ∃ k, k + m = gRnd g (gLk g) ∧ s = (nI (cUn (bL (gLay g 0 (gW g) 99 0 (gLk g)) c) (gN1 g r 0 c) (gRnd g (gLk g)) (gLa g) k), nI k, w3)) (gRnd g (gLk g)) (by omega) ⟨0, by omega, rfl⟩ ?_
    rintro m s rec ⟨k, hkm, rfl⟩ ih
    simp only [f242_80_b30]
    by_cases c1 : k < gRnd g (gLk g)
    · simp (disch := first | omega | (simp only [fIn, fR, fC, Nat.reduceEqDiff, decide_false, decide_true, Bool.false_or, Bool.or_false, Bool.false_and, Bool.and_false, Bool.or_self, Bool.true_and, Bool.true_or, Bool.and_true, Bool.or_true, Bool.and_self]; done) | fail) only [hP_some, hP_let, hP_gd, hP_B, hP_if, reduceIte, q_lit, nI_add, pk_mul, q_lt, q_le, q_eq, q_cl, q_g, Bool.not_eq_true', decide_eq_false_iff_not, decide_eq_true_eq, q_div, q_rm, q_sub, q_m1, Nat.zero_add, Nat.add_zero, hp3, c1]
      refine m_delay (n := gN1 g r 0 c) hT7 hnd.1 hnd.2 c1 hS ?_
      have hB := dl_B (b := bL (gLay g 0 (gW g) 99 0 (gLk g)) c) (n := gN1 g r 0 c) (s := k) hT7 hnd.2
      have hb := eN_lt hB
      have hcu := cUn_le (bL (gLay g 0 (gW g) 99 0 (gLk g)) c) (gN1 g r 0 c) (gRnd g (gLk g)) (gLa g) k
      have e9 := oLate_N (la := gLa g) (N := 1000000) (o := dl (bL (gLay g 0 (gW g) 99 0 (gLk g)) c) (gN1 g r 0 c) (gRnd g (gLk g)) k) (by omega)
      unfold eN
      simp (disch := first | omega | (simp only [fIn, fR, fC, Nat.reduceEqDiff, decide_false, decide_true, Bool.false_or, Bool.or_false, Bool.false_and, Bool.and_false, Bool.or_self, Bool.true_and, Bool.true_or, Bool.and_true, Bool.or_true, Bool.and_self]; done) | fail) only [hP_some, hP_let, hP_gd, hP_B, hP_if, reduceIte, q_lit, nI_add, pk_mul, q_lt, q_le, q_eq, q_cl, q_g, Bool.not_eq_true', decide_eq_false_iff_not, decide_eq_true_eq, q_div, q_rm, q_sub, q_m1, Nat.zero_add, Nat.add_zero, rM_la hr3, e9]
      have next : hP (rec (nI (cUn (bL (gLay g 0 (gW g) 99 0 (gLk g)) c) (gN1 g r 0 c) (gRnd g (gLk g)) (gLa g) k + (if oLate (gLa g) (dl (bL (gLay g 0 (gW g) 99 0 (gLk g)) c) (gN1 g r 0 c) (gRnd g (gLk g)) k) = true then 1 else 0)), nI (k + 1), w3)) Q := ih (m - 1) _ (by omega) ⟨k + 1, by omega, rfl⟩
      by_cases c2 : oLate (gLa g) (dl (bL (gLay g 0 (gW g) 99 0 (gLk g)) c) (gN1 g r 0 c) (gRnd g (gLk g)) k) = true
      · rw [if_pos c2] at next ⊢
        exact next
      · rw [if_neg c2] at next ⊢
        exact next
    · have e : k = gRnd g (gLk g) := by omega
      simp (disch := first | omega | (simp only [fIn, fR, fC, Nat.reduceEqDiff, decide_false, decide_true, Bool.false_or, Bool.or_false, Bool.false_and, Bool.and_false, Bool.or_self, Bool.true_and, Bool.true_or, Bool.and_true, Bool.or_true, Bool.and_self]; done) | fail) only [hP_some, hP_let, hP_gd, hP_B, hP_if, reduceIte, q_lit, nI_add, pk_mul, q_lt, q_le, q_eq, q_cl, q_g, Bool.not_eq_true', decide_eq_false_iff_not, decide_eq_true_eq, q_div, q_rm, q_sub, q_m1, Nat.zero_add, Nat.add_zero, hp3, c1]
      rw [e]
      exact hq w3 hf
end Q1
