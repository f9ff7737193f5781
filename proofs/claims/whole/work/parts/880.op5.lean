/-! ===== OPERATIONS: without, blind, away ===== -/
theorem rl_without {g : gS} (k : Nat) : ∀ n, n ≤ 99 → gRl (mUp g 7 k 0) 99 n = gRl g k n
  | 0, _ => rfl
  | n + 1, h => by
    have ih := rl_without (g := g) k n (by omega)
    have e6 : (mUp g 7 k 0) 6 = g 6 := by simp [mUp]
    have e7 : (mUp g 7 k 0) 7 n = if n = k then 0 else g 7 n := by simp [mUp]
    simp only [gRl, ih, e6, e7]
    by_cases c : n = k
    · simp [c]
    · have : ¬ n = 99 := by omega
      simp [c, this]
theorem gAg7_sp {g : gS} (k : Nat) (x : Nat) : ∀ n, gSp (mUp g 7 k x) n = gSp g n
  | 0 => rfl
  | n + 1 => by
    have e5 : (mUp g 7 k x) 5 = g 5 := by simp [mUp]
    simp only [gSp, gAg7_sp k x n, e5]
theorem gAg7_cnt {g : gS} (k x c : Nat) : ∀ n, gCnt (mUp g 7 k x) c n = gCnt g c n
  | 0 => rfl
  | n + 1 => by
    have e5 : (mUp g 7 k x) 5 = g 5 := by simp [mUp]
    simp only [gCnt, gAg7_cnt k x c n, e5]
theorem gAg7_nd {g : gS} (k x : Nat) (r : gR) (ch mi ex c : Nat) : gNd (mUp g 7 k x) r ch mi ex c = gNd g r ch mi ex c := by
  have e0 : (mUp g 7 k x) 0 = g 0 := by simp [mUp]
  have e1 : (mUp g 7 k x) 1 = g 1 := by simp [mUp]
  have e2 : (mUp g 7 k x) 2 = g 2 := by simp [mUp]
  have ef : gFar (mUp g 7 k x) ch c = gFar g ch c := by simp only [gFar, gW, e0]
  have e : gV (mUp g 7 k x) ch mi ex c = gV g ch mi ex c := by
    funext q
    simp only [gV, gCrd, ef, e0, e1, e2, gSw, gTi, gAg7_cnt]
  unfold gNd
  rw [e, ef, e2]
theorem wall_without {g : gS} {r : gR} (ho : gOk g) (k : Nat) (ch mi ex : Nat) : gWall (mUp g 7 k 0) r ch mi ex 99 = gWall g r ch mi ex k := by
  have hlk := gOk_lk ho
  have e0 : (mUp g 7 k 0) 0 = g 0 := by simp [mUp]
  have e : gNd (mUp g 7 k 0) r ch mi ex = gNd g r ch mi ex := funext fun c => gAg7_nd k 0 r ch mi ex c
  unfold gWall
  rw [e, gAg7_sp]
  have h3 : gLk (mUp g 7 k 0) = gLk g := by simp only [gLk, e0]
  have h2 : gSw (mUp g 7 k 0) = gSw g := by simp only [gSw, e0]
  rw [h3, h2, rl_without k _ (by omega)]
theorem gOk_las2 {g : gS} (ho : gOk g) {k x : Nat} (hx : x ≤ 9) : gOk (mUp g 7 k x) := by
  obtain ⟨a1, a2, a3, a4, a5, a6, a7, a8, a9, a10, a11, a12, a13, a14, a15, a16, a17, a18⟩ := ho
  refine ⟨a1, a2, a3, a4, a5, a6, a7, a8, a9, a10, a11, a12, a13, a14, a15, a16, a17, fun i hi => ?_⟩
  have e7 : (mUp g 7 k x) 7 i = if i = k then x else g 7 i := by simp [mUp]
  rw [e7]
  split
  · exact hx
  · exact a18 i hi
theorem rM_las2 {g : gS} {w : mW} (h : rM g w) (hsw : gSw g ≤ 12) (hlk : gLk g ≤ 12) {k : Nat} (hk : k < 12) (x : Nat) : rM (mUp g 7 k x) (nS w 100 (24 + k) (nI x)) := by
  obtain ⟨a1, a2, a3, a4, a5, a6, a7, a8, a9, a10, a11, a12, a13, a14, a15, a16, a17⟩ := h
  refine ⟨a1, a2, a3, a4, a5, a6, a7, a8, ?_, ?_, a11, a12, a13, a14, fun s hs => ?_, fun i hi => ?_, fun i hi => ?_⟩
  · rw [rd_nSj (by omega)]; exact a9
  · rw [rd_nSj (by omega)]; exact a10
  · have hs : s < gSw g := hs
    rw [rd_nSj (by omega)]; exact a15 s hs
  · have hi : i < gLk g := hi
    rw [rd_nSj (by omega)]; exact a16 i hi
  · have hi : i < gLk g := hi
    have e7 : (mUp g 7 k x) 7 i = if i = k then x else g 7 i := by simp [mUp]
    rw [e7]
    by_cases c : i = k
    · rw [if_pos c, c, rd_nS]
    · rw [if_neg c, rd_nSj (by omega)]; exact a17 i hi
theorem wall_Bk {g : gS} {r : gR} (ho : gOk g) (ch mi ex k : Nat) : oB (gWall g r ch mi ex k) := by
  rw [← wall_without ho]
  exact wall_B (gOk_las2 ho (by decide)) ch mi ex
theorem op_without (x1 : Int32) : opB Inv (f322_0_116 x1) (f287_80 x1) := by
  refine opB_g1 (f := f161_0 x1) (body' := fun w3 => (nGd (nG (24 + x1) 38) (nLet (wI w3 100 ((24 + x1)).toNatClampNeg) fun v4 => (nGd (nG (24 + x1) 38) (nLet (nS w3 100 ((24 + x1)).toNatClampNeg 0) fun w5 => (nB (f234_80 w5) fun v6 w7 => (nGd (nG (24 + x1) 38) (nLet (nS w7 100 ((24 + x1)).toNatClampNeg v4) fun w8 => (nB (f235 v6 w8) fun v9 w10 => (some (v9, w10))))))))))) (fun w => rfl) (fun w => rfl) (fun w => rfl) (fun w g r hp => ?_)
  obtain ⟨hM, hMr, hC, hCr, ho, hk, hl1, hcm, -⟩ := hp
  have hn := gOk_n ho
  have hsw := gOk_sw ho
  have hlk := gOk_lk ho
  have hch := gOk_ch ho
  have hmi := gOk_mi ho
  refine ⟨inR x1 (gLk g), gdC_look hC ho, fun w1 h1 h2 => gdM_look h1 ho h2, ?_⟩
  rintro ⟨k, hkl, rfl⟩
  refine ⟨fgE (gWall g r (gCh g) (gMi g) 0 k), ?_, fun w1 hx => ?_⟩
  · unfold f97_23
    simp (disch := first | omega | (simp only [fIn, fR, fC, Nat.reduceEqDiff, decide_false, decide_true, Bool.false_or, Bool.or_false, Bool.false_and, Bool.and_false, Bool.or_self, Bool.true_and, Bool.true_or, Bool.and_true, Bool.or_true, Bool.and_self]; done) | fail) only [hP_some, hP_let, hP_gd, hP_B, hP_if, reduceIte, q_lit, nI_add, pk_mul, q_lt, q_le, q_eq, q_cl, q_g, Bool.not_eq_true', decide_eq_false_iff_not, decide_eq_true_eq, q_div, q_rm, q_sub, q_m1, Nat.zero_add, Nat.add_zero, rC_ch hC, rC_mi hC]
    refine c_gather (ex := 0) hC hCr ho hk (by omega) (by omega) (by omega) (fun w1 hf1 hs1 => ?_)
    refine c_takeBut (lf := k) (rC_fr (by decide) hf1 hC) ho (fun j hj => q_eq (by omega) (by omega)) (fun w2 hf2 hl2 => ?_)
    have hs2 := rSp_fr hs1 hf2 rfl (fun _ => rfl) (fun _ => rfl)
    refine c_worstB (S := []) ho hl2 hs2 (fun c => gNd_b g r _ _ _ c) (fun w3 hf3 => ?_)
    exact c_orNone (wall_Bk ho _ _ _ _) ⟨rfl, fr_then (fr_then (fr_up hf1 (by decide)) hf2 (by decide)) hf3 (by decide)⟩
  · obtain ⟨hM1, hMr1, hcm1, h8⟩ := hx
    simp (disch := first | omega | (simp only [fIn, fR, fC, Nat.reduceEqDiff, decide_false, decide_true, Bool.false_or, Bool.or_false, Bool.false_and, Bool.and_false, Bool.or_self, Bool.true_and, Bool.true_or, Bool.and_true, Bool.or_true, Bool.and_self]; done) | fail) only [hP_some, hP_let, hP_gd, hP_B, hP_if, reduceIte, q_lit, nI_add, pk_mul, q_lt, q_le, q_eq, q_cl, q_g, Bool.not_eq_true', decide_eq_false_iff_not, decide_eq_true_eq, q_div, q_rm, q_sub, q_m1, Nat.zero_add, Nat.add_zero, rM_las hM1]
    refine ⟨by omega, by omega, ?_⟩
    have hM2 := rM_las2 (k := k) hM1 hsw hlk (by omega) 0
    have hMr2 : rMr r (mUp g 7 k 0) (nS w1 100 (24 + k) (nI 0)) := rMr_g rfl (rMr_nS hMr1)
    refine m_worstAll hM2 hMr2 (gOk_las2 ho (by decide)) (rOk_g rfl hk) ((rd_nSa (by decide)).trans hcm1) (fun w2 hf2 _ => ?_)
    have eW : gWall (mUp g 7 k 0) r (gCh (mUp g 7 k 0)) (gMi (mUp g 7 k 0)) 0 99 = gWall g r (gCh g) (gMi g) 0 k := wall_without ho k (gCh g) (gMi g) 0
    rw [eW]
    refine ⟨by omega, m_shown (wall_Bk ho _ _ _ _) ⟨rfl, ?_, ?_⟩⟩
    · refine ⟨fun a j hp => ?_, fun a j hp => ?_, hf2.2.2⟩
      · by_cases e : a = 100 ∧ j = 24 + k
        · obtain ⟨rfl, rfl⟩ := e
          rw [rd_nS]
          exact (rM_las hM1 k hkl).symm
        · have h5 : ∀ (w : mW) (v : Int32), wI (nS w 100 (24 + k) v) a j = wI w a j := by
            intro w v
            by_cases e2 : a = 100
            · subst e2
              rw [rd_nSj (fun e3 => e ⟨rfl, e3⟩)]
            · rw [rd_nSa e2]
          rw [h5, fr_rd hf2 (fLe_no (by decide : fLe pMq pQ = true) hp), h5]
      · rw [rd_nS_J, fr_rdJ hf2 (fLe_no (by decide : fLe pMq pQ = true) hp), rd_nS_J]
    · rw [rd_nSa (by decide), fr_rd hf2 rfl, rd_nSa (by decide)]
      exact h8
/-- the cells that are never seen, as bits -/
def gBl (f : Nat → Option Nat) : Nat → Int64
  | 0 => 0
  | k + 1 => match f k with
    | none => gBl f k ||| nLsl 1 (nI k)
    | some _ => gBl f k
theorem opJ_ask {f m : mW → Option (Int64 × mW)} (h : ∀ w g r, iPool g r w → Inv w → ∃ V : Int64, hP (f w) (fun v w1 => v = V ∧ fr pQ w w1) ∧ ∀ w1, fr pQ w w1 → hP (m w1) (fun b w2 => fr pQ w1 w2 ∧ b = V)) : opJ Inv f m := by
  intro w hI
  have hI0 := hI
  obtain ⟨g, r, hh, D, H, hp, -⟩ := hI0
  obtain ⟨V, h1, h2⟩ := h w g r hp hI
  refine hP_mono h1 (fun v w1 hv => ?_)
  obtain ⟨rfl, hf⟩ := hv
  have hq := fq_fr hf pQ_le
  refine ⟨fq_sK hq, hP_mono (h2 _ hf) (fun b w2 hb => ?_)⟩
  have hq2 := fq_then hq hb.1
  exact ⟨hb.2.symm, fq_Inv hq2 hI, fq_sK hq2, hq2.2.2⟩
theorem lor0 (x : Int64) : x ||| 0 = x := by
  rw [← Int64.toBitVec_inj]
  show x.toBitVec ||| 0#64 = _
  simp
theorem op_blind : opJ Inv f160_0 f286_80 := by
  refine opJ_ask (fun w g r hp hI => ?_)
  obtain ⟨hM, hMr, hC, hCr, ho, hk, hl1, hcm, -⟩ := hp
  have hn := gOk_n ho
  have hch := gOk_ch ho
  have hmi := gOk_mi ho
  have hB : ∀ c, oB (gWst (gN1 g r 0) (gLay g 0 (gW g) 99 0 (gLk g)) c) := fun c => gWst_B (lay_ok ho).1 (gNd_b g r _ _ _ c).2
  refine ⟨gBl (gWst (gN1 g r 0) (gLay g 0 (gW g) 99 0 (gLk g))) (gW g * gH g), ?_, fun w1 hf1 => ?_⟩
  · unfold f160_0 f99_23
    simp only [hP_B, hP_some]
    refine c_take hC ho (fun w1 hf1 hl1 => ?_)
    refine hP_loopF (fun n s => ∃ k w2, k + n = gW g * gH g ∧ s = (gBl (gWst (gN1 g r 0) (gLay g 0 (gW g) 99 0 (gLk g))) k, nI k, w2) ∧ fr pA w w2 ∧ rRd 42 43 44 w2 (gRl g 99 (gLk g))) (gW g * gH g) (by omega) ⟨0, w1, by omega, rfl, fr_up hf1 (by decide), hl1⟩ ?_
    rintro n s rec ⟨k, w2, hkn, rfl, hf2, hl2⟩ ih
    have hC2 := rC_fr (by decide) hf2 hC
    simp only [f99_23_b8, f45_24, f83_23]
    by_cases c1 : k < gW g * gH g
    · have hnd := gNd_b g r (gCh g) (gMi g) 0 k
      simp (disch := first | omega | (simp only [fIn, fR, fC, Nat.reduceEqDiff, decide_false, decide_true, Bool.false_or, Bool.or_false, Bool.false_and, Bool.and_false, Bool.or_self, Bool.true_and, Bool.true_or, Bool.and_true, Bool.or_true, Bool.and_self]; done) | fail) only [hP_some, hP_let, hP_gd, hP_B, hP_if, reduceIte, q_lit, nI_add, pk_mul, q_lt, q_le, q_eq, q_cl, q_g, Bool.not_eq_true', decide_eq_false_iff_not, decide_eq_true_eq, q_div, q_rm, q_sub, q_m1, Nat.zero_add, Nat.add_zero, rC_wd hC2, rC_hi hC2, rC_ch hC2, rC_mi hC2, c1]
      refine c_need (ex := 0) hC2 (rCr_fr (by decide) hf2 hCr) ho hk (by omega) (by omega) (by omega) (by omega) (.inr rfl) (fun w3 hf3 => ?_)
      have hl3 := rRd_fr hl2 hf3 rfl (fun _ => rfl) (fun _ => rfl)
      refine c_longest42 (gRl_ok ho 99 _ (Nat.le_refl _)) hl3 (by omega) hnd.1 hnd.2 (fun w4 hf4 => ?_)
      rw [lay_eq ho]
      have hf5 : fr pA w w4 := fr_then (fr_then hf2 hf3 (by decide)) hf4 (by decide)
      have hl4 := rRd_fr hl3 hf4 rfl (fun _ => rfl) (fun _ => rfl)
      have e1 : gWs1 (gNd g r (gCh g) (gMi g) 0 k) (gLay g 0 (gW g) 99 0 (gLk g)) k = gWst (gN1 g r 0) (gLay g 0 (gW g) 99 0 (gLk g)) k := rfl
      rw [e1]
      have e0 : gBl (gWst (gN1 g r 0) (gLay g 0 (gW g) 99 0 (gLk g))) (k + 1) = match gWst (gN1 g r 0) (gLay g 0 (gW g) 99 0 (gLk g)) k with | none => gBl (gWst (gN1 g r 0) (gLay g 0 (gW g) 99 0 (gLk g))) k ||| nLsl 1 (nI k) | some _ => gBl (gWst (gN1 g r 0) (gLay g 0 (gW g) 99 0 (gLk g))) k := rfl
      have hBk := hB k
      cases e2 : gWst (gN1 g r 0) (gLay g 0 (gW g) 99 0 (gLk g)) k with
      | none =>
        rw [e2] at e0
        rw [if_pos (show eC none = nI 2147483647 from rfl)]
        exact ih (n - 1) _ (by omega) ⟨k + 1, w4, by omega, by rw [e0], hf5, hl4⟩
      | some d =>
        rw [e2] at e0 hBk
        have hd := hBk d rfl
        rw [if_neg (show ¬ eC (some d) = nI 2147483647 by show ¬ nI d = _; rw [q_eq (by omega) (by omega)]; omega)]
        exact ih (n - 1) _ (by omega) ⟨k + 1, w4, by omega, by rw [e0], hf5, hl4⟩
    · have e : k = gW g * gH g := by omega
      simp (disch := first | omega | (simp only [fIn, fR, fC, Nat.reduceEqDiff, decide_false, decide_true, Bool.false_or, Bool.or_false, Bool.false_and, Bool.and_false, Bool.or_self, Bool.true_and, Bool.true_or, Bool.and_true, Bool.or_true, Bool.and_self]; done) | fail) only [hP_some, hP_let, hP_gd, hP_B, hP_if, reduceIte, q_lit, nI_add, pk_mul, q_lt, q_le, q_eq, q_cl, q_g, Bool.not_eq_true', decide_eq_false_iff_not, decide_eq_true_eq, q_div, q_rm, q_sub, q_m1, Nat.zero_add, Nat.add_zero, rC_wd hC2, rC_hi hC2, c1]
      rw [e]
      exact ⟨rfl, fr_up hf2 (by decide)⟩
  · have hM1 := rM_fr (g := g) pQ_rM hf1 hM
    have hMr1 := rMr_fr pQ_rM hf1 hMr
    have hcm1 : wI w1 80 66 = nI 0 := (fr_rd hf1 (by decide +kernel)).trans hcm
    have hf0 : fr ([], [(80, 0)]) w1 (nS w1 80 0 0) := fr_nS fr_refl rfl
    unfold f286_80
    simp only [hP_let, hP_B]
    refine m_laysAll (rM_fr (by decide) hf0 hM1) ho (fun w2 hf2 hl2 => ?_)
    refine hP_loopF (fun n s => ∃ k w3, k + n = gW g * gH g ∧ s = (gBl (gWst (gN1 g r 0) (gLay g 0 (gW g) 99 0 (gLk g))) k, nI k, w3) ∧ fr ([103, 104, 105, 106, 107], [(80, 0), (80, 70)]) w1 w3 ∧ rLk w3 (gLay g 0 (gW g) 99 0 (gLk g))) (gW g * gH g) (by omega) ⟨0, w2, by omega, rfl, fr_then (fr_up hf0 (by decide)) hf2 (by decide), hl2⟩ ?_
    rintro n s rec ⟨k, w3, hkn, rfl, hf3, hl3⟩ ih
    have hM3 := rM_fr (g := g) (by decide) hf3 hM1
    simp only [f286_80_b13, f218_80]
    by_cases c1 : k < gW g * gH g
    · simp (disch := first | omega | (simp only [fIn, fR, fC, Nat.reduceEqDiff, decide_false, decide_true, Bool.false_or, Bool.or_false, Bool.false_and, Bool.and_false, Bool.or_self, Bool.true_and, Bool.true_or, Bool.and_true, Bool.or_true, Bool.and_self]; done) | fail) only [hP_some, hP_let, hP_gd, hP_B, hP_if, reduceIte, q_lit, nI_add, pk_mul, q_lt, q_le, q_eq, q_cl, q_g, Bool.not_eq_true', decide_eq_false_iff_not, decide_eq_true_eq, q_div, q_rm, q_sub, q_m1, Nat.zero_add, Nat.add_zero, rM_wd hM3, rM_hi hM3, c1]
      refine m_worstOf hM3 (rMr_fr (by decide) hf3 hMr1) ho hk ((fr_rd hf3 rfl).trans hcm1) (lay_ok ho) hl3 (by omega) (fun w4 hf4 => ?_)
      have hf5 : fr ([103, 104, 105, 106, 107], [(80, 0), (80, 70)]) w1 w4 := fr_then hf3 hf4 (by decide)
      have hl4 := rLk_fr hl3 hf4 rfl (fun _ => rfl)
      have e0 : gBl (gWst (gN1 g r 0) (gLay g 0 (gW g) 99 0 (gLk g))) (k + 1) = match gWst (gN1 g r 0) (gLay g 0 (gW g) 99 0 (gLk g)) k with | none => gBl (gWst (gN1 g r 0) (gLay g 0 (gW g) 99 0 (gLk g))) k ||| nLsl 1 (nI k) | some _ => gBl (gWst (gN1 g r 0) (gLay g 0 (gW g) 99 0 (gLk g))) k := rfl
      have hBk := hB k
      cases e2 : gWst (gN1 g r 0) (gLay g 0 (gW g) 99 0 (gLk g)) k with
      | none =>
        rw [e2] at e0
        rw [if_neg (show ¬ eN none < nI 1000000 by decide)]
        exact ih (n - 1) _ (by omega) ⟨k + 1, w4, by omega, by rw [e0], hf5, hl4⟩
      | some d =>
        rw [e2] at e0 hBk
        have hd := hBk d rfl
        rw [if_pos (show eN (some d) < nI 1000000 by show nI d < _; rw [q_lt (by omega) (by omega)]; omega), lor0]
        exact ih (n - 1) _ (by omega) ⟨k + 1, w4, by omega, by rw [e0], hf5, hl4⟩
    · have e : k = gW g * gH g := by omega
      simp (disch := first | omega | (simp only [fIn, fR, fC, Nat.reduceEqDiff, decide_false, decide_true, Bool.false_or, Bool.or_false, Bool.false_and, Bool.and_false, Bool.or_self, Bool.true_and, Bool.true_or, Bool.and_true, Bool.or_true, Bool.and_self]; done) | fail) only [hP_some, hP_let, hP_gd, hP_B, hP_if, reduceIte, q_lit, nI_add, pk_mul, q_lt, q_le, q_eq, q_cl, q_g, Bool.not_eq_true', decide_eq_false_iff_not, decide_eq_true_eq, q_div, q_rm, q_sub, q_m1, Nat.zero_add, Nat.add_zero, rM_wd hM3, rM_hi hM3, c1]
      rw [e]
      exact ⟨fr_up hf3 (by decide), rfl⟩
