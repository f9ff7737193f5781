/-! ===== OPERATIONS: best, swap, without ===== -/
def oLt : Option Nat → Option Nat → Bool
  | some a, some b => decide (a < b)
  | some _, none => true
  | none, _ => false
theorem eC_oLt {a b : Option Nat} (ha : oB a) (hb : oB b) : (eC a < eC b) = (oLt a b = true) := by
  unfold eC
  rw [q_lt (eC_lt ha) (eC_lt hb)]
  cases a with
  | none =>
    cases b with
    | none => show (2147483647 < 2147483647) = (false = true); simp
    | some b => have := hb b rfl; show (2147483647 < b) = (false = true); simp; omega
  | some a =>
    cases b with
    | none => have := ha a rfl; show (a < 2147483647) = (true = true); simp; omega
    | some b => show (a < b) = (decide (a < b) = true); rw [decide_eq_true_eq]
theorem eN_oLt {a b : Option Nat} (ha : oB a) (hb : oB b) : (eN a < eN b) = (oLt a b = true) := by
  have h3 := eN_lt ha
  have h4 := eN_lt hb
  unfold eN
  rw [q_lt (by omega) (by omega)]
  cases a with
  | none =>
    cases b with
    | none => show (1000000 < 1000000) = (false = true); simp
    | some b => have := hb b rfl; show (1000000 < b) = (false = true); simp; omega
  | some a =>
    cases b with
    | none => have := ha a rfl; show (a < 1000000) = (true = true); simp; omega
    | some b => show (a < b) = (decide (a < b) = true); rw [decide_eq_true_eq]
/-- the first of the least -/
def bst (f : Nat → Option Nat) : Nat → Nat × Option Nat
  | 0 => (0, none)
  | k + 1 => if oLt (f k) (bst f k).2 = true then (k, f k) else bst f k
theorem bst_B {f : Nat → Option Nat} (hf : ∀ c, oB (f c)) : ∀ k, oB (bst f k).2
  | 0 => fun x hx => by cases hx
  | k + 1 => by
    show oB (if oLt (f k) (bst f k).2 = true then (k, f k) else bst f k).2
    split
    · exact hf k
    · exact bst_B hf k
theorem bst_lt {f : Nat → Option Nat} : ∀ k, (bst f (k + 1)).1 < k + 1
  | 0 => by
    show (if oLt (f 0) (bst f 0).2 = true then (0, f 0) else bst f 0).1 < 1
    split <;> exact Nat.zero_lt_one
  | k + 1 => by
    have := bst_lt (f := f) k
    show (if oLt (f (k + 1)) (bst f (k + 1)).2 = true then (k + 1, f (k + 1)) else bst f (k + 1)).1 < k + 1 + 1
    split
    · exact Nat.lt_succ_self _
    · omega
theorem oLt_no {o : Option Nat} (h : ¬ oLt o none = true) : o = none := by
  cases o with
  | none => rfl
  | some a => exact absurd rfl h
theorem bst_one (f : Nat → Option Nat) : bst f 1 = (0, f 0) := by
  show (if oLt (f 0) none = true then (0, f 0) else (0, none)) = _
  by_cases h : oLt (f 0) none = true
  · rw [if_pos h]
  · rw [if_neg h, oLt_no h]
theorem bst_val {f : Nat → Option Nat} : ∀ k, (bst f (k + 1)).2 = f (bst f (k + 1)).1
  | 0 => by rw [bst_one]
  | k + 1 => by
    have := bst_val (f := f) k
    show (if oLt (f (k + 1)) (bst f (k + 1)).2 = true then (k + 1, f (k + 1)) else bst f (k + 1)).2 = f (if oLt (f (k + 1)) (bst f (k + 1)).2 = true then (k + 1, f (k + 1)) else bst f (k + 1)).1
    split
    · rfl
    · exact this
theorem c_worstF {g : gS} {r : gR} {w : mW} {Q : Int32 → mW → Prop} {ch : Nat} (hr : rC g w) (hR : rCr r g w) (ho : gOk g) (hk : rOk r g) (hch : ch < 40) (hq : ∀ w', fr pA w w' → Q (eC (gWall g r ch (gMi g) 0 99)) w') : hP (f98_23 (nI ch) w) Q := by
  have hmi := gOk_mi ho
  unfold f98_23
  simp (disch := first | omega | (simp only [fIn, fR, fC, Nat.reduceEqDiff, decide_false, decide_true, Bool.false_or, Bool.or_false, Bool.false_and, Bool.and_false, Bool.or_self, Bool.true_and, Bool.true_or, Bool.and_true, Bool.or_true, Bool.and_self]; done) | fail) only [hP_some, hP_let, hP_gd, hP_B, hP_if, reduceIte, q_lit, nI_add, pk_mul, q_lt, q_le, q_eq, q_cl, q_g, Bool.not_eq_true', decide_eq_false_iff_not, decide_eq_true_eq, q_div, q_rm, q_sub, q_m1, Nat.zero_add, Nat.add_zero, rC_wd hr, rC_hi hr, rC_sw hr, rC_lk hr, rC_la hr, rC_ti hr, rC_ga hr, rC_ca hr, rC_ch hr, rC_mi hr, rC_deep hr, rC_glare hr, rC_skill hr, rC_case hr, rC_tro hr, rC_at hr, rC_lat hr, rC_las hr]
  refine c_gather (ex := 0) hr hR ho hk hch (by omega) (by omega) (fun w1 hf1 hs1 => ?_)
  refine c_take (rC_fr (by decide) hf1 hr) ho (fun w2 hf2 hl2 => ?_)
  have hs2 := rSp_fr hs1 hf2 rfl (fun _ => rfl) (fun _ => rfl)
  refine c_worstB (S := []) ho hl2 hs2 (fun c => gNd_b g r _ _ _ c) (fun w3 hf3 => ?_)
  exact hq w3 (fr_then (fr_then (fr_up hf1 (by decide)) hf2 (by decide)) hf3 (by decide))
theorem c_bestChair {g : gS} {r : gR} {w : mW} {Q : Int32 → mW → Prop} (hr : rC g w) (hR : rCr r g w) (ho : gOk g) (hk : rOk r g) (hq : ∀ w', fr pA w w' → Q (nI (bst (fun c => gWall g r c (gMi g) 0 99) (gW g * gH g)).1) w') : hP (f110_23 w) Q := by
  have hn := gOk_n ho
  unfold f110_23
  refine hP_loopF (fun n s => ∃ k w1, k + n = gW g * gH g ∧ s = (nI (bst (fun c => gWall g r c (gMi g) 0 99) k).1, eC (bst (fun c => gWall g r c (gMi g) 0 99) k).2, nI k, w1) ∧ fr pA w w1) (gW g * gH g) (by omega) ⟨0, w, by omega, rfl, fr_refl⟩ ?_
  rintro n s rec ⟨k, w1, hkn, rfl, hf⟩ ih
  have hr1 := rC_fr (by decide) hf hr
  simp only [f110_23_b7, f45_24]
  by_cases c1 : k < gW g * gH g
  · simp (disch := first | omega | (simp only [fIn, fR, fC, Nat.reduceEqDiff, decide_false, decide_true, Bool.false_or, Bool.or_false, Bool.false_and, Bool.and_false, Bool.or_self, Bool.true_and, Bool.true_or, Bool.and_true, Bool.or_true, Bool.and_self]; done) | fail) only [hP_some, hP_let, hP_gd, hP_B, hP_if, reduceIte, q_lit, nI_add, pk_mul, q_lt, q_le, q_eq, q_cl, q_g, Bool.not_eq_true', decide_eq_false_iff_not, decide_eq_true_eq, q_div, q_rm, q_sub, q_m1, Nat.zero_add, Nat.add_zero, rC_wd hr1, rC_hi hr1, c1]
    refine c_worstF hr1 (rCr_fr (by decide) hf hR) ho hk (by omega) (fun w2 hf2 => ?_)
    have e9 := eC_oLt (wall_B (r := r) ho k (gMi g) 0) (bst_B (f := fun c => gWall g r c (gMi g) 0 99) (fun c => wall_B ho c (gMi g) 0) k)
    simp only [e9]
    have e0 : bst (fun c => gWall g r c (gMi g) 0 99) (k + 1) = if oLt (gWall g r k (gMi g) 0 99) (bst (fun c => gWall g r c (gMi g) 0 99) k).2 = true then (k, gWall g r k (gMi g) 0 99) else bst (fun c => gWall g r c (gMi g) 0 99) k := rfl
    have hf3 := fr_then hf hf2 (by decide : fLe pA pA = true)
    by_cases c2 : oLt (gWall g r k (gMi g) 0 99) (bst (fun c => gWall g r c (gMi g) 0 99) k).2 = true
    · rw [if_pos c2] at e0 ⊢
      exact ih (n - 1) _ (by omega) ⟨k + 1, w2, by omega, by rw [e0], hf3⟩
    · rw [if_neg c2] at e0 ⊢
      exact ih (n - 1) _ (by omega) ⟨k + 1, w2, by omega, by rw [e0], hf3⟩
  · have e : k = gW g * gH g := by omega
    simp (disch := first | omega | (simp only [fIn, fR, fC, Nat.reduceEqDiff, decide_false, decide_true, Bool.false_or, Bool.or_false, Bool.false_and, Bool.and_false, Bool.or_self, Bool.true_and, Bool.true_or, Bool.and_true, Bool.or_true, Bool.and_self]; done) | fail) only [hP_some, hP_let, hP_gd, hP_B, hP_if, reduceIte, q_lit, nI_add, pk_mul, q_lt, q_le, q_eq, q_cl, q_g, Bool.not_eq_true', decide_eq_false_iff_not, decide_eq_true_eq, q_div, q_rm, q_sub, q_m1, Nat.zero_add, Nat.add_zero, rC_wd hr1, rC_hi hr1, c1]
    rw [e]
    exact hq w1 hf
theorem op_best (x1 : Int32) : opB Inv (f312_0_116 x1) (f261_80 x1) := by
  refine opB_g1 (f := f144_0 x1) (body' := fun w3 => nLet (wI w3 100 36) fun v4 => mLoop (f261_80_b32 x1 v4) nF ((-1), 0, 0, w3)) (fun w => rfl) (fun w => rfl) (fun w => rfl) (fun w g r hp => ?_)
  obtain ⟨hM, hMr, hC, hCr, ho, hk, hl1, hcm, -⟩ := hp
  have hn := gOk_n ho
  have hwd := gOk_wd ho
  have hhi := gOk_hi ho
  have hsw := gOk_sw ho
  have hlk := gOk_lk ho
  refine ⟨inR x1 (1 + 1), gdC_what (by decide), fun w1 h1 h2 => gdM_what (by decide) h2, ?_⟩
  rintro ⟨b, hb, rfl⟩
  have hpos : 0 < gW g * gH g := Nat.mul_pos (by omega) (by omega)
  have hfB : ∀ c, oB (gWall g r c (gMi g) 0 99) := fun c => wall_B ho c (gMi g) 0
  have hlt : (bst (fun c => gWall g r c (gMi g) 0 99) (gW g * gH g)).1 < gW g * gH g := by
    have := bst_lt (f := fun c => gWall g r c (gMi g) 0 99) (gW g * gH g - 1)
    rw [show gW g * gH g - 1 + 1 = gW g * gH g by omega] at this
    exact this
  have hval : (bst (fun c => gWall g r c (gMi g) 0 99) (gW g * gH g)).2 = gWall g r (bst (fun c => gWall g r c (gMi g) 0 99) (gW g * gH g)).1 (gMi g) 0 99 := by
    have := bst_val (f := fun c => gWall g r c (gMi g) 0 99) (gW g * gH g - 1)
    rw [show gW g * gH g - 1 + 1 = gW g * gH g by omega] at this
    exact this
  have hbB := bst_B (f := fun c => gWall g r c (gMi g) 0 99) hfB (gW g * gH g)
  refine ⟨if b = 0 then nI (bst (fun c => gWall g r c (gMi g) 0 99) (gW g * gH g)).1 else fgE (bst (fun c => gWall g r c (gMi g) 0 99) (gW g * gH g)).2, ?_, fun w1 hx => ?_⟩
  · simp only [hP_B]
    refine c_bestChair hC hCr ho hk (fun w2 hf2 => ?_)
    simp (disch := first | omega | (simp only [fIn, fR, fC, Nat.reduceEqDiff, decide_false, decide_true, Bool.false_or, Bool.or_false, Bool.false_and, Bool.and_false, Bool.or_self, Bool.true_and, Bool.true_or, Bool.and_true, Bool.or_true, Bool.and_self]; done) | fail) only [hP_some, hP_let, hP_gd, hP_B, hP_if, reduceIte, q_lit, nI_add, pk_mul, q_lt, q_le, q_eq, q_cl, q_g, Bool.not_eq_true', decide_eq_false_iff_not, decide_eq_true_eq, q_div, q_rm, q_sub, q_m1, Nat.zero_add, Nat.add_zero]
    by_cases c0 : b = 0
    · simp only [c0, reduceIte]
      exact ⟨trivial, fr_up hf2 (by decide)⟩
    · simp only [c0, reduceIte]
      refine c_worstF (rC_fr (by decide) hf2 hC) (rCr_fr (by decide) hf2 hCr) ho hk (by omega) (fun w3 hf3 => ?_)
      rw [hval]
      exact c_orNone (hfB _) ⟨rfl, fr_then (fr_up hf2 (by decide)) hf3 (by decide)⟩
  · obtain ⟨hM1, hMr1, hcm1, h8⟩ := hx
    simp only [hP_let, rM_ch hM1]
    refine hP_loopF (fun n s => ∃ k w2, k + n = gW g * gH g ∧ s = ((if k = 0 then -nI 1 else nI (bst (fun c => gWall g r c (gMi g) 0 99) k).1), (if k = 0 then nI 0 else eN (bst (fun c => gWall g r c (gMi g) 0 99) k).2), nI k, w2) ∧ fr ([103, 104, 105, 106, 107], [(100, 36), (80, 70)]) w1 w2 ∧ wJ w2 100 36 = wJ w1 100 36) (gW g * gH g) (by omega) ⟨0, w1, by omega, rfl, fr_refl, rfl⟩ ?_
    rintro n s rec ⟨k, w2, hkn, rfl, hf, hj⟩ ih
    have hM2 : rM (mUp g 0 8 k) (nS w2 100 36 (nI k)) ∧ rMr r (mUp g 0 8 k) (nS w2 100 36 (nI k)) := by
      have h36 : ∀ a j, ¬ (a = 100 ∧ j = 36) → fIn ([103, 104, 105, 106, 107], [(80, 70)]) a j = false → wI (nS w2 100 36 (nI k)) a j = wI (nS w1 100 36 (nI k)) a j := by
        intro a j h1 h2
        by_cases e : a = 100
        · subst e
          rw [rd_nSj (fun e2 => h1 ⟨rfl, e2⟩), rd_nSj (fun e2 => h1 ⟨rfl, e2⟩)]
          refine fr_rd hf ?_
          have : ¬ 36 = j := fun e2 => h1 ⟨rfl, e2.symm⟩
          simp [fIn, fR, fC, this]
        · rw [rd_nSa e, rd_nSa e]
          refine fr_rd hf ?_
          have : ¬ 100 = a := fun e2 => e e2.symm
          simp only [fIn, fR, fC, Bool.or_eq_false_iff, decide_eq_false this, Bool.false_and] at h2 ⊢
          exact ⟨h2.1, trivial, h2.2⟩
      have hA := rM_ch2 hM1 hsw hlk k
      have hB := rMr_g (g' := mUp g 0 8 k) rfl (rMr_nS (j := 36) (v := nI k) hMr1)
      have same : ∀ a j, fIn ([103, 104, 105, 106, 107], [(80, 70)]) a j = false → wI (nS w2 100 36 (nI k)) a j = wI (nS w1 100 36 (nI k)) a j := by
        intro a j h2
        by_cases e : a = 100 ∧ j = 36
        · obtain ⟨rfl, rfl⟩ := e
          rw [rd_nS, rd_nS]
        · exact h36 a j e h2
      have hd : fOff rMR rMK ([103, 104, 105, 106, 107], [(80, 70)]) = true := by decide
      have hfx : fr ([103, 104, 105, 106, 107], [(80, 70)]) (nS w1 100 36 (nI k)) (ov ([103, 104, 105, 106, 107], [(80, 70)]) (nS w2 100 36 (nI k)) (nS w1 100 36 (nI k))) := ⟨fun a j h => rd_ovn h, fun a j h => rd_ovnJ h, rfl⟩
      refine ⟨rM_cg (fun a ha j => same a j (fOff_row hd ha j)) (fun x hx => same x.1 x.2 (fOff_cell hd hx)) hA, ?_⟩
      have h86 : ∀ j, wI (nS w2 100 36 (nI k)) 86 j = wI (nS w1 100 36 (nI k)) 86 j := fun j => same 86 j (fOff_row hd (by decide) j)
      obtain ⟨q1, q2, q3⟩ := hB
      refine ⟨rAt_cg h86 (same 80 9 (fOff_cell hd (by decide))) q1, rAt_cg h86 (same 80 10 (fOff_cell hd (by decide))) q2, fun i hi => ?_⟩
      obtain ⟨l, k2, a1, a2, a3⟩ := q3 i hi
      exact ⟨l, k2, a1, (same 85 i (fOff_row hd (by decide) i)).trans a2, cdM_cg h86 l k2 a3⟩
    have hwh : wI w2 80 1 = nI (gW g) ∧ wI w2 80 2 = nI (gH g) := ⟨(fr_rd hf (by decide)).trans (rM_wd hM1), (fr_rd hf (by decide)).trans (rM_hi hM1)⟩
    simp only [f261_80_b32, f218_80]
    by_cases c1 : k < gW g * gH g
    · simp (disch := first | omega | (simp only [fIn, fR, fC, Nat.reduceEqDiff, decide_false, decide_true, Bool.false_or, Bool.or_false, Bool.false_and, Bool.and_false, Bool.or_self, Bool.true_and, Bool.true_or, Bool.and_true, Bool.or_true, Bool.and_self]; done) | fail) only [hP_some, hP_let, hP_gd, hP_B, hP_if, reduceIte, q_lit, nI_add, pk_mul, q_lt, q_le, q_eq, q_cl, q_g, Bool.not_eq_true', decide_eq_false_iff_not, decide_eq_true_eq, q_div, q_rm, q_sub, q_m1, Nat.zero_add, Nat.add_zero, hwh.1, hwh.2, c1]
      have hcm2 : wI (nS w2 100 36 (nI k)) 80 66 = nI 0 := by rw [rd_nSa (by decide), fr_rd hf (by decide)]; exact hcm1
      have hoc := gOk_ch2 ho c1
      refine m_worstAll hM2.1 hM2.2 hoc (rOk_g rfl hk) hcm2 (fun w3 hf3 _ => ?_)
      have eW : gWall (mUp g 0 8 k) r (gCh (mUp g 0 8 k)) (gMi (mUp g 0 8 k)) 0 99 = gWall g r k (gMi g) 0 99 := (gAg_ch g k).wall r k (gMi g) 0 99
      rw [eW]
      have hf4 : fr ([103, 104, 105, 106, 107], [(100, 36), (80, 70)]) w1 w3 := fr_then (fr_nS hf rfl) hf3 (by decide)
      have hj4 : wJ w3 100 36 = wJ w1 100 36 := by rw [fr_rdJ hf3 rfl, rd_nS_J]; exact hj
      have e0 : bst (fun c => gWall g r c (gMi g) 0 99) (k + 1) = if oLt (gWall g r k (gMi g) 0 99) (bst (fun c => gWall g r c (gMi g) 0 99) k).2 = true then (k, gWall g r k (gMi g) 0 99) else bst (fun c => gWall g r c (gMi g) 0 99) k := rfl
      by_cases ck : k = 0
      · subst ck
        have e1 := bst_one (fun c => gWall g r c (gMi g) 0 99)
        simp only [reduceIte]
        refine ih (n - 1) _ (by omega) ⟨0 + 1, w3, by omega, ?_, hf4, hj4⟩
        rw [if_neg (by omega), if_neg (by omega), e1]
      · have hlk2 : (bst (fun c => gWall g r c (gMi g) 0 99) k).1 < 100 := by
          have := bst_lt (f := fun c => gWall g r c (gMi g) 0 99) (k - 1)
          rw [show k - 1 + 1 = k by omega] at this
          omega
        have e9 := eN_oLt (hfB k) (bst_B (f := fun c => gWall g r c (gMi g) 0 99) hfB k)
        simp (disch := first | omega | (simp only [fIn, fR, fC, Nat.reduceEqDiff, decide_false, decide_true, Bool.false_or, Bool.or_false, Bool.false_and, Bool.and_false, Bool.or_self, Bool.true_and, Bool.true_or, Bool.and_true, Bool.or_true, Bool.and_self]; done) | fail) only [ck, reduceIte, q_neq, e9]
        by_cases c2 : oLt (gWall g r k (gMi g) 0 99) (bst (fun c => gWall g r c (gMi g) 0 99) k).2 = true
        · rw [if_pos c2] at e0 ⊢
          refine ih (n - 1) _ (by omega) ⟨k + 1, w3, by omega, ?_, hf4, hj4⟩
          rw [if_neg (by omega), if_neg (by omega), e0]
        · rw [if_neg c2] at e0 ⊢
          refine ih (n - 1) _ (by omega) ⟨k + 1, w3, by omega, ?_, hf4, hj4⟩
          rw [if_neg (by omega), if_neg (by omega), e0]
    · have e : k = gW g * gH g := by omega
      have k0 : ¬ k = 0 := by omega
      have fin : fr pQ w1 (nS w2 100 36 (nI (gCh g))) := by
        have h5 : fr ([103, 104, 105, 106, 107], [(100, 36), (80, 70)]) w1 (nS w2 100 36 (nI (gCh g))) := fr_nS hf rfl
        exact fr_up (fr_backC (R := [103, 104, 105, 106, 107]) (c := (100, 36)) (K := [(80, 70)]) h5 (rd_nS.trans (rM_ch hM1).symm) ((rd_nS_J).trans hj)) (by decide)
      have h80 : wI (nS w2 100 36 (nI (gCh g))) 80 0 = nI 0 := by rw [rd_nSa (by decide), fr_rd hf (by decide)]; exact h8
      simp (disch := first | omega | (simp only [fIn, fR, fC, Nat.reduceEqDiff, decide_false, decide_true, Bool.false_or, Bool.or_false, Bool.false_and, Bool.and_false, Bool.or_self, Bool.true_and, Bool.true_or, Bool.and_true, Bool.or_true, Bool.and_self]; done) | fail) only [hP_some, hP_let, hP_gd, hP_B, hP_if, reduceIte, q_lit, nI_add, pk_mul, q_lt, q_le, q_eq, q_cl, q_g, Bool.not_eq_true', decide_eq_false_iff_not, decide_eq_true_eq, q_div, q_rm, q_sub, q_m1, Nat.zero_add, Nat.add_zero, hwh.1, hwh.2, c1, k0]
      by_cases c0 : b = 0
      · simp only [c0, reduceIte]
        rw [e]
        exact ⟨rfl, fin, h80⟩
      · simp only [c0, reduceIte]
        rw [e]
        exact m_shown hbB ⟨rfl, fin, h80⟩
