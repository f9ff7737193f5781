/-! ===== OPERATIONS: week, the class ===== -/
section WKC
variable {g : gS} {r : gR} {w : mW}
def rWk (w : mW) (x : Int32 × Nat × Nat × Nat) : Prop := wI w 63 3 = x.1 ∧ wI w 63 0 = nI x.2.1 ∧ wI w 63 1 = nI x.2.2.1 ∧ wI w 63 2 = nI x.2.2.2
theorem wkC_c {la : Nat} {o : Option Nat} (hla : la ≤ 300) (ho : oB o) : nMin (eC o) (nI la) = nI (wkC la o) := by
  have h := eC_lt ho
  unfold eC wkC
  rw [q_min h (by omega)]
  congr 1
  cases o with
  | none => show min 2147483647 la = min la 1000000; omega
  | some x => show min x la = min la x; omega
theorem c_wnote {o : Option Nat} {s : Int32} {a b c : Nat} {Q : Unit → mW → Prop} (ho : gOk g) (hB : oB o) (h : rWk w (s, a, b, c)) (ha : a < 100000) (hb : b < 100000) (hc : c ≤ 300) (hq : ∀ w', fr ([], [(63, 0), (63, 1), (63, 2)]) w w' → rWk w' (s, a + wkC (gLa g) o, b + (if oLate (gLa g) o = true then 1 else 0), max c (wkC (gLa g) o)) → Q () w') : hP (f122_63 (eC o) (nI (gLa g)) w) Q := by
  have hla := gOk_la ho
  obtain ⟨h3, h0, h1, h2⟩ := h
  have hw : wkC (gLa g) o ≤ 300 := by unfold wkC; omega
  have e9 : (nI (gLa g) < eC o) = (oLate (gLa g) o = true) := by
    have hb := eC_lt hB
    unfold eC
    rw [q_lt (by omega) hb]
    exact oLate_N (by omega)
  have J : ∀ w1, fr ([], [(63, 0), (63, 1), (63, 2)]) w w1 → wI w1 63 0 = nI a → wI w1 63 2 = nI c → wI w1 63 3 = s → wI w1 63 1 = nI (b + (if oLate (gLa g) o = true then 1 else 0)) → hP (f122_63_j15 (eC o) (nI (gLa g)) w1) Q := by
    intro w1 hf k0 k2 k3 k1
    unfold f122_63_j15
    rw [hP_let, wkC_c (by omega) hB, hP_let, hP_let, hP_some, k0, nI_add, rd_nSj (by decide), k2, q_max (by omega) (by omega)]
    refine hq _ (fr_nS (fr_nS hf rfl) rfl) ⟨?_, ?_, ?_, ?_⟩
    · rw [rd_nSj (by decide), rd_nSj (by decide)]; exact k3
    · rw [rd_nSj (by decide), rd_nS]
    · rw [rd_nSj (by decide), rd_nSj (by decide)]; exact k1
    · exact rd_nS
  unfold f122_63
  by_cases c2 : oLate (gLa g) o = true
  · rw [if_pos (by rw [e9]; exact c2), hP_let]
    refine J _ (fr_nS fr_refl rfl) ((rd_nSj (by decide)).trans h0) ((rd_nSj (by decide)).trans h2) ((rd_nSj (by decide)).trans h3) ?_
    rw [rd_nS, if_pos c2, h1, q_lit, nI_add]
  · rw [if_neg (by rw [e9]; exact c2)]
    refine J w fr_refl h0 h2 h3 ?_
    rw [if_neg c2]; exact h1
abbrev pWC : fP := ([33, 50, 43, 44, 45, 53, 65, 66, 67, 68, 69, 70, 71, 72, 73, 74, 75, 76, 77], [(42, 2), (63, 0), (63, 1), (63, 2), (63, 3)])
noncomputable def wkV (g : gS) (r : gR) (s : Int32) (tm : Nat) : Int32 × Nat × Nat × Nat := if wSt g r (gSw g) = 0 then (s, 0, 0, 0) else wkR g r s tm
theorem c_week {tm : Nat} {sd : Int32} {Q : Unit → mW → Prop} (hr : rC g w) (hR : rCr r g w) (ho : gOk g) (hk : rOk r g) (ht : tm ≤ 100) (hq : ∀ w', fr pWC w w' → rWk w' (wkV g r sd tm) → Q () w') : hP (f119_63_23 sd (nI tm) w) Q := by
  have hsw := gOk_sw ho
  have hn := gOk_n ho
  have hT := gRnd_T ho
  have hla := gOk_la ho
  have hW := wSt_le g r (gSw g)
  unfold f119_63_23
  simp only [hP_let, hP_B]
  generalize hw1 : nS (nS (nS (nS w 63 0 0) 63 1 0) 63 2 0) 63 3 sd = w1
  have f1 : fr pWC w w1 := by rw [← hw1]; exact fr_nS (fr_nS (fr_nS (fr_nS fr_refl rfl) rfl) rfl) rfl
  have k1 : rWk w1 (sd, 0, 0, 0) := by
    rw [← hw1]
    refine ⟨rd_nS, ?_, ?_, ?_⟩
    · rw [rd_nSj (by decide), rd_nSj (by decide), rd_nSj (by decide), rd_nS]; rfl
    · rw [rd_nSj (by decide), rd_nSj (by decide), rd_nS]; rfl
    · rw [rd_nSj (by decide), rd_nS]; rfl
  have hr1 := rC_fr (by decide) f1 hr
  refine c_rounds hr1 ho ?_
  rw [rC_sw hr1]
  have keepK : ∀ {p : fP} {u u' : mW} {x : Int32 × Nat × Nat × Nat}, rWk u x → fr p u u' → fOff [] [(63, 0), (63, 1), (63, 2), (63, 3)] p = true → rWk u' x := by
    intro p u u' x h hf hp
    obtain ⟨a1, a2, a3, a4⟩ := h
    exact ⟨(fr_rd hf (fOff_cell hp (a := 63) (j := 3) (by decide))).trans a1, (fr_rd hf (fOff_cell hp (a := 63) (j := 0) (by decide))).trans a2, (fr_rd hf (fOff_cell hp (a := 63) (j := 1) (by decide))).trans a3, (fr_rd hf (fOff_cell hp (a := 63) (j := 2) (by decide))).trans a4⟩
  refine hP_loopF (fun n s => ∃ k w2, k + n = gSw g ∧ s = (nI (wSt g r k), nI k, w2) ∧ fr pWC w w2 ∧ rWk w2 (sd, 0, 0, 0) ∧ (∀ j, j < k → wI w2 77 j = nI (gTr g r (gCh g) j)) ∧ ∀ j, j < k → ∀ s, s < gRnd g (gLk g) → wI w2 (65 + j) s = eC (gDl g r (g 5 j) s)) (gSw g) (by omega) ⟨0, w1, by omega, rfl, f1, k1, fun j hj => absurd hj (Nat.not_lt_zero _), fun j hj => absurd hj (Nat.not_lt_zero _)⟩ ?_
  rintro n s rec ⟨k, w2, hkn, rfl, f2, k2, h77, hD⟩ ih
  have hr2 := rC_fr (by decide) f2 hr
  simp only [f119_63_23_b41]
  by_cases c1 : k < gSw g
  · have hat := gOk_at ho k c1
    rw [if_pos (by rw [q_lt (by omega) (by omega)]; exact c1), hP_B]
    refine c_weight hr2 (rCr_fr (by decide) f2 hR) ho hk c1 (fun w3 f3 => ?_)
    have f13 : fr pWC w w3 := fr_then f2 f3 (by decide)
    have f4 : fr ([77], []) w3 (nS w3 77 k (nI (gTr g r (gCh g) k))) := fr_nS fr_refl rfl
    have f14 : fr pWC w (nS w3 77 k (nI (gTr g r (gCh g) k))) := fr_then f13 f4 (by decide)
    have hr4 := rC_fr (by decide) f14 hr
    simp (disch := first | omega | (simp only [fIn, fR, fC, Nat.reduceEqDiff, decide_false, decide_true, Bool.false_or, Bool.or_false, Bool.false_and, Bool.and_false, Bool.or_self, Bool.true_and, Bool.true_or, Bool.and_true, Bool.or_true, Bool.and_self]; done) | fail) only [hP_gd, hP_let, hP_B, q_lit, nI_add, pk_mul, q_lt, q_le, q_eq, q_cl, q_g, Bool.not_eq_true', decide_eq_false_iff_not, decide_eq_true_eq, q_div, q_rm, q_sub, q_m1, Nat.zero_add, Nat.add_zero, rd_nS, rC_at hr4]
    refine ⟨by omega, by omega, by omega, by omega, ?_⟩
    refine c_takeD hr4 (rCr_fr (by decide) f14 hR) ho hk (by omega) (.inr ⟨by omega, by omega⟩) (fun w5 f5 o5 d5 => ?_)
    refine ih (n - 1) _ (by omega) ⟨k + 1, w5, by omega, rfl, fr_then f14 f5 (by decide), keepK (keepK (keepK k2 f3 (by decide)) f4 (by decide)) f5 (by decide), fun j hj => ?_, fun j hj s hs => ?_⟩
    · rw [fr_rd f5 rfl]
      by_cases e : j = k
      · rw [e, rd_nS]
      · rw [rd_nSj e, fr_rd f3 rfl]; exact h77 j (by omega)
    · by_cases e : j = k
      · rw [e]; exact d5 s hs
      · rw [o5 (65 + j) s (by omega) (by omega) (by omega), rd_nSa (by omega), fr_rd f3 (by simp [fIn, fR, fC]; omega)]
        exact hD j (by omega) s hs
  · have e : k = gSw g := by omega
    subst e
    rw [if_neg (by rw [q_lt (by omega) (by omega)]; exact c1)]
    by_cases c2 : wSt g r (gSw g) = 0
    · rw [if_pos (by rw [c2]; rfl), hP_some]
      refine hq w2 f2 ?_
      unfold wkV
      rw [if_pos c2]
      exact k2
    · rw [if_neg (by rw [q_lit, q_eq (by omega) (by omega)]; exact c2)]
      have hqv : ∀ w', fr pWC w w' → rWk w' (wkR g r sd tm) → Q () w' := by
        intro w' a b
        refine hq w' a ?_
        unfold wkV
        rw [if_neg c2]
        exact b
      refine hP_loopF (fun n s => ∃ k w3, k + n = tm ∧ s = (nI k, w3) ∧ fr pWC w w3 ∧ rWk w3 (wkR g r sd k) ∧ (∀ j, j < gSw g → wI w3 77 j = nI (gTr g r (gCh g) j)) ∧ ∀ j, j < gSw g → ∀ s, s < gRnd g (gLk g) → wI w3 (65 + j) s = eC (gDl g r (g 5 j) s)) tm (by omega) ⟨0, w2, by omega, rfl, f2, k2, h77, hD⟩ ?_
      rintro n s rec2 ⟨k, w3, hkn2, rfl, f3, k3, h773, hD3⟩ ih2
      have hr3 := rC_fr (by decide) f3 hr
      simp only [f119_63_23_b109]
      by_cases c3 : k < tm
      · obtain ⟨b1, b2, b3⟩ := wkR_b (r := r) ho sd k
        have hpick := Nat.mod_lt (dr15 (lcg (wI w3 63 3))) (show 0 < wSt g r (gSw g) by omega)
        rw [if_pos (by rw [q_lt (by omega) (by omega)]; exact c3), hP_B]
        refine c_draw (by omega) (by omega) ?_
        rw [hP_B]
        have f4 : fr ([], [(63, 3)]) w3 (nS w3 63 3 (lcg (wI w3 63 3))) := fr_nS fr_refl rfl
        have f14 : fr pWC w (nS w3 63 3 (lcg (wI w3 63 3))) := fr_then f3 f4 (by decide)
        have hr4 := rC_fr (by decide) f14 hr
        refine c_whoIs (g := g) (r := r) (fun j hj => (fr_rd f4 rfl).trans (h773 j hj)) hsw (by omega) ?_
        have esd : wI w3 63 3 = (wkR g r sd k).1 := k3.1
        rw [esd] at hpick ⊢
        rw [esd] at f4 f14 hr4
        have hwho := whoL_lt (g := g) (r := r) (gSw g) 0 (dr15 (lcg (wkR g r sd k).1) % wSt g r (gSw g)) (by rw [Nat.zero_add]; show _ + 0 < _; omega)
        have k4 : rWk (nS w3 63 3 (lcg (wkR g r sd k).1)) (lcg (wkR g r sd k).1, (wkR g r sd k).2) := ⟨rd_nS, (rd_nSj (by decide)).trans k3.2.1, (rd_nSj (by decide)).trans k3.2.2.1, (rd_nSj (by decide)).trans k3.2.2.2⟩
        by_cases c4 : gRnd g (gLk g) = 0
        · rw [if_pos (by rw [c4]; rfl), hP_B, rC_la hr4]
          refine c_wnote (g := g) (o := none) ho (fun x hx => by cases hx) k4 (Nat.lt_of_le_of_lt b1 (by omega)) (Nat.lt_of_le_of_lt b2 (by omega)) b3 (fun w6 f6 k6 => ?_)
          have eD : wkD g r (wkR g r sd k).1 = none := by unfold wkD; rw [if_pos c4]
          have eS : wkS g (wkR g r sd k).1 = lcg (wkR g r sd k).1 := by unfold wkS; rw [if_pos c4]
          refine ih2 (n - 1) _ (by omega) ⟨k + 1, w6, by omega, by rw [← nI_add]; rfl, fr_then f14 f6 (by decide), ?_, fun j hj => ?_, fun j hj s hs => ?_⟩
          · show rWk w6 (wkS g (wkR g r sd k).1, _, _, _)
            rw [eS, eD]
            exact k6
          · rw [fr_rd f6 rfl, fr_rd f4 rfl]; exact h773 j hj
          · omega
        · have hsec := Nat.mod_lt (dr15 (lcg (lcg (wkR g r sd k).1))) (show 0 < gRnd g (gLk g) by omega)
          rw [if_neg (by rw [q_lit, q_eq (by omega) (by omega)]; exact c4), hP_gd, hP_B]
          refine ⟨by rw [q_g (by omega)]; omega, ?_⟩
          refine c_draw (by omega) (by omega) ?_
          rw [rd_nS, hP_gd, hP_B, q_cl (by omega), q_cl (by omega)]
          refine ⟨by rw [q_g (by omega)]; omega, ?_⟩
          have f5 : fr ([], [(63, 3)]) (nS w3 63 3 (lcg (wkR g r sd k).1)) (nS (nS w3 63 3 (lcg (wkR g r sd k).1)) 63 3 (lcg (lcg (wkR g r sd k).1))) := fr_nS fr_refl rfl
          have f15 := fr_then f14 f5 (by decide)
          have hr5 := rC_fr (by decide) f15 hr
          have f35 : fr ([], [(63, 3)]) w3 (nS (nS w3 63 3 (lcg (wkR g r sd k).1)) 63 3 (lcg (lcg (wkR g r sd k).1))) := fr_then f4 f5 (by decide)
          have hval : wI (nS (nS w3 63 3 (lcg (wkR g r sd k).1)) 63 3 (lcg (lcg (wkR g r sd k).1))) (65 + whoL g r (gSw g) 0 (dr15 (lcg (wkR g r sd k).1) % wSt g r (gSw g))) (dr15 (lcg (lcg (wkR g r sd k).1)) % gRnd g (gLk g)) = eC (wkD g r (wkR g r sd k).1) := by
            rw [rd_nSa (by omega), rd_nSa (by omega), hD3 _ (by omega) _ hsec]
            unfold wkD wkW
            rw [if_neg c4]
          rw [hval, rC_la hr5]
          have hdB : oB (wkD g r (wkR g r sd k).1) := by
            unfold wkD
            rw [if_neg c4]
            exact gDl_B ho r _ _
          have k5 : rWk (nS (nS w3 63 3 (lcg (wkR g r sd k).1)) 63 3 (lcg (lcg (wkR g r sd k).1))) (lcg (lcg (wkR g r sd k).1), (wkR g r sd k).2) := ⟨rd_nS, (rd_nSj (by decide)).trans k4.2.1, (rd_nSj (by decide)).trans k4.2.2.1, (rd_nSj (by decide)).trans k4.2.2.2⟩
          refine c_wnote (g := g) ho hdB k5 (Nat.lt_of_le_of_lt b1 (by omega)) (Nat.lt_of_le_of_lt b2 (by omega)) b3 (fun w6 f6 k6 => ?_)
          have eS : wkS g (wkR g r sd k).1 = lcg (lcg (wkR g r sd k).1) := by unfold wkS; rw [if_neg c4]
          refine ih2 (n - 1) _ (by omega) ⟨k + 1, w6, by omega, by rw [← nI_add]; rfl, fr_then f15 f6 (by decide), ?_, fun j hj => ?_, fun j hj s hs => ?_⟩
          · show rWk w6 (wkS g (wkR g r sd k).1, _, _, _)
            rw [eS]
            exact k6
          · rw [fr_rd f6 rfl, fr_rd f35 rfl]; exact h773 j hj
          · rw [fr_rd f6 (by simp [fIn, fR, fC]; omega), fr_rd f35 (by simp [fIn, fR, fC]; omega)]
            exact hD3 j hj s hs
      · have e : k = tm := by omega
        rw [if_neg (by rw [q_lt (by omega) (by omega)]; exact c3), hP_some]
        subst e
        exact hqv w3 f3 k3
end WKC
