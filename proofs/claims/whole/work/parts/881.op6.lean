/-! ===== OPERATIONS: away, delay ===== -/
def gRa (g : gS) (bh aw : Nat) : Nat → List (Nat × Nat)
  | 0 => []
  | k + 1 => (gRa g bh aw k ++ (if g 7 k = 0 then [] else [(g 6 k, g 7 k)])) ++ (if k = bh then (if aw = 0 then [] else [(99, aw)]) else [])
theorem gRa_len (g : gS) (bh aw : Nat) : ∀ k, (gRa g bh aw k).length ≤ k + (if bh < k then 1 else 0)
  | 0 => by simp [gRa]
  | k + 1 => by
    have := gRa_len g bh aw k
    simp only [gRa, List.length_append]
    have h1 : (if g 7 k = 0 then ([] : List (Nat × Nat)) else [(g 6 k, g 7 k)]).length ≤ 1 := by split <;> simp
    generalize (if g 7 k = 0 then ([] : List (Nat × Nat)) else [(g 6 k, g 7 k)]).length = x at h1 ⊢
    by_cases c : k = bh
    · subst c
      rw [if_neg (by omega)] at this
      have h2 : (if aw = 0 then ([] : List (Nat × Nat)) else [(99, aw)]).length ≤ 1 := by split <;> simp
      rw [if_pos rfl, if_pos (show k < k + 1 by omega)]
      omega
    · rw [if_neg c, List.length_nil]
      by_cases c2 : bh < k
      · rw [if_pos c2] at this
        rw [if_pos (show bh < k + 1 by omega)]
        omega
      · rw [if_neg c2] at this
        rw [if_neg (show ¬ bh < k + 1 by omega)]
        omega
theorem gRa_ok {g : gS} (ho : gOk g) {bh aw : Nat} (haw : aw ≤ 99) : ∀ k, k ≤ gLk g → lkOk (gRa g bh aw k)
  | 0, _ => ⟨by simp [gRa], fun p hp => by simp [gRa] at hp⟩
  | k + 1, h => by
    have ih := gRa_ok ho haw k (by omega) (bh := bh)
    have h1 := gRa_len g bh aw (k + 1)
    have h2 := gOk_lk ho
    refine ⟨by split at h1 <;> omega, fun p hp => ?_⟩
    simp only [gRa, List.mem_append] at hp
    rcases hp with (hp | hp) | hp
    · exact ih.2 p hp
    · split at hp
      · cases hp
      · have e := List.mem_singleton.mp hp
        subst e
        have h3 := gOk_lat ho k (by omega)
        have h4 := gOk_las ho k (by omega)
        have h5 := gOk_n ho
        exact ⟨.inl (by show g 6 k < 40; omega), by show 1 ≤ g 7 k; omega, by show g 7 k ≤ 99; omega⟩
    · split at hp
      · split at hp
        · cases hp
        · have e := List.mem_singleton.mp hp
          subst e
          exact ⟨.inr rfl, by show 1 ≤ aw; omega, haw⟩
      · cases hp
theorem gRa_lay {g : gS} (ho : gOk g) (bh aw : Nat) : ∀ k, exL (gRa g bh aw k) = gLay g 0 (gW g) bh aw k
  | 0 => rfl
  | k + 1 => by
    have hw := gOk_wd ho
    have ih := gRa_lay ho bh aw k
    have hm := Nat.mod_lt (g 6 k) (show 0 < gW g by omega)
    simp only [gRa, gLay, exL_app, ih, Nat.zero_le, hm, and_self, reduceIte, List.append_assoc]
    congr 1
    congr 1
    · by_cases h : g 7 k = 0
      · simp [h, exL]
      · simp [h, exL]
    · by_cases h : k = bh
      · by_cases h2 : aw = 0
        · simp [h, h2, exL]
        · simp [h, h2, exL]
      · simp [h, exL]
theorem layA_ok {g : gS} (ho : gOk g) {bh aw : Nat} (haw : aw ≤ 99) : lOk (gLay g 0 (gW g) bh aw (gLk g)) := by
  have h := gLay_len ho 0 (gW g) bh aw (gLk g) (Nat.le_refl _)
  have h2 := gOk_lk ho
  refine ⟨?_, gLay_mem ho _ _ _ _ _ (Nat.le_refl _)⟩
  split at h <;> omega
theorem wallA_eq {g : gS} (ho : gOk g) (N : Nat → Nat) (E : List Nat) : gMx N E (gSp g (gSw g)) = gWin (gIn g 0 (gW g)) N E (gW g * gH g) := by
  have hw := gOk_wd ho
  unfold gMx
  refine gWin_spots (fun c => ?_)
  have hm := Nat.mod_lt c (show 0 < gW g by omega)
  unfold gIn
  simp only [Bool.and_eq_true, decide_eq_true_eq]
  constructor
  · intro h
    exact ⟨gSp_lt ho _ (Nat.le_refl _) c h, (gSp_mem g c _).mp h, Nat.zero_le _, hm⟩
  · intro h
    exact (gSp_mem g c _).mpr h.2.1
/-- the greatest up to 99 that isn't late, counted down -/
theorem down_ex (P : Nat → Prop) (N : Nat) : ∃ v, v ≤ N ∧ (∀ k, v ≤ k → k < N → P k) ∧ (0 < v → ¬ P (v - 1)) := by
  induction N with
  | zero => exact ⟨0, Nat.le_refl _, fun k _ h => absurd h (Nat.not_lt_zero _), fun h => absurd h (Nat.lt_irrefl _)⟩
  | succ n ih =>
    by_cases h : P n
    · obtain ⟨v, h1, h2, h3⟩ := ih
      refine ⟨v, by omega, fun k a b => ?_, h3⟩
      by_cases e : k = n
      · rw [e]; exact h
      · exact h2 k a (by omega)
    · exact ⟨n + 1, Nat.le_refl _, fun k a b => by omega, fun _ => h⟩
theorem op_away (x1 : Int32) : opB Inv (f313_0_116 x1) (f262_80 x1) := by
  refine opB_g1 (f := f145_0 x1) (body' := fun w3 => mLoop (f262_80_b18 x1) nF (99, w3)) (fun w => rfl) (fun w => rfl) (fun w => rfl) (fun w g r hp => ?_)
  obtain ⟨hM, hMr, hC, hCr, ho, hk, hl1, hcm, -⟩ := hp
  have hn := gOk_n ho
  have hwd := gOk_wd ho
  have hsw := gOk_sw ho
  have hlk := gOk_lk ho
  have hch := gOk_ch ho
  have hmi := gOk_mi ho
  have hla := gOk_la ho
  refine ⟨inR x1 (gLk g), gdC_look hC ho, fun w1 h1 h2 => gdM_look h1 ho h2, ?_⟩
  rintro ⟨b, hb, rfl⟩
  have hBx : ∀ x, x ≤ 99 → oB (gMx (gN1 g r 0) (gLay g 0 (gW g) b x (gLk g)) (gSp g (gSw g))) := by
    intro x hx
    rw [wallA_eq ho]
    exact gWin_N (layA_ok ho hx) _
  obtain ⟨v, hv, hup, hlo⟩ := down_ex (fun x => oLate (gLa g) (gMx (gN1 g r 0) (gLay g 0 (gW g) b x (gLk g)) (gSp g (gSw g))) = true) 100
  refine ⟨dn9 v, ?_, fun w1 hx => ?_⟩
  · unfold f111_23
    simp (disch := first | omega | (simp only [fIn, fR, fC, Nat.reduceEqDiff, decide_false, decide_true, Bool.false_or, Bool.or_false, Bool.false_and, Bool.and_false, Bool.or_self, Bool.true_and, Bool.true_or, Bool.and_true, Bool.or_true, Bool.and_self]; done) | fail) only [hP_some, hP_let, hP_gd, hP_B, hP_if, reduceIte, q_lit, nI_add, pk_mul, q_lt, q_le, q_eq, q_cl, q_g, Bool.not_eq_true', decide_eq_false_iff_not, decide_eq_true_eq, q_div, q_rm, q_sub, q_m1, Nat.zero_add, Nat.add_zero, rC_ch hC, rC_mi hC]
    refine c_gather (ex := 0) hC hCr ho hk (by omega) (by omega) (by omega) (fun w1 hf1 hs1 => ?_)
    have e99 : (nI 99 : Int32) = dn9 100 := rfl
    rw [e99]
    refine hP_loopF (fun n s => ∃ w2, n ≤ 100 ∧ v ≤ n ∧ s = (dn9 n, w2) ∧ fr pA w w2 ∧ rSp w2 (gSp g (gSw g)) (gN1 g r 0)) 100 (by omega) ⟨w1, Nat.le_refl _, hv, rfl, fr_up hf1 (by decide), hs1⟩ ?_
    rintro n s rec ⟨w2, hn1, hvn, rfl, hf2, hs2⟩ ih
    simp only [f111_23_b22]
    cases n with
    | zero =>
      have e : v = 0 := by omega
      subst e
      simp only [dn9, reduceIte, q_lit, q_ng0, hP_some, hP_if]
      exact ⟨trivial, fr_up hf2 (by decide)⟩
    | succ x =>
      have hd : dn9 (x + 1) = nI x := by unfold dn9; rw [if_neg (by omega)]; rfl
      rw [hd]
      simp (disch := first | omega | (simp only [fIn, fR, fC, Nat.reduceEqDiff, decide_false, decide_true, Bool.false_or, Bool.or_false, Bool.false_and, Bool.and_false, Bool.or_self, Bool.true_and, Bool.true_or, Bool.and_true, Bool.or_true, Bool.and_self]; done) | fail) only [hP_some, hP_let, hP_gd, hP_B, hP_if, reduceIte, q_lit, nI_add, pk_mul, q_lt, q_le, q_eq, q_cl, q_g, Bool.not_eq_true', decide_eq_false_iff_not, decide_eq_true_eq, q_div, q_rm, q_sub, q_m1, Nat.zero_add, Nat.add_zero, Nat.not_lt_zero]
      refine c_empty42 (fun w3 hf3 hl3 => ?_)
      refine hP_loopF (fun m s => ∃ k w4, k + m = gLk g ∧ s = (nI k, w4) ∧ fr pA w w4 ∧ rSp w4 (gSp g (gSw g)) (gN1 g r 0) ∧ rRd 42 43 44 w4 (gRa g b x k)) (gLk g) (by omega) ⟨0, w3, by omega, rfl, fr_then hf2 hf3 (by decide), rSp_fr hs2 hf3 rfl (fun _ => rfl) (fun _ => rfl), hl3⟩ ?_
      rintro m s rec2 ⟨k, w4, hkm, rfl, hf4, hs4, hl4⟩ ih2
      have hC4 := rC_fr (by decide) hf4 hC
      simp only [f111_23_b35]
      by_cases c1 : k < gLk g
      · have h2 := gOk_las ho k c1
        have h3 := gOk_lat ho k c1
        have hlen := gRa_len g b x k
        simp (disch := first | omega | (simp only [fIn, fR, fC, Nat.reduceEqDiff, decide_false, decide_true, Bool.false_or, Bool.or_false, Bool.false_and, Bool.and_false, Bool.or_self, Bool.true_and, Bool.true_or, Bool.and_true, Bool.or_true, Bool.and_self]; done) | fail) only [hP_some, hP_let, hP_gd, hP_B, hP_if, reduceIte, q_lit, nI_add, pk_mul, q_lt, q_le, q_eq, q_cl, q_g, Bool.not_eq_true', decide_eq_false_iff_not, decide_eq_true_eq, q_div, q_rm, q_sub, q_m1, Nat.zero_add, Nat.add_zero, rC_lk hC4, rC_lat hC4, rC_las hC4, c1]
        refine ⟨by omega, by omega, ?_⟩
        have e1 : nI (g 6 k) = cE (g 6 k) := (if_neg (by omega)).symm
        rw [e1]
        refine c_add42 hl4 (by split at hlen <;> omega) (by omega) (fun w5 hf5 hl5 => ?_)
        have hs5 := rSp_fr hs4 hf5 rfl (fun _ => rfl) (fun _ => rfl)
        by_cases c2 : k = b
        · rw [if_pos c2]
          have e2 : -nI 1 = cE 99 := (if_pos rfl).symm
          rw [e2]
          have hlen2 : (gRa g b x k ++ (if g 7 k = 0 then [] else [(g 6 k, g 7 k)])).length < 13 := by
            rw [List.length_append]
            rw [if_neg (by omega)] at hlen
            have h1 : (if g 7 k = 0 then ([] : List (Nat × Nat)) else [(g 6 k, g 7 k)]).length ≤ 1 := by split <;> simp
            omega
          refine c_add42 hl5 hlen2 (by omega) (fun w6 hf6 hl6 => ?_)
          refine ih2 (m - 1) _ (by omega) ⟨k + 1, w6, by omega, rfl, fr_then (fr_then hf4 hf5 (by decide)) hf6 (by decide), rSp_fr hs5 hf6 rfl (fun _ => rfl) (fun _ => rfl), ?_⟩
          subst c2
          simp only [gRa, reduceIte]
          exact hl6
        · rw [if_neg c2]
          refine ih2 (m - 1) _ (by omega) ⟨k + 1, w5, by omega, rfl, fr_then hf4 hf5 (by decide), hs5, ?_⟩
          simp only [gRa, c2, reduceIte, List.append_nil]
          exact hl5
      · have e : k = gLk g := by omega
        simp (disch := first | omega | (simp only [fIn, fR, fC, Nat.reduceEqDiff, decide_false, decide_true, Bool.false_or, Bool.or_false, Bool.false_and, Bool.and_false, Bool.or_self, Bool.true_and, Bool.true_or, Bool.and_true, Bool.or_true, Bool.and_self]; done) | fail) only [hP_some, hP_let, hP_gd, hP_B, hP_if, reduceIte, q_lit, nI_add, pk_mul, q_lt, q_le, q_eq, q_cl, q_g, Bool.not_eq_true', decide_eq_false_iff_not, decide_eq_true_eq, q_div, q_rm, q_sub, q_m1, Nat.zero_add, Nat.add_zero, rC_lk hC4, c1]
        rw [e] at hl4
        have hlenS := gSp_len g (gSw g)
        refine c_worstR (gRa_ok ho (by omega) _ (Nat.le_refl _)) (by rw [gRa_lay ho]; exact (layA_ok ho (by omega)).1) hl4 hs4 (by omega) (fun c hc => by have := gSp_lt ho _ (Nat.le_refl _) c hc; omega) (fun c => gNd_b g r _ _ _ c) (fun w5 hf5 => ?_)
        rw [gRa_lay ho]
        have hC5 := rC_fr (by decide) hf5 hC4
        have hb9 := eC_lt (hBx x (by omega))
        unfold eC
        simp (disch := first | omega | (simp only [fIn, fR, fC, Nat.reduceEqDiff, decide_false, decide_true, Bool.false_or, Bool.or_false, Bool.false_and, Bool.and_false, Bool.or_self, Bool.true_and, Bool.true_or, Bool.and_true, Bool.or_true, Bool.and_self]; done) | fail) only [hP_some, hP_let, hP_gd, hP_B, hP_if, reduceIte, q_lit, nI_add, pk_mul, q_lt, q_le, q_eq, q_cl, q_g, Bool.not_eq_true', decide_eq_false_iff_not, decide_eq_true_eq, q_div, q_rm, q_sub, q_m1, Nat.zero_add, Nat.add_zero, rC_la hC5, oLate_N (show gLa g < 2147483647 by omega)]
        by_cases c2 : oLate (gLa g) (gMx (gN1 g r 0) (gLay g 0 (gW g) b x (gLk g)) (gSp g (gSw g))) = true
        · rw [if_pos c2]
          have e2 : ¬ v = x + 1 := fun e2 => by
            have := hlo (by omega)
            rw [e2] at this
            exact this c2
          refine ih x _ (by omega) ⟨w5, by omega, by omega, ?_, fr_then hf4 hf5 (by decide), rSp_fr hs4 hf5 rfl (fun _ => rfl) (fun _ => rfl)⟩
          rw [dn9_s]
        · rw [if_neg c2]
          have e2 : v = x + 1 := by
            apply Classical.byContradiction
            intro h9
            exact c2 (hup x (by omega) (by omega))
          rw [e2, hd]
          exact ⟨rfl, fr_up (fr_then hf4 hf5 (by decide)) (by decide)⟩
  · obtain ⟨hM1, hMr1, hcm1, h8⟩ := hx
    have e99 : (99 : Int32) = dn9 100 := rfl
    rw [e99]
    refine hP_loopF (fun n s => ∃ w2, n ≤ 100 ∧ v ≤ n ∧ s = (dn9 n, w2) ∧ fr pMq w1 w2) 100 (by omega) ⟨w1, Nat.le_refl _, hv, rfl, fr_refl⟩ ?_
    rintro n s rec ⟨w2, hn1, hvn, rfl, hf2⟩ ih
    have hM2 := rM_fr (g := g) (by decide) hf2 hM1
    simp only [f262_80_b18]
    cases n with
    | zero =>
      have e : v = 0 := by omega
      subst e
      simp only [dn9, reduceIte, q_lit, q_ng0, hP_some, hP_if]
      exact ⟨trivial, fr_up hf2 (by decide), (fr_rd hf2 rfl).trans h8⟩
    | succ x =>
      have hd : dn9 (x + 1) = nI x := by unfold dn9; rw [if_neg (by omega)]; rfl
      rw [hd]
      simp (disch := first | omega | (simp only [fIn, fR, fC, Nat.reduceEqDiff, decide_false, decide_true, Bool.false_or, Bool.or_false, Bool.false_and, Bool.and_false, Bool.or_self, Bool.true_and, Bool.true_or, Bool.and_true, Bool.or_true, Bool.and_self]; done) | fail) only [hP_some, hP_let, hP_gd, hP_B, hP_if, reduceIte, q_lit, nI_add, pk_mul, q_lt, q_le, q_eq, q_cl, q_g, Bool.not_eq_true', decide_eq_false_iff_not, decide_eq_true_eq, q_div, q_rm, q_sub, q_m1, Nat.zero_add, Nat.add_zero, Nat.not_lt_zero, rM_wd hM2]
      refine m_lays (fm := 0) (bh := b) hM2 ho (by omega) (by omega) (by omega) (fun k hk => q_eq (by omega) (by omega)) (fun w3 hf3 hl3 => ?_)
      have hM3 := rM_fr (g := g) (by decide) hf3 hM2
      rw [rM_wd hM3]
      refine m_worstIn (fm := 0) (to := gW g) hM3 (rMr_fr (by decide) hf3 (rMr_fr (by decide) hf2 hMr1)) ho hk ((fr_rd hf3 rfl).trans ((fr_rd hf2 rfl).trans hcm1)) (layA_ok ho (by omega)) hl3 (by omega) (by omega) (fun w4 hf4 => ?_)
      rw [← wallA_eq ho]
      have hM4 := rM_fr (g := g) (by decide) hf4 hM3
      have hf5 : fr pMq w1 w4 := fr_then (fr_then hf2 hf3 (by decide)) hf4 (by decide)
      have hb9 := eN_lt (hBx x (by omega))
      unfold eN
      simp (disch := first | omega | (simp only [fIn, fR, fC, Nat.reduceEqDiff, decide_false, decide_true, Bool.false_or, Bool.or_false, Bool.false_and, Bool.and_false, Bool.or_self, Bool.true_and, Bool.true_or, Bool.and_true, Bool.or_true, Bool.and_self]; done) | fail) only [hP_some, hP_let, hP_gd, hP_B, hP_if, reduceIte, q_lit, nI_add, pk_mul, q_lt, q_le, q_eq, q_cl, q_g, Bool.not_eq_true', decide_eq_false_iff_not, decide_eq_true_eq, q_div, q_rm, q_sub, q_m1, Nat.zero_add, Nat.add_zero, rM_la hM4, oLate_N (show gLa g < 1000000 by omega)]
      by_cases c2 : oLate (gLa g) (gMx (gN1 g r 0) (gLay g 0 (gW g) b x (gLk g)) (gSp g (gSw g))) = true
      · rw [if_pos c2]
        have e2 : ¬ v = x + 1 := fun e2 => by
          have := hlo (by omega)
          rw [e2] at this
          exact this c2
        refine ih x _ (by omega) ⟨w4, by omega, by omega, ?_, hf5⟩
        rw [dn9_s]
      · rw [if_neg c2]
        have e2 : v = x + 1 := by
          apply Classical.byContradiction
          intro h9
          exact c2 (hup x (by omega) (by omega))
        rw [e2, hd]
        exact ⟨rfl, fr_up hf5 (by decide), (fr_rd hf5 rfl).trans h8⟩
