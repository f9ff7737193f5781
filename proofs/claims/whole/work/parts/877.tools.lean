/-! ===== chair, minutes, seconds of looks changed for a while ===== -/
theorem fr_backC {R : List Nat} {K : List (Nat × Nat)} {c : Nat × Nat} {w w' : mW} (h : fr (R, c :: K) w w') (h1 : wI w' c.1 c.2 = wI w c.1 c.2) (h2 : wJ w' c.1 c.2 = wJ w c.1 c.2) : fr (R, K) w w' := by
  have key : ∀ a j, fIn (R, K) a j = false → fIn (R, c :: K) a j = false ∨ (a = c.1 ∧ j = c.2) := by
    intro a j hp
    by_cases e : a = c.1 ∧ j = c.2
    · exact .inr e
    · left
      simp only [fIn, fC, Bool.or_eq_false_iff] at hp ⊢
      refine ⟨hp.1, ?_, hp.2⟩
      simp only [Bool.and_eq_false_iff, decide_eq_false_iff_not]
      by_cases e2 : a = c.1
      · right
        intro e3
        exact e ⟨e2, e3.symm⟩
      · left
        intro e3
        exact e2 e3.symm
  refine ⟨fun a j hp => ?_, fun a j hp => ?_, h.2.2⟩
  · rcases key a j hp with k | ⟨rfl, rfl⟩
    · exact h.1 a j k
    · exact h1
  · rcases key a j hp with k | ⟨rfl, rfl⟩
    · exact h.2.1 a j k
    · exact h2
theorem fr_backR {R : List Nat} {K : List (Nat × Nat)} {b : Nat} {w w' : mW} (h : fr (b :: R, K) w w') (h1 : ∀ j, wI w' b j = wI w b j) (h2 : ∀ j, wJ w' b j = wJ w b j) : fr (R, K) w w' := by
  have key : ∀ a j, fIn (R, K) a j = false → fIn (b :: R, K) a j = false ∨ a = b := by
    intro a j hp
    by_cases e : a = b
    · exact .inr e
    · left
      simp only [fIn, fR, Bool.or_eq_false_iff] at hp ⊢
      exact ⟨⟨decide_eq_false (fun e2 => e e2.symm), hp.1⟩, hp.2⟩
  refine ⟨fun a j hp => ?_, fun a j hp => ?_, h.2.2⟩
  · rcases key a j hp with k | rfl
    · exact h.1 a j k
    · exact h1 j
  · rcases key a j hp with k | rfl
    · exact h.2.1 a j k
    · exact h2 j
/-- alike but for chair and minutes -/
def gAg (g g' : gS) : Prop := (∀ j, j < 8 → g' 0 j = g 0 j) ∧ ∀ a, 1 ≤ a → g' a = g a
theorem gAg_ch (g : gS) (c : Nat) : gAg g (mUp g 0 8 c) := by
  refine ⟨fun j hj => ?_, fun a ha => ?_⟩
  · simp only [mUp, if_true]
    rw [if_neg (by omega)]
  · simp only [mUp]
    rw [if_neg (by omega)]
theorem gAg_mi (g : gS) (c : Nat) : gAg g (mUp g 0 9 c) := by
  refine ⟨fun j hj => ?_, fun a ha => ?_⟩
  · simp only [mUp, if_true]
    rw [if_neg (by omega)]
  · simp only [mUp]
    rw [if_neg (by omega)]
theorem gAg.cnt {g g' : gS} (h : gAg g g') (c : Nat) : ∀ n, gCnt g' c n = gCnt g c n
  | 0 => rfl
  | n + 1 => by simp only [gCnt, h.cnt c n, h.2 5 (by decide)]
theorem gAg.sp {g g' : gS} (h : gAg g g') : ∀ n, gSp g' n = gSp g n
  | 0 => rfl
  | n + 1 => by simp only [gSp, h.sp n, h.2 5 (by decide)]
theorem gAg.rl {g g' : gS} (h : gAg g g') (lf : Nat) : ∀ n, gRl g' lf n = gRl g lf n
  | 0 => rfl
  | n + 1 => by simp only [gRl, h.rl lf n, h.2 6 (by decide), h.2 7 (by decide)]
theorem gAg.far {g g' : gS} (h : gAg g g') (ch c : Nat) : gFar g' ch c = gFar g ch c := by
  unfold gFar
  have : gW g' = gW g := h.1 0 (by decide)
  rw [this]
theorem gAg.nd {g g' : gS} (h : gAg g g') (r : gR) (ch mi ex c : Nat) : gNd g' r ch mi ex c = gNd g r ch mi ex c := by
  have e : gV g' ch mi ex c = gV g ch mi ex c := by
    funext k
    have h5 : gTi g' = gTi g := h.1 5 (by decide)
    have h2 : gSw g' = gSw g := h.1 2 (by decide)
    simp only [gV, gCrd, h.far, h.2 1 (by decide), h.2 2 (by decide), h5, h2, h.cnt]
  unfold gNd
  rw [e, h.far, h.2 2 (by decide)]
theorem gAg.wall {g g' : gS} (h : gAg g g') (r : gR) (ch mi ex lf : Nat) : gWall g' r ch mi ex lf = gWall g r ch mi ex lf := by
  have e : gNd g' r ch mi ex = gNd g r ch mi ex := funext fun c => h.nd r ch mi ex c
  have h3 : gLk g' = gLk g := h.1 3 (by decide)
  have h2 : gSw g' = gSw g := h.1 2 (by decide)
  unfold gWall
  rw [e, h3, h2, h.rl, h.sp]
theorem gOk_ch2 {g : gS} (ho : gOk g) {c : Nat} (hc : c < gW g * gH g) : gOk (mUp g 0 8 c) := by
  obtain ⟨a1, a2, a3, a4, a5, a6, a7, a8, a9, a10, a11, a12, a13, a14, a15, a16, a17, a18⟩ := ho
  exact ⟨a1, a2, a3, a4, a5, a6, a7, a8, hc, a10, a11, a12, a13, a14, a15, a16, a17, a18⟩
theorem gOk_mi2 {g : gS} (ho : gOk g) {c : Nat} (hc : c ≤ 999) : gOk (mUp g 0 9 c) := by
  obtain ⟨a1, a2, a3, a4, a5, a6, a7, a8, a9, a10, a11, a12, a13, a14, a15, a16, a17, a18⟩ := ho
  exact ⟨a1, a2, a3, a4, a5, a6, a7, a8, a9, hc, a11, a12, a13, a14, a15, a16, a17, a18⟩
theorem rM_ch2 {g : gS} {w : mW} (h : rM g w) (hsw : gSw g ≤ 12) (hlk : gLk g ≤ 12) (c : Nat) : rM (mUp g 0 8 c) (nS w 100 36 (nI c)) := by
  obtain ⟨a1, a2, a3, a4, a5, a6, a7, a8, a9, a10, a11, a12, a13, a14, a15, a16, a17⟩ := h
  refine ⟨a1, a2, a3, a4, a5, a6, a7, a8, rd_nS, ?_, a11, a12, a13, a14, fun s hs => ?_, fun k hk => ?_, fun k hk => ?_⟩
  · rw [rd_nSj (by decide)]; exact a10
  · have hs : s < gSw g := hs
    rw [rd_nSj (by omega)]; exact a15 s hs
  · have hk : k < gLk g := hk
    rw [rd_nSj (by omega)]; exact a16 k hk
  · have hk : k < gLk g := hk
    rw [rd_nSj (by omega)]; exact a17 k hk
theorem rM_mi2 {g : gS} {w : mW} (h : rM g w) (hsw : gSw g ≤ 12) (hlk : gLk g ≤ 12) (c : Nat) : rM (mUp g 0 9 c) (nS w 100 37 (nI c)) := by
  obtain ⟨a1, a2, a3, a4, a5, a6, a7, a8, a9, a10, a11, a12, a13, a14, a15, a16, a17⟩ := h
  refine ⟨a1, a2, a3, a4, a5, a6, a7, a8, ?_, rd_nS, a11, a12, a13, a14, fun s hs => ?_, fun k hk => ?_, fun k hk => ?_⟩
  · rw [rd_nSj (by decide)]; exact a9
  · have hs : s < gSw g := hs
    rw [rd_nSj (by omega)]; exact a15 s hs
  · have hk : k < gLk g := hk
    rw [rd_nSj (by omega)]; exact a16 k hk
  · have hk : k < gLk g := hk
    rw [rd_nSj (by omega)]; exact a17 k hk
theorem rMr_nS {g : gS} {r : gR} {w : mW} {j : Nat} {v : Int32} (h : rMr r g w) : rMr r g (nS w 100 j v) := by
  have h86 : ∀ i, wI (nS w 100 j v) 86 i = wI w 86 i := fun i => rd_nSa (by decide)
  obtain ⟨h1, h2, h3⟩ := h
  refine ⟨rAt_cg h86 (rd_nSa (by decide)) h1, rAt_cg h86 (rd_nSa (by decide)) h2, fun i hi => ?_⟩
  obtain ⟨l, k, a1, a2, a3⟩ := h3 i hi
  exact ⟨l, k, a1, (rd_nSa (by decide)).trans a2, cdM_cg h86 l k a3⟩
theorem rMr_g {g g' : gS} {r : gR} {w : mW} (e : gGa g' = gGa g) (h : rMr r g w) : rMr r g' w := ⟨h.1, h.2.1, fun i hi => h.2.2 i (by rw [← e]; exact hi)⟩
theorem rOk_g {g g' : gS} {r : gR} (e : gGa g' = gGa g) (h : rOk r g) : rOk r g' := ⟨h.1, h.2.1, fun i l hi => h.2.2 i l (by rw [← e]; exact hi)⟩
theorem wall_B {g : gS} {r : gR} (ho : gOk g) (ch mi ex : Nat) : oB (gWall g r ch mi ex 99) := by rw [wall_eq ho]; exact gWin_N (lay_ok ho) _
/-- the class's worst with a chair, minutes, more swimmers; the round taken before -/
theorem c_worstG {g : gS} {r : gR} {w : mW} {Q : Int32 → mW → Prop} {ch mi ex lf : Nat} (hr : rC g w) (hR : rCr r g w) (ho : gOk g) (hk : rOk r g) (hch : ch < 40) (hmi : mi ≤ 999) (hex : ex ≤ 40) (hl : rRd 42 43 44 w (gRl g lf (gLk g))) (hq : ∀ w', fr pA w w' → rRd 42 43 44 w' (gRl g lf (gLk g)) → Q (eC (gWall g r ch mi ex lf)) w') : hP (f92_23 (nI ch) (nI mi) (nI ex) w) (fun _ w2 => hP (f93_23 w2) Q) := by
  refine c_gather hr hR ho hk hch hmi hex (fun w1 hf1 hs1 => ?_)
  have hl1 := rRd_fr hl hf1 rfl (fun _ => rfl) (fun _ => rfl)
  refine c_worstB (S := []) ho hl1 hs1 (fun c => gNd_b g r _ _ _ c) (fun w3 hf3 => ?_)
  exact hq w3 (fr_then (fr_up hf1 (by decide)) hf3 (by decide)) (rRd_fr hl1 hf3 rfl (fun _ => rfl) (fun _ => rfl))
/-- the first that is late -/
theorem first_ex (P : Nat → Prop) (N : Nat) : ∃ v, v ≤ N ∧ (∀ k, k < v → ¬ P k) ∧ (v < N → P v) := by
  by_cases h : ∃ k, k < N ∧ P k
  · obtain ⟨m, h1, h2⟩ := pk_least (fun c => c < N ∧ P c) h
    exact ⟨m, by omega, fun k hk hp => h2 k hk ⟨by omega, hp⟩, fun _ => h1.2⟩
  · exact ⟨N, Nat.le_refl _, fun k hk hp => h ⟨k, hk, hp⟩, fun hh => absurd hh (Nat.lt_irrefl _)⟩
theorem op_many : opA Inv f147_0 f264_80 := by
  refine opA_ask (fun w g r hp hI => ?_)
  obtain ⟨hM, hMr, hC, hCr, ho, hk, hl1, hcm, -⟩ := hp
  have hn := gOk_n ho
  have hch := gOk_ch ho
  have hmi := gOk_mi ho
  have hla := gOk_la ho
  obtain ⟨v, hv, hlow, hup⟩ := first_ex (fun x => oLate (gLa g) (gWall g r (gCh g) (gMi g) x 99) = true) 41
  refine ⟨dn9 v, ?_, fun w1 hf1 => ?_⟩
  · unfold f147_0 f113_23
    simp only [hP_B, hP_some]
    refine c_take hC ho (fun w1 hf1 hl1 => ?_)
    refine hP_loopF (fun n s => ∃ k w2, k + n = 41 ∧ k ≤ v ∧ s = (nI k, w2) ∧ fr pA w w2 ∧ rRd 42 43 44 w2 (gRl g 99 (gLk g))) 41 (by omega) ⟨0, w1, by omega, by omega, rfl, fr_up hf1 (by decide), hl1⟩ ?_
    rintro n s rec ⟨k, w2, hkn, hkv, rfl, hf2, hl2⟩ ih
    have hC2 := rC_fr (by decide) hf2 hC
    simp only [f113_23_b6]
    by_cases c1 : k = 41
    · subst c1
      have e : v = 41 := by omega
      subst e
      simp (disch := first | omega | (simp only [fIn, fR, fC, Nat.reduceEqDiff, decide_false, decide_true, Bool.false_or, Bool.or_false, Bool.false_and, Bool.and_false, Bool.or_self, Bool.true_and, Bool.true_or, Bool.and_true, Bool.or_true, Bool.and_self]; done) | fail) only [hP_some, hP_let, hP_gd, hP_B, hP_if, reduceIte, q_lit, nI_add, pk_mul, q_lt, q_le, q_eq, q_cl, q_g, Bool.not_eq_true', decide_eq_false_iff_not, decide_eq_true_eq, q_div, q_rm, q_sub, q_m1, Nat.zero_add, Nat.add_zero, Nat.reduceLT]
      exact ⟨by decide, fr_up hf2 (by decide)⟩
    · simp (disch := first | omega | (simp only [fIn, fR, fC, Nat.reduceEqDiff, decide_false, decide_true, Bool.false_or, Bool.or_false, Bool.false_and, Bool.and_false, Bool.or_self, Bool.true_and, Bool.true_or, Bool.and_true, Bool.or_true, Bool.and_self]; done) | fail) only [hP_some, hP_let, hP_gd, hP_B, hP_if, reduceIte, q_lit, nI_add, pk_mul, q_lt, q_le, q_eq, q_cl, q_g, Bool.not_eq_true', decide_eq_false_iff_not, decide_eq_true_eq, q_div, q_rm, q_sub, q_m1, Nat.zero_add, Nat.add_zero, show ¬ 40 < k by omega, rC_ch hC2, rC_mi hC2]
      refine c_worstG hC2 (rCr_fr (by decide) hf2 hCr) ho hk (by omega) (by omega) (by omega) hl2 (fun w3 hf3 hl3 => ?_)
      have hC3 := rC_fr (by decide) hf3 hC2
      have hb := eC_lt (wall_B (r := r) ho (gCh g) (gMi g) k)
      unfold eC
      simp (disch := first | omega | (simp only [fIn, fR, fC, Nat.reduceEqDiff, decide_false, decide_true, Bool.false_or, Bool.or_false, Bool.false_and, Bool.and_false, Bool.or_self, Bool.true_and, Bool.true_or, Bool.and_true, Bool.or_true, Bool.and_self]; done) | fail) only [hP_some, hP_let, hP_gd, hP_B, hP_if, reduceIte, q_lit, nI_add, pk_mul, q_lt, q_le, q_eq, q_cl, q_g, Bool.not_eq_true', decide_eq_false_iff_not, decide_eq_true_eq, q_div, q_rm, q_sub, q_m1, Nat.zero_add, Nat.add_zero, rC_la hC3, oLate_N (show gLa g < 2147483647 by omega)]
      by_cases c2 : oLate (gLa g) (gWall g r (gCh g) (gMi g) k 99) = true
      · have e : k = v := by
          apply Classical.byContradiction
          intro h9
          exact hlow k (by omega) c2
        rw [if_pos c2]
        subst e
        by_cases c3 : k = 0
        · rw [if_pos c3]
          unfold dn9
          rw [if_pos c3]
          exact ⟨rfl, fr_then (fr_up hf2 (by decide)) hf3 (by decide)⟩
        · rw [if_neg c3]
          unfold dn9
          simp (disch := first | omega | (simp only [fIn, fR, fC, Nat.reduceEqDiff, decide_false, decide_true, Bool.false_or, Bool.or_false, Bool.false_and, Bool.and_false, Bool.or_self, Bool.true_and, Bool.true_or, Bool.and_true, Bool.or_true, Bool.and_self]; done) | fail) only [q_lit, nI_add, pk_mul, q_lt, q_le, q_eq, q_cl, q_g, Bool.not_eq_true', decide_eq_false_iff_not, decide_eq_true_eq, q_div, q_rm, q_sub, q_m1, Nat.zero_add, Nat.add_zero, c3, reduceIte]
          exact ⟨trivial, fr_then (fr_up hf2 (by decide)) hf3 (by decide)⟩
      · rw [if_neg c2]
        have e : ¬ k = v := fun e => c2 (by rw [e]; exact hup (by omega))
        exact ih (n - 1) _ (by omega) ⟨k + 1, w3, by omega, by omega, rfl, fr_then hf2 hf3 (by decide), hl3⟩
  · have hM1 := rM_fr (g := g) pQ_rM hf1 hM
    have hMr1 := rMr_fr pQ_rM hf1 hMr
    have hcm1 : wI w1 80 66 = nI 0 := (fr_rd hf1 (by decide +kernel)).trans hcm
    unfold f264_80
    simp only [hP_let]
    refine hP_loopF (fun n s => ∃ k w2, k + n = 41 ∧ k ≤ v ∧ s = (dn9 k, nI k, w2) ∧ fr ([103, 104, 105, 106, 107], [(80, 66), (80, 0), (80, 70)]) w1 w2 ∧ wI w2 80 66 = nI 0 ∧ wJ w2 80 66 = wJ w1 80 66) 41 (by omega) ⟨0, nS w1 80 0 0, by omega, by omega, rfl, fr_nS fr_refl rfl, (rd_nSj (by decide)).trans hcm1, rfl⟩ ?_
    rintro n s rec ⟨k, w2, hkn, hkv, rfl, hf2, hz, hj⟩ ih
    have fin : ∀ w3, fr ([103, 104, 105, 106, 107], [(80, 66), (80, 0), (80, 70)]) w1 w3 → wI w3 80 66 = nI 0 → wJ w3 80 66 = wJ w1 80 66 → fr pQ w1 w3 := fun w3 h1 h2 h3 => fr_up (fr_backC h1 (h2.trans hcm1.symm) h3) (by decide)
    simp only [f264_80_b9]
    by_cases c1 : k = 41
    · subst c1
      have e : v = 41 := by omega
      subst e
      simp (disch := first | omega | (simp only [fIn, fR, fC, Nat.reduceEqDiff, decide_false, decide_true, Bool.false_or, Bool.or_false, Bool.false_and, Bool.and_false, Bool.or_self, Bool.true_and, Bool.true_or, Bool.and_true, Bool.or_true, Bool.and_self]; done) | fail) only [hP_some, hP_let, hP_gd, hP_B, hP_if, reduceIte, q_lit, nI_add, pk_mul, q_lt, q_le, q_eq, q_cl, q_g, Bool.not_eq_true', decide_eq_false_iff_not, decide_eq_true_eq, q_div, q_rm, q_sub, q_m1, Nat.zero_add, Nat.add_zero, Nat.reduceLT]
      exact ⟨fin w2 hf2 hz hj, trivial⟩
    · have hf3 : fr ([103, 104, 105, 106, 107], [(80, 66), (80, 0), (80, 70)]) w1 (nS w2 80 66 (nI k)) := fr_nS hf2 rfl
      have hM3 := rM_fr (g := g) (by decide) hf3 hM1
      have hMr3 := rMr_fr (by decide) hf3 hMr1
      simp (disch := first | omega | (simp only [fIn, fR, fC, Nat.reduceEqDiff, decide_false, decide_true, Bool.false_or, Bool.or_false, Bool.false_and, Bool.and_false, Bool.or_self, Bool.true_and, Bool.true_or, Bool.and_true, Bool.or_true, Bool.and_self]; done) | fail) only [hP_some, hP_let, hP_gd, hP_B, hP_if, reduceIte, q_lit, nI_add, pk_mul, q_lt, q_le, q_eq, q_cl, q_g, Bool.not_eq_true', decide_eq_false_iff_not, decide_eq_true_eq, q_div, q_rm, q_sub, q_m1, Nat.zero_add, Nat.add_zero, show ¬ 40 < k by omega]
      refine m_worstAll (ex := k) hM3 hMr3 ho hk rd_nS (fun w4 hf4 _ => ?_)
      have hM4 := rM_fr (g := g) (by decide) hf4 hM3
      have hb := eN_lt (wall_B (r := r) ho (gCh g) (gMi g) k)
      have hf5 : fr ([103, 104, 105, 106, 107], [(80, 66), (80, 0), (80, 70)]) w1 (nS w4 80 66 (nI 0)) := fr_nS (fr_then hf3 hf4 (by decide)) rfl
      have hj5 : wJ (nS w4 80 66 (nI 0)) 80 66 = wJ w1 80 66 := by
        rw [rd_nS_J, fr_rdJ hf4 rfl, rd_nS_J]
        exact hj
      unfold eN
      simp (disch := first | omega | (simp only [fIn, fR, fC, Nat.reduceEqDiff, decide_false, decide_true, Bool.false_or, Bool.or_false, Bool.false_and, Bool.and_false, Bool.or_self, Bool.true_and, Bool.true_or, Bool.and_true, Bool.or_true, Bool.and_self]; done) | fail) only [hP_some, hP_let, hP_gd, hP_B, hP_if, reduceIte, q_lit, nI_add, pk_mul, q_lt, q_le, q_eq, q_cl, q_g, Bool.not_eq_true', decide_eq_false_iff_not, decide_eq_true_eq, q_div, q_rm, q_sub, q_m1, Nat.zero_add, Nat.add_zero, rM_la hM4, oLate_N (show gLa g < 1000000 by omega), Nat.reduceEqDiff]
      by_cases c2 : oLate (gLa g) (gWall g r (gCh g) (gMi g) k 99) = true
      · have e : k = v := by
          apply Classical.byContradiction
          intro h9
          exact hlow k (by omega) c2
        rw [if_pos c2]
        subst e
        exact ⟨fin _ hf5 rd_nS hj5, rfl⟩
      · rw [if_neg c2]
        have e : ¬ k = v := fun e => c2 (by rw [e]; exact hup (by omega))
        refine ih (n - 1) _ (by omega) ⟨k + 1, _, by omega, by omega, ?_, hf5, rd_nS, hj5⟩
        unfold dn9
        rw [if_neg (by omega)]
        rfl
