/-! ===== THE TEXT: the class goes on to the next token ===== -/
theorem w_len : ∀ k, k < 25 → ∀ w, f294 (1000000 + k) w = some (nI (wdB k).length, w) := by
  have h : ∀ k : Fin 25, nShr (oLenV (1000000 + k.1)) 0 = nI (wdB k.1).length := by decide +kernel
  intro k hk w
  rw [← h ⟨k, hk⟩]
  rfl
def w_ck (k j : Nat) : Bool := !decide (nI j < 0) && decide (nI j < oLenV (1000000 + k)) && nG (nI j) (oLenN (1000000 + k)) && nChr ((((oBytV (1000000 + k) (nI j).toNatClampNeg) &&& 255)).toUInt32 % 65536).toInt32 && decide (((((oBytV (1000000 + k) (nI j).toNatClampNeg) &&& 255)).toUInt32 % 65536).toInt32 = nI ((wdB k).getD j 0)) && decide ((wdB k).getD j 0 < 128)
theorem w_ck_all : (List.range 25).all (fun k => (List.range (wdB k).length).all (w_ck k)) = true := by decide +kernel
theorem w_ch {k j : Nat} (hk : k < 25) (hj : j < (wdB k).length) (w : mW) : f295 (1000000 + k) (nI j) w = some (nI ((wdB k).getD j 0), w) ∧ (wdB k).getD j 0 < 128 := by
  have h := List.all_eq_true.mp (List.all_eq_true.mp w_ck_all k (List.mem_range.mpr hk)) j (List.mem_range.mpr hj)
  unfold w_ck at h
  simp only [Bool.and_eq_true, Bool.not_eq_true', decide_eq_false_iff_not, decide_eq_true_eq] at h
  obtain ⟨⟨⟨⟨⟨h1, h2⟩, h3⟩, h4⟩, h5⟩, h6⟩ := h
  refine ⟨?_, h6⟩
  unfold f295 f297 f299 f298 f301_1000102
  rw [if_neg (show ¬ (1 : Int32) = 0 by decide), if_pos (show (0 : Int32) = 0 from rfl)]
  simp only [nB, Option.bind_some, if_neg h1, if_pos h2, nGd, h3, if_true, h5]
  rw [h5] at h4
  rw [if_neg (show ¬ (1 : Int32) = 0 by decide), h4, if_pos rfl]
  show (if nChr (nI ((wdB k).getD j 0)) = true then some (nI ((wdB k).getD j 0), w) else none) = _
  rw [if_pos h4]
section ADV
variable {bt : Nat → Nat} {n : Nat} {w : mW}
theorem c_spelt {Q : Int32 → mW → Prop} {k s : Nat} (hT : cTx bt n w) (hs : s ≤ n) (hk : k < 25) (h1 : spl bt n s k = true → Q (nI 1) w) (h0 : spl bt n s k = false → Q (nI 0) w) : hP (f123_1 (1000000 + k) (nI s) (nI (tE bt n s)) w) Q := by
  have hn := hT.2.2.1
  have he := tE_le bt n hs
  have hg := tE_ge bt n s
  have hl : (wdB k).length ≤ 7 := by
    have h : ∀ k : Fin 25, (wdB k.1).length ≤ 7 := by decide +kernel
    exact h ⟨k, hk⟩
  unfold f123_1
  rw [w_len k hk w]
  simp only [hP_B, hP_some]
  rw [q_sub hg]
  by_cases c1 : (wdB k).length = tE bt n s - s
  · rw [if_pos (by rw [c1]), if_neg (by rw [q_lit, q_lt (by omega) (by omega)]; omega), if_neg (by rw [q_lit, q_lt (by omega) (by omega)]; omega)]
    refine hP_loopF (fun m st => ∃ j, j + m = (wdB k).length ∧ st = (nI j, w) ∧ ∀ i, i < j → bt (s + i) = (wdB k).getD i 0) (wdB k).length (by omega) ⟨0, by omega, rfl, fun i hi => absurd hi (Nat.not_lt_zero _)⟩ ?_
    rintro m st rec ⟨j, hjm, rfl, hall⟩ ih
    simp only [f123_1_b28]
    rw [w_len k hk w]
    simp only [hP_B, hP_some]
    by_cases c2 : j < (wdB k).length
    · obtain ⟨e1, e2⟩ := w_ch hk c2 w
      obtain ⟨b1, b2⟩ := hT.2.2.2 (s + j) (by omega)
      rw [if_pos (by rw [q_lt (by omega) (by omega)]; exact c2), hP_gd, hP_B, e1, hP_some, nI_add, q_cl (by omega), b2]
      refine ⟨by rw [q_g (by omega)]; omega, ?_⟩
      have ej : nI j + 1 = nI (j + 1) := by rw [← nI_add]; rfl
      by_cases c3 : bt (s + j) = (wdB k).getD j 0
      · rw [if_pos (by rw [sBy_eq b1 e2]; exact c3), ej]
        refine ih (m - 1) _ (by omega) ⟨j + 1, by omega, rfl, fun i hi => ?_⟩
        by_cases e : i = j
        · rw [e]; exact c3
        · exact hall i (by omega)
      · rw [if_neg (by rw [sBy_eq b1 e2]; exact c3), hP_some]
        refine h0 ?_
        unfold spl
        rw [decide_eq_true c1, Bool.true_and]
        cases ha : (List.range (wdB k).length).all (fun j => decide (bt (s + j) = (wdB k).getD j 0)) with
        | false => rfl
        | true =>
          have := List.all_eq_true.mp ha j (List.mem_range.mpr c2)
          exact absurd (of_decide_eq_true this) c3
    · rw [if_neg (by rw [q_lt (by omega) (by omega)]; exact c2), hP_some]
      refine h1 ?_
      unfold spl
      rw [decide_eq_true c1, Bool.true_and, List.all_eq_true]
      intro i hi
      exact decide_eq_true (hall i (by have := List.mem_range.mp hi; omega))
  · rw [if_neg (by rw [q_eq (by omega) (by omega)]; exact c1), hP_some]
    refine h0 ?_
    unfold spl
    rw [decide_eq_false c1, Bool.false_and]
theorem c_which {Q : Unit → mW → Prop} {s : Nat} (hT : cTx bt n w) (hs : s ≤ n) (h2 : wI w 21 2 = nI (tE bt n s)) (h3 : wI w 21 3 = nI s) (h0 : nWd w = none)
    (hq : Q () (nSW w ((fstU (spl bt n s) 25).map (fun k => 1000000 + k)))) : hP (mLoop f71_21_b46 nF (0, w)) Q := by
  have e0 : nSW w none = w := by
    have : w.2.2.1 = none := h0
    show (w.1, w.2.1, none, w.2.2.2) = w
    rw [← this]
  refine hP_loopF (fun m st => ∃ i, i + m = 25 ∧ st = (nI i, nSW w ((fstU (spl bt n s) i).map (fun k => 1000000 + k)))) 25 (by omega) ⟨0, by omega, ?_⟩ ?_
  · show ((0 : Int32), w) = (nI 0, nSW w none)
    rw [e0]
    rfl
  rintro m st rec ⟨i, him, rfl⟩ ih
  simp only [f71_21_b46]
  by_cases c : i < 25
  · rw [if_pos (by rw [q_lit, q_lt (by omega) (by omega)]; exact c), hP_opt]
    have ei : nI i + 1 = nI (i + 1) := by rw [← nI_add]; rfl
    cases hf : fstU (spl bt n s) i with
    | some k =>
      have hk := fstU_is hf
      show hP (nGd (oEn (1000000 + k)) (some ((), _))) Q
      rw [hP_gd, hP_some]
      refine ⟨?_, ?_⟩
      · have : ∀ k : Fin 25, oEn (1000000 + k.1) = true := by decide +kernel
        exact this ⟨k, by omega⟩
      · rw [fstU_on hf 25 (by omega)] at hq
        exact hq
    | none =>
      show hP (nGd (nG (nI i) 25) (nGd (decide (nTx (nSW w none) = some 1)) (nB (f123_1 (1000000 + (nI i).toNatClampNeg) (wI (nSW w none) 21 3) (wI (nSW w none) 21 2) (nSW w none)) fun v2 w3 => (if v2 = 0 then (rec ((nI i + 1), w3)) else (nGd (nG (nI i) 25) (nLet (nSW w3 (some (1000000 + (nI i).toNatClampNeg))) fun w5 => (rec ((nI i + 1), w5)))))))) Q
      rw [e0, hP_gd, hP_gd, hP_B, q_cl (by omega), h2, h3]
      refine ⟨by rw [q_g (by omega)]; exact c, decide_eq_true hT.1, ?_⟩
      refine c_spelt hT hs c (fun hy => ?_) (fun hno => ?_)
      · rw [if_neg (by decide), hP_gd, hP_let, ei]
        refine ⟨by rw [q_g (by omega)]; exact c, ih (m - 1) _ (by omega) ⟨i + 1, by omega, ?_⟩⟩
        rw [fstU_no hf, if_pos hy]
        rfl
      · rw [if_pos (show nI 0 = 0 from rfl), ei]
        refine ih (m - 1) _ (by omega) ⟨i + 1, by omega, ?_⟩
        rw [fstU_no hf, if_neg (by rw [hno]; exact fun h => by cases h)]
        show _ = (_, nSW w none)
        rw [e0]
  · have e : i = 25 := by omega
    rw [if_neg (by rw [q_lit, q_lt (by omega) (by omega)]; exact c), hP_some]
    subst e
    exact hq
theorem c_word {Q : Unit → mW → Prop} {s : Nat} (hT : cTx bt n w) (hs : s < n) (hd : bLe (bt s) = true) (h2 : wI w 21 2 = nI s) (h3 : wI w 21 3 = nI s) (h0 : nWd w = none)
    (hq : ∀ w', fz pT w w' → nTx w' = nTx w → nWd w' = (fstU (spl bt n s) 25).map (fun k => 1000000 + k) → wI w' 21 2 = nI (tE bt n s) → wI w' 21 3 = nI s → wI w' 21 4 = nI 1 → Q () w') : hP (f71_21 w) Q := by
  unfold f71_21
  rw [hP_let]
  have hn := hT.2.2.1
  have hE : tE bt n s = rnE bLe bt n s := by
    unfold tE
    rw [if_neg (by omega), if_pos hd]
  refine hP_loopF (fun m w1 => ∃ p, p + m = n ∧ s ≤ p ∧ rnE bLe bt n p = rnE bLe bt n s ∧ fz pT w w1 ∧ nTx w1 = nTx w ∧ nWd w1 = none ∧ wI w1 21 2 = nI p ∧ wI w1 21 3 = nI s ∧ wI w1 21 4 = nI 1) (n - s) (by omega) ⟨s, by omega, Nat.le_refl _, rfl, fz_nS fz_refl rfl, rfl, h0, ?_, ?_, ?_⟩ ?_
  · rw [rd_nSj (by decide)]; exact h2
  · rw [rd_nSj (by decide)]; exact h3
  · rw [rd_nS]; rfl
  rintro m w1 rec ⟨p, hpm, hsp, hr, f1, hx, hwd, k2, k3, k4⟩ ih
  have hT1 : cTx bt n w1 := cTx_fz hT f1 hx rfl (fun _ => rfl)
  have fin : rnE bLe bt n p = p → hP (mLoop f71_21_b46 nF (0, w1)) Q := by
    intro e
    have e2 : tE bt n s = p := by rw [hE, ← hr]; exact e
    refine c_which hT1 (by omega) (by rw [e2]; exact k2) k3 hwd ?_
    exact hq _ f1 hx rfl (by rw [e2]; exact k2) k3 k4
  simp only [f71_21_b5]
  rw [k2, hT1.2.1]
  by_cases c1 : p < n
  · obtain ⟨hb, hby⟩ := hT1.2.2.2 p c1
    rw [if_pos (by rw [q_lt (by omega) (by omega)]; exact c1), hP_gd, hP_gd, hP_B, q_cl (by omega), hby]
    refine ⟨decide_eq_true hT1.1, by rw [q_g (by omega)]; omega, ?_⟩
    have ep : nI p + 1 = nI (p + 1) := by rw [← nI_add]; rfl
    refine c_isL hb (fun hy => ?_) (fun hno => ?_)
    · rw [if_neg (by decide), hP_let, k2, ep]
      refine ih (m - 1) _ (by omega) ⟨p + 1, by omega, by omega, by rw [← rnE_yes c1 hy]; exact hr, fz_nS f1 rfl, hx, hwd, rd_nS, ?_, ?_⟩
      · rw [rd_nSj (by decide)]; exact k3
      · rw [rd_nSj (by decide)]; exact k4
    · rw [if_pos (show nI 0 = 0 from rfl)]
      exact fin (rnE_no hno)
  · rw [if_neg (by rw [q_lt (by omega) (by omega)]; exact c1)]
    exact fin (rnE_end (by omega))
/-- the token at s, out of a place where it begins -/
theorem c_adv {Q : Unit → mW → Prop} {e : Nat} (hT : cTx bt n w) (h2 : wI w 21 2 = nI e) (he : e ≤ n) (hq : ∀ w', fz pT w w' → nTx w' = nTx w → tkC bt n (rnE bSp bt n e) w' → Q () w') : hP (f70_21 w) Q := by
  have hn := hT.2.2.1
  unfold f70_21
  rw [hP_let, h2]
  refine hP_loopF (fun m w1 => ∃ p, p + m = n ∧ rnE bSp bt n p = rnE bSp bt n e ∧ fz pT w w1 ∧ nTx w1 = nTx w ∧ wI w1 21 3 = nI p) (n - e) (by omega) ⟨e, by omega, rfl, fz_nS fz_refl rfl, rfl, rd_nS⟩ ?_
  rintro m w1 rec ⟨p, hpm, hr, f1, hx, k3⟩ ih
  have hT1 : cTx bt n w1 := cTx_fz hT f1 hx rfl (fun _ => rfl)
  have fin : rnE bSp bt n p = p → hP (f70_21_j60 w1) Q := by
    intro ep
    have eS : rnE bSp bt n e = p := hr.symm.trans ep
    rw [eS] at hq
    unfold f70_21_j60
    rw [hP_let, hP_let, k3]
    have f2 : fz pT w (nSW (nS w1 21 2 (nI p)) none) := fz_nSW (fz_nS f1 rfl)
    have hT2 : cTx bt n (nSW (nS w1 21 2 (nI p)) none) := cTx_fz hT f2 hx rfl (fun _ => rfl)
    have g2 : wI (nSW (nS w1 21 2 (nI p)) none) 21 2 = nI p := by
      show wI (nS w1 21 2 (nI p)) 21 2 = nI p
      exact rd_nS
    have g3 : wI (nSW (nS w1 21 2 (nI p)) none) 21 3 = nI p := by
      show wI (nS w1 21 2 (nI p)) 21 3 = nI p
      rw [rd_nSj (by decide)]
      exact k3
    have hx2 : nTx (nSW (nS w1 21 2 (nI p)) none) = nTx w := hx
    have hw2 : nWd (nSW (nS w1 21 2 (nI p)) none) = none := rfl
    generalize nSW (nS w1 21 2 (nI p)) none = w2 at f2 hT2 g2 g3 hx2 hw2
    rw [g3, hT2.2.1]
    by_cases c1 : p < n
    · obtain ⟨hb, hby⟩ := hT2.2.2.2 p c1
      rw [if_pos (by rw [q_lt (by omega) (by omega)]; exact c1), hP_gd, hP_gd, hP_B, q_cl (by omega), hby]
      refine ⟨decide_eq_true hT2.1, by rw [q_g (by omega)]; omega, ?_⟩
      refine c_isL hb (fun hy => ?_) (fun hno => ?_)
      · have eK : tK bt n p = 1 := by unfold tK; rw [if_neg (by omega), if_pos hy]
        rw [if_neg (by decide), hP_B]
        refine c_word hT2 c1 hy g2 g3 hw2 (fun w' f' x' d' a2 a3 a4 => ?_)
        rw [hP_some]
        have ff := fz_then f2 f' (by decide)
        refine hq w' ff (x'.trans hx2) ⟨cTx_fz hT ff (x'.trans hx2) rfl (fun _ => rfl), by omega, a2, a3, by rw [eK]; exact a4, ?_, fun h => by omega, fun h => by omega⟩
        rw [d']
        unfold tW
        rw [if_pos eK]
      · rw [if_pos (show nI 0 = 0 from rfl), hP_gd, hP_gd, hP_B, g3, q_cl (by omega), hby]
        refine ⟨decide_eq_true hT2.1, by rw [q_g (by omega)]; omega, ?_⟩
        have nL : ¬ bLe (bt p) = true := by rw [hno]; exact fun h => by cases h
        refine c_isD hb (fun hy => ?_) (fun hno2 => ?_)
        · have eK : tK bt n p = 2 := by unfold tK; rw [if_neg (by omega), if_neg nL, if_pos hy]
          have eE : tE bt n p = rnE bDi bt n p := by unfold tE; rw [if_neg (by omega), if_neg nL, if_pos hy]
          rw [if_neg (by decide), hP_B]
          refine c_num hT2 c1 hy g2 g3 (fun w' f' x' d' a2 a3 a4 a6 => ?_)
          rw [hP_some]
          have ff := fz_then f2 f' (by decide)
          refine hq w' ff (x'.trans hx2) ⟨cTx_fz hT ff (x'.trans hx2) rfl (fun _ => rfl), by omega, by rw [eE]; exact a2, a3, by rw [eK]; exact a4, ?_, fun h => ?_, fun h => by omega⟩
          · rw [d', hw2]
            unfold tW
            rw [if_neg (by omega)]
            rfl
          · unfold tV
            rw [eE]
            exact a6
        · have nD : ¬ bDi (bt p) = true := by rw [hno2]; exact fun h => by cases h
          have eE : tE bt n p = p + 1 := by unfold tE; rw [if_neg (by omega), if_neg nL, if_neg nD]
          have ep1 : nI p + 1 = nI (p + 1) := by rw [← nI_add]; rfl
          rw [if_pos (show nI 0 = 0 from rfl), hP_gd, hP_gd, hP_let, g3, q_cl (by omega), hby, hP_B, rd_nS]
          refine ⟨decide_eq_true hT2.1, by rw [q_g (by omega)]; omega, ?_⟩
          have fin2 : ∀ k : Nat, 3 ≤ k → tK bt n p = k → hP (nLet (nS (nS w2 21 7 (sBy (bt p))) 21 4 (nI k)) fun w10 => (nLet (nS w10 21 2 ((wI w10 21 3) + 1)) fun w11 => (some ((), w11)))) Q := by
            intro k hk eK
            rw [hP_let, hP_let, hP_some]
            have a3 : wI (nS (nS w2 21 7 (sBy (bt p))) 21 4 (nI k)) 21 3 = nI p := by rw [rd_nSj (by decide), rd_nSj (by decide)]; exact g3
            rw [a3, ep1]
            have ff : fz pT w (nS (nS (nS w2 21 7 (sBy (bt p))) 21 4 (nI k)) 21 2 (nI (p + 1))) := fz_nS (fz_nS (fz_nS f2 rfl) rfl) rfl
            refine hq _ ff hx2 ⟨cTx_fz hT ff hx2 rfl (fun _ => rfl), by omega, by rw [eE]; exact rd_nS, ?_, ?_, ?_, fun h => by omega, fun _ => ?_⟩
            · rw [rd_nSj (by decide)]; exact a3
            · rw [rd_nSj (by decide), rd_nS, eK]
            · show nWd w2 = _
              rw [hw2]
              unfold tW
              rw [if_neg (by omega)]
              rfl
            · rw [rd_nSj (by decide), rd_nSj (by decide), rd_nS]
          refine c_isG hb (fun hy => ?_) (fun hno3 => ?_)
          · rw [if_neg (by decide)]
            exact fin2 3 (by decide) (by unfold tK; rw [if_neg (by omega), if_neg nL, if_neg nD, if_pos hy])
          · rw [if_pos (show nI 0 = 0 from rfl)]
            exact fin2 4 (by decide) (by unfold tK; rw [if_neg (by omega), if_neg nL, if_neg nD, if_neg (by rw [hno3]; exact fun h => by cases h)])
    · have eK : tK bt n p = 0 := (tK_0 bt n p).2 (by omega)
      have eE : tE bt n p = p := by unfold tE; rw [if_pos (by omega)]
      rw [if_neg (by rw [q_lt (by omega) (by omega)]; exact c1), hP_let, hP_some]
      have ff : fz pT w (nS w2 21 4 0) := fz_nS f2 rfl
      refine hq _ ff hx2 ⟨cTx_fz hT ff hx2 rfl (fun _ => rfl), by omega, ?_, ?_, ?_, ?_, fun h => by omega, fun h => by omega⟩
      · rw [rd_nSj (by decide), eE]; exact g2
      · rw [rd_nSj (by decide)]; exact g3
      · rw [rd_nS, eK]; rfl
      · show nWd w2 = _
        rw [hw2]
        unfold tW
        rw [if_neg (by omega)]
        rfl
  simp only [f70_21_b8]
  rw [k3, hT1.2.1]
  by_cases c1 : p < n
  · obtain ⟨hb, hby⟩ := hT1.2.2.2 p c1
    have ep : nI p + 1 = nI (p + 1) := by rw [← nI_add]; rfl
    have go : bSp (bt p) = true → hP (rec (nS w1 21 3 (nI (p + 1)))) Q := fun hy => ih (m - 1) _ (by omega) ⟨p + 1, by omega, by rw [← rnE_yes c1 hy]; exact hr, fz_nS f1 rfl, hx, rd_nS⟩
    rw [if_pos (by rw [q_lt (by omega) (by omega)]; exact c1), hP_gd, hP_gd, q_cl (by omega), hby, ep]
    refine ⟨decide_eq_true hT1.1, by rw [q_g (by omega)]; omega, ?_⟩
    by_cases c2 : bt p = 32
    · rw [if_pos (by rw [q_lit, sBy_eq hb (by decide)]; exact c2), hP_let]
      exact go (decide_eq_true (.inl c2))
    · rw [if_neg (by rw [q_lit, sBy_eq hb (by decide)]; exact c2), hP_gd, hP_gd]
      refine ⟨decide_eq_true hT1.1, by rw [q_g (by omega)]; omega, ?_⟩
      by_cases c3 : bt p = 10
      · rw [if_pos (by rw [q_lit, sBy_eq hb (by decide)]; exact c3), hP_let]
        exact go (decide_eq_true (.inr c3))
      · rw [if_neg (by rw [q_lit, sBy_eq hb (by decide)]; exact c3)]
        exact fin (rnE_no (decide_eq_false (by omega)))
  · rw [if_neg (by rw [q_lt (by omega) (by omega)]; exact c1)]
    exact fin (rnE_end (by omega))
end ADV
