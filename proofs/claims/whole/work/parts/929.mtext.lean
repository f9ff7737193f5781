/-! ===== THE TEXT: the reference reads all of it ===== -/
abbrev pMt : fP := ([89, 90, 91, 92, 93, 94, 95, 96, 97, 98, 99], [(80, 18), (80, 19), (80, 20), (80, 22), (80, 23), (80, 24), (80, 25), (80, 26), (80, 27), (80, 28), (80, 29), (80, 30), (80, 31), (80, 32), (80, 33), (80, 34), (80, 35), (80, 36), (80, 37), (80, 38), (80, 39), (80, 40), (80, 41), (80, 42), (80, 43), (80, 44), (80, 45), (80, 46), (80, 47), (80, 48)])
section MTEXT
variable {bt : Nat → Nat} {n : Nat} {w : mW}
def mNew (w : mW) (x : Int32) : mW := nS (nSJ (nSJ (nS (nS (nS (nS (nS (nS (nS (nS (nS (nS (nS (nS (nS (nS (nS (nS (nS w 80 18 0) 80 20 (-1)) 80 19 0) 80 22 x) 80 23 0) 80 30 8) 80 31 5) 80 32 0) 80 33 0) 80 34 60) 80 35 20) 80 36 0) 80 37 0) 80 38 (-1)) 80 39 (-1)) 80 40 0) 80 41 0) 80 47 0) 80 48 0) 80 44 0
theorem m_text {Q : Int32 → mW → Prop} (hn : n ≤ 700) (hb : ∀ i, i < n → bt i < 256 ∧ wI w 87 i = nI (bt i))
    (h0 : ∀ f w', txR bt n (rnE bSp bt n 0) = .inl f → fr pMt w w' → wI w' 80 18 = nI 0 → bF f w' → hP (f213_80_j232 w') Q)
    (h1 : ∀ σ' s' w', txR bt n (rnE bSp bt n 0) = .inr (σ', s') → okS σ' → s' ≤ n → fr pMt w w' → wI w' 80 18 = nI 0 → wI w' 80 19 = nI 0 → pMx σ' s' w' → hP (f213_80_j232 w') Q) : hP (mLoop f213_80_b137 nF (0, mNew w (nI n))) Q := by
  have f1 : fr pMt w (mNew w (nI n)) := by
    unfold mNew
    exact fr_nS (fr_nSJ (fr_nSJ (fr_nS (fr_nS (fr_nS (fr_nS (fr_nS (fr_nS (fr_nS (fr_nS (fr_nS (fr_nS (fr_nS (fr_nS (fr_nS (fr_nS (fr_nS (fr_nS (fr_nS fr_refl rfl) rfl) rfl) rfl) rfl) rfl) rfl) rfl) rfl) rfl) rfl) rfl) rfl) rfl) rfl) rfl) rfl) rfl) rfl) rfl
  have R : ∀ k, wI (mNew w (nI n)) 80 k = if k = 44 then nI 0 else if k = 41 then nI 0 else if k = 40 then nI 0 else if k = 39 then -nI 1 else if k = 38 then -nI 1 else if k = 37 then nI 0 else if k = 36 then nI 0 else if k = 35 then nI 20 else if k = 34 then nI 60 else if k = 33 then nI 0 else if k = 32 then nI 0 else if k = 31 then nI 5 else if k = 30 then nI 8 else if k = 23 then nI 0 else if k = 22 then nI n else if k = 19 then nI 0 else if k = 20 then -nI 1 else if k = 18 then nI 0 else wI w 80 k := by
    intro k
    unfold mNew
    have st : ∀ (u : mW) (j : Nat) (v : Int32), wI (nS u 80 j v) 80 k = if k = j then v else wI u 80 k := fun u j v => by
      by_cases e : k = j
      · rw [if_pos e, e, rd_nS]
      · rw [if_neg e, rd_nSj e]
    rw [st, rd_nSJ_I, rd_nSJ_I, st, st, st, st, st, st, st, st, st, st, st, st, st, st, st, st, st]
    rfl
  have j47 : wJ (mNew w (nI n)) 80 47 = 0 := by
    unfold mNew
    show wJ (nSJ (nSJ _ 80 47 0) 80 48 0) 80 47 = 0
    rw [rd_nSJa (by decide), rd_nSJ]
  have j48 : wJ (mNew w (nI n)) 80 48 = 0 := by
    unfold mNew
    show wJ (nSJ (nSJ _ 80 47 0) 80 48 0) 80 48 = 0
    rw [rd_nSJ]
  generalize mNew w (nI n) = w1 at f1 R j47 j48
  refine hP_loopF (fun m st => ∃ i w2, i + m = 40 ∧ st = (nI i, w2) ∧ fr ([89, 90], []) w1 w2 ∧ ∀ j, j < i → wI w2 89 j = nI 3 ∧ wI w2 90 j = nI 0) 40 (by decide) ⟨0, w1, rfl, rfl, fr_refl, fun j hj => absurd hj (Nat.not_lt_zero _)⟩ ?_
  rintro m st rec ⟨i, w2, him, rfl, f2, hi2⟩ ih
  simp only [f213_80_b137]
  by_cases c : i < 40
  · have ei : nI i + 1 = nI (i + 1) := by rw [← nI_add]; rfl
    rw [if_pos (by rw [q_lit, q_lt (by omega) (by omega)]; exact c), hP_gd, hP_let, hP_gd, hP_let, q_cl (by omega), ei]
    refine ⟨by rw [q_g (by omega)]; exact c, by rw [q_g (by omega)]; exact c, ih (m - 1) _ (by omega) ⟨i + 1, _, by omega, rfl, fr_nS (fr_nS f2 rfl) rfl, fun j hj => ?_⟩⟩
    by_cases e : j = i
    · rw [e, rd_nSa (by decide), rd_nS, rd_nS]
      exact ⟨rfl, rfl⟩
    · rw [rd_nSa (by decide), rd_nSj e, rd_nSj e, rd_nSa (by decide)]
      exact hi2 j (by omega)
  · have e40 : i = 40 := by omega
    subst e40
    rw [if_neg (by decide), hP_B]
    have F2 : fr pMt w w2 := fr_then f1 f2 (by decide)
    have R2 : ∀ k, wI w2 80 k = wI w1 80 k := fun k => fr_rd f2 rfl
    have T2 : mTx bt n w2 := ⟨by rw [R2, R]; rfl, hn, fun i hi => ⟨(hb i hi).1, (fr_rd F2 rfl).trans (hb i hi).2⟩⟩
    have X2 : pMx σ00 0 w2 := by
      refine pMx_of ⟨by rw [R2, R]; rfl, by rw [R2, R]; rfl, by rw [R2, R]; rfl, by rw [R2, R]; rfl, by rw [R2, R]; rfl, by rw [R2, R]; rfl, by rw [R2, R]; rfl, by rw [R2, R]; rfl, by rw [R2, R]; rfl, fun i hi => (hi2 i hi).1, fun i hi => (hi2 i hi).2, fun i hi => absurd hi (Nat.not_lt_zero _), fun i hi => absurd hi (Nat.not_lt_zero _), fun i hi => absurd hi (Nat.not_lt_zero _), fun i hi => absurd hi (Nat.not_lt_zero _), fun i hi => absurd hi (Nat.not_lt_zero _)⟩ (fun c hc => ?_) ⟨0, by rw [R2, R]; rfl, by decide, fun i hi => Nat.zero_testBit _⟩ ⟨by rw [R2, R]; rfl, [], ⟨by rw [R2, R]; rfl, (fun i v e => by cases e)⟩, Nat.le_refl _, by rw [R2, R]; rfl, by rw [R2, R]; rfl, fun i hi => absurd hi (Nat.not_lt_zero _)⟩
      rw [fr_rdJ f2 rfl, fr_rdJ f2 rfl, j47, j48]
      exact ⟨b64_0 c, b64_0 c⟩
    refine m_goes T2 (by rw [R2, R]; rfl) (Nat.zero_le _) (fun w3 f3 k3 => ?_)
    have g3 : wI w3 80 19 = nI 0 := by rw [fr_rd f3 rfl, R2, R]; rfl
    have z3 : wI w3 80 18 = nI 0 := by rw [fr_rd f3 rfl, R2, R]; rfl
    have F3 : fr pMt w w3 := fr_then F2 f3 (by decide)
    have X3 := pMx_on X2 f3 (Nat.zero_le (rnE bSp bt n 0))
    have lines : ∀ (g : gS) (s5 : Nat) (w5 : mW), gOk g → gLk g = 0 → gCa g = 0 → gGa g = 0 → gMi g = 0 → fr pMt w w5 → wI w5 80 18 = nI 0 → tkM bt n s5 w5 → wI w5 80 19 = nI 0 → pMx (g, noT, noT, noT, fun _ => none) s5 w5 → txR bt n (rnE bSp bt n 0) = lnL bt n 700 (g, noT, noT, noT, fun _ => none) s5 → hP (mLoop f213_80_b211 nF w5) Q := by
      intro g s5 w5 ho a1 a2 a3 a4 F5 z5 k5 g5 X5 e
      exact m_lines (ok_σ g ho a1 a2 a3 a4) k5 g5 X5 (fun f w6 e6 f6 b6 => h0 f w6 (e.trans e6) (fr_then F5 f6 (by decide)) ((fr_rd f6 rfl).trans z5) b6) (fun σ' s' w6 e6 o6 s6 f6 g6 x6 => h1 σ' s' w6 (e.trans e6) o6 s6 (fr_then F5 f6 (by decide)) ((fr_rd f6 rfl).trans z5) g6 x6)
    -- a fault in the first line
    have badL : ∀ f w5, fr pMt w w5 → wI w5 80 18 = nI 0 → bF f w5 → txR bt n (rnE bSp bt n 0) = .inl f → hP (mLoop f213_80_b211 nF w5) Q := by
      intro f w5 F5 z5 B5 e
      refine hP_loopF (fun m st => m = 0 ∧ st = w5) 0 (by decide) ⟨rfl, rfl⟩ ?_
      rintro m st rec ⟨rfl, rfl⟩ ih
      simp only [f213_80_b211]
      rw [hP_B]
      refine m_good0 B5.1 B5.2.1 ?_
      rw [if_pos (show nI 0 = 0 from rfl)]
      exact h0 f _ e F5 z5 B5
    have noP : ¬ isW bt n (rnE bSp bt n 0) 0 → hP (mLoop f213_80_b211 nF w3) Q := fun hno => lines g00 _ w3 ok_00 rfl rfl rfl rfl F3 z3 k3 g3 X3 (by unfold txR; rw [if_neg hno]; rfl)
    rw [hP_B]
    refine m_known k3 (fun cc hcc e => ?_) (fun e => ?_)
    · by_cases c0 : cc = 0
      · have hy : isW bt n (rnE bSp bt n 0) 0 := by rw [isW, e, c0]
        have eT : txR bt n (rnE bSp bt n 0) = pThen (szR bt n (rnE bSp bt n 0)) fun g s1 => lnL bt n 700 (g, noT, noT, noT, fun _ => none) s1 := by
          unfold txR
          rw [if_pos hy]
        rw [c0, if_pos (show nI (rfI.getD 0 0) = 10 from rfl), hP_B]
        refine m_on k3 (fun w5 f5 k5 => ?_)
        have F5 : fr pMt w w5 := fr_then F3 f5 (by decide)
        have X5 := pMx_on X3 f5 (nx_ge bt n (rnE bSp bt n 0))
        have g5 : wI w5 80 19 = nI 0 := (fr_rd f5 rfl).trans g3
        have z5 : wI w5 80 18 = nI 0 := (fr_rd f5 rfl).trans z3
        -- the rest in a text with a fault
        have semi0 : ∀ f w9, fr pMt w w9 → wI w9 80 18 = nI 0 → bF f w9 → txR bt n (rnE bSp bt n 0) = .inl f → hP (nB (f193_80 59 w9) fun v13 w14 => (nB (f194_80 v13 w14) fun _ w16 => (mLoop f213_80_b211 nF w16))) Q := by
          intro f w9 F9 z9 B9 e9
          have fin : ∀ v : Int32, hP (nB (f194_80 v w9) fun _ w16 => (mLoop f213_80_b211 nF w16)) Q := by
            intro v
            rw [hP_B]
            unfold f194_80
            rw [hP_B]
            refine m_good0 B9.1 B9.2.1 ?_
            rw [if_pos (show nI 0 = 0 from rfl), hP_some]
            exact badL f w9 F9 z9 B9 e9
          rw [hP_B]
          unfold f193_80
          split
          · split
            · rw [hP_some]; exact fin _
            · rw [hP_some]; exact fin _
          · rw [hP_some]; exact fin _
        rw [hP_B]
        refine m_nm (a := 1) (b := 8) (by decide) (by decide) k5 g5 (fun f w6 e6 f6 b6 => ?_) (fun a s6 w6 e6 f6 k6 => ?_)
        · rw [hP_let, hP_B]
          have h7 : fr ([], [(80, 30)]) w6 (nS w6 80 30 (nI 0)) := fr_nS fr_refl rfl
          have b7 := bF_fr b6 h7 rfl rfl
          refine m_nmB b7 ?_
          rw [hP_let]
          have h8 : fr ([], [(80, 31)]) (nS w6 80 30 (nI 0)) (nS (nS w6 80 30 (nI 0)) 80 31 (nI 0)) := fr_nS fr_refl rfl
          exact semi0 f _ (fr_then (fr_then (fr_then F5 f6 (by decide)) h7 (by decide)) h8 (by decide)) ((fr_rd h8 rfl).trans ((fr_rd h7 rfl).trans ((fr_rd f6 rfl).trans z5))) (bF_fr b7 h8 rfl rfl) (eT.trans (pThen_n (pThen_n e6)))
        have m6 := nmR_ok e6 k5.2.1
        rw [hP_let, hP_B]
        have X6 := pMx_on X5 f6 (show nx bt n (rnE bSp bt n 0) ≤ s6 by omega)
        have h6 : fr ([], [(80, 30)]) w6 (nS w6 80 30 (nI a)) := fr_nS fr_refl rfl
        have F6 : fr pMt w (nS w6 80 30 (nI a)) := fr_then (fr_then F5 f6 (by decide)) h6 (by decide)
        have k6' : tkM bt n s6 (nS w6 80 30 (nI a)) := tkM_on k6 h6 ⟨rfl, rfl, rfl, rfl, rfl, rfl, rfl, rfl⟩ (fun _ => rfl)
        have g6 : wI (nS w6 80 30 (nI a)) 80 19 = nI 0 := (fr_rd h6 rfl).trans ((fr_rd f6 rfl).trans g5)
        have z6 : wI (nS w6 80 30 (nI a)) 80 18 = nI 0 := (fr_rd h6 rfl).trans ((fr_rd f6 rfl).trans z5)
        have X6' : pMx (gU g00 0 0 a, noT, noT, noT, fun _ => none) s6 (nS w6 80 30 (nI a)) := pMx_of (qM_uwd X6.1) (tdM_fr X6.2.1 h6 rfl rfl) (onM_fr X6.2.2.1 h6 rfl) (pMr_fr X6.2.2.2 h6 (by decide) (Nat.le_refl _))
        refine m_nm (a := 1) (b := 5) (by decide) (by decide) k6' g6 (fun f w7 e7 f7 b7 => ?_) (fun b s7 w7 e7 f7 k7 => ?_)
        · rw [hP_let]
          have h8 : fr ([], [(80, 31)]) w7 (nS w7 80 31 (nI 0)) := fr_nS fr_refl rfl
          exact semi0 f _ (fr_then (fr_then F6 f7 (by decide)) h8 (by decide)) ((fr_rd h8 rfl).trans ((fr_rd f7 rfl).trans z6)) (bF_fr b7 h8 rfl rfl) (eT.trans (pThen_n ((pThen_y e6).trans (pThen_n e7))))
        have m7 := nmR_ok e7 k6.2.1
        rw [hP_let]
        have X7 := pMx_on X6' f7 (show s6 ≤ s7 by omega)
        have h7 : fr ([], [(80, 31)]) w7 (nS w7 80 31 (nI b)) := fr_nS fr_refl rfl
        have F7 : fr pMt w (nS w7 80 31 (nI b)) := fr_then (fr_then F6 f7 (by decide)) h7 (by decide)
        have k7' : tkM bt n s7 (nS w7 80 31 (nI b)) := tkM_on k7 h7 ⟨rfl, rfl, rfl, rfl, rfl, rfl, rfl, rfl⟩ (fun _ => rfl)
        have g7 : wI (nS w7 80 31 (nI b)) 80 19 = nI 0 := (fr_rd h7 rfl).trans ((fr_rd f7 rfl).trans g6)
        have z7 : wI (nS w7 80 31 (nI b)) 80 18 = nI 0 := (fr_rd h7 rfl).trans ((fr_rd f7 rfl).trans z6)
        have X7' : pMx (gU (gU g00 0 0 a) 0 1 b, noT, noT, noT, fun _ => none) s7 (nS w7 80 31 (nI b)) := pMx_of (qM_uhi X7.1) (tdM_fr X7.2.1 h7 rfl rfl) (onM_fr X7.2.2.1 h7 rfl) (pMr_fr X7.2.2.2 h7 (by decide) (Nat.le_refl _))
        rw [hP_B]
        refine m_isS (b := 59) (by decide) k7' (fun hy2 => ?_) (fun hno2 => ?_)
        · rw [hP_B]
          unfold f194_80
          rw [hP_B]
          refine m_good1 g7 ?_
          rw [if_neg (by decide), if_neg (by decide), hP_B]
          refine m_on k7' (fun w8 f8 k8 => ?_)
          rw [hP_some]
          refine lines _ _ w8 (ok_sz ⟨m6.1, m6.2.1⟩ ⟨m7.1, m7.2.1⟩) rfl rfl rfl rfl (fr_then F7 f8 (by decide)) ((fr_rd f8 rfl).trans z7) k8 ((fr_rd f8 rfl).trans g7) (pMx_on X7' f8 (nx_ge bt n s7)) ?_
          exact eT.trans (pThen_y ((pThen_y e6).trans ((pThen_y e7).trans (by unfold seR; rw [if_pos hy2]))))
        · rw [hP_B]
          unfold f194_80
          rw [hP_B]
          refine m_good1 g7 ?_
          rw [if_neg (by decide), if_pos (show nI 0 = 0 from rfl), hP_B]
          refine m_wrong1 g7 k7' ?_
          rw [hP_some]
          refine badL (1, s7) _ (fr_nS (fr_nS F7 rfl) rfl) ?_ (bF_of (by decide)) (eT.trans (pThen_n ((pThen_y e6).trans ((pThen_y e7).trans (by unfold seR; rw [if_neg hno2])))))
          rw [rd_nSj (by decide), rd_nSj (by decide)]
          exact z7
      · have hr := rf_2 cc hcc
        have ne : ¬ nI (rfI.getD cc 0) = nI 10 := by
          intro h
          rw [q_eq (by omega) (by omega)] at h
          have : rfL.getD 10 0 = cc := by rw [← h]; exact hr.2
          exact c0 this.symm
        rw [if_neg (show ¬ nI (rfI.getD cc 0) = 10 from ne)]
        exact noP (fun h => c0 (by rw [isW, e] at h; exact Option.some.inj h))
    · rw [if_neg (show ¬ (-nI 1) = 10 by decide)]
      exact noP (fun h => by rw [isW, e] at h; cases h)
end MTEXT
