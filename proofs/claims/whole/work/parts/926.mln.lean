/-! ===== LINES: the reference reads them ===== -/
def mlPost (bt : Nat → Nat) (n : Nat) (r : pRs lS) (w w' : mW) : Prop := fr pMm w w' ∧ (match r with
  | .inl f => bF f w'
  | .inr x => wI w' 80 19 = nI 0 ∧ tkM bt n x.2 w' ∧ pMx x.1 x.2 w')
section MLN
variable {bt : Nat → Nat} {n : Nat} {w : mW}
theorem mlBad {σ : lS} {s : Nat} {f : Nat × Nat} {w1 : mW} (e : lnP bt n σ s = .inl f) (F : fr pMm w w1) (B : bF f w1) : mlPost bt n (lnS bt n σ s) w w1 := by
  have : lnS bt n σ s = .inl f := pThen_n e
  rw [this]
  exact ⟨F, B⟩
theorem m_finB {σ : lS} {s : Nat} {f : Nat × Nat} {w1 : mW} (e : lnP bt n σ s = .inl f) (F : fr pMm w w1) (B : bF f w1) : hP (nB (f193_80 59 w1) fun v5 w6 => (nB (f194_80 v5 w6) fun _ w8 => (some ((), w8)))) (fun _ w' => mlPost bt n (lnS bt n σ s) w w') := m_semiB B (mlBad e F B)
theorem m_fin {σ σ' : lS} {s s' : Nat} {w1 : mW} (e : lnP bt n σ s = .inr (σ', s')) (F : fr pMm w w1) (k : tkM bt n s' w1) (hg : wI w1 80 19 = nI 0) (X : pMx σ' s' w1) : hP (nB (f193_80 59 w1) fun v5 w6 => (nB (f194_80 v5 w6) fun _ w8 => (some ((), w8)))) (fun _ w' => mlPost bt n (lnS bt n σ s) w w') := by
  have eS : lnS bt n σ s = seR bt n σ' s' := pThen_y e
  rw [eS]
  unfold seR
  refine m_semi k hg (fun hy w2 f2 k2 => ?_) (fun hno => ?_)
  · rw [if_pos hy]
    exact ⟨fr_then F f2 (by decide), (fr_rd f2 rfl).trans hg, k2, pMx_on X f2 (nx_ge bt n s')⟩
  · rw [if_neg hno]
    exact ⟨fr_nS (fr_nS F rfl) rfl, bF_of (by decide)⟩
theorem m_ldeep {g : gS} {tD tG on : Nat → Bool} {r : gR} {s : Nat} (ho : gOk g) (hk : tkM bt n s w) (hg : wI w 80 19 = nI 0) (hx : pMx (g, tD, tG, on, r) s w) (hw : tW bt n s = some 1) : hP (f212_80_j16 (nI 11) w) (fun _ w' => mlPost bt n (lnS bt n (g, tD, tG, on, r) s) w w') := by
  have eL : lnP bt n (g, tD, tG, on, r) s = pThen (spR bt n g tD (nx bt n s)) fun c s2 => pThen (nmR bt n s2 1 9) fun v s3 => .inr ((gU g 1 c v, tUp tD c true, tG, on, r), s3) := by
    unfold lnP
    rw [hw]
    rfl
  unfold f212_80_j16
  rw [hP_B]
  refine m_on hk (fun w2 f2 k2 => ?_)
  have X2 := pMx_on hx f2 (nx_ge bt n s)
  have g2 : wI w2 80 19 = nI 0 := (fr_rd f2 rfl).trans hg
  rw [hP_B]
  refine m_cellH ho k2 g2 (qM_wd X2.1) (qM_hi X2.1) (fun f w3 e3 f3 b3 => ?_) (fun c s1 w3 e3 hc hs1 hK1 f3 k3 => ?_)
  · have eB : lnP bt n (g, tD, tG, on, r) s = .inl f := by rw [eL, spR_X, pThen_n e3]; rfl
    rw [hP_B]
    refine m_good0 b3.1 b3.2.1 ?_
    rw [if_pos (show nI 0 = 0 from rfl)]
    unfold f212_80_j63
    rw [hP_B]
    refine m_good0 b3.1 b3.2.1 ?_
    rw [if_pos (show nI 0 = 0 from rfl), hP_some]
    exact mlBad eB (fr_then (fr_up f2 (by decide)) f3 (by decide)) b3
  · have X3 := pMx_on X2 f3 (show nx bt n s ≤ s1 by omega)
    have g3 : wI w3 80 19 = nI 0 := (fr_rd f3 rfl).trans g2
    have F3 : fr pMm w w3 := fr_then (fr_up f2 (by decide)) f3 (by decide)
    rw [hP_B]
    refine m_good1 g3 ?_
    rw [if_neg (by decide), if_pos (show nI 11 = 11 from rfl)]
    by_cases ct : tD c = true
    · have eS : spR bt n g tD (nx bt n s) = .inl (4, s1) := by rw [spR_X, pThen_y e3, if_pos ct]
      have eB : lnP bt n (g, tD, tG, on, r) s = .inl (4, s1) := by rw [eL, pThen_n eS]
      rw [if_pos (by rw [b64_sr (by omega), (X3.2.1 c hc).1]; exact ct), hP_B]
      refine m_wrong1 g3 k3 ?_
      have B := bF_of (w := w3) (s := s1) (k := 4) (by decide)
      unfold f212_80_j63
      rw [hP_B]
      refine m_good0 B.1 B.2.1 ?_
      rw [if_pos (show nI 0 = 0 from rfl), hP_some]
      exact mlBad eB (fr_nS (fr_nS F3 rfl) rfl) B
    · have eS : spR bt n g tD (nx bt n s) = .inr (c, nx bt n s1) := by rw [spR_X, pThen_y e3, if_neg ct]
      rw [if_neg (by rw [b64_sr (by omega), (X3.2.1 c hc).1]; exact ct)]
      unfold f212_80_j63
      rw [hP_B]
      refine m_good1 g3 ?_
      rw [if_neg (by decide), hP_B]
      refine m_on k3 (fun w4 f4 k4 => ?_)
      have X4 := pMx_on X3 f4 (nx_ge bt n s1)
      have g4 : wI w4 80 19 = nI 0 := (fr_rd f4 rfl).trans g3
      have F4 : fr pMm w w4 := fr_then F3 f4 (by decide)
      rw [if_pos (show nI 11 = 11 from rfl)]
      unfold f212_80_j87
      rw [hP_B]
      refine m_nm (a := 1) (b := 9) (by decide) (by decide) k4 g4 (fun f w5 e5 f5 b5 => ?_) (fun v s5 w5 e5 f5 k5 => ?_)
      · have eB : lnP bt n (g, tD, tG, on, r) s = .inl f := by rw [eL, pThen_y eS, pThen_n e5]
        rw [if_pos (show nI 11 = 11 from rfl), hP_let, hP_gd, q_cl (by omega), hP_let]
        refine ⟨by rw [q_g (by omega)]; exact hc, ?_⟩
        have f6 : fr ([89], [(80, 47)]) w5 (nS (nSJ w5 80 47 (wJ w5 80 47 ||| nLsl 1 (nI c))) 89 c (nI 0)) := fr_nS (fr_nSJ fr_refl rfl) rfl
        exact m_finB eB (fr_then (fr_then F4 f5 (by decide)) f6 (by decide)) (bF_fr b5 f6 rfl rfl)
      · have m5 := nmR_ok e5 k4.2.1
        have eG : lnP bt n (g, tD, tG, on, r) s = .inr ((gU g 1 c v, tUp tD c true, tG, on, r), s5) := by rw [eL, pThen_y eS, pThen_y e5]
        have X5 := pMx_on X4 f5 (show nx bt n s1 ≤ s5 by omega)
        rw [if_pos (show nI 11 = 11 from rfl), hP_let, hP_gd, q_cl (by omega), hP_let]
        refine ⟨by rw [q_g (by omega)]; exact hc, ?_⟩
        have f6 : fr ([89], [(80, 47)]) w5 (nS (nSJ w5 80 47 (wJ w5 80 47 ||| nLsl 1 (nI c))) 89 c (nI v)) := fr_nS (fr_nSJ fr_refl rfl) rfl
        refine m_fin eG (fr_then (fr_then F4 f5 (by decide)) f6 (by decide)) (tkM_on k5 f6 ⟨rfl, rfl, rfl, rfl, rfl, rfl, rfl, rfl⟩ (fun _ => rfl)) ((fr_rd f6 rfl).trans ((fr_rd f5 rfl).trans g4)) (pMx_of (qM_udeep (w := nSJ w5 80 47 _) X5.1) (fun d hd => ?_) (onM_fr X5.2.2.1 f6 rfl) (pMr_fr X5.2.2.2 f6 (by decide) (Nat.le_refl _)))
        show b64 (wJ (nSJ w5 80 47 _) 80 47) d = _ ∧ b64 (wJ (nSJ w5 80 47 _) 80 48) d = _
        rw [rd_nSJ, rd_nSJa (by decide), b64_set (by omega) (by omega), (X5.2.1 d hd).1]
        refine ⟨?_, (X5.2.1 d hd).2⟩
        by_cases e : d = c
        · rw [decide_eq_true e, Bool.or_true, e, tUp_s]
        · rw [decide_eq_false e, Bool.or_false, tUp_o e]
theorem m_lglare {g : gS} {tD tG on : Nat → Bool} {r : gR} {s : Nat} (ho : gOk g) (hk : tkM bt n s w) (hg : wI w 80 19 = nI 0) (hx : pMx (g, tD, tG, on, r) s w) (hw : tW bt n s = some 2) : hP (f212_80_j16 (nI 2) w) (fun _ w' => mlPost bt n (lnS bt n (g, tD, tG, on, r) s) w w') := by
  have eL : lnP bt n (g, tD, tG, on, r) s = pThen (spR bt n g tG (nx bt n s)) fun c s2 => pThen (nmR bt n s2 0 9) fun v s3 => .inr ((gU g 2 c v, tD, tUp tG c true, on, r), s3) := by
    unfold lnP
    rw [hw]
    rfl
  unfold f212_80_j16
  rw [hP_B]
  refine m_on hk (fun w2 f2 k2 => ?_)
  have X2 := pMx_on hx f2 (nx_ge bt n s)
  have g2 : wI w2 80 19 = nI 0 := (fr_rd f2 rfl).trans hg
  rw [hP_B]
  refine m_cellH ho k2 g2 (qM_wd X2.1) (qM_hi X2.1) (fun f w3 e3 f3 b3 => ?_) (fun c s1 w3 e3 hc hs1 hK1 f3 k3 => ?_)
  · have eB : lnP bt n (g, tD, tG, on, r) s = .inl f := by rw [eL, spR_X, pThen_n e3]; rfl
    rw [hP_B]
    refine m_good0 b3.1 b3.2.1 ?_
    rw [if_pos (show nI 0 = 0 from rfl)]
    unfold f212_80_j63
    rw [hP_B]
    refine m_good0 b3.1 b3.2.1 ?_
    rw [if_pos (show nI 0 = 0 from rfl), hP_some]
    exact mlBad eB (fr_then (fr_up f2 (by decide)) f3 (by decide)) b3
  · have X3 := pMx_on X2 f3 (show nx bt n s ≤ s1 by omega)
    have g3 : wI w3 80 19 = nI 0 := (fr_rd f3 rfl).trans g2
    have F3 : fr pMm w w3 := fr_then (fr_up f2 (by decide)) f3 (by decide)
    rw [hP_B]
    refine m_good1 g3 ?_
    rw [if_neg (by decide), if_neg (show ¬ nI 2 = 11 by decide)]
    by_cases ct : tG c = true
    · have eS : spR bt n g tG (nx bt n s) = .inl (4, s1) := by rw [spR_X, pThen_y e3, if_pos ct]
      have eB : lnP bt n (g, tD, tG, on, r) s = .inl (4, s1) := by rw [eL, pThen_n eS]
      rw [if_pos (by rw [b64_sr (by omega), (X3.2.1 c hc).2]; exact ct), hP_B]
      refine m_wrong1 g3 k3 ?_
      have B := bF_of (w := w3) (s := s1) (k := 4) (by decide)
      unfold f212_80_j63
      rw [hP_B]
      refine m_good0 B.1 B.2.1 ?_
      rw [if_pos (show nI 0 = 0 from rfl), hP_some]
      exact mlBad eB (fr_nS (fr_nS F3 rfl) rfl) B
    · have eS : spR bt n g tG (nx bt n s) = .inr (c, nx bt n s1) := by rw [spR_X, pThen_y e3, if_neg ct]
      rw [if_neg (by rw [b64_sr (by omega), (X3.2.1 c hc).2]; exact ct)]
      unfold f212_80_j63
      rw [hP_B]
      refine m_good1 g3 ?_
      rw [if_neg (by decide), hP_B]
      refine m_on k3 (fun w4 f4 k4 => ?_)
      have X4 := pMx_on X3 f4 (nx_ge bt n s1)
      have g4 : wI w4 80 19 = nI 0 := (fr_rd f4 rfl).trans g3
      have F4 : fr pMm w w4 := fr_then F3 f4 (by decide)
      rw [if_neg (show ¬ nI 2 = 11 by decide)]
      unfold f212_80_j87
      rw [hP_B]
      refine m_nm (a := 0) (b := 9) (by decide) (by decide) k4 g4 (fun f w5 e5 f5 b5 => ?_) (fun v s5 w5 e5 f5 k5 => ?_)
      · have eB : lnP bt n (g, tD, tG, on, r) s = .inl f := by rw [eL, pThen_y eS, pThen_n e5]
        rw [if_neg (show ¬ nI 2 = 11 by decide), hP_let, hP_gd, q_cl (by omega), hP_let]
        refine ⟨by rw [q_g (by omega)]; exact hc, ?_⟩
        have f6 : fr ([90], [(80, 48)]) w5 (nS (nSJ w5 80 48 (wJ w5 80 48 ||| nLsl 1 (nI c))) 90 c (nI 0)) := fr_nS (fr_nSJ fr_refl rfl) rfl
        exact m_finB eB (fr_then (fr_then F4 f5 (by decide)) f6 (by decide)) (bF_fr b5 f6 rfl rfl)
      · have m5 := nmR_ok e5 k4.2.1
        have eG : lnP bt n (g, tD, tG, on, r) s = .inr ((gU g 2 c v, tD, tUp tG c true, on, r), s5) := by rw [eL, pThen_y eS, pThen_y e5]
        have X5 := pMx_on X4 f5 (show nx bt n s1 ≤ s5 by omega)
        rw [if_neg (show ¬ nI 2 = 11 by decide), hP_let, hP_gd, q_cl (by omega), hP_let]
        refine ⟨by rw [q_g (by omega)]; exact hc, ?_⟩
        have f6 : fr ([90], [(80, 48)]) w5 (nS (nSJ w5 80 48 (wJ w5 80 48 ||| nLsl 1 (nI c))) 90 c (nI v)) := fr_nS (fr_nSJ fr_refl rfl) rfl
        refine m_fin eG (fr_then (fr_then F4 f5 (by decide)) f6 (by decide)) (tkM_on k5 f6 ⟨rfl, rfl, rfl, rfl, rfl, rfl, rfl, rfl⟩ (fun _ => rfl)) ((fr_rd f6 rfl).trans ((fr_rd f5 rfl).trans g4)) (pMx_of (qM_uglare (w := nSJ w5 80 48 _) X5.1) (fun d hd => ?_) (onM_fr X5.2.2.1 f6 rfl) (pMr_fr X5.2.2.2 f6 (by decide) (Nat.le_refl _)))
        show b64 (wJ (nSJ w5 80 48 _) 80 47) d = _ ∧ b64 (wJ (nSJ w5 80 48 _) 80 48) d = _
        rw [rd_nSJ, rd_nSJa (by decide), b64_set (by omega) (by omega), (X5.2.1 d hd).2]
        refine ⟨(X5.2.1 d hd).1, ?_⟩
        by_cases e : d = c
        · rw [decide_eq_true e, Bool.or_true, e, tUp_s]
        · rw [decide_eq_false e, Bool.or_false, tUp_o e]
theorem rd_nSx {w : mW} {a j b k : Nat} {v : Int32} (h : ¬ (b = a ∧ k = j)) : wI (nS w a j v) b k = wI w b k := by
  by_cases e : b = a
  · subst e
    exact rd_nSj (fun hk => h ⟨rfl, hk⟩)
  · exact rd_nSa e
/-- alike but in p -/
theorem qM_eq {g : gS} {p : fP} {w w' : mW} (hd : fOff [89, 90, 91, 92, 93, 94, 95] [(80, 30), (80, 31), (80, 32), (80, 33), (80, 34), (80, 35), (80, 36), (80, 37), (80, 40)] p = true) (he : ∀ a j, fIn p a j = false → wI w' a j = wI w a j) (h : qM g w) : qM g w' := by
  have h1 : fr p w (w'.1, w.2) := ⟨he, fun _ _ _ => rfl, rfl⟩
  exact qM_fr (w' := (w'.1, w.2)) hd h1 h
theorem m_lsw {g : gS} {tD tG on : Nat → Bool} {r : gR} {s : Nat} (ho : gOk g) (hk : tkM bt n s w) (hg : wI w 80 19 = nI 0) (hx : pMx (g, tD, tG, on, r) s w) (hw : tW bt n s = some 3) : hP (if (wI w 80 32) = 12 then (nB (f191_80 2 w) fun _ w77 => (f212_80_j163 w77)) else (f212_80_j163 w)) (fun _ w' => mlPost bt n (lnS bt n (g, tD, tG, on, r) s) w w') := by
  have eL : lnP bt n (g, tD, tG, on, r) s = pThen (moR bt n (gSw g) 12 s) fun _ s1 => pThen (spR bt n g noT s1) fun c s2 => pThen (nmR bt n s2 0 9) fun v s3 => .inr ((gU (gU (gU g 5 (gSw g) c) 3 (gSw g) v) 0 2 (gSw g + 1), tD, tG, on, r), s3) := by
    unfold lnP
    rw [hw]
    rfl
  have hb12 := gOk_sw ho
  have hK : tK bt n s ≠ 0 := by rw [(tW_lt hw).1]; decide
  rw [show wI w 80 32 = nI (gSw g) from qM_sw hx.1]
  by_cases c12 : gSw g = 12
  · have eM : moR bt n (gSw g) 12 s = .inl (2, s) := by unfold moR; rw [if_neg (by omega)]
    rw [if_pos (by rw [c12]; rfl), hP_B]
    refine m_wrong1 hg hk ?_
    have B := bF_of (w := w) (s := s) (k := 2) (by decide)
    unfold f212_80_j163
    rw [hP_B]
    refine m_good0 B.1 B.2.1 ?_
    rw [if_pos (show nI 0 = 0 from rfl), hP_some]
    exact mlBad (eL.trans (pThen_n eM)) (fr_nS (fr_nS fr_refl rfl) rfl) B
  · have eM : moR bt n (gSw g) 12 s = .inr ((), nx bt n s) := by unfold moR; rw [if_pos (by omega)]
    rw [if_neg (by rw [q_lit, q_eq (by omega) (by omega)]; exact c12)]
    unfold f212_80_j163
    rw [hP_B]
    refine m_good1 hg ?_
    rw [if_neg (by decide), hP_B]
    refine m_on hk (fun w2 f2 k2 => ?_)
    have X2 := pMx_on hx f2 (nx_ge bt n s)
    have g2 : wI w2 80 19 = nI 0 := (fr_rd f2 rfl).trans hg
    have u2 : wI w2 80 32 = nI (gSw g) := qM_sw X2.1
    have F2 : fr pMm w w2 := fr_up f2 (by decide)
    rw [hP_B]
    refine m_cellN ho k2 g2 (qM_wd X2.1) (qM_hi X2.1) (fun f w3 e3 f3 b3 => ?_) (fun c s3 w3 e3 f3 k3 => ?_)
    · have eB : lnP bt n (g, tD, tG, on, r) s = .inl f := by rw [eL, pThen_y eM, pThen_n e3]
      rw [u2, hP_gd, q_cl (by omega), hP_let, hP_B]
      refine ⟨by rw [q_g (by omega)]; omega, ?_⟩
      have f4 : fr ([92], []) w3 (nS w3 92 (gSw g) (nI 0)) := fr_nS fr_refl rfl
      have b4 := bF_fr b3 f4 rfl rfl
      refine m_nmB b4 ?_
      have u4 : wI (nS w3 92 (gSw g) (nI 0)) 80 32 = nI (gSw g) := (fr_rd f4 rfl).trans ((fr_rd f3 rfl).trans u2)
      rw [u4, hP_gd, q_cl (by omega), hP_let, hP_B]
      refine ⟨by rw [q_g (by omega)]; omega, ?_⟩
      have f5 : fr ([91], []) (nS w3 92 (gSw g) (nI 0)) (nS (nS w3 92 (gSw g) (nI 0)) 91 (gSw g) (nI 0)) := fr_nS fr_refl rfl
      have b5 := bF_fr b4 f5 rfl rfl
      refine m_good0 b5.1 b5.2.1 ?_
      rw [if_pos (show nI 0 = 0 from rfl)]
      exact m_finB eB (fr_then (fr_then (fr_then F2 f3 (by decide)) f4 (by decide)) f5 (by decide)) b5
    · have m3 := spR_ok e3 k2.2.1 ho
      have X3 := pMx_on X2 f3 (show nx bt n s ≤ s3 by omega)
      have g3 : wI w3 80 19 = nI 0 := (fr_rd f3 rfl).trans g2
      rw [u2, hP_gd, q_cl (by omega), hP_let, hP_B]
      refine ⟨by rw [q_g (by omega)]; omega, ?_⟩
      have f4 : fr ([92], []) w3 (nS w3 92 (gSw g) (nI c)) := fr_nS fr_refl rfl
      have k4 : tkM bt n s3 (nS w3 92 (gSw g) (nI c)) := tkM_on k3 f4 ⟨rfl, rfl, rfl, rfl, rfl, rfl, rfl, rfl⟩ (fun _ => rfl)
      have g4 : wI (nS w3 92 (gSw g) (nI c)) 80 19 = nI 0 := (fr_rd f4 rfl).trans g3
      have u4 : wI (nS w3 92 (gSw g) (nI c)) 80 32 = nI (gSw g) := (fr_rd f4 rfl).trans ((fr_rd f3 rfl).trans u2)
      have F4 : fr pMm w (nS w3 92 (gSw g) (nI c)) := fr_then (fr_then F2 f3 (by decide)) f4 (by decide)
      refine m_nm (a := 0) (b := 9) (by decide) (by decide) k4 g4 (fun f w5 e5 f5 b5 => ?_) (fun v s5 w5 e5 f5 k5 => ?_)
      · have eB : lnP bt n (g, tD, tG, on, r) s = .inl f := by rw [eL, pThen_y eM, pThen_y e3, pThen_n e5]
        rw [u4, hP_gd, q_cl (by omega), hP_let, hP_B]
        refine ⟨by rw [q_g (by omega)]; omega, ?_⟩
        have f6 : fr ([91], []) w5 (nS w5 91 (gSw g) (nI 0)) := fr_nS fr_refl rfl
        have b6 := bF_fr b5 f6 rfl rfl
        refine m_good0 b6.1 b6.2.1 ?_
        rw [if_pos (show nI 0 = 0 from rfl)]
        exact m_finB eB (fr_then (fr_then F4 f5 (by decide)) f6 (by decide)) b6
      · have m5 := nmR_ok e5 k3.2.1
        have eG : lnP bt n (g, tD, tG, on, r) s = .inr ((gU (gU (gU g 5 (gSw g) c) 3 (gSw g) v) 0 2 (gSw g + 1), tD, tG, on, r), s5) := by rw [eL, pThen_y eM, pThen_y e3, pThen_y e5]
        have F5 : fr pMm w w5 := fr_then F4 f5 (by decide)
        rw [u4, hP_gd, q_cl (by omega), hP_let, hP_B]
        refine ⟨by rw [q_g (by omega)]; omega, ?_⟩
        have g6 : wI (nS w5 91 (gSw g) (nI v)) 80 19 = nI 0 := by rw [rd_nSa (by decide)]; exact (fr_rd f5 rfl).trans g4
        refine m_good1 g6 ?_
        have u6 : wI (nS w5 91 (gSw g) (nI v)) 80 32 = nI (gSw g) := by rw [rd_nSa (by decide)]; exact (fr_rd f5 rfl).trans u4
        have ei : nI (gSw g) + 1 = nI (gSw g + 1) := by rw [← nI_add]; rfl
        rw [if_neg (by decide), hP_let, u6, ei]
        have f7 : fr ([91], [(80, 32)]) w5 (nS (nS w5 91 (gSw g) (nI v)) 80 32 (nI (gSw g + 1))) := fr_nS (fr_nS fr_refl rfl) rfl
        have f37 : fr ([92, 91], [(80, 32), (80, 23), (80, 24), (80, 25), (80, 26), (80, 27), (80, 28), (80, 29)]) w3 (nS (nS w5 91 (gSw g) (nI v)) 80 32 (nI (gSw g + 1))) := fr_then (fr_then (fr_up f4 (by decide)) f5 (by decide)) f7 (by decide)
        -- the same world, the writes last
        have q7 : qM (gU (gU (gU g 5 (gSw g) c) 3 (gSw g) v) 0 2 (gSw g + 1)) (nS (nS w5 91 (gSw g) (nI v)) 80 32 (nI (gSw g + 1))) := by
          have q3 := qM_usw (c := c) (v := v) X3.1
          have eq : ∀ a j, fIn pM a j = false → wI (nS (nS w5 91 (gSw g) (nI v)) 80 32 (nI (gSw g + 1))) a j = wI (nS (nS (nS w3 92 (gSw g) (nI c)) 91 (gSw g) (nI v)) 80 32 (nI (gSw g + 1))) a j := by
            intro a j hp
            by_cases h1 : a = 80 ∧ j = 32
            · rw [h1.1, h1.2, rd_nS, rd_nS]
            · rw [rd_nSx h1, rd_nSx h1]
              by_cases h2 : a = 91 ∧ j = gSw g
              · rw [h2.1, h2.2, rd_nS, rd_nS]
              · rw [rd_nSx h2, rd_nSx h2]
                exact fr_rd f5 hp
          exact qM_eq (by decide) eq q3
        exact m_fin eG (fr_then F5 f7 (by decide)) (tkM_on k5 f7 ⟨rfl, rfl, rfl, rfl, rfl, rfl, rfl, rfl⟩ (fun _ => rfl)) ((fr_rd f7 rfl).trans ((fr_rd f5 rfl).trans g4)) (pMx_of q7 (tdM_fr X3.2.1 f37 rfl rfl) (onM_fr X3.2.2.1 f37 rfl) (pMr_fr X3.2.2.2 f37 (by decide) (by omega)))
theorem m_llk {g : gS} {tD tG on : Nat → Bool} {r : gR} {s : Nat} (ho : gOk g) (hk : tkM bt n s w) (hg : wI w 80 19 = nI 0) (hx : pMx (g, tD, tG, on, r) s w) (hw : tW bt n s = some 5) : hP (if (wI w 80 33) = 12 then (nB (f191_80 2 w) fun _ w77 => (f212_80_j269 w77)) else (f212_80_j269 w)) (fun _ w' => mlPost bt n (lnS bt n (g, tD, tG, on, r) s) w w') := by
  have eL : lnP bt n (g, tD, tG, on, r) s = pThen (moR bt n (gLk g) 12 s) fun _ s1 => pThen (spR bt n g noT s1) fun c s2 => pThen (nmR bt n s2 1 9) fun v s3 => .inr ((gU (gU (gU g 6 (gLk g) c) 7 (gLk g) v) 0 3 (gLk g + 1), tD, tG, on, r), s3) := by
    unfold lnP
    rw [hw]
    rfl
  have hb12 := gOk_lk ho
  have hK : tK bt n s ≠ 0 := by rw [(tW_lt hw).1]; decide
  rw [show wI w 80 33 = nI (gLk g) from qM_lk hx.1]
  by_cases c12 : gLk g = 12
  · have eM : moR bt n (gLk g) 12 s = .inl (2, s) := by unfold moR; rw [if_neg (by omega)]
    rw [if_pos (by rw [c12]; rfl), hP_B]
    refine m_wrong1 hg hk ?_
    have B := bF_of (w := w) (s := s) (k := 2) (by decide)
    unfold f212_80_j269
    rw [hP_B]
    refine m_good0 B.1 B.2.1 ?_
    rw [if_pos (show nI 0 = 0 from rfl), hP_some]
    exact mlBad (eL.trans (pThen_n eM)) (fr_nS (fr_nS fr_refl rfl) rfl) B
  · have eM : moR bt n (gLk g) 12 s = .inr ((), nx bt n s) := by unfold moR; rw [if_pos (by omega)]
    rw [if_neg (by rw [q_lit, q_eq (by omega) (by omega)]; exact c12)]
    unfold f212_80_j269
    rw [hP_B]
    refine m_good1 hg ?_
    rw [if_neg (by decide), hP_B]
    refine m_on hk (fun w2 f2 k2 => ?_)
    have X2 := pMx_on hx f2 (nx_ge bt n s)
    have g2 : wI w2 80 19 = nI 0 := (fr_rd f2 rfl).trans hg
    have u2 : wI w2 80 33 = nI (gLk g) := qM_lk X2.1
    have F2 : fr pMm w w2 := fr_up f2 (by decide)
    rw [hP_B]
    refine m_cellN ho k2 g2 (qM_wd X2.1) (qM_hi X2.1) (fun f w3 e3 f3 b3 => ?_) (fun c s3 w3 e3 f3 k3 => ?_)
    · have eB : lnP bt n (g, tD, tG, on, r) s = .inl f := by rw [eL, pThen_y eM, pThen_n e3]
      rw [u2, hP_gd, q_cl (by omega), hP_let, hP_B]
      refine ⟨by rw [q_g (by omega)]; omega, ?_⟩
      have f4 : fr ([93], []) w3 (nS w3 93 (gLk g) (nI 0)) := fr_nS fr_refl rfl
      have b4 := bF_fr b3 f4 rfl rfl
      refine m_nmB b4 ?_
      have u4 : wI (nS w3 93 (gLk g) (nI 0)) 80 33 = nI (gLk g) := (fr_rd f4 rfl).trans ((fr_rd f3 rfl).trans u2)
      rw [u4, hP_gd, q_cl (by omega), hP_let, hP_B]
      refine ⟨by rw [q_g (by omega)]; omega, ?_⟩
      have f5 : fr ([94], []) (nS w3 93 (gLk g) (nI 0)) (nS (nS w3 93 (gLk g) (nI 0)) 94 (gLk g) (nI 0)) := fr_nS fr_refl rfl
      have b5 := bF_fr b4 f5 rfl rfl
      refine m_good0 b5.1 b5.2.1 ?_
      rw [if_pos (show nI 0 = 0 from rfl)]
      exact m_finB eB (fr_then (fr_then (fr_then F2 f3 (by decide)) f4 (by decide)) f5 (by decide)) b5
    · have m3 := spR_ok e3 k2.2.1 ho
      have X3 := pMx_on X2 f3 (show nx bt n s ≤ s3 by omega)
      have g3 : wI w3 80 19 = nI 0 := (fr_rd f3 rfl).trans g2
      rw [u2, hP_gd, q_cl (by omega), hP_let, hP_B]
      refine ⟨by rw [q_g (by omega)]; omega, ?_⟩
      have f4 : fr ([93], []) w3 (nS w3 93 (gLk g) (nI c)) := fr_nS fr_refl rfl
      have k4 : tkM bt n s3 (nS w3 93 (gLk g) (nI c)) := tkM_on k3 f4 ⟨rfl, rfl, rfl, rfl, rfl, rfl, rfl, rfl⟩ (fun _ => rfl)
      have g4 : wI (nS w3 93 (gLk g) (nI c)) 80 19 = nI 0 := (fr_rd f4 rfl).trans g3
      have u4 : wI (nS w3 93 (gLk g) (nI c)) 80 33 = nI (gLk g) := (fr_rd f4 rfl).trans ((fr_rd f3 rfl).trans u2)
      have F4 : fr pMm w (nS w3 93 (gLk g) (nI c)) := fr_then (fr_then F2 f3 (by decide)) f4 (by decide)
      refine m_nm (a := 1) (b := 9) (by decide) (by decide) k4 g4 (fun f w5 e5 f5 b5 => ?_) (fun v s5 w5 e5 f5 k5 => ?_)
      · have eB : lnP bt n (g, tD, tG, on, r) s = .inl f := by rw [eL, pThen_y eM, pThen_y e3, pThen_n e5]
        rw [u4, hP_gd, q_cl (by omega), hP_let, hP_B]
        refine ⟨by rw [q_g (by omega)]; omega, ?_⟩
        have f6 : fr ([94], []) w5 (nS w5 94 (gLk g) (nI 0)) := fr_nS fr_refl rfl
        have b6 := bF_fr b5 f6 rfl rfl
        refine m_good0 b6.1 b6.2.1 ?_
        rw [if_pos (show nI 0 = 0 from rfl)]
        exact m_finB eB (fr_then (fr_then F4 f5 (by decide)) f6 (by decide)) b6
      · have m5 := nmR_ok e5 k3.2.1
        have eG : lnP bt n (g, tD, tG, on, r) s = .inr ((gU (gU (gU g 6 (gLk g) c) 7 (gLk g) v) 0 3 (gLk g + 1), tD, tG, on, r), s5) := by rw [eL, pThen_y eM, pThen_y e3, pThen_y e5]
        have F5 : fr pMm w w5 := fr_then F4 f5 (by decide)
        rw [u4, hP_gd, q_cl (by omega), hP_let, hP_B]
        refine ⟨by rw [q_g (by omega)]; omega, ?_⟩
        have g6 : wI (nS w5 94 (gLk g) (nI v)) 80 19 = nI 0 := by rw [rd_nSa (by decide)]; exact (fr_rd f5 rfl).trans g4
        refine m_good1 g6 ?_
        have u6 : wI (nS w5 94 (gLk g) (nI v)) 80 33 = nI (gLk g) := by rw [rd_nSa (by decide)]; exact (fr_rd f5 rfl).trans u4
        have ei : nI (gLk g) + 1 = nI (gLk g + 1) := by rw [← nI_add]; rfl
        rw [if_neg (by decide), hP_let, u6, ei]
        have f7 : fr ([94], [(80, 33)]) w5 (nS (nS w5 94 (gLk g) (nI v)) 80 33 (nI (gLk g + 1))) := fr_nS (fr_nS fr_refl rfl) rfl
        have f37 : fr ([93, 94], [(80, 33), (80, 23), (80, 24), (80, 25), (80, 26), (80, 27), (80, 28), (80, 29)]) w3 (nS (nS w5 94 (gLk g) (nI v)) 80 33 (nI (gLk g + 1))) := fr_then (fr_then (fr_up f4 (by decide)) f5 (by decide)) f7 (by decide)
        -- the same world, the writes last
        have q7 : qM (gU (gU (gU g 6 (gLk g) c) 7 (gLk g) v) 0 3 (gLk g + 1)) (nS (nS w5 94 (gLk g) (nI v)) 80 33 (nI (gLk g + 1))) := by
          have q3 := qM_ulk (c := c) (v := v) X3.1
          have eq : ∀ a j, fIn pM a j = false → wI (nS (nS w5 94 (gLk g) (nI v)) 80 33 (nI (gLk g + 1))) a j = wI (nS (nS (nS w3 93 (gLk g) (nI c)) 94 (gLk g) (nI v)) 80 33 (nI (gLk g + 1))) a j := by
            intro a j hp
            by_cases h1 : a = 80 ∧ j = 33
            · rw [h1.1, h1.2, rd_nS, rd_nS]
            · rw [rd_nSx h1, rd_nSx h1]
              by_cases h2 : a = 94 ∧ j = gLk g
              · rw [h2.1, h2.2, rd_nS, rd_nS]
              · rw [rd_nSx h2, rd_nSx h2]
                exact fr_rd f5 hp
          exact qM_eq (by decide) eq q3
        exact m_fin eG (fr_then F5 f7 (by decide)) (tkM_on k5 f7 ⟨rfl, rfl, rfl, rfl, rfl, rfl, rfl, rfl⟩ (fun _ => rfl)) ((fr_rd f7 rfl).trans ((fr_rd f5 rfl).trans g4)) (pMx_of q7 (tdM_fr X3.2.1 f37 rfl rfl) (onM_fr X3.2.2.1 f37 rfl) (pMr_fr X3.2.2.2 f37 (by decide) (by omega)))
theorem m_lch {g : gS} {tD tG on : Nat → Bool} {r : gR} {s : Nat} (ho : gOk g) (hk : tkM bt n s w) (hg : wI w 80 19 = nI 0) (hx : pMx (g, tD, tG, on, r) s w) (hw : tW bt n s = some 4) : hP (nB (f208_80 (nI 13) w) fun v48 w49 => (if v48 = 0 then (nB (f193_80 59 w49) fun v50 w51 => (nB (f194_80 v50 w51) fun _ w53 => (some ((), w53)))) else (nB (f210_80 w49) fun v54 w55 => (nLet (nS w55 80 40 v54) fun w56 => (nB (f193_80 59 w56) fun v57 w58 => (nB (f194_80 v57 w58) fun _ w60 => (some ((), w60)))))))) (fun _ w' => mlPost bt n (lnS bt n (g, tD, tG, on, r) s) w w') := by
  have eL : lnP bt n (g, tD, tG, on, r) s = pThen (onR bt n on 0 s) fun on s1 => pThen (spR bt n g noT s1) fun v s2 => .inr ((gU g 0 8 v, tD, tG, on, r), s2) := by
    unfold lnP
    rw [hw]
    rfl
  have hK : tK bt n s ≠ 0 := by rw [(tW_lt hw).1]; decide
  rw [hP_B]
  refine m_once (i := 0) (by decide) hk hg hx.2.2.1 (fun f w1 e1 f1 b1 => ?_) (fun on' s1 w1 e1 f1 k1 on1 => ?_)
  · rw [if_pos (show nI 0 = 0 from rfl)]
    exact m_finB (eL.trans (pThen_n e1)) f1 b1
  have m1 := onR_ok e1 hk.2.1 hK
  have X1 : pMx (g, tD, tG, on', r) s1 w1 := pMx_of (qM_fr (by decide) f1 hx.1) (tdM_fr hx.2.1 f1 rfl rfl) on1 (pMr_fr hx.2.2.2 f1 (by decide) (by omega))
  have g1 : wI w1 80 19 = nI 0 := (fr_rd f1 rfl).trans hg
  have F1 : fr pMm w w1 := fr_up f1 (by decide)
  rw [if_neg (by decide), hP_B]
  refine m_cellN ho k1 g1 (qM_wd X1.1) (qM_hi X1.1) (fun f w3 e3 f3 b3 => ?_) (fun c s3 w3 e3 f3 k3 => ?_)
  · rw [hP_let]
    have f4 : fr ([], [(80, 40)]) w3 (nS w3 80 40 (nI 0)) := fr_nS fr_refl rfl
    exact m_finB (eL.trans ((pThen_y e1).trans (pThen_n e3))) (fr_then (fr_then F1 f3 (by decide)) f4 (by decide)) (bF_fr b3 f4 rfl rfl)
  have s23 := (spR_ok e3 k1.2.1 ho).2.2.1
  have X3 := pMx_on X1 f3 (show s1 ≤ s3 by omega)
  rw [hP_let]
  have f5 : fr ([], [(80, 40)]) w3 (nS w3 80 40 (nI c)) := fr_nS fr_refl rfl
  exact m_fin (eL.trans ((pThen_y e1).trans (pThen_y e3))) (fr_then (fr_then F1 f3 (by decide)) f5 (by decide)) (tkM_on k3 f5 ⟨rfl, rfl, rfl, rfl, rfl, rfl, rfl, rfl⟩ (fun _ => rfl)) ((fr_rd f5 rfl).trans ((fr_rd f3 rfl).trans g1)) (pMx_of (qM_uch X3.1) (tdM_fr X3.2.1 f5 rfl rfl) (onM_fr X3.2.2.1 f5 rfl) (pMr_fr X3.2.2.2 f5 (by decide) (Nat.le_refl _)))
theorem m_lla {g : gS} {tD tG on : Nat → Bool} {r : gR} {s : Nat} (ho : gOk g) (hk : tkM bt n s w) (hg : wI w 80 19 = nI 0) (hx : pMx (g, tD, tG, on, r) s w) (hw : tW bt n s = some 6) : hP (nB (f208_80 (nI 15) w) fun v48 w49 => (if v48 = 0 then (nB (f193_80 59 w49) fun v50 w51 => (nB (f194_80 v50 w51) fun _ w53 => (some ((), w53)))) else (nB (f196_80 1 300 w49) fun v54 w55 => (nLet (nS w55 80 34 v54) fun w56 => (nB (f193_80 59 w56) fun v57 w58 => (nB (f194_80 v57 w58) fun _ w60 => (some ((), w60)))))))) (fun _ w' => mlPost bt n (lnS bt n (g, tD, tG, on, r) s) w w') := by
  have eL : lnP bt n (g, tD, tG, on, r) s = pThen (onR bt n on 1 s) fun on s1 => pThen (nmR bt n s1 1 300) fun v s2 => .inr ((gU g 0 4 v, tD, tG, on, r), s2) := by
    unfold lnP
    rw [hw]
    rfl
  have hK : tK bt n s ≠ 0 := by rw [(tW_lt hw).1]; decide
  rw [hP_B]
  refine m_once (i := 1) (by decide) hk hg hx.2.2.1 (fun f w1 e1 f1 b1 => ?_) (fun on' s1 w1 e1 f1 k1 on1 => ?_)
  · rw [if_pos (show nI 0 = 0 from rfl)]
    exact m_finB (eL.trans (pThen_n e1)) f1 b1
  have m1 := onR_ok e1 hk.2.1 hK
  have X1 : pMx (g, tD, tG, on', r) s1 w1 := pMx_of (qM_fr (by decide) f1 hx.1) (tdM_fr hx.2.1 f1 rfl rfl) on1 (pMr_fr hx.2.2.2 f1 (by decide) (by omega))
  have g1 : wI w1 80 19 = nI 0 := (fr_rd f1 rfl).trans hg
  have F1 : fr pMm w w1 := fr_up f1 (by decide)
  rw [if_neg (by decide), hP_B]
  refine m_nm (a := 1) (b := 300) (by decide) (by decide) k1 g1 (fun f w3 e3 f3 b3 => ?_) (fun c s3 w3 e3 f3 k3 => ?_)
  · rw [hP_let]
    have f4 : fr ([], [(80, 34)]) w3 (nS w3 80 34 (nI 0)) := fr_nS fr_refl rfl
    exact m_finB (eL.trans ((pThen_y e1).trans (pThen_n e3))) (fr_then (fr_then F1 f3 (by decide)) f4 (by decide)) (bF_fr b3 f4 rfl rfl)
  have s23 := (nmR_ok e3 k1.2.1).2.2.2.1
  have X3 := pMx_on X1 f3 (show s1 ≤ s3 by omega)
  rw [hP_let]
  have f5 : fr ([], [(80, 34)]) w3 (nS w3 80 34 (nI c)) := fr_nS fr_refl rfl
  exact m_fin (eL.trans ((pThen_y e1).trans (pThen_y e3))) (fr_then (fr_then F1 f3 (by decide)) f5 (by decide)) (tkM_on k3 f5 ⟨rfl, rfl, rfl, rfl, rfl, rfl, rfl, rfl⟩ (fun _ => rfl)) ((fr_rd f5 rfl).trans ((fr_rd f3 rfl).trans g1)) (pMx_of (qM_ula X3.1) (tdM_fr X3.2.1 f5 rfl rfl) (onM_fr X3.2.2.1 f5 rfl) (pMr_fr X3.2.2.2 f5 (by decide) (Nat.le_refl _)))
theorem m_lti {g : gS} {tD tG on : Nat → Bool} {r : gR} {s : Nat} (ho : gOk g) (hk : tkM bt n s w) (hg : wI w 80 19 = nI 0) (hx : pMx (g, tD, tG, on, r) s w) (hw : tW bt n s = some 7) : hP (nB (f208_80 (nI 16) w) fun v48 w49 => (if v48 = 0 then (nB (f193_80 59 w49) fun v50 w51 => (nB (f194_80 v50 w51) fun _ w53 => (some ((), w53)))) else (nB (f196_80 1 99 w49) fun v54 w55 => (nLet (nS w55 80 35 v54) fun w56 => (nB (f193_80 59 w56) fun v57 w58 => (nB (f194_80 v57 w58) fun _ w60 => (some ((), w60)))))))) (fun _ w' => mlPost bt n (lnS bt n (g, tD, tG, on, r) s) w w') := by
  have eL : lnP bt n (g, tD, tG, on, r) s = pThen (onR bt n on 2 s) fun on s1 => pThen (nmR bt n s1 1 99) fun v s2 => .inr ((gU g 0 5 v, tD, tG, on, r), s2) := by
    unfold lnP
    rw [hw]
    rfl
  have hK : tK bt n s ≠ 0 := by rw [(tW_lt hw).1]; decide
  rw [hP_B]
  refine m_once (i := 2) (by decide) hk hg hx.2.2.1 (fun f w1 e1 f1 b1 => ?_) (fun on' s1 w1 e1 f1 k1 on1 => ?_)
  · rw [if_pos (show nI 0 = 0 from rfl)]
    exact m_finB (eL.trans (pThen_n e1)) f1 b1
  have m1 := onR_ok e1 hk.2.1 hK
  have X1 : pMx (g, tD, tG, on', r) s1 w1 := pMx_of (qM_fr (by decide) f1 hx.1) (tdM_fr hx.2.1 f1 rfl rfl) on1 (pMr_fr hx.2.2.2 f1 (by decide) (by omega))
  have g1 : wI w1 80 19 = nI 0 := (fr_rd f1 rfl).trans hg
  have F1 : fr pMm w w1 := fr_up f1 (by decide)
  rw [if_neg (by decide), hP_B]
  refine m_nm (a := 1) (b := 99) (by decide) (by decide) k1 g1 (fun f w3 e3 f3 b3 => ?_) (fun c s3 w3 e3 f3 k3 => ?_)
  · rw [hP_let]
    have f4 : fr ([], [(80, 35)]) w3 (nS w3 80 35 (nI 0)) := fr_nS fr_refl rfl
    exact m_finB (eL.trans ((pThen_y e1).trans (pThen_n e3))) (fr_then (fr_then F1 f3 (by decide)) f4 (by decide)) (bF_fr b3 f4 rfl rfl)
  have s23 := (nmR_ok e3 k1.2.1).2.2.2.1
  have X3 := pMx_on X1 f3 (show s1 ≤ s3 by omega)
  rw [hP_let]
  have f5 : fr ([], [(80, 35)]) w3 (nS w3 80 35 (nI c)) := fr_nS fr_refl rfl
  exact m_fin (eL.trans ((pThen_y e1).trans (pThen_y e3))) (fr_then (fr_then F1 f3 (by decide)) f5 (by decide)) (tkM_on k3 f5 ⟨rfl, rfl, rfl, rfl, rfl, rfl, rfl, rfl⟩ (fun _ => rfl)) ((fr_rd f5 rfl).trans ((fr_rd f3 rfl).trans g1)) (pMx_of (qM_uti X3.1) (tdM_fr X3.2.1 f5 rfl rfl) (onM_fr X3.2.2.1 f5 rfl) (pMr_fr X3.2.2.2 f5 (by decide) (Nat.le_refl _)))
end MLN
