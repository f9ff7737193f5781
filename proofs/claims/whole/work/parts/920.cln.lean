/-! ===== LINES: the class reads them ===== -/
section CLN
variable {bt : Nat → Nat} {n : Nat} {w : mW}
def pCr (r : gR) (s : Nat) (w : mW) : Prop := cZ w ∧ ∃ L, kC L w ∧ L.length ≤ s ∧ rcC r L w
theorem pCr_fz {p : fP} {r : gR} {s s' : Nat} {w w' : mW} (h : pCr r s w) (hf : fz p w w') (hd : fOff [9, 10, 11] [(8, 1), (8, 5), (13, 4), (13, 5), (13, 7), (13, 9)] p = true) (hs : s ≤ s') : pCr r s' w' := by
  obtain ⟨⟨z1, z2, z3, z4⟩, L, l1, l2, l3⟩ := h
  exact ⟨⟨(fz_rd hf (fOff_cell hd (by decide))).trans z1, (fz_rd hf (fOff_cell hd (by decide))).trans z2, (fz_rd hf (fOff_cell hd (by decide))).trans z3, (fz_rd hf (fOff_cell hd (by decide))).trans z4⟩, L, kC_fz l1 hf (fOff_cell hd (by decide)) (fun i => fOff_row hd (by decide) i) (fOff_cell hd (by decide)), by omega, rcC_cg l3 (fun i => fz_rd hf (fOff_row hd (by decide) i)) (fun i => fz_rd hf (fOff_row hd (by decide) i))⟩
theorem onC_fz {p : fP} {on : Nat → Bool} {w w' : mW} (h : onC on w) (hf : fz p w w') (hd : fIn p 2 7 = false) : onC on w' := by
  obtain ⟨m, m1, m2⟩ := h
  exact ⟨m, (fz_rd hf hd).trans m1, m2⟩
theorem tdC_fz {p : fP} {tD tG : Nat → Bool} {w w' : mW} (h : tdC tD tG w) (hf : fz p w w') (h1 : fIn p 2 5 = false) (h2 : fIn p 2 6 = false) : tdC tD tG w' := by
  intro c hc
  rw [hf.2.1 2 5 h1, hf.2.1 2 6 h2]
  exact h c hc
theorem pCx_r {σ : lS} {s : Nat} (h : pCx σ s w) : pCr σ.2.2.2.2 s w := ⟨h.2.2.2.1, h.2.2.2.2⟩
theorem pCx_of {g : gS} {tD tG on : Nat → Bool} {r : gR} {s : Nat} (h1 : qC g w) (h2 : tdC tD tG w) (h3 : onC on w) (h4 : pCr r s w) : pCx (g, tD, tG, on, r) s w := ⟨h1, h2, h3, h4.1, h4.2⟩
def lPost (bt : Nat → Nat) (n : Nat) (r : pRs lS) (w : mW) (v : Int32) (w' : mW) : Prop := fz pPa w w' ∧ nTx w' = nTx w ∧ (match r with
  | .inl f => v = nI 0 ∧ wI w' 2 2 = nI f.1 ∧ wI w' 2 3 = nI f.2
  | .inr x => v = nI 1 ∧ tkC bt n x.2 w' ∧ pCx x.1 x.2 w')
theorem lBad {r : pRs lS} {f : Nat × Nat} {w' : mW} (e : r = .inl f) (hf : fz pPa w w') (hx : nTx w' = nTx w) (h2 : wI w' 2 2 = nI f.1) (h3 : wI w' 2 3 = nI f.2) : lPost bt n r w (nI 0) w' := by
  rw [e]
  exact ⟨hf, hx, rfl, h2, h3⟩
theorem lGood {r : pRs lS} {σ : lS} {s : Nat} {w' : mW} (e : r = .inr (σ, s)) (hf : fz pPa w w') (hx : nTx w' = nTx w) (hk : tkC bt n s w') (hp : pCx σ s w') : lPost bt n r w (nI 1) w' := by
  rw [e]
  exact ⟨hf, hx, rfl, hk, hp⟩
theorem pCx_mono {σ : lS} {s s' : Nat} (h : pCx σ s w) (hs : s ≤ s') : pCx σ s' w := by
  obtain ⟨a, b, c, d, L, e, f, g⟩ := h
  exact ⟨a, b, c, d, L, e, by omega, g⟩
theorem c_ldeep {g : gS} {tD tG on : Nat → Bool} {r : gR} {s : Nat} (ho : gOk g) (hk : tkC bt n s w) (hx : pCx (g, tD, tG, on, r) s w) (hw : tW bt n s = some 1) : hP (f26_2 w) (lPost bt n (lnP bt n (g, tD, tG, on, r) s) w) := by
  have eL : lnP bt n (g, tD, tG, on, r) s = pThen (spR bt n g tD (nx bt n s)) fun c s2 => pThen (nmR bt n s2 1 9) fun v s3 => .inr ((gU g 1 c v, tUp tD c true, tG, on, r), s3) := by
    unfold lnP
    rw [hw]
    rfl
  rw [eL]
  unfold f26_2
  rw [hP_B]
  refine c_on hk (fun w2 f2 x2 k2 => ?_)
  have X2 := pCx_N hx (fz_up f2 (by decide)) (nx_ge bt n s)
  rw [hP_B]
  refine c_sp (told := tD) ho k2 (qC_wd X2.1) (qC_hi X2.1) (fun c hc => (X2.2.1 c hc).1) (fun f w3 e3 f3 x3 a3 b3 => ?_) (fun c s3 w3 hc e3 f3 x3 k3 t3 => ?_)
  · rw [if_pos (show nI 0 = 0 from rfl), hP_some]
    exact lBad (pThen_n e3) (fz_then (fz_up f2 (by decide)) f3 (by decide)) (x3.trans x2) a3 b3
  · have s23 := (spR_ok e3 k2.2.1 ho).2.2.1
    rw [if_neg (by decide), hP_B]
    refine c_nm (a := 1) (b := 9) (by decide) (by decide) k3 (fun f w4 e4 f4 x4 a4 b4 => ?_) (fun v s4 w4 e4 f4 x4 k4 v4 => ?_)
    · rw [if_pos (show nI 0 = 0 from rfl), hP_some]
      exact lBad ((pThen_y e3).trans (pThen_n e4)) (fz_then (fz_then (fz_up f2 (by decide)) f3 (by decide)) f4 (by decide)) (x4.trans (x3.trans x2)) a4 b4
    · have s34 := (nmR_ok e4 k3.2.1).2.2.2.1
      have t4 : wI w4 2 10 = nI c := (fz_rd f4 rfl).trans t3
      have f24 : fz pTk w2 w4 := fz_then f3 f4 (by decide)
      have X4 := pCx_N X2 f24 (show nx bt n s ≤ s4 by omega)
      rw [if_neg (by decide), hP_let, t4, hP_gd, rd_nSJ_I, t4, q_cl (by omega), hP_let, hP_some, rd_nSJ_I, v4]
      refine ⟨by rw [q_g (by omega)]; exact hc, ?_⟩
      have f5 : fz ([4], [(2, 5)]) w4 (nS (nSJ w4 2 5 (wJ w4 2 5 ||| nLsl 1 (nI c))) 4 c (nI v)) := fz_nS (fz_nSJ fz_refl rfl) rfl
      refine lGood ((pThen_y e3).trans (pThen_y e4)) (fz_then (fz_then (fz_up f2 (by decide)) f24 (by decide)) f5 (by decide)) (x4.trans (x3.trans x2)) (tkC_fz k4 f5 rfl rfl (fun j _ _ => rfl) (fun _ => rfl)) (pCx_of (qC_udeep (w := nSJ w4 2 5 _) X4.1) (fun d hd => ?_) (onC_fz X4.2.2.1 f5 rfl) (pCr_fz (pCx_r X4) f5 (by decide) (Nat.le_refl _)))
      show b64 (wJ (nSJ w4 2 5 _) 2 5) d = _ ∧ b64 (wJ (nSJ w4 2 5 _) 2 6) d = _
      rw [rd_nSJ, rd_nSJa (by decide), b64_set (by omega) (by omega), (X4.2.1 d hd).1]
      refine ⟨?_, (X4.2.1 d hd).2⟩
      by_cases e : d = c
      · rw [decide_eq_true e, Bool.or_true, e, tUp_s]
      · rw [decide_eq_false e, Bool.or_false, tUp_o e]
theorem c_lglare {g : gS} {tD tG on : Nat → Bool} {r : gR} {s : Nat} (ho : gOk g) (hk : tkC bt n s w) (hx : pCx (g, tD, tG, on, r) s w) (hw : tW bt n s = some 2) : hP (f27_2 w) (lPost bt n (lnP bt n (g, tD, tG, on, r) s) w) := by
  have eL : lnP bt n (g, tD, tG, on, r) s = pThen (spR bt n g tG (nx bt n s)) fun c s2 => pThen (nmR bt n s2 0 9) fun v s3 => .inr ((gU g 2 c v, tD, tUp tG c true, on, r), s3) := by
    unfold lnP
    rw [hw]
    rfl
  rw [eL]
  unfold f27_2
  rw [hP_B]
  refine c_on hk (fun w2 f2 x2 k2 => ?_)
  have X2 := pCx_N hx (fz_up f2 (by decide)) (nx_ge bt n s)
  rw [hP_B]
  refine c_sp (told := tG) ho k2 (qC_wd X2.1) (qC_hi X2.1) (fun c hc => (X2.2.1 c hc).2) (fun f w3 e3 f3 x3 a3 b3 => ?_) (fun c s3 w3 hc e3 f3 x3 k3 t3 => ?_)
  · rw [if_pos (show nI 0 = 0 from rfl), hP_some]
    exact lBad (pThen_n e3) (fz_then (fz_up f2 (by decide)) f3 (by decide)) (x3.trans x2) a3 b3
  · have s23 := (spR_ok e3 k2.2.1 ho).2.2.1
    rw [if_neg (by decide), hP_B]
    refine c_nm (a := 0) (b := 9) (by decide) (by decide) k3 (fun f w4 e4 f4 x4 a4 b4 => ?_) (fun v s4 w4 e4 f4 x4 k4 v4 => ?_)
    · rw [if_pos (show nI 0 = 0 from rfl), hP_some]
      exact lBad ((pThen_y e3).trans (pThen_n e4)) (fz_then (fz_then (fz_up f2 (by decide)) f3 (by decide)) f4 (by decide)) (x4.trans (x3.trans x2)) a4 b4
    · have s34 := (nmR_ok e4 k3.2.1).2.2.2.1
      have t4 : wI w4 2 10 = nI c := (fz_rd f4 rfl).trans t3
      have f24 : fz pTk w2 w4 := fz_then f3 f4 (by decide)
      have X4 := pCx_N X2 f24 (show nx bt n s ≤ s4 by omega)
      rw [if_neg (by decide), hP_let, t4, hP_gd, rd_nSJ_I, t4, q_cl (by omega), hP_let, hP_some, rd_nSJ_I, v4]
      refine ⟨by rw [q_g (by omega)]; exact hc, ?_⟩
      have f5 : fz ([5], [(2, 6)]) w4 (nS (nSJ w4 2 6 (wJ w4 2 6 ||| nLsl 1 (nI c))) 5 c (nI v)) := fz_nS (fz_nSJ fz_refl rfl) rfl
      refine lGood ((pThen_y e3).trans (pThen_y e4)) (fz_then (fz_then (fz_up f2 (by decide)) f24 (by decide)) f5 (by decide)) (x4.trans (x3.trans x2)) (tkC_fz k4 f5 rfl rfl (fun j _ _ => rfl) (fun _ => rfl)) (pCx_of (qC_uglare (w := nSJ w4 2 6 _) X4.1) (fun d hd => ?_) (onC_fz X4.2.2.1 f5 rfl) (pCr_fz (pCx_r X4) f5 (by decide) (Nat.le_refl _)))
      show b64 (wJ (nSJ w4 2 6 _) 2 5) d = _ ∧ b64 (wJ (nSJ w4 2 6 _) 2 6) d = _
      rw [rd_nSJ, rd_nSJa (by decide), b64_set (by omega) (by omega), (X4.2.1 d hd).2]
      refine ⟨(X4.2.1 d hd).1, ?_⟩
      by_cases e : d = c
      · rw [decide_eq_true e, Bool.or_true, e, tUp_s]
      · rw [decide_eq_false e, Bool.or_false, tUp_o e]
theorem b64_0 (c : Nat) : b64 0 c = noT c := by
  show (0#64).getLsbD c = false
  exact BitVec.getLsbD_zero
theorem c_lsw {g : gS} {tD tG on : Nat → Bool} {r : gR} {s : Nat} (ho : gOk g) (hk : tkC bt n s w) (hx : pCx (g, tD, tG, on, r) s w) (hw : tW bt n s = some 3) : hP (f28_2 w) (lPost bt n (lnP bt n (g, tD, tG, on, r) s) w) := by
  have eL : lnP bt n (g, tD, tG, on, r) s = pThen (moR bt n (gSw g) 12 s) fun _ s1 => pThen (spR bt n g noT s1) fun c s2 => pThen (nmR bt n s2 0 9) fun v s3 => .inr ((gU (gU (gU g 5 (gSw g) c) 3 (gSw g) v) 0 2 (gSw g + 1), tD, tG, on, r), s3) := by
    unfold lnP
    rw [hw]
    rfl
  have hb12 := gOk_sw ho
  have hK : tK bt n s ≠ 0 := by rw [(tW_lt hw).1]; decide
  rw [eL]
  unfold f28_2
  rw [hP_B, qC_sw hx.1]
  refine c_more (a := gSw g) (b := 12) (by omega) (by decide) hk (fun f w1 e1 f1 x1 a1 b1 => ?_) (fun s1 w1 e1 hlt f1 x1 k1 => ?_)
  · rw [if_pos (show nI 0 = 0 from rfl), hP_some]
    exact lBad (pThen_n e1) (fz_up f1 (by decide)) x1 a1 b1
  have m1 := moR_ok e1 hk.2.1 hK
  have X1 := pCx_N hx (fz_up f1 (by decide)) (show s ≤ s1 by omega)
  rw [if_neg (by decide), hP_B]
  refine c_sp (told := noT) (x := 0) ho k1 (qC_wd X1.1) (qC_hi X1.1) (fun c hc => b64_0 c) (fun f w3 e3 f3 x3 a3 b3 => ?_) (fun c s3 w3 hc e3 f3 x3 k3 t3 => ?_)
  · rw [if_pos (show nI 0 = 0 from rfl), hP_some]
    exact lBad ((pThen_y e1).trans (pThen_n e3)) (fz_then (fz_up f1 (by decide)) f3 (by decide)) (x3.trans x1) a3 b3
  have s23 := (spR_ok e3 k1.2.1 ho).2.2.1
  rw [if_neg (by decide), hP_B]
  refine c_nm (a := 0) (b := 9) (by decide) (by decide) k3 (fun f w4 e4 f4 x4 a4 b4 => ?_) (fun v s4 w4 e4 f4 x4 k4 v4 => ?_)
  · rw [if_pos (show nI 0 = 0 from rfl), hP_some]
    exact lBad ((pThen_y e1).trans ((pThen_y e3).trans (pThen_n e4))) (fz_then (fz_then (fz_up f1 (by decide)) f3 (by decide)) f4 (by decide)) (x4.trans (x3.trans x1)) a4 b4
  have s34 := (nmR_ok e4 k3.2.1).2.2.2.1
  have t4 : wI w4 2 10 = nI c := (fz_rd f4 rfl).trans t3
  have f14 : fz pTk w1 w4 := fz_then f3 f4 (by decide)
  have X4 := pCx_N X1 f14 (show s1 ≤ s4 by omega)
  have u4 : wI w4 3 4 = nI (gSw g) := qC_sw X4.1
  rw [if_neg (by decide), hP_gd, u4, q_cl (by omega), t4, hP_let, hP_gd, rd_nSa (by decide), u4, q_cl (by omega), rd_nSa (by decide), v4, hP_let, hP_let, hP_some, rd_nSa (by decide), rd_nSa (by decide), u4]
  have ei : nI (gSw g) + 1 = nI (gSw g + 1) := by rw [← nI_add]; rfl
  rw [ei]
  refine ⟨by rw [q_g (by omega)]; exact hlt, by rw [q_g (by omega)]; exact hlt, ?_⟩
  have f5 : fz ([14, 6], [(3, 4)]) w4 (nS (nS (nS w4 14 (gSw g) (nI c)) 6 (gSw g) (nI v)) 3 4 (nI (gSw g + 1))) := fz_nS (fz_nS (fz_nS fz_refl rfl) rfl) rfl
  exact lGood ((pThen_y e1).trans ((pThen_y e3).trans (pThen_y e4))) (fz_then (fz_then (fz_up f1 (by decide)) f14 (by decide)) f5 (by decide)) (x4.trans (x3.trans x1)) (tkC_fz k4 f5 rfl rfl (fun j _ _ => rfl) (fun _ => rfl)) (pCx_of (qC_usw X4.1) (tdC_fz X4.2.1 f5 rfl rfl) (onC_fz X4.2.2.1 f5 rfl) (pCr_fz (pCx_r X4) f5 (by decide) (Nat.le_refl _)))
theorem c_llk {g : gS} {tD tG on : Nat → Bool} {r : gR} {s : Nat} (ho : gOk g) (hk : tkC bt n s w) (hx : pCx (g, tD, tG, on, r) s w) (hw : tW bt n s = some 5) : hP (f30_2 w) (lPost bt n (lnP bt n (g, tD, tG, on, r) s) w) := by
  have eL : lnP bt n (g, tD, tG, on, r) s = pThen (moR bt n (gLk g) 12 s) fun _ s1 => pThen (spR bt n g noT s1) fun c s2 => pThen (nmR bt n s2 1 9) fun v s3 => .inr ((gU (gU (gU g 6 (gLk g) c) 7 (gLk g) v) 0 3 (gLk g + 1), tD, tG, on, r), s3) := by
    unfold lnP
    rw [hw]
    rfl
  have hb12 := gOk_lk ho
  have hK : tK bt n s ≠ 0 := by rw [(tW_lt hw).1]; decide
  rw [eL]
  unfold f30_2
  rw [hP_B, qC_lk hx.1]
  refine c_more (a := gLk g) (b := 12) (by omega) (by decide) hk (fun f w1 e1 f1 x1 a1 b1 => ?_) (fun s1 w1 e1 hlt f1 x1 k1 => ?_)
  · rw [if_pos (show nI 0 = 0 from rfl), hP_some]
    exact lBad (pThen_n e1) (fz_up f1 (by decide)) x1 a1 b1
  have m1 := moR_ok e1 hk.2.1 hK
  have X1 := pCx_N hx (fz_up f1 (by decide)) (show s ≤ s1 by omega)
  rw [if_neg (by decide), hP_B]
  refine c_sp (told := noT) (x := 0) ho k1 (qC_wd X1.1) (qC_hi X1.1) (fun c hc => b64_0 c) (fun f w3 e3 f3 x3 a3 b3 => ?_) (fun c s3 w3 hc e3 f3 x3 k3 t3 => ?_)
  · rw [if_pos (show nI 0 = 0 from rfl), hP_some]
    exact lBad ((pThen_y e1).trans (pThen_n e3)) (fz_then (fz_up f1 (by decide)) f3 (by decide)) (x3.trans x1) a3 b3
  have s23 := (spR_ok e3 k1.2.1 ho).2.2.1
  rw [if_neg (by decide), hP_B]
  refine c_nm (a := 1) (b := 9) (by decide) (by decide) k3 (fun f w4 e4 f4 x4 a4 b4 => ?_) (fun v s4 w4 e4 f4 x4 k4 v4 => ?_)
  · rw [if_pos (show nI 0 = 0 from rfl), hP_some]
    exact lBad ((pThen_y e1).trans ((pThen_y e3).trans (pThen_n e4))) (fz_then (fz_then (fz_up f1 (by decide)) f3 (by decide)) f4 (by decide)) (x4.trans (x3.trans x1)) a4 b4
  have s34 := (nmR_ok e4 k3.2.1).2.2.2.1
  have t4 : wI w4 2 10 = nI c := (fz_rd f4 rfl).trans t3
  have f14 : fz pTk w1 w4 := fz_then f3 f4 (by decide)
  have X4 := pCx_N X1 f14 (show s1 ≤ s4 by omega)
  have u4 : wI w4 3 6 = nI (gLk g) := qC_lk X4.1
  rw [if_neg (by decide), hP_gd, u4, q_cl (by omega), t4, hP_let, hP_gd, rd_nSa (by decide), u4, q_cl (by omega), rd_nSa (by decide), v4, hP_let, hP_let, hP_some, rd_nSa (by decide), rd_nSa (by decide), u4]
  have ei : nI (gLk g) + 1 = nI (gLk g + 1) := by rw [← nI_add]; rfl
  rw [ei]
  refine ⟨by rw [q_g (by omega)]; exact hlt, by rw [q_g (by omega)]; exact hlt, ?_⟩
  have f5 : fz ([15, 16], [(3, 6)]) w4 (nS (nS (nS w4 15 (gLk g) (nI c)) 16 (gLk g) (nI v)) 3 6 (nI (gLk g + 1))) := fz_nS (fz_nS (fz_nS fz_refl rfl) rfl) rfl
  exact lGood ((pThen_y e1).trans ((pThen_y e3).trans (pThen_y e4))) (fz_then (fz_then (fz_up f1 (by decide)) f14 (by decide)) f5 (by decide)) (x4.trans (x3.trans x1)) (tkC_fz k4 f5 rfl rfl (fun j _ _ => rfl) (fun _ => rfl)) (pCx_of (qC_ulk X4.1) (tdC_fz X4.2.1 f5 rfl rfl) (onC_fz X4.2.2.1 f5 rfl) (pCr_fz (pCx_r X4) f5 (by decide) (Nat.le_refl _)))
theorem c_lch {g : gS} {tD tG on : Nat → Bool} {r : gR} {s : Nat} (ho : gOk g) (hk : tkC bt n s w) (hx : pCx (g, tD, tG, on, r) s w) (hw : tW bt n s = some 4) : hP (f29_2 w) (lPost bt n (lnP bt n (g, tD, tG, on, r) s) w) := by
  have eL : lnP bt n (g, tD, tG, on, r) s = pThen (onR bt n on 0 s) fun on s1 => pThen (spR bt n g noT s1) fun v s2 => .inr ((gU g 0 8 v, tD, tG, on, r), s2) := by
    unfold lnP
    rw [hw]
    rfl
  have hK : tK bt n s ≠ 0 := by rw [(tW_lt hw).1]; decide
  rw [eL]
  unfold f29_2
  rw [hP_B]
  refine c_once (i := 0) (by decide) hk hx.2.2.1 (fun f w1 e1 f1 x1 a1 b1 => ?_) (fun on' s1 w1 e1 f1 x1 k1 on1 => ?_)
  · rw [if_pos (show nI 0 = 0 from rfl), hP_some]
    exact lBad (pThen_n e1) (fz_up f1 (by decide)) x1 a1 b1
  have m1 := onR_ok e1 hk.2.1 hK
  have q1 : qC g w1 := qC_fz (by decide) f1 hx.1
  have d1 : tdC tD tG w1 := tdC_fz hx.2.1 f1 rfl rfl
  have r1 : pCr r s1 w1 := pCr_fz (pCx_r hx) f1 (by decide) (by omega)
  have X1 : pCx (g, tD, tG, on', r) s1 w1 := pCx_of q1 d1 on1 r1
  rw [if_neg (by decide), hP_B]
  refine c_sp (told := noT) (x := 0) ho k1 (qC_wd X1.1) (qC_hi X1.1) (fun c hc => b64_0 c) (fun f w3 e3 f3 x3 a3 b3 => ?_) (fun c s3 w3 hc e3 f3 x3 k3 t3 => ?_)
  · rw [if_pos (show nI 0 = 0 from rfl), hP_some]
    exact lBad ((pThen_y e1).trans (pThen_n e3)) (fz_then (fz_up f1 (by decide)) f3 (by decide)) (x3.trans x1) a3 b3
  have s23 := (spR_ok e3 k1.2.1 ho).2.2.1
  have X3 := pCx_N X1 (fz_up f3 (by decide)) (show s1 ≤ s3 by omega)
  rw [if_neg (by decide), hP_let, hP_some, t3]
  have f5 : fz ([], [(13, 1)]) w3 (nS w3 13 1 (nI c)) := fz_nS fz_refl rfl
  exact lGood ((pThen_y e1).trans (pThen_y e3)) (fz_then (fz_then (fz_up f1 (by decide)) f3 (by decide)) f5 (by decide)) (x3.trans x1) (tkC_fz k3 f5 rfl rfl (fun j _ _ => rfl) (fun _ => rfl)) (pCx_of (qC_uch X3.1) (tdC_fz X3.2.1 f5 rfl rfl) (onC_fz X3.2.2.1 f5 rfl) (pCr_fz (pCx_r X3) f5 (by decide) (Nat.le_refl _)))
theorem c_lla {g : gS} {tD tG on : Nat → Bool} {r : gR} {s : Nat} (ho : gOk g) (hk : tkC bt n s w) (hx : pCx (g, tD, tG, on, r) s w) (hw : tW bt n s = some 6) : hP (f31_2 w) (lPost bt n (lnP bt n (g, tD, tG, on, r) s) w) := by
  have eL : lnP bt n (g, tD, tG, on, r) s = pThen (onR bt n on 1 s) fun on s1 => pThen (nmR bt n s1 1 300) fun v s2 => .inr ((gU g 0 4 v, tD, tG, on, r), s2) := by
    unfold lnP
    rw [hw]
    rfl
  have hK : tK bt n s ≠ 0 := by rw [(tW_lt hw).1]; decide
  rw [eL]
  unfold f31_2
  rw [hP_B]
  refine c_once (i := 1) (by decide) hk hx.2.2.1 (fun f w1 e1 f1 x1 a1 b1 => ?_) (fun on' s1 w1 e1 f1 x1 k1 on1 => ?_)
  · rw [if_pos (show nI 0 = 0 from rfl), hP_some]
    exact lBad (pThen_n e1) (fz_up f1 (by decide)) x1 a1 b1
  have m1 := onR_ok e1 hk.2.1 hK
  have q1 : qC g w1 := qC_fz (by decide) f1 hx.1
  have d1 : tdC tD tG w1 := tdC_fz hx.2.1 f1 rfl rfl
  have r1 : pCr r s1 w1 := pCr_fz (pCx_r hx) f1 (by decide) (by omega)
  have X1 : pCx (g, tD, tG, on', r) s1 w1 := pCx_of q1 d1 on1 r1
  rw [if_neg (by decide), hP_B]
  refine c_nm (a := 1) (b := 300) (by decide) (by decide) k1 (fun f w3 e3 f3 x3 a3 b3 => ?_) (fun c s3 w3 e3 f3 x3 k3 t3 => ?_)
  · rw [if_pos (show nI 0 = 0 from rfl), hP_some]
    exact lBad ((pThen_y e1).trans (pThen_n e3)) (fz_then (fz_up f1 (by decide)) f3 (by decide)) (x3.trans x1) a3 b3
  have s23 := (nmR_ok e3 k1.2.1).2.2.2.1
  have X3 := pCx_N X1 (fz_up f3 (by decide)) (show s1 ≤ s3 by omega)
  rw [if_neg (by decide), hP_let, hP_some, t3]
  have f5 : fz ([], [(3, 7)]) w3 (nS w3 3 7 (nI c)) := fz_nS fz_refl rfl
  exact lGood ((pThen_y e1).trans (pThen_y e3)) (fz_then (fz_then (fz_up f1 (by decide)) f3 (by decide)) f5 (by decide)) (x3.trans x1) (tkC_fz k3 f5 rfl rfl (fun j _ _ => rfl) (fun _ => rfl)) (pCx_of (qC_ula X3.1) (tdC_fz X3.2.1 f5 rfl rfl) (onC_fz X3.2.2.1 f5 rfl) (pCr_fz (pCx_r X3) f5 (by decide) (Nat.le_refl _)))
theorem c_lti {g : gS} {tD tG on : Nat → Bool} {r : gR} {s : Nat} (ho : gOk g) (hk : tkC bt n s w) (hx : pCx (g, tD, tG, on, r) s w) (hw : tW bt n s = some 7) : hP (f32_2 w) (lPost bt n (lnP bt n (g, tD, tG, on, r) s) w) := by
  have eL : lnP bt n (g, tD, tG, on, r) s = pThen (onR bt n on 2 s) fun on s1 => pThen (nmR bt n s1 1 99) fun v s2 => .inr ((gU g 0 5 v, tD, tG, on, r), s2) := by
    unfold lnP
    rw [hw]
    rfl
  have hK : tK bt n s ≠ 0 := by rw [(tW_lt hw).1]; decide
  rw [eL]
  unfold f32_2
  rw [hP_B]
  refine c_once (i := 2) (by decide) hk hx.2.2.1 (fun f w1 e1 f1 x1 a1 b1 => ?_) (fun on' s1 w1 e1 f1 x1 k1 on1 => ?_)
  · rw [if_pos (show nI 0 = 0 from rfl), hP_some]
    exact lBad (pThen_n e1) (fz_up f1 (by decide)) x1 a1 b1
  have m1 := onR_ok e1 hk.2.1 hK
  have q1 : qC g w1 := qC_fz (by decide) f1 hx.1
  have d1 : tdC tD tG w1 := tdC_fz hx.2.1 f1 rfl rfl
  have r1 : pCr r s1 w1 := pCr_fz (pCx_r hx) f1 (by decide) (by omega)
  have X1 : pCx (g, tD, tG, on', r) s1 w1 := pCx_of q1 d1 on1 r1
  rw [if_neg (by decide), hP_B]
  refine c_nm (a := 1) (b := 99) (by decide) (by decide) k1 (fun f w3 e3 f3 x3 a3 b3 => ?_) (fun c s3 w3 e3 f3 x3 k3 t3 => ?_)
  · rw [if_pos (show nI 0 = 0 from rfl), hP_some]
    exact lBad ((pThen_y e1).trans (pThen_n e3)) (fz_then (fz_up f1 (by decide)) f3 (by decide)) (x3.trans x1) a3 b3
  have s23 := (nmR_ok e3 k1.2.1).2.2.2.1
  have X3 := pCx_N X1 (fz_up f3 (by decide)) (show s1 ≤ s3 by omega)
  rw [if_neg (by decide), hP_let, hP_some, t3]
  have f5 : fz ([], [(3, 8)]) w3 (nS w3 3 8 (nI c)) := fz_nS fz_refl rfl
  exact lGood ((pThen_y e1).trans (pThen_y e3)) (fz_then (fz_then (fz_up f1 (by decide)) f3 (by decide)) f5 (by decide)) (x3.trans x1) (tkC_fz k3 f5 rfl rfl (fun j _ _ => rfl) (fun _ => rfl)) (pCx_of (qC_uti X3.1) (tdC_fz X3.2.1 f5 rfl rfl) (onC_fz X3.2.2.1 f5 rfl) (pCr_fz (pCx_r X3) f5 (by decide) (Nat.le_refl _)))
end CLN
