/-! ===== LINES: the reference, rules; every line ===== -/
section MRU
variable {bt : Nat → Nat} {n : Nat} {w : mW}
theorem cdQ_app {C D : List Nat} {p : Nat} {l : List gO} (h : cdQ C p l) : cdQ (C ++ D) p l := by
  intro j v e
  have := h j v e
  rw [List.getElem?_append_left (List.getElem?_eq_some_iff.mp this).1]
  exact this
theorem cdQ_new {C : List Nat} {l : List gO} : cdQ (C ++ cells l ++ [0]) C.length l := by
  intro j v e
  rw [List.append_assoc, List.getElem?_append_right (by omega), Nat.add_sub_cancel_left]
  exact e
theorem rA1_app {o : Option (List gO)} {C D : List Nat} {x : Int32} (h : rA1 o C x) : rA1 o (C ++ D) x := by
  cases o with
  | none => exact h
  | some l =>
    obtain ⟨p, h1, h2⟩ := h
    exact ⟨p, h1, cdQ_app h2⟩
theorem cells_len : ∀ l : List gO, (cells l).length ≤ 2 * l.length
  | [] => Nat.le_refl _
  | o :: t => by
    have := cells_len t
    show (cell1 o ++ cells t).length ≤ 2 * (t.length + 1)
    rw [List.length_append]
    have h1 : (cell1 o).length ≤ 2 := by
      unfold cell1
      split
      · exact Nat.le_refl _
      · show 1 ≤ 2; decide
    omega
theorem m_lne {g : gS} {tD tG on : Nat → Bool} {r : gR} {s : Nat} (hk : tkM bt n s w) (hg : wI w 80 19 = nI 0) (hx : pMx (g, tD, tG, on, r) s w) (hw : tW bt n s = some 9) : hP (nB (f208_80 (nI 20) w) fun v20 w21 => (if v20 = 0 then (some ((), w21)) else (nLet (nS w21 80 38 (wI w21 80 44)) fun w22 => (nB (f207_80 0 4 w22) fun _ w24 => (nB (f193_80 59 w24) fun v25 w26 => (nB (f194_80 v25 w26) fun _ w28 => (some ((), w28)))))))) (fun _ w' => mlPost bt n (lnS bt n (g, tD, tG, on, r) s) w w') := by
  have eL : lnP bt n (g, tD, tG, on, r) s = pThen (onR bt n on 3 s) fun on s1 => pThen (exR bt n 0 4 s1) fun l s2 => .inr ((g, tD, tG, on, rUp r 0 l), s2) := by
    unfold lnP
    rw [hw]
    rfl
  have hK : tK bt n s ≠ 0 := by rw [(tW_lt hw).1]; decide
  rw [hP_B]
  refine m_once (i := 3) (by decide) hk hg hx.2.2.1 (fun f w1 e1 f1 b1 => ?_) (fun on' s1 w1 e1 f1 k1 on1 => ?_)
  · rw [if_pos (show nI 0 = 0 from rfl), hP_some]
    exact mlBad (eL.trans (pThen_n e1)) f1 b1
  have m1 := onR_ok e1 hk.2.1 hK
  have q1 : qM g w1 := qM_fr (by decide) f1 hx.1
  have d1 : tdM tD tG w1 := tdM_fr hx.2.1 f1 rfl rfl
  obtain ⟨c0, C, c1, c2, c3⟩ : pMr r (gGa g) s w1 := pMr_fr hx.2.2.2 f1 (by decide) (Nat.le_refl _)
  have g1 : wI w1 80 19 = nI 0 := (fr_rd f1 rfl).trans hg
  have F1 : fr pMm w w1 := fr_up f1 (by decide)
  rw [if_neg (by decide), hP_let, c1.1, hP_B]
  have f2 : fr ([], [(80, 38)]) w1 (nS w1 80 38 (nI C.length)) := fr_nS fr_refl rfl
  refine m_expr (lo := 0) (hi := 4) (by decide) (tkM_on k1 f2 ⟨rfl, rfl, rfl, rfl, rfl, rfl, rfl, rfl⟩ (fun _ => rfl)) (mC_fr c1 f2 rfl (fun _ => rfl)) ((fr_rd f2 rfl).trans g1) ((fr_rd f2 rfl).trans c0) (by omega) (fun f w3 f3 b3 e3 => ?_) (fun l s3 w3 f3 k3 c3' g3 v3 e3 => ?_)
  · exact m_finB (eL.trans ((pThen_y e1).trans (pThen_n e3))) (fr_then (fr_then F1 f2 (by decide)) f3 (by decide)) b3
  · obtain ⟨y1, y2, y3, y4⟩ := exR_ok (show exR bt n 0 4 s1 = .inr (l, s3) from e3) k1.2.1
    have f23 : fr ([97, 98, 99], [(80, 38), (80, 19), (80, 20), (80, 42), (80, 43), (80, 44), (80, 45), (80, 46), (80, 23), (80, 24), (80, 25), (80, 26), (80, 27), (80, 28), (80, 29)]) w1 w3 := fr_then (fr_up f2 (by decide)) f3 (by decide)
    have cl := cells_len l
    refine m_fin (eL.trans ((pThen_y e1).trans (pThen_y e3))) (fr_then F1 f23 (by decide)) k3 g3 (pMx_of (qM_fr (by decide) f23 q1) (tdM_fr d1 f23 rfl rfl) (onM_fr on1 f23 rfl) ⟨v3, C ++ cells l ++ [0], c3', ?_, (by
      show rA1 (some l) _ _
      rw [fr_rd f3 rfl, rd_nS]
      exact ⟨_, rfl, cdQ_new⟩), (by
      show rA1 (r 1) _ _
      rw [fr_rd f23 rfl, List.append_assoc]
      exact rA1_app c3.2.1), fun i hi => ?_⟩)
    · rw [List.length_append, List.length_append]
      show C.length + (cells l).length + 1 ≤ 2 * s3
      omega
    · obtain ⟨l', p, z1, z2, z3⟩ := c3.2.2 i hi
      refine ⟨l', p, ?_, (fr_rd f23 rfl).trans z2, ?_⟩
      · show (if 2 + i = 0 then some l else r (2 + i)) = some l'
        rw [if_neg (by omega)]; exact z1
      · rw [List.append_assoc]; exact cdQ_app z3
theorem m_ltr {g : gS} {tD tG on : Nat → Bool} {r : gR} {s : Nat} (hk : tkM bt n s w) (hg : wI w 80 19 = nI 0) (hx : pMx (g, tD, tG, on, r) s w) (hw : tW bt n s = some 10) : hP (nB (f208_80 (nI 18) w) fun v20 w21 => (if v20 = 0 then (some ((), w21)) else (nLet (nS w21 80 39 (wI w21 80 44)) fun w22 => (nB (f207_80 1 5 w22) fun _ w24 => (nB (f193_80 59 w24) fun v25 w26 => (nB (f194_80 v25 w26) fun _ w28 => (some ((), w28)))))))) (fun _ w' => mlPost bt n (lnS bt n (g, tD, tG, on, r) s) w w') := by
  have eL : lnP bt n (g, tD, tG, on, r) s = pThen (onR bt n on 4 s) fun on s1 => pThen (exR bt n 1 5 s1) fun l s2 => .inr ((g, tD, tG, on, rUp r 1 l), s2) := by
    unfold lnP
    rw [hw]
    rfl
  have hK : tK bt n s ≠ 0 := by rw [(tW_lt hw).1]; decide
  rw [hP_B]
  refine m_once (i := 4) (by decide) hk hg hx.2.2.1 (fun f w1 e1 f1 b1 => ?_) (fun on' s1 w1 e1 f1 k1 on1 => ?_)
  · rw [if_pos (show nI 0 = 0 from rfl), hP_some]
    exact mlBad (eL.trans (pThen_n e1)) f1 b1
  have m1 := onR_ok e1 hk.2.1 hK
  have q1 : qM g w1 := qM_fr (by decide) f1 hx.1
  have d1 : tdM tD tG w1 := tdM_fr hx.2.1 f1 rfl rfl
  obtain ⟨c0, C, c1, c2, c3⟩ : pMr r (gGa g) s w1 := pMr_fr hx.2.2.2 f1 (by decide) (Nat.le_refl _)
  have g1 : wI w1 80 19 = nI 0 := (fr_rd f1 rfl).trans hg
  have F1 : fr pMm w w1 := fr_up f1 (by decide)
  rw [if_neg (by decide), hP_let, c1.1, hP_B]
  have f2 : fr ([], [(80, 39)]) w1 (nS w1 80 39 (nI C.length)) := fr_nS fr_refl rfl
  refine m_expr (lo := 1) (hi := 5) (by decide) (tkM_on k1 f2 ⟨rfl, rfl, rfl, rfl, rfl, rfl, rfl, rfl⟩ (fun _ => rfl)) (mC_fr c1 f2 rfl (fun _ => rfl)) ((fr_rd f2 rfl).trans g1) ((fr_rd f2 rfl).trans c0) (by omega) (fun f w3 f3 b3 e3 => ?_) (fun l s3 w3 f3 k3 c3' g3 v3 e3 => ?_)
  · exact m_finB (eL.trans ((pThen_y e1).trans (pThen_n e3))) (fr_then (fr_then F1 f2 (by decide)) f3 (by decide)) b3
  · obtain ⟨y1, y2, y3, y4⟩ := exR_ok (show exR bt n 1 5 s1 = .inr (l, s3) from e3) k1.2.1
    have f23 : fr ([97, 98, 99], [(80, 39), (80, 19), (80, 20), (80, 42), (80, 43), (80, 44), (80, 45), (80, 46), (80, 23), (80, 24), (80, 25), (80, 26), (80, 27), (80, 28), (80, 29)]) w1 w3 := fr_then (fr_up f2 (by decide)) f3 (by decide)
    have cl := cells_len l
    refine m_fin (eL.trans ((pThen_y e1).trans (pThen_y e3))) (fr_then F1 f23 (by decide)) k3 g3 (pMx_of (qM_fr (by decide) f23 q1) (tdM_fr d1 f23 rfl rfl) (onM_fr on1 f23 rfl) ⟨v3, C ++ cells l ++ [0], c3', ?_, (by
      show rA1 (r 0) _ _
      rw [fr_rd f23 rfl, List.append_assoc]
      exact rA1_app c3.1), (by
      show rA1 (some l) _ _
      rw [fr_rd f3 rfl, rd_nS]
      exact ⟨_, rfl, cdQ_new⟩), fun i hi => ?_⟩)
    · rw [List.length_append, List.length_append]
      show C.length + (cells l).length + 1 ≤ 2 * s3
      omega
    · obtain ⟨l', p, z1, z2, z3⟩ := c3.2.2 i hi
      refine ⟨l', p, ?_, (fr_rd f23 rfl).trans z2, ?_⟩
      · show (if 2 + i = 1 then some l else r (2 + i)) = some l'
        rw [if_neg (by omega)]; exact z1
      · rw [List.append_assoc]; exact cdQ_app z3
theorem m_lga {g : gS} {tD tG on : Nat → Bool} {r : gR} {s : Nat} (ho : gOk g) (hk : tkM bt n s w) (hg : wI w 80 19 = nI 0) (hx : pMx (g, tD, tG, on, r) s w) (hw : tW bt n s = some 11) : hP (if (wI w 80 36) = 4 then (nB (f191_80 2 w) fun _ w10 => (f212_80_j483 w10)) else (f212_80_j483 w)) (fun _ w' => mlPost bt n (lnS bt n (g, tD, tG, on, r) s) w w') := by
  have eL : lnP bt n (g, tD, tG, on, r) s = pThen (moR bt n (gGa g) 4 s) fun _ s1 => pThen (exR bt n 6 9 s1) fun l s2 => .inr ((gU g 0 6 (gGa g + 1), tD, tG, on, rUp r (2 + gGa g) l), s2) := by
    unfold lnP
    rw [hw]
    rfl
  have hb12 := gOk_ga ho
  have hK : tK bt n s ≠ 0 := by rw [(tW_lt hw).1]; decide
  have hlt := nx_of hK hk.2.1
  have hgt := nx_gt bt n hlt
  rw [show wI w 80 36 = nI (gGa g) from qM_ga hx.1]
  by_cases c12 : gGa g = 4
  · have eM : moR bt n (gGa g) 4 s = .inl (2, s) := by unfold moR; rw [if_neg (by omega)]
    rw [if_pos (by rw [c12]; rfl), hP_B]
    refine m_wrong1 hg hk ?_
    have B := bF_of (w := w) (s := s) (k := 2) (by decide)
    unfold f212_80_j483
    rw [hP_B]
    refine m_good0 B.1 B.2.1 ?_
    rw [if_pos (show nI 0 = 0 from rfl), hP_some]
    exact mlBad (eL.trans (pThen_n eM)) (fr_nS (fr_nS fr_refl rfl) rfl) B
  · have eM : moR bt n (gGa g) 4 s = .inr ((), nx bt n s) := by unfold moR; rw [if_pos (by omega)]
    rw [if_neg (by rw [q_lit, q_eq (by omega) (by omega)]; exact c12)]
    unfold f212_80_j483
    rw [hP_B]
    refine m_good1 hg ?_
    rw [if_neg (by decide), hP_B]
    refine m_on hk (fun w1 f1 k1 => ?_)
    have q1 : qM g w1 := qM_fr (by decide) f1 hx.1
    have d1 : tdM tD tG w1 := tdM_fr hx.2.1 f1 rfl rfl
    have on1 : onM on w1 := onM_fr hx.2.2.1 f1 rfl
    obtain ⟨c0, C, c1, c2, c3⟩ : pMr r (gGa g) s w1 := pMr_fr hx.2.2.2 f1 (by decide) (Nat.le_refl _)
    have g1 : wI w1 80 19 = nI 0 := (fr_rd f1 rfl).trans hg
    have F1 : fr pMm w w1 := fr_up f1 (by decide)
    have u1 : wI w1 80 36 = nI (gGa g) := qM_ga q1
    have ei : nI (gGa g) + 1 = nI (gGa g + 1) := by rw [← nI_add]; rfl
    rw [hP_gd, u1, q_cl (by omega), c1.1, hP_let, hP_let, rd_nSa (by decide), u1, ei, hP_B]
    refine ⟨by rw [q_g (by omega)]; omega, ?_⟩
    have f2 : fr ([96], [(80, 36)]) w1 (nS (nS w1 96 (gGa g) (nI C.length)) 80 36 (nI (gGa g + 1))) := fr_nS (fr_nS fr_refl rfl) rfl
    have q2 : qM (gU g 0 6 (gGa g + 1)) (nS (nS w1 96 (gGa g) (nI C.length)) 80 36 (nI (gGa g + 1))) := by
      have f96 : fr ([96], []) w1 (nS w1 96 (gGa g) (nI C.length)) := fr_nS fr_refl rfl
      exact qM_uga (qM_fr (by decide) f96 q1)
    refine m_expr (lo := 6) (hi := 9) (by decide) (tkM_on k1 f2 ⟨rfl, rfl, rfl, rfl, rfl, rfl, rfl, rfl⟩ (fun _ => rfl)) (mC_fr c1 f2 rfl (fun _ => rfl)) ((fr_rd f2 rfl).trans g1) ((fr_rd f2 rfl).trans c0) (by omega) (fun f w3 f3 b3 e3 => ?_) (fun l s3 w3 f3 k3 c3' g3 v3 e3 => ?_)
    · exact m_finB (eL.trans ((pThen_y eM).trans (pThen_n e3))) (fr_then (fr_then F1 f2 (by decide)) f3 (by decide)) b3
    · obtain ⟨y1, y2, y3, y4⟩ := exR_ok (show exR bt n 6 9 (nx bt n s) = .inr (l, s3) from e3) k1.2.1
      have f23 : fr ([96, 97, 98, 99], [(80, 36), (80, 19), (80, 20), (80, 42), (80, 43), (80, 44), (80, 45), (80, 46), (80, 23), (80, 24), (80, 25), (80, 26), (80, 27), (80, 28), (80, 29)]) w1 w3 := fr_then (fr_up f2 (by decide)) f3 (by decide)
      have cl := cells_len l
      refine m_fin (eL.trans ((pThen_y eM).trans (pThen_y e3))) (fr_then F1 f23 (by decide)) k3 g3 (pMx_of (qM_fr (by decide) f3 q2) (tdM_fr d1 f23 rfl rfl) (onM_fr on1 f23 rfl) ⟨v3, C ++ cells l ++ [0], c3', ?_, ?_, ?_, fun i hi => ?_⟩)
      · rw [List.length_append, List.length_append]
        show C.length + (cells l).length + 1 ≤ 2 * s3
        omega
      · have er : rUp r (2 + gGa g) l 0 = r 0 := if_neg (by omega)
        rw [er, fr_rd f23 rfl, List.append_assoc]
        exact rA1_app c3.1
      · have er : rUp r (2 + gGa g) l 1 = r 1 := if_neg (by omega)
        rw [er, fr_rd f23 rfl, List.append_assoc]
        exact rA1_app c3.2.1
      · have hi : i < gGa g + 1 := hi
        have e96 : wI w3 96 i = wI (nS (nS w1 96 (gGa g) (nI C.length)) 80 36 (nI (gGa g + 1))) 96 i := fr_rd f3 rfl
        by_cases e : i = gGa g
        · refine ⟨l, C.length, if_pos (by omega), ?_, cdQ_new⟩
          rw [e96, rd_nSa (by decide), e, rd_nS]
        · obtain ⟨l', p, z1, z2, z3⟩ := c3.2.2 i (by omega)
          refine ⟨l', p, ?_, ?_, ?_⟩
          · show (if 2 + i = 2 + gGa g then some l else r (2 + i)) = some l'
            rw [if_neg (by omega)]; exact z1
          · rw [e96, rd_nSa (by decide), rd_nSj e]; exact z2
          · rw [List.append_assoc]; exact cdQ_app z3
theorem m_line {σ : lS} {s : Nat} (hσ : okS σ) (hk : tkM bt n s w) (hg : wI w 80 19 = nI 0) (hx : pMx σ s w) : hP (f212_80 w) (fun _ w' => mlPost bt n (lnS bt n σ s) w w') := by
  obtain ⟨g, tD, tG, on, r⟩ := σ
  have ho : gOk g := hσ.1
  have bad : lnP bt n (g, tD, tG, on, r) s = .inl (1, s) → hP (nB (f191_80 1 w) fun _ w4 => (nB (f193_80 59 w4) fun v5 w6 => (nB (f194_80 v5 w6) fun _ w8 => (some ((), w8))))) (fun _ w' => mlPost bt n (lnS bt n (g, tD, tG, on, r) s) w w') := by
    intro e
    rw [hP_B]
    refine m_wrong1 hg hk ?_
    exact m_finB e (fr_nS (fr_nS fr_refl rfl) rfl) (bF_of (by decide))
  unfold f212_80
  rw [hP_B]
  refine m_known hk (fun c hc hw => ?_) (fun hw => ?_)
  · have h25 : c = 0 ∨ c = 1 ∨ c = 2 ∨ c = 3 ∨ c = 4 ∨ c = 5 ∨ c = 6 ∨ c = 7 ∨ c = 8 ∨ c = 9 ∨ c = 10 ∨ c = 11 ∨ c = 12 ∨ c = 13 ∨ c = 14 ∨ c = 15 ∨ c = 16 ∨ c = 17 ∨ c = 18 ∨ c = 19 ∨ c = 20 ∨ c = 21 ∨ c = 22 ∨ c = 23 ∨ c = 24 := by omega
    rcases h25 with rfl | rfl | rfl | rfl | rfl | rfl | rfl | rfl | rfl | rfl | rfl | rfl | rfl | rfl | rfl | rfl | rfl | rfl | rfl | rfl | rfl | rfl | rfl | rfl | rfl
    · rw [if_neg (show ¬ nI (rfI.getD 0 0) = 11 by decide), if_neg (show ¬ nI (rfI.getD 0 0) = 2 by decide), if_neg (show ¬ nI (rfI.getD 0 0) = 12 by decide), if_neg (show ¬ nI (rfI.getD 0 0) = 13 by decide), if_neg (show ¬ nI (rfI.getD 0 0) = 14 by decide), if_neg (show ¬ nI (rfI.getD 0 0) = 15 by decide), if_neg (show ¬ nI (rfI.getD 0 0) = 16 by decide), if_neg (show ¬ nI (rfI.getD 0 0) = 17 by decide), if_neg (show ¬ nI (rfI.getD 0 0) = 20 by decide), if_neg (show ¬ nI (rfI.getD 0 0) = 18 by decide), if_neg (show ¬ nI (rfI.getD 0 0) = 21 by decide)]
      exact bad (by unfold lnP; rw [hw]; rfl)
    · rw [if_pos (show nI (rfI.getD 1 0) = 11 from rfl)]
      exact m_ldeep ho hk hg hx hw
    · rw [if_neg (show ¬ nI (rfI.getD 2 0) = 11 by decide), if_pos (show nI (rfI.getD 2 0) = 2 from rfl)]
      exact m_lglare ho hk hg hx hw
    · rw [if_neg (show ¬ nI (rfI.getD 3 0) = 11 by decide), if_neg (show ¬ nI (rfI.getD 3 0) = 2 by decide), if_pos (show nI (rfI.getD 3 0) = 12 from rfl)]
      exact m_lsw ho hk hg hx hw
    · rw [if_neg (show ¬ nI (rfI.getD 4 0) = 11 by decide), if_neg (show ¬ nI (rfI.getD 4 0) = 2 by decide), if_neg (show ¬ nI (rfI.getD 4 0) = 12 by decide), if_pos (show nI (rfI.getD 4 0) = 13 from rfl)]
      exact m_lch ho hk hg hx hw
    · rw [if_neg (show ¬ nI (rfI.getD 5 0) = 11 by decide), if_neg (show ¬ nI (rfI.getD 5 0) = 2 by decide), if_neg (show ¬ nI (rfI.getD 5 0) = 12 by decide), if_neg (show ¬ nI (rfI.getD 5 0) = 13 by decide), if_pos (show nI (rfI.getD 5 0) = 14 from rfl)]
      exact m_llk ho hk hg hx hw
    · rw [if_neg (show ¬ nI (rfI.getD 6 0) = 11 by decide), if_neg (show ¬ nI (rfI.getD 6 0) = 2 by decide), if_neg (show ¬ nI (rfI.getD 6 0) = 12 by decide), if_neg (show ¬ nI (rfI.getD 6 0) = 13 by decide), if_neg (show ¬ nI (rfI.getD 6 0) = 14 by decide), if_pos (show nI (rfI.getD 6 0) = 15 from rfl)]
      exact m_lla ho hk hg hx hw
    · rw [if_neg (show ¬ nI (rfI.getD 7 0) = 11 by decide), if_neg (show ¬ nI (rfI.getD 7 0) = 2 by decide), if_neg (show ¬ nI (rfI.getD 7 0) = 12 by decide), if_neg (show ¬ nI (rfI.getD 7 0) = 13 by decide), if_neg (show ¬ nI (rfI.getD 7 0) = 14 by decide), if_neg (show ¬ nI (rfI.getD 7 0) = 15 by decide), if_pos (show nI (rfI.getD 7 0) = 16 from rfl)]
      exact m_lti ho hk hg hx hw
    · rw [if_neg (show ¬ nI (rfI.getD 8 0) = 11 by decide), if_neg (show ¬ nI (rfI.getD 8 0) = 2 by decide), if_neg (show ¬ nI (rfI.getD 8 0) = 12 by decide), if_neg (show ¬ nI (rfI.getD 8 0) = 13 by decide), if_neg (show ¬ nI (rfI.getD 8 0) = 14 by decide), if_neg (show ¬ nI (rfI.getD 8 0) = 15 by decide), if_neg (show ¬ nI (rfI.getD 8 0) = 16 by decide), if_pos (show nI (rfI.getD 8 0) = 17 from rfl)]
      exact m_lca ho hk hg hx hw
    · rw [if_neg (show ¬ nI (rfI.getD 9 0) = 11 by decide), if_neg (show ¬ nI (rfI.getD 9 0) = 2 by decide), if_neg (show ¬ nI (rfI.getD 9 0) = 12 by decide), if_neg (show ¬ nI (rfI.getD 9 0) = 13 by decide), if_neg (show ¬ nI (rfI.getD 9 0) = 14 by decide), if_neg (show ¬ nI (rfI.getD 9 0) = 15 by decide), if_neg (show ¬ nI (rfI.getD 9 0) = 16 by decide), if_neg (show ¬ nI (rfI.getD 9 0) = 17 by decide), if_pos (show nI (rfI.getD 9 0) = 20 from rfl)]
      exact m_lne hk hg hx hw
    · rw [if_neg (show ¬ nI (rfI.getD 10 0) = 11 by decide), if_neg (show ¬ nI (rfI.getD 10 0) = 2 by decide), if_neg (show ¬ nI (rfI.getD 10 0) = 12 by decide), if_neg (show ¬ nI (rfI.getD 10 0) = 13 by decide), if_neg (show ¬ nI (rfI.getD 10 0) = 14 by decide), if_neg (show ¬ nI (rfI.getD 10 0) = 15 by decide), if_neg (show ¬ nI (rfI.getD 10 0) = 16 by decide), if_neg (show ¬ nI (rfI.getD 10 0) = 17 by decide), if_neg (show ¬ nI (rfI.getD 10 0) = 20 by decide), if_pos (show nI (rfI.getD 10 0) = 18 from rfl)]
      exact m_ltr hk hg hx hw
    · rw [if_neg (show ¬ nI (rfI.getD 11 0) = 11 by decide), if_neg (show ¬ nI (rfI.getD 11 0) = 2 by decide), if_neg (show ¬ nI (rfI.getD 11 0) = 12 by decide), if_neg (show ¬ nI (rfI.getD 11 0) = 13 by decide), if_neg (show ¬ nI (rfI.getD 11 0) = 14 by decide), if_neg (show ¬ nI (rfI.getD 11 0) = 15 by decide), if_neg (show ¬ nI (rfI.getD 11 0) = 16 by decide), if_neg (show ¬ nI (rfI.getD 11 0) = 17 by decide), if_neg (show ¬ nI (rfI.getD 11 0) = 20 by decide), if_neg (show ¬ nI (rfI.getD 11 0) = 18 by decide), if_pos (show nI (rfI.getD 11 0) = 21 from rfl)]
      exact m_lga ho hk hg hx hw
    · rw [if_neg (show ¬ nI (rfI.getD 12 0) = 11 by decide), if_neg (show ¬ nI (rfI.getD 12 0) = 2 by decide), if_neg (show ¬ nI (rfI.getD 12 0) = 12 by decide), if_neg (show ¬ nI (rfI.getD 12 0) = 13 by decide), if_neg (show ¬ nI (rfI.getD 12 0) = 14 by decide), if_neg (show ¬ nI (rfI.getD 12 0) = 15 by decide), if_neg (show ¬ nI (rfI.getD 12 0) = 16 by decide), if_neg (show ¬ nI (rfI.getD 12 0) = 17 by decide), if_neg (show ¬ nI (rfI.getD 12 0) = 20 by decide), if_neg (show ¬ nI (rfI.getD 12 0) = 18 by decide), if_neg (show ¬ nI (rfI.getD 12 0) = 21 by decide)]
      exact bad (by unfold lnP; rw [hw]; rfl)
    · rw [if_neg (show ¬ nI (rfI.getD 13 0) = 11 by decide), if_neg (show ¬ nI (rfI.getD 13 0) = 2 by decide), if_neg (show ¬ nI (rfI.getD 13 0) = 12 by decide), if_neg (show ¬ nI (rfI.getD 13 0) = 13 by decide), if_neg (show ¬ nI (rfI.getD 13 0) = 14 by decide), if_neg (show ¬ nI (rfI.getD 13 0) = 15 by decide), if_neg (show ¬ nI (rfI.getD 13 0) = 16 by decide), if_neg (show ¬ nI (rfI.getD 13 0) = 17 by decide), if_neg (show ¬ nI (rfI.getD 13 0) = 20 by decide), if_neg (show ¬ nI (rfI.getD 13 0) = 18 by decide), if_neg (show ¬ nI (rfI.getD 13 0) = 21 by decide)]
      exact bad (by unfold lnP; rw [hw]; rfl)
    · rw [if_neg (show ¬ nI (rfI.getD 14 0) = 11 by decide), if_neg (show ¬ nI (rfI.getD 14 0) = 2 by decide), if_neg (show ¬ nI (rfI.getD 14 0) = 12 by decide), if_neg (show ¬ nI (rfI.getD 14 0) = 13 by decide), if_neg (show ¬ nI (rfI.getD 14 0) = 14 by decide), if_neg (show ¬ nI (rfI.getD 14 0) = 15 by decide), if_neg (show ¬ nI (rfI.getD 14 0) = 16 by decide), if_neg (show ¬ nI (rfI.getD 14 0) = 17 by decide), if_neg (show ¬ nI (rfI.getD 14 0) = 20 by decide), if_neg (show ¬ nI (rfI.getD 14 0) = 18 by decide), if_neg (show ¬ nI (rfI.getD 14 0) = 21 by decide)]
      exact bad (by unfold lnP; rw [hw]; rfl)
    · rw [if_neg (show ¬ nI (rfI.getD 15 0) = 11 by decide), if_neg (show ¬ nI (rfI.getD 15 0) = 2 by decide), if_neg (show ¬ nI (rfI.getD 15 0) = 12 by decide), if_neg (show ¬ nI (rfI.getD 15 0) = 13 by decide), if_neg (show ¬ nI (rfI.getD 15 0) = 14 by decide), if_neg (show ¬ nI (rfI.getD 15 0) = 15 by decide), if_neg (show ¬ nI (rfI.getD 15 0) = 16 by decide), if_neg (show ¬ nI (rfI.getD 15 0) = 17 by decide), if_neg (show ¬ nI (rfI.getD 15 0) = 20 by decide), if_neg (show ¬ nI (rfI.getD 15 0) = 18 by decide), if_neg (show ¬ nI (rfI.getD 15 0) = 21 by decide)]
      exact bad (by unfold lnP; rw [hw]; rfl)
    · rw [if_neg (show ¬ nI (rfI.getD 16 0) = 11 by decide), if_neg (show ¬ nI (rfI.getD 16 0) = 2 by decide), if_neg (show ¬ nI (rfI.getD 16 0) = 12 by decide), if_neg (show ¬ nI (rfI.getD 16 0) = 13 by decide), if_neg (show ¬ nI (rfI.getD 16 0) = 14 by decide), if_neg (show ¬ nI (rfI.getD 16 0) = 15 by decide), if_neg (show ¬ nI (rfI.getD 16 0) = 16 by decide), if_neg (show ¬ nI (rfI.getD 16 0) = 17 by decide), if_neg (show ¬ nI (rfI.getD 16 0) = 20 by decide), if_neg (show ¬ nI (rfI.getD 16 0) = 18 by decide), if_neg (show ¬ nI (rfI.getD 16 0) = 21 by decide)]
      exact bad (by unfold lnP; rw [hw]; rfl)
    · rw [if_neg (show ¬ nI (rfI.getD 17 0) = 11 by decide), if_neg (show ¬ nI (rfI.getD 17 0) = 2 by decide), if_neg (show ¬ nI (rfI.getD 17 0) = 12 by decide), if_neg (show ¬ nI (rfI.getD 17 0) = 13 by decide), if_neg (show ¬ nI (rfI.getD 17 0) = 14 by decide), if_neg (show ¬ nI (rfI.getD 17 0) = 15 by decide), if_neg (show ¬ nI (rfI.getD 17 0) = 16 by decide), if_neg (show ¬ nI (rfI.getD 17 0) = 17 by decide), if_neg (show ¬ nI (rfI.getD 17 0) = 20 by decide), if_neg (show ¬ nI (rfI.getD 17 0) = 18 by decide), if_neg (show ¬ nI (rfI.getD 17 0) = 21 by decide)]
      exact bad (by unfold lnP; rw [hw]; rfl)
    · rw [if_neg (show ¬ nI (rfI.getD 18 0) = 11 by decide), if_neg (show ¬ nI (rfI.getD 18 0) = 2 by decide), if_neg (show ¬ nI (rfI.getD 18 0) = 12 by decide), if_neg (show ¬ nI (rfI.getD 18 0) = 13 by decide), if_neg (show ¬ nI (rfI.getD 18 0) = 14 by decide), if_neg (show ¬ nI (rfI.getD 18 0) = 15 by decide), if_neg (show ¬ nI (rfI.getD 18 0) = 16 by decide), if_neg (show ¬ nI (rfI.getD 18 0) = 17 by decide), if_neg (show ¬ nI (rfI.getD 18 0) = 20 by decide), if_neg (show ¬ nI (rfI.getD 18 0) = 18 by decide), if_neg (show ¬ nI (rfI.getD 18 0) = 21 by decide)]
      exact bad (by unfold lnP; rw [hw]; rfl)
    · rw [if_neg (show ¬ nI (rfI.getD 19 0) = 11 by decide), if_neg (show ¬ nI (rfI.getD 19 0) = 2 by decide), if_neg (show ¬ nI (rfI.getD 19 0) = 12 by decide), if_neg (show ¬ nI (rfI.getD 19 0) = 13 by decide), if_neg (show ¬ nI (rfI.getD 19 0) = 14 by decide), if_neg (show ¬ nI (rfI.getD 19 0) = 15 by decide), if_neg (show ¬ nI (rfI.getD 19 0) = 16 by decide), if_neg (show ¬ nI (rfI.getD 19 0) = 17 by decide), if_neg (show ¬ nI (rfI.getD 19 0) = 20 by decide), if_neg (show ¬ nI (rfI.getD 19 0) = 18 by decide), if_neg (show ¬ nI (rfI.getD 19 0) = 21 by decide)]
      exact bad (by unfold lnP; rw [hw]; rfl)
    · rw [if_neg (show ¬ nI (rfI.getD 20 0) = 11 by decide), if_neg (show ¬ nI (rfI.getD 20 0) = 2 by decide), if_neg (show ¬ nI (rfI.getD 20 0) = 12 by decide), if_neg (show ¬ nI (rfI.getD 20 0) = 13 by decide), if_neg (show ¬ nI (rfI.getD 20 0) = 14 by decide), if_neg (show ¬ nI (rfI.getD 20 0) = 15 by decide), if_neg (show ¬ nI (rfI.getD 20 0) = 16 by decide), if_neg (show ¬ nI (rfI.getD 20 0) = 17 by decide), if_neg (show ¬ nI (rfI.getD 20 0) = 20 by decide), if_neg (show ¬ nI (rfI.getD 20 0) = 18 by decide), if_neg (show ¬ nI (rfI.getD 20 0) = 21 by decide)]
      exact bad (by unfold lnP; rw [hw]; rfl)
    · rw [if_neg (show ¬ nI (rfI.getD 21 0) = 11 by decide), if_neg (show ¬ nI (rfI.getD 21 0) = 2 by decide), if_neg (show ¬ nI (rfI.getD 21 0) = 12 by decide), if_neg (show ¬ nI (rfI.getD 21 0) = 13 by decide), if_neg (show ¬ nI (rfI.getD 21 0) = 14 by decide), if_neg (show ¬ nI (rfI.getD 21 0) = 15 by decide), if_neg (show ¬ nI (rfI.getD 21 0) = 16 by decide), if_neg (show ¬ nI (rfI.getD 21 0) = 17 by decide), if_neg (show ¬ nI (rfI.getD 21 0) = 20 by decide), if_neg (show ¬ nI (rfI.getD 21 0) = 18 by decide), if_neg (show ¬ nI (rfI.getD 21 0) = 21 by decide)]
      exact bad (by unfold lnP; rw [hw]; rfl)
    · rw [if_neg (show ¬ nI (rfI.getD 22 0) = 11 by decide), if_neg (show ¬ nI (rfI.getD 22 0) = 2 by decide), if_neg (show ¬ nI (rfI.getD 22 0) = 12 by decide), if_neg (show ¬ nI (rfI.getD 22 0) = 13 by decide), if_neg (show ¬ nI (rfI.getD 22 0) = 14 by decide), if_neg (show ¬ nI (rfI.getD 22 0) = 15 by decide), if_neg (show ¬ nI (rfI.getD 22 0) = 16 by decide), if_neg (show ¬ nI (rfI.getD 22 0) = 17 by decide), if_neg (show ¬ nI (rfI.getD 22 0) = 20 by decide), if_neg (show ¬ nI (rfI.getD 22 0) = 18 by decide), if_neg (show ¬ nI (rfI.getD 22 0) = 21 by decide)]
      exact bad (by unfold lnP; rw [hw]; rfl)
    · rw [if_neg (show ¬ nI (rfI.getD 23 0) = 11 by decide), if_neg (show ¬ nI (rfI.getD 23 0) = 2 by decide), if_neg (show ¬ nI (rfI.getD 23 0) = 12 by decide), if_neg (show ¬ nI (rfI.getD 23 0) = 13 by decide), if_neg (show ¬ nI (rfI.getD 23 0) = 14 by decide), if_neg (show ¬ nI (rfI.getD 23 0) = 15 by decide), if_neg (show ¬ nI (rfI.getD 23 0) = 16 by decide), if_neg (show ¬ nI (rfI.getD 23 0) = 17 by decide), if_neg (show ¬ nI (rfI.getD 23 0) = 20 by decide), if_neg (show ¬ nI (rfI.getD 23 0) = 18 by decide), if_neg (show ¬ nI (rfI.getD 23 0) = 21 by decide)]
      exact bad (by unfold lnP; rw [hw]; rfl)
    · rw [if_neg (show ¬ nI (rfI.getD 24 0) = 11 by decide), if_neg (show ¬ nI (rfI.getD 24 0) = 2 by decide), if_neg (show ¬ nI (rfI.getD 24 0) = 12 by decide), if_neg (show ¬ nI (rfI.getD 24 0) = 13 by decide), if_neg (show ¬ nI (rfI.getD 24 0) = 14 by decide), if_neg (show ¬ nI (rfI.getD 24 0) = 15 by decide), if_neg (show ¬ nI (rfI.getD 24 0) = 16 by decide), if_neg (show ¬ nI (rfI.getD 24 0) = 17 by decide), if_neg (show ¬ nI (rfI.getD 24 0) = 20 by decide), if_neg (show ¬ nI (rfI.getD 24 0) = 18 by decide), if_neg (show ¬ nI (rfI.getD 24 0) = 21 by decide)]
      exact bad (by unfold lnP; rw [hw]; rfl)
  · rw [if_neg (show ¬ (-nI 1) = 11 by decide), if_neg (show ¬ (-nI 1) = 2 by decide), if_neg (show ¬ (-nI 1) = 12 by decide), if_neg (show ¬ (-nI 1) = 13 by decide), if_neg (show ¬ (-nI 1) = 14 by decide), if_neg (show ¬ (-nI 1) = 15 by decide), if_neg (show ¬ (-nI 1) = 16 by decide), if_neg (show ¬ (-nI 1) = 17 by decide), if_neg (show ¬ (-nI 1) = 20 by decide), if_neg (show ¬ (-nI 1) = 18 by decide), if_neg (show ¬ (-nI 1) = 21 by decide)]
    exact bad (by unfold lnP; rw [hw])
theorem m_lines {Q : Int32 → mW → Prop} {σ : lS} {s : Nat} (hσ : okS σ) (hk : tkM bt n s w) (hg : wI w 80 19 = nI 0) (hx : pMx σ s w)
    (h0 : ∀ f w', lnL bt n 700 σ s = .inl f → fr pMm w w' → bF f w' → hP (f213_80_j232 w') Q)
    (h1 : ∀ σ' s' w', lnL bt n 700 σ s = .inr (σ', s') → okS σ' → s' ≤ n → fr pMm w w' → wI w' 80 19 = nI 0 → pMx σ' s' w' → hP (f213_80_j232 w') Q) : hP (mLoop f213_80_b211 nF w) Q := by
  have hn := hk.1.2.1
  refine hP_loopF (fun m w1 => (∃ k σ1 s1, m = k + 1 ∧ n ≤ k + s1 ∧ okS σ1 ∧ tkM bt n s1 w1 ∧ wI w1 80 19 = nI 0 ∧ pMx σ1 s1 w1 ∧ fr pMm w w1 ∧ lnL bt n k σ1 s1 = lnL bt n 700 σ s) ∨ (m = 0 ∧ ∃ f, lnL bt n 700 σ s = .inl f ∧ fr pMm w w1 ∧ bF f w1)) 701 (by decide) (.inl ⟨700, σ, s, rfl, by omega, hσ, hk, hg, hx, fr_refl, rfl⟩) ?_
  rintro m w1 rec (⟨k, σ1, s1, hm, hks, O1, k1, g1, X1, F1, e1⟩ | ⟨hm, f, e, F1, B1⟩) ih
  · have hK := tK_le bt n s1
    have hs1 := k1.2.1
    simp only [f213_80_b211]
    rw [hP_B]
    refine m_good1 g1 ?_
    rw [if_neg (by decide), k1.2.2.2.1]
    by_cases c : tK bt n s1 = 0
    · rw [if_pos (by rw [c]; rfl)]
      have e2 : lnL bt n k σ1 s1 = .inr (σ1, s1) := by
        cases k with
        | zero => rfl
        | succ k =>
          unfold lnL
          rw [if_pos c]
      exact h1 σ1 s1 w1 (e1.symm.trans e2) O1 hs1 F1 g1 X1
    · have hlt := nx_of c hs1
      rw [if_neg (by rw [q_lit, q_eq (by omega) (by omega)]; exact c), hP_B]
      cases k with
      | zero => omega
      | succ k =>
        have eU : lnL bt n (k + 1) σ1 s1 = pThen (lnS bt n σ1 s1) fun σ' s' => lnL bt n k σ' s' := by
          show (if tK bt n s1 = 0 then _ else _) = _
          rw [if_neg c]
        refine hP_mono (m_line O1 k1 g1 X1) (fun _ w2 hp => ?_)
        obtain ⟨f2, h2⟩ := hp
        cases hl : lnS bt n σ1 s1 with
        | inl f =>
          rw [hl] at h2
          exact ih 0 w2 (by omega) (.inr ⟨rfl, f, e1.symm.trans (eU.trans (pThen_n hl)), fr_then F1 f2 (by decide), h2⟩)
        | inr x =>
          obtain ⟨σ2, s2⟩ := x
          rw [hl] at h2
          obtain ⟨a1, a2, a3⟩ := ok_lnS O1 hs1 hl
          exact ih (k + 1) w2 (by omega) (.inl ⟨k, σ2, s2, rfl, by omega, a1, h2.2.1, h2.1, h2.2.2, fr_then F1 f2 (by decide), ((pThen_y hl).symm.trans eU.symm).trans e1⟩)
  · simp only [f213_80_b211]
    rw [hP_B]
    refine m_good0 B1.1 B1.2.1 ?_
    rw [if_pos (show nI 0 = 0 from rfl)]
    exact h0 f w1 e F1 B1
end MRU
