/-! ===== LINES: the reference, cases and rules ===== -/
section MCA
variable {bt : Nat → Nat} {n : Nat} {w : mW}
theorem qM_ucase {g : gS} {a b c d e : Nat} {w w' : mW} (h : qM g w) (hf : fr ([95], [(80, 37), (80, 23), (80, 24), (80, 25), (80, 26), (80, 27), (80, 28), (80, 29)]) w w') (hold : ∀ i, i < 5 * gCa g → wI w' 95 i = wI w 95 i) (h0 : wI w' 95 (5 * gCa g) = nI a) (h1 : wI w' 95 (5 * gCa g + 1) = nI b) (h2 : wI w' 95 (5 * gCa g + 2) = nI c) (h3 : wI w' 95 (5 * gCa g + 3) = nI d) (h4 : wI w' 95 (5 * gCa g + 4) = nI e) (hc : wI w' 80 37 = nI (gCa g + 1)) : qM (gCs g a b c d e) w' := by
  have R : ∀ {x y : Nat}, fIn ([95], [(80, 37), (80, 23), (80, 24), (80, 25), (80, 26), (80, 27), (80, 28), (80, 29)]) x y = false → wI w' x y = wI w x y := fun hp => fr_rd hf hp
  refine ⟨(R rfl).trans (@qM_wd g w h), (R rfl).trans (@qM_hi g w h), (R rfl).trans (@qM_sw g w h), (R rfl).trans (@qM_lk g w h), (R rfl).trans (@qM_la g w h), (R rfl).trans (@qM_ti g w h), (R rfl).trans (@qM_ga g w h), hc, (R rfl).trans (@qM_ch g w h), fun i hi => (R rfl).trans (@qM_deep g w h i hi), fun i hi => (R rfl).trans (@qM_glare g w h i hi), fun i hi => (R rfl).trans (@qM_skill g w h i hi), fun i hi => (R rfl).trans (@qM_at g w h i hi), fun i hi => (R rfl).trans (@qM_lat g w h i hi), fun i hi => (R rfl).trans (@qM_las g w h i hi), fun i hi => ?_⟩
  have hi : i < 5 * (gCa g + 1) := hi
  by_cases ei : i < 5 * gCa g
  · rw [hold i ei, gCs_old ei]
    exact @qM_case g w h i ei
  · have : i = 5 * gCa g ∨ i = 5 * gCa g + 1 ∨ i = 5 * gCa g + 2 ∨ i = 5 * gCa g + 3 ∨ i = 5 * gCa g + 4 := by omega
    rcases this with rfl | rfl | rfl | rfl | rfl
    · rw [gCs_0]; exact h0
    · rw [gCs_1]; exact h1
    · rw [gCs_2]; exact h2
    · rw [gCs_3]; exact h3
    · rw [gCs_4]; exact h4
theorem m_caseB {Q : Unit → mW → Prop} {f : Nat × Nat} {ca : Nat} (hca : ca < 10) (fuel i : Nat) (hi : i ≤ 4) (hfu : 5 ≤ fuel) (hb : bF f w) (hq : ∀ w', fr ([95], []) w w' → bF f w' → Q () w') : hP (mLoop (f211_80_b35 (nI (5 * ca))) fuel (nI i, w)) Q := by
  refine hP_loop (fun m st => ∃ j w1, j + m = 4 ∧ st = (nI j, w1) ∧ fr ([95], []) w w1 ∧ bF f w1) ?_ fuel (4 - i) _ (by omega) ⟨i, w, by omega, rfl, fr_refl, hb⟩
  rintro m st rec ⟨j, w1, hj, rfl, f1, b1⟩ ih
  simp only [f211_80_b35]
  by_cases c : j < 4
  · have ei : nI j + 1 = nI (j + 1) := by rw [← nI_add]; rfl
    rw [if_pos (by rw [q_lit, q_lt (by omega) (by omega)]; exact c), hP_B]
    refine m_nmB b1 ?_
    rw [hP_gd, nI_add, q_cl (by omega), hP_let, ei]
    have f2 : fr ([95], []) w1 (nS w1 95 (5 * ca + j) (nI 0)) := fr_nS fr_refl rfl
    exact ⟨by rw [q_g (by omega)]; omega, ih (m - 1) _ (by omega) ⟨j + 1, _, by omega, rfl, fr_then f1 f2 (by decide), bF_fr b1 f2 rfl rfl⟩⟩
  · have e4 : nI (5 * ca) + 4 = nI (5 * ca + 4) := by
      show nI (5 * ca) + nI 4 = _
      rw [nI_add]
    rw [if_neg (by rw [q_lit, q_lt (by omega) (by omega)]; exact c), hP_B]
    refine m_good0 b1.1 b1.2.1 ?_
    rw [if_pos (show nI 0 = 0 from rfl), if_neg (by decide), e4]
    unfold f211_80_j95
    rw [hP_gd, q_cl (by omega), hP_let, if_neg (by decide), if_neg (by decide), hP_B]
    refine ⟨by rw [q_g (by omega)]; omega, ?_⟩
    have f2 : fr ([95], []) w1 (nS w1 95 (5 * ca + 4) 0) := fr_nS fr_refl rfl
    have b2 := bF_fr b1 f2 rfl rfl
    unfold f194_80
    rw [hP_B]
    refine m_good0 b2.1 b2.2.1 ?_
    rw [if_pos (show nI 0 = 0 from rfl), hP_some, hP_B]
    refine m_good0 b2.1 b2.2.1 ?_
    rw [if_pos (show nI 0 = 0 from rfl), hP_some]
    exact hq _ (fr_then f1 f2 (by decide)) b2
theorem m_lca {g : gS} {tD tG on : Nat → Bool} {r : gR} {s : Nat} (ho : gOk g) (hk : tkM bt n s w) (hg : wI w 80 19 = nI 0) (hx : pMx (g, tD, tG, on, r) s w) (hw : tW bt n s = some 8) : hP (nB (f211_80 w) fun _ w30 => (nB (f193_80 59 w30) fun v31 w32 => (nB (f194_80 v31 w32) fun _ w34 => (some ((), w34))))) (fun _ w' => mlPost bt n (lnS bt n (g, tD, tG, on, r) s) w w') := by
  have eL : lnP bt n (g, tD, tG, on, r) s = pThen (moR bt n (gCa g) 10 s) fun _ s1 => pThen (caR bt n g s1) fun g' s2 => .inr ((g', tD, tG, on, r), s2) := by
    unfold lnP
    rw [hw]
    rfl
  have hb12 := gOk_ca ho
  have hK : tK bt n s ≠ 0 := by rw [(tW_lt hw).1]; decide
  have c0 : wI w 80 37 = nI (gCa g) := qM_ca hx.1
  rw [hP_B]
  unfold f211_80
  rw [c0]
  by_cases c10 : gCa g = 10
  · have eM : moR bt n (gCa g) 10 s = .inl (2, s) := by unfold moR; rw [if_neg (by omega)]
    rw [if_pos (by rw [c10]; rfl), hP_B]
    refine m_wrong1 hg hk ?_
    have B := bF_of (w := w) (s := s) (k := 2) (by decide)
    rw [hP_B]
    refine m_good0 B.1 B.2.1 ?_
    rw [if_pos (show nI 0 = 0 from rfl), hP_some]
    exact m_finB (eL.trans (pThen_n eM)) (fr_nS (fr_nS fr_refl rfl) rfl) B
  have hca : gCa g < 10 := by omega
  have eM : moR bt n (gCa g) 10 s = .inr ((), nx bt n s) := by unfold moR; rw [if_pos hca]
  rw [if_neg (by rw [q_lit, q_eq (by omega) (by omega)]; exact c10), hP_B]
  refine m_good1 hg ?_
  rw [if_neg (by decide), hP_B]
  refine m_on hk (fun w1 f1 k1 => ?_)
  have X1 := pMx_on hx f1 (nx_ge bt n s)
  have G1 : wI w1 80 19 = nI 0 := (fr_rd f1 rfl).trans hg
  have F1 : fr pMm w w1 := fr_up f1 (by decide)
  have c1 : wI w1 80 37 = nI (gCa g) := qM_ca X1.1
  have e5 : 5 * nI (gCa g) = nI (5 * gCa g) := by
    show nI 5 * nI (gCa g) = _
    rw [pk_mul]
  have hs1 := nx_gt bt n (nx_of hK hk.2.1)
  generalize nx bt n s = s1 at k1 X1 eM hs1
  rw [hP_let, c1, e5, show nF = 19995 + 1 + 1 + 1 + 1 + 1 from rfl, mLoop_s]
  have g1 : fr ([95], [(80, 23), (80, 24), (80, 25), (80, 26), (80, 27), (80, 28), (80, 29)]) w1 w1 := fr_refl
  -- a number that is none: the others are read in vain
  have bad : ∀ (i fuel : Nat) (f : Nat × Nat) (w5 : mW), i ≤ 4 → 5 ≤ fuel → fr pMm w w5 → bF f w5 → caR bt n g s1 = .inl f → hP (mLoop (f211_80_b35 (nI (5 * gCa g))) fuel (nI i, w5)) (fun _ w30 => hP (nB (f193_80 59 w30) fun v31 w32 => (nB (f194_80 v31 w32) fun _ w34 => (some ((), w34)))) (fun _ w' => mlPost bt n (lnS bt n (g, tD, tG, on, r) s) w w')) := by
    intro i fuel f w5 hi hfu F5 B5 e
    exact m_caseB hca fuel i hi hfu B5 (fun w6 f6 b6 => m_finB (eL.trans ((pThen_y eM).trans (pThen_n e))) (fr_then F5 f6 (by decide)) b6)
  simp only [f211_80_b35]
  rw [if_pos (show (0 : Int32) < 4 by decide), hP_B]
  have i2 : nI (5 * gCa g) + 0 = nI (5 * gCa g + 0) := by
    show nI (5 * gCa g) + nI 0 = _
    rw [nI_add]
  refine m_nm (a := 0) (b := 9) (by decide) (by decide) k1 G1 (fun f u n2 f2 b2 => ?_) (fun v2 s2 u2 n2 f2 j2 => ?_)
  · rw [hP_gd, i2, q_cl (by omega), hP_let]
    refine ⟨by rw [q_g (by omega)]; omega, ?_⟩
    have h6 : fr ([95], []) u (nS u 95 (5 * gCa g + 0) (nI 0)) := fr_nS fr_refl rfl
    exact bad 1 (19995 + 1 + 1 + 1 + 1) f _ (by decide) (by omega) (fr_then (fr_then (fr_then F1 g1 (by decide)) f2 (by decide)) h6 (by decide)) (bF_fr b2 h6 rfl rfl) (pThen_n n2)
  have p2 := nmR_ok n2 k1.2.1
  rw [hP_gd, i2, q_cl (by omega), hP_let]
  refine ⟨by rw [q_g (by omega)]; omega, ?_⟩
  have h2 : fr ([95], []) u2 (nS u2 95 (5 * gCa g + 0) (nI v2)) := fr_nS fr_refl rfl
  have k2 : tkM bt n s2 (nS u2 95 (5 * gCa g + 0) (nI v2)) := tkM_on j2 h2 ⟨rfl, rfl, rfl, rfl, rfl, rfl, rfl, rfl⟩ (fun _ => rfl)
  have g2 : fr ([95], [(80, 23), (80, 24), (80, 25), (80, 26), (80, 27), (80, 28), (80, 29)]) w1 (nS u2 95 (5 * gCa g + 0) (nI v2)) := fr_then (fr_then g1 f2 (by decide)) h2 (by decide)
  have G2 : wI (nS u2 95 (5 * gCa g + 0) (nI v2)) 80 19 = nI 0 := (fr_rd g2 rfl).trans G1
  have o2 : ∀ i, i < 5 * gCa g → wI (nS u2 95 (5 * gCa g + 0) (nI v2)) 95 i = wI w1 95 i := fun i hi => by rw [rd_nSj (by omega), fr_rd f2 rfl]
  have m2 : wI (nS u2 95 (5 * gCa g + 0) (nI v2)) 95 (5 * gCa g + 0) = nI v2 := rd_nS
  generalize nS u2 95 (5 * gCa g + 0) (nI v2) = w2 at k2 g2 G2 o2 m2 ⊢
  rw [mLoop_s]
  simp only [f211_80_b35]
  rw [if_pos (show ((0 + 1) : Int32) < 4 by decide), hP_B]
  have i3 : nI (5 * gCa g) + (0 + 1) = nI (5 * gCa g + 1) := by
    show nI (5 * gCa g) + nI 1 = _
    rw [nI_add]
  refine m_nm (a := 0) (b := 9) (by decide) (by decide) k2 G2 (fun f u n3 f3 b3 => ?_) (fun v3 s3 u3 n3 f3 j3 => ?_)
  · rw [hP_gd, i3, q_cl (by omega), hP_let]
    refine ⟨by rw [q_g (by omega)]; omega, ?_⟩
    have h6 : fr ([95], []) u (nS u 95 (5 * gCa g + 1) (nI 0)) := fr_nS fr_refl rfl
    exact bad 2 (19995 + 1 + 1 + 1) f _ (by decide) (by omega) (fr_then (fr_then (fr_then F1 g2 (by decide)) f3 (by decide)) h6 (by decide)) (bF_fr b3 h6 rfl rfl) ((pThen_y n2).trans (pThen_n n3))
  have p3 := nmR_ok n3 k2.2.1
  rw [hP_gd, i3, q_cl (by omega), hP_let]
  refine ⟨by rw [q_g (by omega)]; omega, ?_⟩
  have h3 : fr ([95], []) u3 (nS u3 95 (5 * gCa g + 1) (nI v3)) := fr_nS fr_refl rfl
  have k3 : tkM bt n s3 (nS u3 95 (5 * gCa g + 1) (nI v3)) := tkM_on j3 h3 ⟨rfl, rfl, rfl, rfl, rfl, rfl, rfl, rfl⟩ (fun _ => rfl)
  have g3 : fr ([95], [(80, 23), (80, 24), (80, 25), (80, 26), (80, 27), (80, 28), (80, 29)]) w1 (nS u3 95 (5 * gCa g + 1) (nI v3)) := fr_then (fr_then g2 f3 (by decide)) h3 (by decide)
  have G3 : wI (nS u3 95 (5 * gCa g + 1) (nI v3)) 80 19 = nI 0 := (fr_rd g3 rfl).trans G1
  have o3 : ∀ i, i < 5 * gCa g → wI (nS u3 95 (5 * gCa g + 1) (nI v3)) 95 i = wI w1 95 i := fun i hi => by rw [rd_nSj (by omega), fr_rd f3 rfl]; exact o2 i hi
  have m3 : wI (nS u3 95 (5 * gCa g + 1) (nI v3)) 95 (5 * gCa g + 1) = nI v3 := rd_nS
  have m3_0 : wI (nS u3 95 (5 * gCa g + 1) (nI v3)) 95 (5 * gCa g + 0) = nI v2 := by rw [rd_nSj (by omega), fr_rd f3 rfl]; exact m2
  generalize nS u3 95 (5 * gCa g + 1) (nI v3) = w3 at k3 g3 G3 o3 m3 m3_0 ⊢
  rw [mLoop_s]
  simp only [f211_80_b35]
  rw [if_pos (show ((0 + 1 + 1) : Int32) < 4 by decide), hP_B]
  have i4 : nI (5 * gCa g) + (0 + 1 + 1) = nI (5 * gCa g + 2) := by
    show nI (5 * gCa g) + nI 2 = _
    rw [nI_add]
  refine m_nm (a := 0) (b := 9) (by decide) (by decide) k3 G3 (fun f u n4 f4 b4 => ?_) (fun v4 s4 u4 n4 f4 j4 => ?_)
  · rw [hP_gd, i4, q_cl (by omega), hP_let]
    refine ⟨by rw [q_g (by omega)]; omega, ?_⟩
    have h6 : fr ([95], []) u (nS u 95 (5 * gCa g + 2) (nI 0)) := fr_nS fr_refl rfl
    exact bad 3 (19995 + 1 + 1) f _ (by decide) (by omega) (fr_then (fr_then (fr_then F1 g3 (by decide)) f4 (by decide)) h6 (by decide)) (bF_fr b4 h6 rfl rfl) ((pThen_y n2).trans ((pThen_y n3).trans (pThen_n n4)))
  have p4 := nmR_ok n4 k3.2.1
  rw [hP_gd, i4, q_cl (by omega), hP_let]
  refine ⟨by rw [q_g (by omega)]; omega, ?_⟩
  have h4 : fr ([95], []) u4 (nS u4 95 (5 * gCa g + 2) (nI v4)) := fr_nS fr_refl rfl
  have k4 : tkM bt n s4 (nS u4 95 (5 * gCa g + 2) (nI v4)) := tkM_on j4 h4 ⟨rfl, rfl, rfl, rfl, rfl, rfl, rfl, rfl⟩ (fun _ => rfl)
  have g4 : fr ([95], [(80, 23), (80, 24), (80, 25), (80, 26), (80, 27), (80, 28), (80, 29)]) w1 (nS u4 95 (5 * gCa g + 2) (nI v4)) := fr_then (fr_then g3 f4 (by decide)) h4 (by decide)
  have G4 : wI (nS u4 95 (5 * gCa g + 2) (nI v4)) 80 19 = nI 0 := (fr_rd g4 rfl).trans G1
  have o4 : ∀ i, i < 5 * gCa g → wI (nS u4 95 (5 * gCa g + 2) (nI v4)) 95 i = wI w1 95 i := fun i hi => by rw [rd_nSj (by omega), fr_rd f4 rfl]; exact o3 i hi
  have m4 : wI (nS u4 95 (5 * gCa g + 2) (nI v4)) 95 (5 * gCa g + 2) = nI v4 := rd_nS
  have m4_0 : wI (nS u4 95 (5 * gCa g + 2) (nI v4)) 95 (5 * gCa g + 0) = nI v2 := by rw [rd_nSj (by omega), fr_rd f4 rfl]; exact m3_0
  have m4_1 : wI (nS u4 95 (5 * gCa g + 2) (nI v4)) 95 (5 * gCa g + 1) = nI v3 := by rw [rd_nSj (by omega), fr_rd f4 rfl]; exact m3
  generalize nS u4 95 (5 * gCa g + 2) (nI v4) = w4 at k4 g4 G4 o4 m4 m4_0 m4_1 ⊢
  rw [mLoop_s]
  simp only [f211_80_b35]
  rw [if_pos (show ((0 + 1 + 1 + 1) : Int32) < 4 by decide), hP_B]
  have i5 : nI (5 * gCa g) + (0 + 1 + 1 + 1) = nI (5 * gCa g + 3) := by
    show nI (5 * gCa g) + nI 3 = _
    rw [nI_add]
  refine m_nm (a := 0) (b := 9) (by decide) (by decide) k4 G4 (fun f u n5 f5 b5 => ?_) (fun v5 s5 u5 n5 f5 j5 => ?_)
  · rw [hP_gd, i5, q_cl (by omega), hP_let]
    refine ⟨by rw [q_g (by omega)]; omega, ?_⟩
    have h6 : fr ([95], []) u (nS u 95 (5 * gCa g + 3) (nI 0)) := fr_nS fr_refl rfl
    exact bad 4 (19995 + 1) f _ (by decide) (by omega) (fr_then (fr_then (fr_then F1 g4 (by decide)) f5 (by decide)) h6 (by decide)) (bF_fr b5 h6 rfl rfl) ((pThen_y n2).trans ((pThen_y n3).trans ((pThen_y n4).trans (pThen_n n5))))
  have p5 := nmR_ok n5 k4.2.1
  rw [hP_gd, i5, q_cl (by omega), hP_let]
  refine ⟨by rw [q_g (by omega)]; omega, ?_⟩
  have h5 : fr ([95], []) u5 (nS u5 95 (5 * gCa g + 3) (nI v5)) := fr_nS fr_refl rfl
  have k5 : tkM bt n s5 (nS u5 95 (5 * gCa g + 3) (nI v5)) := tkM_on j5 h5 ⟨rfl, rfl, rfl, rfl, rfl, rfl, rfl, rfl⟩ (fun _ => rfl)
  have g5 : fr ([95], [(80, 23), (80, 24), (80, 25), (80, 26), (80, 27), (80, 28), (80, 29)]) w1 (nS u5 95 (5 * gCa g + 3) (nI v5)) := fr_then (fr_then g4 f5 (by decide)) h5 (by decide)
  have G5 : wI (nS u5 95 (5 * gCa g + 3) (nI v5)) 80 19 = nI 0 := (fr_rd g5 rfl).trans G1
  have o5 : ∀ i, i < 5 * gCa g → wI (nS u5 95 (5 * gCa g + 3) (nI v5)) 95 i = wI w1 95 i := fun i hi => by rw [rd_nSj (by omega), fr_rd f5 rfl]; exact o4 i hi
  have m5 : wI (nS u5 95 (5 * gCa g + 3) (nI v5)) 95 (5 * gCa g + 3) = nI v5 := rd_nS
  have m5_0 : wI (nS u5 95 (5 * gCa g + 3) (nI v5)) 95 (5 * gCa g + 0) = nI v2 := by rw [rd_nSj (by omega), fr_rd f5 rfl]; exact m4_0
  have m5_1 : wI (nS u5 95 (5 * gCa g + 3) (nI v5)) 95 (5 * gCa g + 1) = nI v3 := by rw [rd_nSj (by omega), fr_rd f5 rfl]; exact m4_1
  have m5_2 : wI (nS u5 95 (5 * gCa g + 3) (nI v5)) 95 (5 * gCa g + 2) = nI v4 := by rw [rd_nSj (by omega), fr_rd f5 rfl]; exact m4
  generalize nS u5 95 (5 * gCa g + 3) (nI v5) = w5 at k5 g5 G5 o5 m5 m5_0 m5_1 m5_2 ⊢
  rw [mLoop_s]
  simp only [f211_80_b35]
  rw [if_neg (by decide), hP_B]
  refine m_good1 G5 ?_
  rw [if_neg (by decide), hP_B]
  have eC : caR bt n g s1 = if isW bt n s5 10 ∨ isW bt n s5 12 then .inr (gCs g v2 v3 v4 v5 (if isW bt n s5 10 then 1 else 0), nx bt n s5) else .inl (1, s5) := (pThen_y n2).trans ((pThen_y n3).trans ((pThen_y n4).trans (pThen_y n5)))
  have c5 : wI w5 80 37 = nI (gCa g) := (fr_rd g5 rfl).trans c1
  have ei : nI (gCa g) + 1 = nI (gCa g + 1) := by rw [← nI_add]; rfl
  have e4 : nI (5 * gCa g) + 4 = nI (5 * gCa g + 4) := by
    show nI (5 * gCa g) + nI 4 = _
    rw [nI_add]
  -- trouble or fun
  have fin : ∀ (e : Nat) (w6 : mW), (isW bt n s5 10 ∨ isW bt n s5 12) → (if isW bt n s5 10 then 1 else 0) = e → w6 = nS w5 95 (5 * gCa g + 4) (nI e) → hP (nB (f194_80 1 w6) fun v2 w3 => (nB (f192_80 w3) fun v4 w5 => (if v4 = 0 then (some ((), w5)) else (nLet (nS w5 80 37 ((wI w5 80 37) + 1)) fun w6 => (some ((), w6)))))) (fun _ w30 => hP (nB (f193_80 59 w30) fun v31 w32 => (nB (f194_80 v31 w32) fun _ w34 => (some ((), w34)))) (fun _ w' => mlPost bt n (lnS bt n (g, tD, tG, on, r) s) w w')) := by
    intro e w6 hW he h6
    rw [if_pos hW, he] at eC
    have f6 : fr ([95], []) w5 w6 := by rw [h6]; exact fr_nS fr_refl rfl
    have k6 : tkM bt n s5 w6 := tkM_on k5 f6 ⟨rfl, rfl, rfl, rfl, rfl, rfl, rfl, rfl⟩ (fun _ => rfl)
    have G6 : wI w6 80 19 = nI 0 := (fr_rd f6 rfl).trans G5
    rw [hP_B]
    unfold f194_80
    rw [hP_B]
    refine m_good1 G6 ?_
    rw [if_neg (by decide), if_neg (by decide), hP_B]
    refine m_on k6 (fun w7 f7 k7 => ?_)
    rw [hP_some, hP_B]
    have G7 : wI w7 80 19 = nI 0 := (fr_rd f7 rfl).trans G6
    refine m_good1 G7 ?_
    have c7 : wI w7 80 37 = nI (gCa g) := (fr_rd f7 rfl).trans ((fr_rd f6 rfl).trans c5)
    rw [if_neg (by decide), hP_let, c7, ei, hP_some]
    have f8 : fr ([], [(80, 37)]) w7 (nS w7 80 37 (nI (gCa g + 1))) := fr_nS fr_refl rfl
    have f18 : fr ([95], [(80, 37), (80, 23), (80, 24), (80, 25), (80, 26), (80, 27), (80, 28), (80, 29)]) w1 (nS w7 80 37 (nI (gCa g + 1))) := fr_then (fr_then (fr_then (fr_up g5 (by decide)) f6 (by decide)) f7 (by decide)) f8 (by decide)
    have nxg := nx_ge bt n s5
    have r6 : ∀ i, ¬ i = 5 * gCa g + 4 → wI (nS w7 80 37 (nI (gCa g + 1))) 95 i = wI w5 95 i := fun i hi => by
      rw [rd_nSa (by decide), fr_rd f7 rfl, h6, rd_nSj hi]
    refine m_fin (eL.trans ((pThen_y eM).trans (pThen_y eC))) (fr_then F1 f18 (by decide)) (tkM_on k7 f8 ⟨rfl, rfl, rfl, rfl, rfl, rfl, rfl, rfl⟩ (fun _ => rfl)) ((fr_rd f8 rfl).trans G7) (pMx_of (qM_ucase X1.1 f18 (fun i hi => (r6 i (by omega)).trans (o5 i hi)) ((r6 _ (by omega)).trans m5_0) ((r6 _ (by omega)).trans m5_1) ((r6 _ (by omega)).trans m5_2) ((r6 _ (by omega)).trans m5) ?_ rd_nS) (tdM_fr X1.2.1 f18 rfl rfl) (onM_fr X1.2.2.1 f18 rfl) (pMr_fr X1.2.2.2 f18 (by decide) (by omega)))
    rw [rd_nSa (by decide), fr_rd f7 rfl, h6, rd_nS]
  have none9 : ∀ (v : Int32), ¬ v = 18 → ¬ v = 19 → ¬ isW bt n s5 10 → ¬ isW bt n s5 12 → hP (if v = 18 then (f211_80_j95 v 1 (nI (5 * gCa g) + 4) w5) else (f211_80_j95 v 0 (nI (5 * gCa g) + 4) w5)) (fun _ w30 => hP (nB (f193_80 59 w30) fun v31 w32 => (nB (f194_80 v31 w32) fun _ w34 => (some ((), w34)))) (fun _ w' => mlPost bt n (lnS bt n (g, tD, tG, on, r) s) w w')) := by
    intro v h18 h19 n10 n12
    rw [if_neg (fun h => by rcases h with h | h; exact n10 h; exact n12 h)] at eC
    rw [if_neg h18, e4]
    unfold f211_80_j95
    rw [hP_gd, q_cl (by omega), hP_let, if_neg h18, if_neg h19, hP_B]
    refine ⟨by rw [q_g (by omega)]; omega, ?_⟩
    have f6 : fr ([95], []) w5 (nS w5 95 (5 * gCa g + 4) 0) := fr_nS fr_refl rfl
    have k6 : tkM bt n s5 (nS w5 95 (5 * gCa g + 4) 0) := tkM_on k5 f6 ⟨rfl, rfl, rfl, rfl, rfl, rfl, rfl, rfl⟩ (fun _ => rfl)
    have G6 : wI (nS w5 95 (5 * gCa g + 4) 0) 80 19 = nI 0 := (fr_rd f6 rfl).trans G5
    unfold f194_80
    rw [hP_B]
    refine m_good1 G6 ?_
    rw [if_neg (by decide), if_pos rfl, hP_B]
    refine m_wrong1 G6 k6 ?_
    have B := bF_of (w := nS w5 95 (5 * gCa g + 4) 0) (s := s5) (k := 1) (by decide)
    rw [hP_some, hP_B]
    refine m_good0 B.1 B.2.1 ?_
    rw [if_pos (show nI 0 = 0 from rfl), hP_some]
    exact m_finB (eL.trans ((pThen_y eM).trans (pThen_n eC))) (fr_nS (fr_nS (fr_then (fr_then F1 g5 (by decide)) f6 (by decide)) rfl) rfl) B
  refine m_known k5 (fun c hc e => ?_) (fun e => ?_)
  · by_cases h10 : c = 10
    · have hW : isW bt n s5 10 := by rw [isW, e, h10]
      rw [h10, if_pos (show nI (rfI.getD 10 0) = 18 from rfl), e4]
      unfold f211_80_j95
      rw [hP_gd, q_cl (by omega), hP_let, if_pos (show nI (rfI.getD 10 0) = 18 from rfl)]
      exact ⟨by rw [q_g (by omega)]; omega, fin 1 _ (.inl hW) (if_pos hW) rfl⟩
    · by_cases h12 : c = 12
      · have hW : isW bt n s5 12 := by rw [isW, e, h12]
        rw [h12, if_neg (show ¬ nI (rfI.getD 12 0) = 18 by decide), e4]
        unfold f211_80_j95
        rw [hP_gd, q_cl (by omega), hP_let, if_neg (show ¬ nI (rfI.getD 12 0) = 18 by decide), if_pos (show nI (rfI.getD 12 0) = 19 from rfl)]
        exact ⟨by rw [q_g (by omega)]; omega, fin 0 _ (.inr hW) (if_neg (W_one hW (by decide))) rfl⟩
      · have hr := rf_2 c hc
        have ne : ∀ i, i < 25 → ¬ rfL.getD i 0 = c → ¬ nI (rfI.getD c 0) = nI i := by
          intro i hi hne h
          rw [q_eq (by omega) (by omega)] at h
          exact hne (by rw [← h]; exact hr.2)
        exact none9 _ (ne 18 (by decide) (fun h => h10 h.symm)) (ne 19 (by decide) (fun h => h12 h.symm)) (fun h => h10 (by rw [isW, e] at h; exact Option.some.inj h)) (fun h => h12 (by rw [isW, e] at h; exact Option.some.inj h))
  · exact none9 _ (by decide) (by decide) (fun h => by rw [isW, e] at h; cases h) (fun h => by rw [isW, e] at h; cases h)
end MCA
