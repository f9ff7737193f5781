/-! ===== THE TEXT: the class reads it ===== -/
section CRD
variable {bt : Nat → Nat} {n : Nat} {w : mW}
theorem c_b01 {f : mW → Option (Int32 × mW)} {r : pRs lS} {w1 : mW} (h : hP (f w1) (lPost bt n r w)) : hP (nB (f w1) fun v31 w32 => (nGd (nB01 v31) (some (v31, w32)))) (lPost bt n r w) := by
  rw [hP_B]
  refine hP_mono h (fun v w' hp => ?_)
  rw [hP_gd, hP_some]
  refine ⟨?_, hp⟩
  obtain ⟨_, _, h3⟩ := hp
  cases r with
  | inl f => rw [h3.1]; decide
  | inr x => rw [h3.1]; decide
theorem c_01 {f : mW → Option (Int32 × mW)} {r : pRs lS} {w1 : mW} (h : hP (f w1) (lPost bt n r w)) : hP (nB (f w1) fun v15 w16 => (if v15 = 0 then (some ((0 : Int32), w16)) else (some (1, w16)))) (lPost bt n r w) := by
  rw [hP_B]
  refine hP_mono h (fun v w' hp => ?_)
  obtain ⟨h1, h2, h3⟩ := hp
  cases r with
  | inl f => rw [h3.1, if_pos (show nI 0 = 0 from rfl), hP_some]; exact ⟨h1, h2, rfl, h3.2⟩
  | inr x => rw [h3.1, if_neg (show ¬ nI 1 = 0 by decide), hP_some]; exact ⟨h1, h2, rfl, h3.2⟩
theorem c_line {σ : lS} {s : Nat} (hσ : okS σ) (hk : tkC bt n s w) (hx : pCx σ s w) : hP (f25_2 w) (lPost bt n (lnP bt n σ s) w) := by
  obtain ⟨g, tD, tG, on, r⟩ := σ
  have ho : gOk g := hσ.1
  have hK := tK_le bt n s
  have hsn := hk.2.1
  have bad : lnP bt n (g, tD, tG, on, r) s = .inl (1, s) → hP (nB (f17_2 1 w) fun v1 w2 => (nGd (nB01 v1) (some (v1, w2)))) (lPost bt n (lnP bt n (g, tD, tG, on, r) s) w) := by
    intro e
    rw [hP_B]
    refine c_fail _ hk ?_
    rw [hP_gd, hP_some]
    exact ⟨by decide, lBad e (fz_nS (fz_nS fz_refl rfl) rfl) rfl ((rd_nSj (by decide)).trans rd_nS) rd_nS⟩
  unfold f25_2
  rw [hk.2.2.2.2.1]
  by_cases c1 : tK bt n s = 1
  · rw [if_pos (by rw [c1]; rfl), hP_opt, hk.2.2.2.2.2.1]
    cases hw : tW bt n s with
    | none => exact bad (by unfold lnP; rw [hw])
    | some c =>
      have hc := (tW_lt hw).2.1
      have hKw : tK bt n s ≠ 0 := by rw [c1]; decide
      show hP (nGd (oEn (1000000 + c)) (f25_2_j22a (1000000 + c) w)) _
      rw [hP_gd]
      refine ⟨?_, ?_⟩
      · have : ∀ k : Fin 25, oEn (1000000 + k.1) = true := by decide +kernel
        exact this ⟨c, hc⟩
      · unfold f25_2_j22a
        have eo : oOrdV (1000000 + c) = nI c := by
          show Int32.ofNat (1000000 + c - 1000000) = nI c
          rw [Nat.add_sub_cancel_left]
          rfl
        rw [hP_B]
        unfold f291
        rw [hP_some, eo, hP_gd]
        refine ⟨by rw [q_g (by omega)]; exact hc, ?_⟩
        have h12 : c = 1 ∨ c = 2 ∨ c = 3 ∨ c = 4 ∨ c = 5 ∨ c = 6 ∨ c = 7 ∨ c = 8 ∨ c = 9 ∨ c = 10 ∨ c = 11 ∨ c = 0 ∨ c = 12 ∨ c = 13 ∨ c = 14 ∨ c = 15 ∨ c = 16 ∨ c = 17 ∨ c = 18 ∨ c = 19 ∨ c = 20 ∨ c = 21 ∨ c = 22 ∨ c = 23 ∨ c = 24 := by omega
        rcases h12 with rfl | rfl | rfl | rfl | rfl | rfl | rfl | rfl | rfl | rfl | rfl | rfl | rfl | rfl | rfl | rfl | rfl | rfl | rfl | rfl | rfl | rfl | rfl | rfl | rfl
        · rw [if_pos (show oSwmV (nI 1) = 1 by decide)]
          exact c_b01 (c_ldeep ho hk hx hw)
        · rw [if_neg (show ¬ oSwmV (nI 2) = 1 by decide), if_pos (show oSwmV (nI 2) = 2 by decide)]
          exact c_b01 (c_lglare ho hk hx hw)
        · rw [if_neg (show ¬ oSwmV (nI 3) = 1 by decide), if_neg (show ¬ oSwmV (nI 3) = 2 by decide), if_pos (show oSwmV (nI 3) = 3 by decide)]
          exact c_b01 (c_lsw ho hk hx hw)
        · rw [if_neg (show ¬ oSwmV (nI 4) = 1 by decide), if_neg (show ¬ oSwmV (nI 4) = 2 by decide), if_neg (show ¬ oSwmV (nI 4) = 3 by decide), if_pos (show oSwmV (nI 4) = 4 by decide)]
          exact c_b01 (c_lch ho hk hx hw)
        · rw [if_neg (show ¬ oSwmV (nI 5) = 1 by decide), if_neg (show ¬ oSwmV (nI 5) = 2 by decide), if_neg (show ¬ oSwmV (nI 5) = 3 by decide), if_neg (show ¬ oSwmV (nI 5) = 4 by decide), if_pos (show oSwmV (nI 5) = 5 by decide)]
          exact c_b01 (c_llk ho hk hx hw)
        · rw [if_neg (show ¬ oSwmV (nI 6) = 1 by decide), if_neg (show ¬ oSwmV (nI 6) = 2 by decide), if_neg (show ¬ oSwmV (nI 6) = 3 by decide), if_neg (show ¬ oSwmV (nI 6) = 4 by decide), if_neg (show ¬ oSwmV (nI 6) = 5 by decide), if_pos (show oSwmV (nI 6) = 6 by decide)]
          exact c_b01 (c_lla ho hk hx hw)
        · rw [if_neg (show ¬ oSwmV (nI 7) = 1 by decide), if_neg (show ¬ oSwmV (nI 7) = 2 by decide), if_neg (show ¬ oSwmV (nI 7) = 3 by decide), if_neg (show ¬ oSwmV (nI 7) = 4 by decide), if_neg (show ¬ oSwmV (nI 7) = 5 by decide), if_neg (show ¬ oSwmV (nI 7) = 6 by decide), if_pos (show oSwmV (nI 7) = 7 by decide)]
          exact c_b01 (c_lti ho hk hx hw)
        · rw [if_neg (show ¬ oSwmV (nI 8) = 1 by decide), if_neg (show ¬ oSwmV (nI 8) = 2 by decide), if_neg (show ¬ oSwmV (nI 8) = 3 by decide), if_neg (show ¬ oSwmV (nI 8) = 4 by decide), if_neg (show ¬ oSwmV (nI 8) = 5 by decide), if_neg (show ¬ oSwmV (nI 8) = 6 by decide), if_neg (show ¬ oSwmV (nI 8) = 7 by decide), if_pos (show oSwmV (nI 8) = 8 by decide)]
          exact c_b01 (c_lca ho hk hx hw)
        · rw [if_neg (show ¬ oSwmV (nI 9) = 1 by decide), if_neg (show ¬ oSwmV (nI 9) = 2 by decide), if_neg (show ¬ oSwmV (nI 9) = 3 by decide), if_neg (show ¬ oSwmV (nI 9) = 4 by decide), if_neg (show ¬ oSwmV (nI 9) = 5 by decide), if_neg (show ¬ oSwmV (nI 9) = 6 by decide), if_neg (show ¬ oSwmV (nI 9) = 7 by decide), if_neg (show ¬ oSwmV (nI 9) = 8 by decide), if_pos (show oSwmV (nI 9) = 9 by decide), hP_B]
          have eL : lnP bt n (g, tD, tG, on, r) s = pThen (onR bt n on 3 s) fun on s1 => pThen (exR bt n 0 4 s1) fun l s2 => .inr ((g, tD, tG, on, rUp r 0 l), s2) := by
            unfold lnP
            rw [hw]
            rfl
          rw [eL]
          refine c_once (i := 3) (by decide) hk hx.2.2.1 (fun f w1 e1 f1 x1 a1 b1 => ?_) (fun on' s1 w1 e1 f1 x1 k1 on1 => ?_)
          · rw [if_pos (show nI 0 = 0 from rfl), hP_some]
            exact lBad (pThen_n e1) (fz_up f1 (by decide)) x1 a1 b1
          · have m1 := onR_ok e1 hsn hKw
            have X1 : pCx (g, tD, tG, on', r) s1 w1 := pCx_of (qC_fz (by decide) f1 hx.1) (tdC_fz hx.2.1 f1 rfl rfl) on1 (pCr_fz (pCx_r hx) f1 (by decide) (by omega))
            rw [if_neg (by decide)]
            refine c_01 (f := fun w14 => f34_2 0 1 w14) ?_
            refine c_rule (i := 0) (rk := 1) (lo := 0) (hi := 4) (by unfold rKi; omega) (by decide) ho k1 X1 (fun f w2 e2 f2 x2 a2 b2 => ?_) (fun l s2 w2 e2 f2 x2 k2 X2 => ?_)
            · exact lBad ((pThen_y e1).trans (pThen_n e2)) (fz_then (fz_up f1 (by decide)) f2 (by decide)) (x2.trans x1) a2 b2
            · exact lGood ((pThen_y e1).trans (pThen_y e2)) (fz_then (fz_up f1 (by decide)) f2 (by decide)) (x2.trans x1) k2 X2
        · rw [if_neg (show ¬ oSwmV (nI 10) = 1 by decide), if_neg (show ¬ oSwmV (nI 10) = 2 by decide), if_neg (show ¬ oSwmV (nI 10) = 3 by decide), if_neg (show ¬ oSwmV (nI 10) = 4 by decide), if_neg (show ¬ oSwmV (nI 10) = 5 by decide), if_neg (show ¬ oSwmV (nI 10) = 6 by decide), if_neg (show ¬ oSwmV (nI 10) = 7 by decide), if_neg (show ¬ oSwmV (nI 10) = 8 by decide), if_neg (show ¬ oSwmV (nI 10) = 9 by decide), if_pos (show oSwmV (nI 10) = 10 by decide), hP_B]
          have eL : lnP bt n (g, tD, tG, on, r) s = pThen (onR bt n on 4 s) fun on s1 => pThen (exR bt n 1 5 s1) fun l s2 => .inr ((g, tD, tG, on, rUp r 1 l), s2) := by
            unfold lnP
            rw [hw]
            rfl
          rw [eL]
          refine c_once (i := 4) (by decide) hk hx.2.2.1 (fun f w1 e1 f1 x1 a1 b1 => ?_) (fun on' s1 w1 e1 f1 x1 k1 on1 => ?_)
          · rw [if_pos (show nI 0 = 0 from rfl), hP_some]
            exact lBad (pThen_n e1) (fz_up f1 (by decide)) x1 a1 b1
          · have m1 := onR_ok e1 hsn hKw
            have X1 : pCx (g, tD, tG, on', r) s1 w1 := pCx_of (qC_fz (by decide) f1 hx.1) (tdC_fz hx.2.1 f1 rfl rfl) on1 (pCr_fz (pCx_r hx) f1 (by decide) (by omega))
            rw [if_neg (by decide)]
            refine c_01 (f := fun w14 => f34_2 1 2 w14) ?_
            refine c_rule (i := 1) (rk := 2) (lo := 1) (hi := 5) (by unfold rKi; omega) (by decide) ho k1 X1 (fun f w2 e2 f2 x2 a2 b2 => ?_) (fun l s2 w2 e2 f2 x2 k2 X2 => ?_)
            · exact lBad ((pThen_y e1).trans (pThen_n e2)) (fz_then (fz_up f1 (by decide)) f2 (by decide)) (x2.trans x1) a2 b2
            · exact lGood ((pThen_y e1).trans (pThen_y e2)) (fz_then (fz_up f1 (by decide)) f2 (by decide)) (x2.trans x1) k2 X2
        · rw [if_neg (show ¬ oSwmV (nI 11) = 1 by decide), if_neg (show ¬ oSwmV (nI 11) = 2 by decide), if_neg (show ¬ oSwmV (nI 11) = 3 by decide), if_neg (show ¬ oSwmV (nI 11) = 4 by decide), if_neg (show ¬ oSwmV (nI 11) = 5 by decide), if_neg (show ¬ oSwmV (nI 11) = 6 by decide), if_neg (show ¬ oSwmV (nI 11) = 7 by decide), if_neg (show ¬ oSwmV (nI 11) = 8 by decide), if_neg (show ¬ oSwmV (nI 11) = 9 by decide), if_neg (show ¬ oSwmV (nI 11) = 10 by decide), if_pos (show oSwmV (nI 11) = 11 by decide), hP_B, qC_ga hx.1]
          have hga := gOk_ga ho
          have eL : lnP bt n (g, tD, tG, on, r) s = pThen (moR bt n (gGa g) 4 s) fun _ s1 => pThen (exR bt n 6 9 s1) fun l s2 => .inr ((gU g 0 6 (gGa g + 1), tD, tG, on, rUp r (2 + gGa g) l), s2) := by
            unfold lnP
            rw [hw]
            rfl
          rw [eL]
          refine c_more (a := gGa g) (b := 4) (by omega) (by decide) hk (fun f w1 e1 f1 x1 a1 b1 => ?_) (fun s1 w1 e1 hlt f1 x1 k1 => ?_)
          · rw [if_pos (show nI 0 = 0 from rfl), hP_some]
            exact lBad (pThen_n e1) (fz_up f1 (by decide)) x1 a1 b1
          · have m1 := moR_ok e1 hsn hKw
            have X1 := pCx_N hx (fz_up f1 (by decide)) (show s ≤ s1 by omega)
            have e2g : (2 : Int32) + nI (gGa g) = nI (2 + gGa g) := by
              show nI 2 + nI (gGa g) = _
              rw [nI_add]
            rw [if_neg (by decide), qC_ga X1.1, e2g]
            refine c_01 (f := fun w6 => f34_2 (nI (2 + gGa g)) 4 w6) ?_
            refine c_rule (i := 2 + gGa g) (rk := 4) (lo := 6) (hi := 9) (by unfold rKi; omega) (by omega) ho k1 X1 (fun f w2 e2 f2 x2 a2 b2 => ?_) (fun l s2 w2 e2 f2 x2 k2 X2 => ?_)
            · exact lBad ((pThen_y e1).trans (pThen_n e2)) (fz_then (fz_up f1 (by decide)) f2 (by decide)) (x2.trans x1) a2 b2
            · exact lGood ((pThen_y e1).trans (pThen_y e2)) (fz_then (fz_up f1 (by decide)) f2 (by decide)) (x2.trans x1) k2 X2
        · rw [if_neg (show ¬ oSwmV (nI 0) = 1 by decide), if_neg (show ¬ oSwmV (nI 0) = 2 by decide), if_neg (show ¬ oSwmV (nI 0) = 3 by decide), if_neg (show ¬ oSwmV (nI 0) = 4 by decide), if_neg (show ¬ oSwmV (nI 0) = 5 by decide), if_neg (show ¬ oSwmV (nI 0) = 6 by decide), if_neg (show ¬ oSwmV (nI 0) = 7 by decide), if_neg (show ¬ oSwmV (nI 0) = 8 by decide), if_neg (show ¬ oSwmV (nI 0) = 9 by decide), if_neg (show ¬ oSwmV (nI 0) = 10 by decide), if_neg (show ¬ oSwmV (nI 0) = 11 by decide), hP_gd]
          exact ⟨by decide, bad (by unfold lnP; rw [hw]; rfl)⟩
        · rw [if_neg (show ¬ oSwmV (nI 12) = 1 by decide), if_neg (show ¬ oSwmV (nI 12) = 2 by decide), if_neg (show ¬ oSwmV (nI 12) = 3 by decide), if_neg (show ¬ oSwmV (nI 12) = 4 by decide), if_neg (show ¬ oSwmV (nI 12) = 5 by decide), if_neg (show ¬ oSwmV (nI 12) = 6 by decide), if_neg (show ¬ oSwmV (nI 12) = 7 by decide), if_neg (show ¬ oSwmV (nI 12) = 8 by decide), if_neg (show ¬ oSwmV (nI 12) = 9 by decide), if_neg (show ¬ oSwmV (nI 12) = 10 by decide), if_neg (show ¬ oSwmV (nI 12) = 11 by decide), hP_gd]
          exact ⟨by decide, bad (by unfold lnP; rw [hw]; rfl)⟩
        · rw [if_neg (show ¬ oSwmV (nI 13) = 1 by decide), if_neg (show ¬ oSwmV (nI 13) = 2 by decide), if_neg (show ¬ oSwmV (nI 13) = 3 by decide), if_neg (show ¬ oSwmV (nI 13) = 4 by decide), if_neg (show ¬ oSwmV (nI 13) = 5 by decide), if_neg (show ¬ oSwmV (nI 13) = 6 by decide), if_neg (show ¬ oSwmV (nI 13) = 7 by decide), if_neg (show ¬ oSwmV (nI 13) = 8 by decide), if_neg (show ¬ oSwmV (nI 13) = 9 by decide), if_neg (show ¬ oSwmV (nI 13) = 10 by decide), if_neg (show ¬ oSwmV (nI 13) = 11 by decide), hP_gd]
          exact ⟨by decide, bad (by unfold lnP; rw [hw]; rfl)⟩
        · rw [if_neg (show ¬ oSwmV (nI 14) = 1 by decide), if_neg (show ¬ oSwmV (nI 14) = 2 by decide), if_neg (show ¬ oSwmV (nI 14) = 3 by decide), if_neg (show ¬ oSwmV (nI 14) = 4 by decide), if_neg (show ¬ oSwmV (nI 14) = 5 by decide), if_neg (show ¬ oSwmV (nI 14) = 6 by decide), if_neg (show ¬ oSwmV (nI 14) = 7 by decide), if_neg (show ¬ oSwmV (nI 14) = 8 by decide), if_neg (show ¬ oSwmV (nI 14) = 9 by decide), if_neg (show ¬ oSwmV (nI 14) = 10 by decide), if_neg (show ¬ oSwmV (nI 14) = 11 by decide), hP_gd]
          exact ⟨by decide, bad (by unfold lnP; rw [hw]; rfl)⟩
        · rw [if_neg (show ¬ oSwmV (nI 15) = 1 by decide), if_neg (show ¬ oSwmV (nI 15) = 2 by decide), if_neg (show ¬ oSwmV (nI 15) = 3 by decide), if_neg (show ¬ oSwmV (nI 15) = 4 by decide), if_neg (show ¬ oSwmV (nI 15) = 5 by decide), if_neg (show ¬ oSwmV (nI 15) = 6 by decide), if_neg (show ¬ oSwmV (nI 15) = 7 by decide), if_neg (show ¬ oSwmV (nI 15) = 8 by decide), if_neg (show ¬ oSwmV (nI 15) = 9 by decide), if_neg (show ¬ oSwmV (nI 15) = 10 by decide), if_neg (show ¬ oSwmV (nI 15) = 11 by decide), hP_gd]
          exact ⟨by decide, bad (by unfold lnP; rw [hw]; rfl)⟩
        · rw [if_neg (show ¬ oSwmV (nI 16) = 1 by decide), if_neg (show ¬ oSwmV (nI 16) = 2 by decide), if_neg (show ¬ oSwmV (nI 16) = 3 by decide), if_neg (show ¬ oSwmV (nI 16) = 4 by decide), if_neg (show ¬ oSwmV (nI 16) = 5 by decide), if_neg (show ¬ oSwmV (nI 16) = 6 by decide), if_neg (show ¬ oSwmV (nI 16) = 7 by decide), if_neg (show ¬ oSwmV (nI 16) = 8 by decide), if_neg (show ¬ oSwmV (nI 16) = 9 by decide), if_neg (show ¬ oSwmV (nI 16) = 10 by decide), if_neg (show ¬ oSwmV (nI 16) = 11 by decide), hP_gd]
          exact ⟨by decide, bad (by unfold lnP; rw [hw]; rfl)⟩
        · rw [if_neg (show ¬ oSwmV (nI 17) = 1 by decide), if_neg (show ¬ oSwmV (nI 17) = 2 by decide), if_neg (show ¬ oSwmV (nI 17) = 3 by decide), if_neg (show ¬ oSwmV (nI 17) = 4 by decide), if_neg (show ¬ oSwmV (nI 17) = 5 by decide), if_neg (show ¬ oSwmV (nI 17) = 6 by decide), if_neg (show ¬ oSwmV (nI 17) = 7 by decide), if_neg (show ¬ oSwmV (nI 17) = 8 by decide), if_neg (show ¬ oSwmV (nI 17) = 9 by decide), if_neg (show ¬ oSwmV (nI 17) = 10 by decide), if_neg (show ¬ oSwmV (nI 17) = 11 by decide), hP_gd]
          exact ⟨by decide, bad (by unfold lnP; rw [hw]; rfl)⟩
        · rw [if_neg (show ¬ oSwmV (nI 18) = 1 by decide), if_neg (show ¬ oSwmV (nI 18) = 2 by decide), if_neg (show ¬ oSwmV (nI 18) = 3 by decide), if_neg (show ¬ oSwmV (nI 18) = 4 by decide), if_neg (show ¬ oSwmV (nI 18) = 5 by decide), if_neg (show ¬ oSwmV (nI 18) = 6 by decide), if_neg (show ¬ oSwmV (nI 18) = 7 by decide), if_neg (show ¬ oSwmV (nI 18) = 8 by decide), if_neg (show ¬ oSwmV (nI 18) = 9 by decide), if_neg (show ¬ oSwmV (nI 18) = 10 by decide), if_neg (show ¬ oSwmV (nI 18) = 11 by decide), hP_gd]
          exact ⟨by decide, bad (by unfold lnP; rw [hw]; rfl)⟩
        · rw [if_neg (show ¬ oSwmV (nI 19) = 1 by decide), if_neg (show ¬ oSwmV (nI 19) = 2 by decide), if_neg (show ¬ oSwmV (nI 19) = 3 by decide), if_neg (show ¬ oSwmV (nI 19) = 4 by decide), if_neg (show ¬ oSwmV (nI 19) = 5 by decide), if_neg (show ¬ oSwmV (nI 19) = 6 by decide), if_neg (show ¬ oSwmV (nI 19) = 7 by decide), if_neg (show ¬ oSwmV (nI 19) = 8 by decide), if_neg (show ¬ oSwmV (nI 19) = 9 by decide), if_neg (show ¬ oSwmV (nI 19) = 10 by decide), if_neg (show ¬ oSwmV (nI 19) = 11 by decide), hP_gd]
          exact ⟨by decide, bad (by unfold lnP; rw [hw]; rfl)⟩
        · rw [if_neg (show ¬ oSwmV (nI 20) = 1 by decide), if_neg (show ¬ oSwmV (nI 20) = 2 by decide), if_neg (show ¬ oSwmV (nI 20) = 3 by decide), if_neg (show ¬ oSwmV (nI 20) = 4 by decide), if_neg (show ¬ oSwmV (nI 20) = 5 by decide), if_neg (show ¬ oSwmV (nI 20) = 6 by decide), if_neg (show ¬ oSwmV (nI 20) = 7 by decide), if_neg (show ¬ oSwmV (nI 20) = 8 by decide), if_neg (show ¬ oSwmV (nI 20) = 9 by decide), if_neg (show ¬ oSwmV (nI 20) = 10 by decide), if_neg (show ¬ oSwmV (nI 20) = 11 by decide), hP_gd]
          exact ⟨by decide, bad (by unfold lnP; rw [hw]; rfl)⟩
        · rw [if_neg (show ¬ oSwmV (nI 21) = 1 by decide), if_neg (show ¬ oSwmV (nI 21) = 2 by decide), if_neg (show ¬ oSwmV (nI 21) = 3 by decide), if_neg (show ¬ oSwmV (nI 21) = 4 by decide), if_neg (show ¬ oSwmV (nI 21) = 5 by decide), if_neg (show ¬ oSwmV (nI 21) = 6 by decide), if_neg (show ¬ oSwmV (nI 21) = 7 by decide), if_neg (show ¬ oSwmV (nI 21) = 8 by decide), if_neg (show ¬ oSwmV (nI 21) = 9 by decide), if_neg (show ¬ oSwmV (nI 21) = 10 by decide), if_neg (show ¬ oSwmV (nI 21) = 11 by decide), hP_gd]
          exact ⟨by decide, bad (by unfold lnP; rw [hw]; rfl)⟩
        · rw [if_neg (show ¬ oSwmV (nI 22) = 1 by decide), if_neg (show ¬ oSwmV (nI 22) = 2 by decide), if_neg (show ¬ oSwmV (nI 22) = 3 by decide), if_neg (show ¬ oSwmV (nI 22) = 4 by decide), if_neg (show ¬ oSwmV (nI 22) = 5 by decide), if_neg (show ¬ oSwmV (nI 22) = 6 by decide), if_neg (show ¬ oSwmV (nI 22) = 7 by decide), if_neg (show ¬ oSwmV (nI 22) = 8 by decide), if_neg (show ¬ oSwmV (nI 22) = 9 by decide), if_neg (show ¬ oSwmV (nI 22) = 10 by decide), if_neg (show ¬ oSwmV (nI 22) = 11 by decide), hP_gd]
          exact ⟨by decide, bad (by unfold lnP; rw [hw]; rfl)⟩
        · rw [if_neg (show ¬ oSwmV (nI 23) = 1 by decide), if_neg (show ¬ oSwmV (nI 23) = 2 by decide), if_neg (show ¬ oSwmV (nI 23) = 3 by decide), if_neg (show ¬ oSwmV (nI 23) = 4 by decide), if_neg (show ¬ oSwmV (nI 23) = 5 by decide), if_neg (show ¬ oSwmV (nI 23) = 6 by decide), if_neg (show ¬ oSwmV (nI 23) = 7 by decide), if_neg (show ¬ oSwmV (nI 23) = 8 by decide), if_neg (show ¬ oSwmV (nI 23) = 9 by decide), if_neg (show ¬ oSwmV (nI 23) = 10 by decide), if_neg (show ¬ oSwmV (nI 23) = 11 by decide), hP_gd]
          exact ⟨by decide, bad (by unfold lnP; rw [hw]; rfl)⟩
        · rw [if_neg (show ¬ oSwmV (nI 24) = 1 by decide), if_neg (show ¬ oSwmV (nI 24) = 2 by decide), if_neg (show ¬ oSwmV (nI 24) = 3 by decide), if_neg (show ¬ oSwmV (nI 24) = 4 by decide), if_neg (show ¬ oSwmV (nI 24) = 5 by decide), if_neg (show ¬ oSwmV (nI 24) = 6 by decide), if_neg (show ¬ oSwmV (nI 24) = 7 by decide), if_neg (show ¬ oSwmV (nI 24) = 8 by decide), if_neg (show ¬ oSwmV (nI 24) = 9 by decide), if_neg (show ¬ oSwmV (nI 24) = 10 by decide), if_neg (show ¬ oSwmV (nI 24) = 11 by decide), hP_gd]
          exact ⟨by decide, bad (by unfold lnP; rw [hw]; rfl)⟩
  · rw [if_neg (by rw [q_lit, q_eq (by omega) (by omega)]; exact c1)]
    refine bad ?_
    unfold lnP
    have : tW bt n s = none := by unfold tW; rw [if_neg c1]
    rw [this]
/-- lines up to the end -/
theorem c_lines {σ : lS} {s : Nat} (hσ : okS σ) (hk : tkC bt n s w) (hx : pCx σ s w) : hP (mLoop f16_2_1_b72 nF (0, w)) (lPost bt n (lnL bt n 700 σ s) w) := by
  refine hP_loopF (fun m st => ∃ i σ1 s1 w1, i + m = 700 ∧ st = (nI i, w1) ∧ okS σ1 ∧ tkC bt n s1 w1 ∧ pCx σ1 s1 w1 ∧ fz pPa w w1 ∧ nTx w1 = nTx w ∧ lnL bt n (700 - i) σ1 s1 = lnL bt n 700 σ s) 700 (by decide) ⟨0, σ, s, w, rfl, rfl, hσ, hk, hx, fz_refl, rfl, rfl⟩ ?_
  rintro m st rec ⟨i, σ1, s1, w1, him, rfl, O1, k1, X1, F1, x1, e1⟩ ih
  simp only [f16_2_1_b72]
  have hK := tK_le bt n s1
  have done : lnL bt n (700 - i) σ1 s1 = .inr (σ1, s1) → hP (some ((1 : Int32), w1)) (lPost bt n (lnL bt n 700 σ s) w) := by
    intro e
    rw [hP_some]
    exact lGood (e1.symm.trans e) F1 x1 k1 X1
  by_cases c1 : i < 700
  · have eU : lnL bt n (700 - i) σ1 s1 = if tK bt n s1 = 0 then .inr (σ1, s1) else pThen (lnS bt n σ1 s1) fun σ' s' => lnL bt n (700 - (i + 1)) σ' s' := by
      rw [show 700 - i = (700 - (i + 1)) + 1 by omega]
      rfl
    rw [if_pos (by rw [q_lit, q_lt (by omega) (by omega)]; exact c1), k1.2.2.2.2.1]
    by_cases c2 : tK bt n s1 = 0
    · rw [if_pos (by rw [c2]; rfl)]
      exact done (by rw [eU, if_pos c2])
    · rw [if_neg (by rw [q_lit, q_eq (by omega) (by omega)]; exact c2), hP_B]
      rw [if_neg c2] at eU
      refine hP_mono (c_line O1 k1 X1) (fun v w2 hp => ?_)
      obtain ⟨f2, x2, h3⟩ := hp
      cases he : lnP bt n σ1 s1 with
      | inl f =>
        rw [he] at h3
        rw [h3.1, if_pos (show nI 0 = 0 from rfl), hP_some]
        exact lBad (e1.symm.trans (eU.trans (pThen_n (pThen_n he)))) (fz_then F1 f2 (by decide)) (x2.trans x1) h3.2.1 h3.2.2
      | inr x =>
        obtain ⟨σ2, s2⟩ := x
        rw [he] at h3
        obtain ⟨v1, k2, X2⟩ := h3
        have k2 : tkC bt n s2 w2 := k2
        have X2 : pCx σ2 s2 w2 := X2
        obtain ⟨O2, _, _⟩ := ok_ln O1 k1.2.1 he
        rw [v1, if_neg (by decide), hP_B]
        refine c_pass (b := 59) (by decide) k2 (fun hy w3 f3 x3 k3 => ?_) (fun hno => ?_)
        · have ei : nI i + 1 = nI (i + 1) := by rw [← nI_add]; rfl
          have e5 : lnS bt n σ1 s1 = .inr (σ2, nx bt n s2) := (pThen_y he).trans (by unfold seR; rw [if_pos hy])
          rw [if_neg (by decide), ei]
          exact ih (m - 1) _ (by omega) ⟨i + 1, σ2, nx bt n s2, w3, by omega, rfl, O2, k3, pCx_N X2 (fz_up f3 (by decide)) (nx_ge bt n s2), fz_then (fz_then F1 f2 (by decide)) f3 (by decide), x3.trans (x2.trans x1), ((pThen_y e5).symm.trans eU.symm).trans e1⟩
        · have e5 : lnS bt n σ1 s1 = .inl (1, s2) := (pThen_y he).trans (by unfold seR; rw [if_neg hno])
          rw [if_pos (show nI 0 = 0 from rfl), hP_some]
          exact lBad (e1.symm.trans (eU.trans (pThen_n e5))) (fz_nS (fz_nS (fz_then F1 f2 (by decide)) rfl) rfl) (x2.trans x1) ((rd_nSj (by decide)).trans rd_nS) rd_nS
  · rw [if_neg (by rw [q_lit, q_lt (by omega) (by omega)]; exact c1)]
    refine done ?_
    rw [show 700 - i = 0 by omega]
    rfl
theorem ok_σ (g : gS) (ho : gOk g) (h2 : gLk g = 0) (h3 : gCa g = 0) (h4 : gGa g = 0) (h5 : gMi g = 0) : okS (g, noT, noT, noT, fun _ => none) :=
  ⟨ho, h5, fun k hk => by have hk : k < gLk g := hk; omega, fun k hk => by have hk : k < gCa g := hk; omega, ⟨fun l e => (by cases e), fun l e => (by cases e), fun i l _ e => (by cases e)⟩, fun i hi => by have hi : i < gGa g := hi; omega, fun _ _ => rfl⟩
end CRD
