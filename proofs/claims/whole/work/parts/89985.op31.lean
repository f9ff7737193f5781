/-! ===== OPERATIONS: week, the reference ===== -/
section WKM
variable {g : gS} {r : gR} {w : mW} {Q : Int32 → mW → Prop}
theorem m_wnote {o : Option Nat} {a b c k : Nat} {x2 x3 x7 : Int32} {rec : Int32 × Int32 × Int32 × Int32 × mW → Option (Int32 × mW)} (ho : gOk g) (hB : oB o) (hla5 : wI w 80 5 = nI (gLa g)) (ha : a < 100000) (hb : b < 100000) (hc : c ≤ 300) (hq : hP (rec (nI (a + wkC (gLa g) o), nI (b + (if oLate (gLa g) o = true then 1 else 0)), nI (max c (wkC (gLa g) o)), nI (k + 1), w)) Q) : hP (f285_80_j170 x2 x3 (nI a) (nI b) (nI c) x7 (nI k) (eN o) rec w) Q := by
  have hla := gOk_la ho
  have hlt := eN_lt hB
  have hw : wkC (gLa g) o ≤ 300 := by unfold wkC; omega
  have e9 : (nI (gLa g) < eN o) = (oLate (gLa g) o = true) := by
    unfold eN
    rw [q_lt (by omega) (by omega)]
    exact oLate_N (by omega)
  have J : ∀ b', b' = b + (if oLate (gLa g) o = true then 1 else 0) → ∀ t, t = wkC (gLa g) o → hP (f285_80_j207 x2 x3 (nI a) (nI b') (nI c) x7 (nI k) (nI t) rec w) Q := by
    rintro b' rfl t rfl
    unfold f285_80_j207
    rw [hP_let, nI_add]
    have ek : nI k + 1 = nI (k + 1) := by rw [← nI_add]; rfl
    rw [ek]
    by_cases c1 : c < wkC (gLa g) o
    · rw [if_pos (by rw [q_lt (by omega) (by omega)]; exact c1)]
      rw [Nat.max_eq_right (by omega)] at hq
      exact hq
    · rw [if_neg (by rw [q_lt (by omega) (by omega)]; exact c1)]
      rw [Nat.max_eq_left (by omega)] at hq
      exact hq
  unfold f285_80_j170
  rw [hla5]
  by_cases c2 : oLate (gLa g) o = true
  · have c3 : nI (gLa g) < eN o := by rw [e9]; exact c2
    have c4 : gLa g < oN 1000000 o := by
      have := c3
      unfold eN at this
      rw [q_lt (by omega) (by omega)] at this
      exact this
    rw [if_pos c3, hP_let, if_pos c3]
    have eb : nI b + 1 = nI (b + 1) := by rw [← nI_add]; rfl
    rw [eb]
    exact J (b + 1) (by rw [if_pos c2]) _ (by unfold wkC; omega)
  · have c3 : ¬ nI (gLa g) < eN o := by rw [e9]; exact c2
    have c4 : ¬ gLa g < oN 1000000 o := by
      intro h
      apply c3
      unfold eN
      rw [q_lt (by omega) (by omega)]
      exact h
    rw [if_neg c3, hP_let, if_neg c3]
    have eb : nI b + 0 = nI b := by
      show nI b + nI 0 = _
      rw [nI_add]; rfl
    rw [eb]
    unfold eN
    exact J b (by rw [if_neg c2]; rfl) _ (by unfold wkC; omega)
abbrev pWM : fP := ([103, 104, 105, 106, 107], [(80, 70), (80, 78)])
theorem m_week {tm y : Nat} {sd : Int32} (hM : rM g w) (hR : rMr r g w) (ho : gOk g) (hk : rOk r g) (hm : wI w 80 66 = nI 0) (ht : tm ≤ 100) (hy : y < 3) (hsd : wI w 80 78 = sd) (hq : ∀ w', fr pWM w w' → Q (nI (if y = 0 then (wkV g r sd tm).2.1 else if y = 1 then (wkV g r sd tm).2.2.1 else (wkV g r sd tm).2.2.2)) w') : hP (f284_80 w) (fun v9 w10 => hP (f228_80 w10) (fun _ w12 => hP (mLoop (f285_80_b58 (nI tm) (nI y) v9) nF (0, 0, 0, 0, w12)) Q)) := by
  have hsw := gOk_sw ho
  have hn := gOk_n ho
  have hT := gRnd_T ho
  have hTl := lay_T ho (gLk g) (Nat.le_refl _)
  have hlo := lay_ok ho
  have hW := wSt_le g r (gSw g)
  refine m_allW hM hR ho hk hm (fun w1 f1 => ?_)
  refine m_laysAll (rM_fr (by decide) f1 hM) ho (fun w2 f2 hl2 => ?_)
  have f12 : fr pWM w w2 := fr_then (fr_up f1 (by decide)) f2 (by decide)
  have hsd2 : wI w2 80 78 = sd := (fr_rd f2 rfl).trans ((fr_rd f1 rfl).trans hsd)
  have ret : ∀ (w' : mW) (v : Int32 × Nat × Nat × Nat), v.2 = (wkV g r sd tm).2 → fr pWM w w' → hP (if nI y = 0 then some (nI v.2.1, w') else (if nI y = 1 then some (nI v.2.2.1, w') else some (nI v.2.2.2, w'))) Q := by
    intro w' v ev hf
    have := hq w' hf
    rw [← ev] at this
    have hy3 : y = 0 ∨ y = 1 ∨ y = 2 := by omega
    rcases hy3 with rfl | rfl | rfl
    · rw [if_pos (show nI 0 = 0 from rfl), hP_some]; exact this
    · rw [if_neg (by decide), if_pos (show nI 1 = 1 from rfl), hP_some]; exact this
    · rw [if_neg (by decide), if_neg (by decide), hP_some]; exact this
  refine hP_loopF (fun n s => ∃ k w3, k + n = tm ∧ (¬ k = 0 → ¬ wSt g r (gSw g) = 0) ∧ s = (nI (wkR g r sd k).2.1, nI (wkR g r sd k).2.2.1, nI (wkR g r sd k).2.2.2, nI k, w3) ∧ fr pWM w w3 ∧ wI w3 80 78 = (wkR g r sd k).1 ∧ rLk w3 (gLay g 0 (gW g) 99 0 (gLk g))) tm (by omega) ⟨0, w2, by omega, fun h => absurd rfl h, rfl, f12, hsd2, hl2⟩ ?_
  rintro n s rec ⟨k, w3, hkn, hz, rfl, f3, hs3, hl3⟩ ih
  simp only [f285_80_b58]
  by_cases c1 : k < tm
  · rw [if_pos (by rw [q_lt (by omega) (by omega)]; exact c1)]
    by_cases c2 : wSt g r (gSw g) = 0
    · rw [if_neg (by rw [q_lit, q_lt (by omega) (by omega)]; omega)]
      have k0 : k = 0 := by
        apply Classical.byContradiction
        intro h
        exact hz h c2
      subst k0
      refine ret w3 (wkR g r sd 0) ?_ f3
      unfold wkV
      rw [if_pos c2]
      rfl
    · rw [if_pos (by rw [q_lit, q_lt (by omega) (by omega)]; omega), hP_B]
      obtain ⟨b1, b2, b3⟩ := wkR_b (r := r) ho sd k
      have hpick := Nat.mod_lt (dr15 (lcg (wI w3 80 78))) (show 0 < wSt g r (gSw g) by omega)
      refine m_draw (by omega) (by omega) ?_
      rw [hs3] at hpick ⊢
      have f34 : fr ([], [(80, 78)]) w3 (nS w3 80 78 (lcg (wkR g r sd k).1)) := fr_nS fr_refl rfl
      have eW : wkW g r (wkR g r sd k).1 = whoL g r (gSw g) 0 (dr15 (lcg (wkR g r sd k).1) % wSt g r (gSw g)) := rfl
      generalize hp0 : dr15 (lcg (wkR g r sd k).1) % wSt g r (gSw g) = p0 at hpick eW
      refine hP_loopF (fun m s => ∃ j p w5, j + m = gSw g ∧ p + wSt g r j < wSt g r (gSw g) ∧ s = (nI p, nI j, w5) ∧ fr pWM w w5 ∧ wI w5 80 78 = lcg (wkR g r sd k).1 ∧ rLk w5 (gLay g 0 (gW g) 99 0 (gLk g)) ∧ wkW g r (wkR g r sd k).1 = whoL g r m j p) (gSw g) (by omega) ⟨0, p0, _, by omega, hpick, rfl, fr_then f3 f34 (by decide), rd_nS, rLk_fr hl3 f34 rfl (fun _ => rfl), eW⟩ ?_
      rintro m s rec2 ⟨j, p, w5, hjm, hpj, rfl, f5, hs5, hl5, eWj⟩ ih2
      have hM5 := rM_fr (by decide) f5 hM
      have hR5 := rMr_fr (by decide) f5 hR
      have hm5 : wI w5 80 66 = nI 0 := (fr_rd f5 rfl).trans hm
      obtain ⟨m, rfl⟩ : ∃ m', m = m' + 1 := ⟨m - 1, by
        have : ¬ m = 0 := by
          intro h0
          have : j = gSw g := by omega
          rw [this] at hpj
          omega
        omega⟩
      have hj : j < gSw g := by omega
      have hat := gOk_at ho j hj
      have htb := gTr_b g r (gCh g) j
      have eSt : wSt g r (j + 1) = wSt g r j + gTr g r (gCh g) j := rfl
      have e0 : whoL g r (m + 1) j p = if p < gTr g r (gCh g) j then j else whoL g r m (j + 1) (p - gTr g r (gCh g) j) := rfl
      simp only [f285_80_b80]
      rw [hP_B]
      refine m_trouble hM5 hR5 ho hk hj hm5 (fun w6 f6 => ?_)
      have f16 : fr pWM w w6 := fr_then f5 f6 (by decide)
      have hs6 : wI w6 80 78 = lcg (wkR g r sd k).1 := (fr_rd f6 rfl).trans hs5
      have hl6 := rLk_fr hl5 f6 rfl (fun _ => rfl)
      have hM6 := rM_fr (by decide) f16 hM
      have hR6 := rMr_fr (by decide) f16 hR
      have hm6 : wI w6 80 66 = nI 0 := (fr_rd f16 rfl).trans hm
      by_cases c3 : p < gTr g r (gCh g) j
      · rw [if_pos c3] at e0
        have eJ : wkW g r (wkR g r sd k).1 = j := eWj.trans e0
        rw [if_pos (by rw [q_lt (by omega) (by omega)]; exact c3)]
        have hp6 : wI w6 80 70 = nI (gRnd g (gLk g)) := by rw [hl6.1, hTl]
        rw [hp6]
        by_cases c4 : gRnd g (gLk g) = 0
        · rw [if_neg (by rw [q_lit, q_lt (by omega) (by omega)]; omega)]
          have eD : wkD g r (wkR g r sd k).1 = none := by unfold wkD; rw [if_pos c4]
          have eS : wkS g (wkR g r sd k).1 = lcg (wkR g r sd k).1 := by unfold wkS; rw [if_pos c4]
          refine m_wnote (g := g) (o := none) ho (fun x hx => by cases hx) (rM_la hM6) (Nat.lt_of_le_of_lt b1 (by omega)) (Nat.lt_of_le_of_lt b2 (by omega)) b3 ?_
          refine ih (n - 1) _ (by omega) ⟨k + 1, w6, by omega, fun _ => c2, ?_, f16, ?_, hl6⟩
          · show _ = (nI ((wkR g r sd k).2.1 + wkC (gLa g) (wkD g r (wkR g r sd k).1)), nI ((wkR g r sd k).2.2.1 + (if oLate (gLa g) (wkD g r (wkR g r sd k).1) = true then 1 else 0)), nI (max (wkR g r sd k).2.2.2 (wkC (gLa g) (wkD g r (wkR g r sd k).1))), _, _)
            rw [eD]
          · show _ = wkS g (wkR g r sd k).1
            rw [eS]; exact hs6
        · have hsec := Nat.mod_lt (dr15 (lcg (wI w6 80 78))) (show 0 < gRnd g (gLk g) by omega)
          rw [if_pos (by rw [q_lit, q_lt (by omega) (by omega)]; omega), hP_B]
          refine m_draw (by omega) (by omega) ?_
          rw [hs6] at hsec ⊢
          have f7 : fr ([], [(80, 78)]) w6 (nS w6 80 78 (lcg (lcg (wkR g r sd k).1))) := fr_nS fr_refl rfl
          have f17 : fr pWM w (nS w6 80 78 (lcg (lcg (wkR g r sd k).1))) := fr_then f16 f7 (by decide)
          have hM7 := rM_fr (by decide) f17 hM
          have hR7 := rMr_fr (by decide) f17 hR
          have hl7 := rLk_fr hl6 f7 rfl (fun _ => rfl)
          have z0 : (0 : Int32) + nI j = nI j := by
            show nI 0 + nI j = _
            rw [nI_add, Nat.zero_add]
          rw [z0, hP_gd, hP_B, q_cl (by omega), rM_at hM7 j hj]
          refine ⟨by rw [q_g (by omega)]; omega, ?_⟩
          refine m_need (ex := 0) hM7 hR7 ho hk (by omega) ((fr_rd f17 rfl).trans hm) (fun w8 f8 => ?_)
          have f18 : fr pWM w w8 := fr_then f17 f8 (by decide)
          have hM8 := rM_fr (by decide) f18 hM
          have hl8 := rLk_fr hl7 f8 rfl (fun _ => rfl)
          have hnd := gNd_b g r (gCh g) (gMi g) 0 (g 5 j)
          rw [hP_gd, hP_B, rM_at hM8 j hj]
          refine ⟨by rw [q_g (by omega)]; omega, ?_⟩
          refine m_watch (by rw [hTl]; omega) hlo.1 hlo.2 (by omega) hnd.1 hnd.2 hl8 (fun w9 f9 hS => ?_)
          have f19 : fr pWM w w9 := fr_then f18 f9 (by decide)
          have hM9 := rM_fr (by decide) f19 hM
          have hl9 := rLk_fr hl8 f9 rfl (fun _ => rfl)
          rw [hTl] at hS
          rw [hP_B]
          refine m_delay (n := gN1 g r 0 (g 5 j)) (by omega) hnd.1 hnd.2 hsec hS ?_
          have eD : wkD g r (wkR g r sd k).1 = gDl g r (g 5 j) (dr15 (lcg (lcg (wkR g r sd k).1)) % gRnd g (gLk g)) := by unfold wkD; rw [if_neg c4, eJ]
          have eS : wkS g (wkR g r sd k).1 = lcg (lcg (wkR g r sd k).1) := by unfold wkS; rw [if_neg c4]
          have hdB : oB (wkD g r (wkR g r sd k).1) := by rw [eD]; exact gDl_B ho r _ _
          have hfin : hP (f285_80_j170 (nI tm) (nI y) (nI (wkR g r sd k).2.1) (nI (wkR g r sd k).2.2.1) (nI (wkR g r sd k).2.2.2) (nI (wSt g r (gSw g))) (nI k) (eN (wkD g r (wkR g r sd k).1)) rec w9) Q := by
            refine m_wnote (g := g) ho hdB (rM_la hM9) (Nat.lt_of_le_of_lt b1 (by omega)) (Nat.lt_of_le_of_lt b2 (by omega)) b3 ?_
            refine ih (n - 1) _ (by omega) ⟨k + 1, w9, by omega, fun _ => c2, rfl, f19, ?_, hl9⟩
            show _ = wkS g (wkR g r sd k).1
            rw [eS, fr_rd f9 rfl, fr_rd f8 rfl, rd_nS]
          rw [eD] at hfin
          exact hfin
      · rw [if_neg c3] at e0
        rw [if_neg (by rw [q_lt (by omega) (by omega)]; exact c3), hP_B]
        refine m_trouble hM6 hR6 ho hk hj hm6 (fun w7 f7 => ?_)
        rw [hP_let, q_sub (by omega)]
        refine ih2 m _ (by omega) ⟨j + 1, p - gTr g r (gCh g) j, w7, by omega, by omega, by rw [← nI_add]; rfl, fr_then f16 f7 (by decide), (fr_rd f7 rfl).trans hs6, rLk_fr hl6 f7 rfl (fun _ => rfl), eWj.trans e0⟩
  · have e : k = tm := by omega
    rw [if_neg (by rw [q_lt (by omega) (by omega)]; exact c1)]
    refine ret w3 (wkR g r sd k) ?_ f3
    subst e
    unfold wkV
    by_cases c2 : wSt g r (gSw g) = 0
    · rw [if_pos c2]
      have k0 : k = 0 := by
        apply Classical.byContradiction
        intro h
        exact hz h c2
      subst k0
      rfl
    · rw [if_neg c2]
end WKM
