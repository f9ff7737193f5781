/-! ===== OPERATIONS: lanes, both ===== -/
abbrev pL1 : fP := ([2, 3, 4, 5, 6, 7, 8, 9, 10, 11, 12, 13, 14, 15, 16, 17, 18, 19, 20, 21, 89, 90, 91, 92, 93, 94, 95, 96, 97, 98, 99, 116], [(0, 1), (0, 2), (0, 3), (80, 0), (80, 18), (80, 19), (80, 20), (80, 22), (80, 23), (80, 24), (80, 25), (80, 26), (80, 27), (80, 28), (80, 29), (80, 30), (80, 31), (80, 32), (80, 33), (80, 34), (80, 35), (80, 36), (80, 37), (80, 38), (80, 39), (80, 40), (80, 41), (80, 42), (80, 43), (80, 44), (80, 45), (80, 46), (80, 47), (80, 48), (88, 0)])
/-- the reference begins a text -/
theorem m_begin {w : mW} {n t : Nat} {Q : Int32 → mW → Prop} (h18 : wI w 80 18 = nI t) (ht : t ≤ 700) (hn : n ≤ t) (h : hP (mLoop f213_80_b137 nF (0, mNew (nS w 80 0 0) (nI n))) Q) : hP (f213_80 (nI n) w) Q := by
  unfold f213_80
  rw [hP_let, if_neg (by rw [q_lit, q_lt (by omega) (by omega)]; omega), rd_nSj (by decide), h18, if_neg (by rw [q_lt (by omega) (by omega)]; omega)]
  unfold f213_80_j23
  rw [hP_B]
  refine m_rightY (c := 1) rd_nS ?_
  rw [if_neg (by decide), hP_let, hP_let, hP_let, hP_let, hP_let, hP_let, hP_let, hP_let, hP_let, hP_let, hP_let, hP_let, hP_let, hP_let, hP_let, hP_let, hP_let, hP_let, hP_let, hP_let]
  exact h
theorem txR_ok {bt : Nat → Nat} {n : Nat} {σ : lS} {s : Nat} (h : txR bt n (rnE bSp bt n 0) = .inr (σ, s)) : okS σ ∧ s ≤ n := by
  have h0 : rnE bSp bt n 0 ≤ n := rnE_le (Nat.zero_le _)
  have ll : ∀ k σ1 s1, okS σ1 → s1 ≤ n → ∀ σ s, lnL bt n k σ1 s1 = .inr (σ, s) → okS σ ∧ s ≤ n := by
    intro k
    induction k with
    | zero =>
      intro σ1 s1 o1 l1 σ s e
      have e1 : (σ1, s1) = (σ, s) := Sum.inr.inj e
      cases e1
      exact ⟨o1, l1⟩
    | succ k ih =>
      intro σ1 s1 o1 l1 σ s e
      unfold lnL at e
      by_cases c : tK bt n s1 = 0
      · rw [if_pos c] at e
        have e1 : (σ1, s1) = (σ, s) := Sum.inr.inj e
        cases e1
        exact ⟨o1, l1⟩
      · rw [if_neg c] at e
        obtain ⟨σ2, s2, e2, e3⟩ := pThen_ok e
        obtain ⟨a1, a2, a3⟩ := ok_lnS o1 l1 e2
        exact ih σ2 s2 a1 a3 σ s e3
  unfold txR at h
  by_cases c : isW bt n (rnE bSp bt n 0) 0
  · rw [if_pos c] at h
    obtain ⟨g, s1, e1, e2⟩ := pThen_ok h
    obtain ⟨a, s2, e3, e4⟩ := pThen_ok e1
    obtain ⟨b, s3, e5, e6⟩ := pThen_ok e4
    have n1 := nmR_ok e3 (nx_le bt n h0)
    have n2 := nmR_ok e5 n1.2.2.2.2
    unfold seR at e6
    by_cases c2 : isS bt n s3 59
    · rw [if_pos c2] at e6
      have e7 : (gU (gU g00 0 0 a) 0 1 b, nx bt n s3) = (g, s1) := Sum.inr.inj e6
      cases e7
      exact ll 700 _ _ (ok_σ _ (ok_sz ⟨n1.1, n1.2.1⟩ ⟨n2.1, n2.2.1⟩) rfl rfl rfl rfl) (nx_le bt n n2.2.2.2.2) σ s e2
    · rw [if_neg c2] at e6; cases e6
  · rw [if_neg c] at h
    exact ll 700 _ _ (ok_σ g00 ok_00 rfl rfl rfl rfl) h0 σ s h
/-- a text that is refused -/
theorem Inv_bad {w w6 : mW} {p : Nat} (hI : Inv w) (A6 : ∀ a j, fIn pL1 a j = false → wI w6 a j = wI w a j) (e18 : wI w6 80 18 = nI 0) (e01 : wI w6 0 1 = nI 0) (e20 : wI w6 80 20 = nI p) (e02 : wI w6 0 2 = nI p) (e88 : wI w6 88 0 = wI w 88 0 + 1) (e03 : wI w6 0 3 = wI w 0 3 + 1) : Inv w6 := by
  obtain ⟨g, r, h, D, H, hp, hh, hD, hH, hi, ⟨bt, t, t1, t2, t3, t4⟩, ⟨m1, m2, m3, m4⟩, hrw⟩ := hI
  have f1 : fr ([], [(80, 18), (0, 1), (80, 20), (0, 2), (88, 0), (0, 3)]) w (nS (nS (nS (nS (nS (nS w 80 18 (nI 0)) 0 1 (nI 0)) 80 20 (nI p)) 0 2 (nI p)) 88 0 (wI w 88 0 + 1)) 0 3 (wI w 0 3 + 1)) := fr_nS (fr_nS (fr_nS (fr_nS (fr_nS (fr_nS fr_refl rfl) rfl) rfl) rfl) rfl) rfl
  have a18 : wI (nS (nS (nS (nS (nS (nS w 80 18 (nI 0)) 0 1 (nI 0)) 80 20 (nI p)) 0 2 (nI p)) 88 0 (wI w 88 0 + 1)) 0 3 (wI w 0 3 + 1)) 80 18 = nI 0 := by
    rw [rd_nSa (by decide), rd_nSa (by decide), rd_nSa (by decide), rd_nSj (by decide), rd_nSa (by decide), rd_nS]
  have a01 : wI (nS (nS (nS (nS (nS (nS w 80 18 (nI 0)) 0 1 (nI 0)) 80 20 (nI p)) 0 2 (nI p)) 88 0 (wI w 88 0 + 1)) 0 3 (wI w 0 3 + 1)) 0 1 = nI 0 := by
    rw [rd_nSj (by decide), rd_nSa (by decide), rd_nSj (by decide), rd_nSa (by decide), rd_nS]
  have a20 : wI (nS (nS (nS (nS (nS (nS w 80 18 (nI 0)) 0 1 (nI 0)) 80 20 (nI p)) 0 2 (nI p)) 88 0 (wI w 88 0 + 1)) 0 3 (wI w 0 3 + 1)) 80 20 = nI p := by
    rw [rd_nSa (by decide), rd_nSa (by decide), rd_nSa (by decide), rd_nS]
  have a02 : wI (nS (nS (nS (nS (nS (nS w 80 18 (nI 0)) 0 1 (nI 0)) 80 20 (nI p)) 0 2 (nI p)) 88 0 (wI w 88 0 + 1)) 0 3 (wI w 0 3 + 1)) 0 2 = nI p := by
    rw [rd_nSj (by decide), rd_nSa (by decide), rd_nS]
  have a88 : wI (nS (nS (nS (nS (nS (nS w 80 18 (nI 0)) 0 1 (nI 0)) 80 20 (nI p)) 0 2 (nI p)) 88 0 (wI w 88 0 + 1)) 0 3 (wI w 0 3 + 1)) 88 0 = wI w 88 0 + 1 := by
    rw [rd_nSa (by decide), rd_nS]
  have a03 : wI (nS (nS (nS (nS (nS (nS w 80 18 (nI 0)) 0 1 (nI 0)) 80 20 (nI p)) 0 2 (nI p)) 88 0 (wI w 88 0 + 1)) 0 3 (wI w 0 3 + 1)) 0 3 = wI w 0 3 + 1 := rd_nS
  generalize nS (nS (nS (nS (nS (nS w 80 18 (nI 0)) 0 1 (nI 0)) 80 20 (nI p)) 0 2 (nI p)) 88 0 (wI w 88 0 + 1)) 0 3 (wI w 0 3 + 1) = w1 at f1 a18 a01 a20 a02 a88 a03
  have I1 : Inv w1 := by
    refine ⟨g, r, h, D, H, iPool_fr (by decide) (by decide) f1 hp, iHist_fr (by decide) f1 hh, iDum_fr (by decide) f1 hD, iHd_fr (by decide) f1 hH, iImg_fr (by decide) f1 hi, ⟨bt, 0, a18, a01, by decide, fun i hi => absurd hi (Nat.not_lt_zero _)⟩, ⟨a20.trans a02.symm, ?_, ?_, ?_⟩, iRow_fr (by decide) f1 hrw⟩
    · rw [a88, a03, m2]
    · rw [fr_rd f1 rfl, fr_rd f1 rfl]; exact m3
    · rw [fr_rd f1 rfl, fr_rd f1 rfl]; exact m4
  refine Inv_cg (w := w1) (fun a ha j => ?_) (fun x hx => ?_) I1
  · by_cases c : a = 88
    · subst c
      by_cases e : j = 0
      · rw [e, e88, a88]
      · have n1 : fIn pL1 88 j = false := by simp [fIn, fR, fC]; exact fun h => e h.symm
        have n2 : fIn ([], [(80, 18), (0, 1), (80, 20), (0, 2), (88, 0), (0, 3)]) 88 j = false := by simp [fIn, fR, fC]; exact fun h => e h.symm
        rw [A6 88 j n1, fr_rd f1 n2]
    · have hm : a ∈ [1, 25, 26, 27, 28, 30, 31, 32, 35, 36, 37, 38, 39, 40, 41, 56, 57, 58, 59, 60, 61, 62, 79, 81, 82, 83, 84, 85, 86, 87, 100, 102, 108, 110, 111, 112, 113, 114, 115] := by
        have key : ∀ a ∈ invR, a = 88 ∨ a ∈ [1, 25, 26, 27, 28, 30, 31, 32, 35, 36, 37, 38, 39, 40, 41, 56, 57, 58, 59, 60, 61, 62, 79, 81, 82, 83, 84, 85, 86, 87, 100, 102, 108, 110, 111, 112, 113, 114, 115] := by decide
        rcases key a ha with h | h
        · exact absurd h c
        · exact h
      rw [A6 a j (fOff_row (K := []) (by decide) hm j), fr_rd f1 (fOff_row (K := []) (by decide) hm j)]
  · have key : ∀ x ∈ invK, x = (80, 18) ∨ x = (80, 20) ∨ x = (0, 1) ∨ x = (0, 2) ∨ x = (0, 3) ∨ (fIn pL1 x.1 x.2 = false ∧ fIn ([], [(80, 18), (0, 1), (80, 20), (0, 2), (88, 0), (0, 3)]) x.1 x.2 = false) := by decide
    rcases key x hx with rfl | rfl | rfl | rfl | rfl | h
    · exact e18.trans a18.symm
    · exact e20.trans a20.symm
    · exact e01.trans a01.symm
    · exact e02.trans a02.symm
    · exact e03.trans a03.symm
    · rw [A6 _ _ h.1, fr_rd f1 h.2]
theorem op_lanes (x1 : Int32) : opB Inv (f302_0_116 x1) (f213_80 x1) := by
  intro w hI
  obtain ⟨g, r, h, D, H, hp, hh, hD, hH, hi, ⟨bt, t, t1, t2, t3, t4⟩, ⟨m1, m2, m3, m4⟩, hrw⟩ := id hI
  have hcm : wI w 80 66 = nI 0 := by
    obtain ⟨_, _, _, _, _, _, _, hcm, _⟩ := hp
    exact hcm
  unfold f302_0_116 f127_0
  rw [hP_xh]
  by_cases c : inR x1 (t + 1)
  · obtain ⟨n, hn, rfl⟩ := c
    rw [if_neg (by rw [q_lit, q_lt (by omega) (by omega)]; omega), t2, if_neg (by rw [q_lt (by omega) (by omega)]; omega), hP_let, hP_B]
    refine hP_mono (c_read (bt := bt) (n := n) (w := nS w 0 1 0) (by omega) (fun i hi => ⟨(t4 i (by omega)).1, (rd_nSa (by decide)).trans (t4 i (by omega)).2.2⟩)) (fun v w2 hp2 => ?_)
    obtain ⟨f2, h2⟩ := hp2
    have A2 : ∀ a j, fIn pL1 a j = false → wI w2 a j = wI w a j := by
      intro a j ha
      rw [f2.1 a j (fLe_no (q := pPa) (p := pL1) (by decide) ha)]
      exact fr_rd (fr_nS fr_refl rfl : fr ([], [(0, 1)]) w _) (fLe_no (q := ([], [(0, 1)])) (p := pL1) (by decide) ha)
    have C2 : w2.2.2.2.2 = w.2.2.2.2 := f2.2.2
    have z01 : wI w2 0 1 = nI 0 := by rw [fz_rd f2 rfl, rd_nS]; rfl
    cases hT : txR bt n (rnE bSp bt n 0) with
    | inl f =>
      rw [hT] at h2
      obtain ⟨v0, a2, a3⟩ := h2
      rw [v0, if_pos (show nI 0 = 0 from rfl), hP_let, hP_let, hP_some]
      dsimp only
      rw [hP_let, hP_some]
      have a3' : wI (nS w2 0 3 (wI w2 0 3 + 1)) 2 3 = nI f.2 := by rw [rd_nSa (by decide)]; exact a3
      have a2' : wI (nS (nS w2 0 3 (wI w2 0 3 + 1)) 0 2 (nI f.2)) 2 2 = nI f.1 := by rw [rd_nSa (by decide), rd_nSa (by decide)]; exact a2
      rw [a3', a2']
      have f3 : fr ([116], [(0, 2), (0, 3)]) w2 (nSJ (nS (nS w2 0 3 (wI w2 0 3 + 1)) 0 2 (nI f.2)) 116 0 (nI f.1).toInt64) := fr_nSJ (fr_nS (fr_nS fr_refl rfl) rfl) rfl
      have e03 : wI (nSJ (nS (nS w2 0 3 (wI w2 0 3 + 1)) 0 2 (nI f.2)) 116 0 (nI f.1).toInt64) 0 3 = wI w 0 3 + 1 := by
        show wI (nS (nS w2 0 3 (wI w2 0 3 + 1)) 0 2 (nI f.2)) 0 3 = _
        rw [rd_nSj (by decide), rd_nS, fz_rd f2 rfl, rd_nSj (by decide)]
      have e02 : wI (nSJ (nS (nS w2 0 3 (wI w2 0 3 + 1)) 0 2 (nI f.2)) 116 0 (nI f.1).toInt64) 0 2 = nI f.2 := by
        show wI (nS (nS w2 0 3 (wI w2 0 3 + 1)) 0 2 (nI f.2)) 0 2 = _
        rw [rd_nS]
      have eJ : wJ (nSJ (nS (nS w2 0 3 (wI w2 0 3 + 1)) 0 2 (nI f.2)) 116 0 (nI f.1).toInt64) 116 0 = (nI f.1).toInt64 := rd_nSJ
      generalize nSJ (nS (nS w2 0 3 (wI w2 0 3 + 1)) 0 2 (nI f.2)) 116 0 (nI f.1).toInt64 = w3 at f3 e03 e02 eJ
      have A3 : ∀ a j, fIn pL1 a j = false → wI w3 a j = wI w a j := fun a j ha => (fr_rd f3 (fLe_no (by decide) ha)).trans (A2 a j ha)
      have C3 : w3.2.2.2.2 = w.2.2.2.2 := by rw [f3.2.2]; exact C2
      have sk : ∀ w9 : mW, (∀ a j, fIn pL1 a j = false → wI w9 a j = wI w a j) → w9.2.2.2.2 = w.2.2.2.2 → sK w w9 ∧ cT 1 w w9 := by
        intro w9 A9 C9
        refine ⟨⟨?_, fun j => A9 2000000 j rfl⟩, ?_, ?_⟩
        · show w9.2.2.2.2.2.2 = w.2.2.2.2.2.2
          rw [C9]
        · rw [C9]; omega
        · rw [C9]; omega
      refine ⟨(sk w3 A3 C3).1, ?_⟩
      have z18 : wI w3 80 18 = nI t := by
        have : wI w3 80 18 = wI w 80 18 := by
          rw [fr_rd f3 rfl, fz_rd f2 rfl, rd_nSa (by decide)]
        rw [this]; exact t1
      refine m_begin z18 t3 (by omega) ?_
      refine m_text (bt := bt) (by omega) (fun i hi => ⟨(t4 i (by omega)).1, ?_⟩) (fun f' w5 e5 F5 z5 B5 => ?_) (fun σ' s' w5 e5 => by rw [hT] at e5; cases e5)
      · rw [rd_nSa (by decide), A3 87 i rfl]
        exact (t4 i (by omega)).2.1
      · have ef : f = f' := Sum.inl.inj (hT.symm.trans e5)
        subst ef
        unfold f213_80_j232
        rw [hP_B]
        refine m_good0 B5.1 B5.2.1 ?_
        rw [if_pos (show nI 0 = 0 from rfl), hP_let, hP_some]
        have f6 : fr ([], [(88, 0)]) w5 (nS w5 88 0 (wI w5 88 0 + 1)) := fr_nS fr_refl rfl
        have f36 : fr ([89, 90, 91, 92, 93, 94, 95, 96, 97, 98, 99], [(80, 0), (80, 18), (80, 19), (80, 20), (80, 22), (80, 23), (80, 24), (80, 25), (80, 26), (80, 27), (80, 28), (80, 29), (80, 30), (80, 31), (80, 32), (80, 33), (80, 34), (80, 35), (80, 36), (80, 37), (80, 38), (80, 39), (80, 40), (80, 41), (80, 42), (80, 43), (80, 44), (80, 45), (80, 46), (80, 47), (80, 48), (88, 0)]) w3 (nS w5 88 0 (wI w5 88 0 + 1)) := fr_then (fr_then (fr_nS fr_refl rfl) F5 (by decide)) f6 (by decide)
        have A6 : ∀ a j, fIn pL1 a j = false → wI (nS w5 88 0 (wI w5 88 0 + 1)) a j = wI w a j := fun a j ha => (fr_rd f36 (fLe_no (by decide) ha)).trans (A3 a j ha)
        have C6 : (nS w5 88 0 (wI w5 88 0 + 1)).2.2.2.2 = w.2.2.2.2 := by rw [f36.2.2]; exact C3
        have e80 : wI (nS w5 88 0 (wI w5 88 0 + 1)) 80 0 = 0 := by rw [fr_rd f6 rfl, fr_rd F5 rfl, rd_nS]
        have e88 : wI (nS w5 88 0 (wI w5 88 0 + 1)) 88 0 = wI w 88 0 + 1 := by rw [rd_nS, fr_rd F5 rfl, rd_nSa (by decide), fr_rd f3 rfl, fz_rd f2 rfl, rd_nSa (by decide)]
        have e19 : wI (nS w5 88 0 (wI w5 88 0 + 1)) 80 19 = nI f.1 := (fr_rd f6 rfl).trans B5.1
        have e20 : wI (nS w5 88 0 (wI w5 88 0 + 1)) 80 20 = nI f.2 := (fr_rd f6 rfl).trans B5.2.2
        have e18 : wI (nS w5 88 0 (wI w5 88 0 + 1)) 80 18 = nI 0 := (fr_rd f6 rfl).trans z5
        have eJ6 : wJ (nS w5 88 0 (wI w5 88 0 + 1)) 116 0 = (nI f.1).toInt64 := (fr_rdJ f36 rfl).trans eJ
        have e02' : wI (nS w5 88 0 (wI w5 88 0 + 1)) 0 2 = nI f.2 := (fr_rd f36 rfl).trans e02
        have e03' : wI (nS w5 88 0 (wI w5 88 0 + 1)) 0 3 = wI w 0 3 + 1 := (fr_rd f36 rfl).trans e03
        have e01' : wI (nS w5 88 0 (wI w5 88 0 + 1)) 0 1 = nI 0 := (fr_rd f36 rfl).trans ((fr_rd f3 rfl).trans z01)
        generalize nS w5 88 0 (wI w5 88 0 + 1) = w6 at *
        refine ⟨e80, fun _ => ?_, Inv_bad hI A6 e18 e01' e20 e02' e88 e03', (sk w6 A6 C6).1, (sk w6 A6 C6).2⟩
        rw [eJ6, e19]
        exact lgc_refl _
    | inr x =>
      obtain ⟨σ, s⟩ := x
      rw [hT] at h2
      obtain ⟨v0, X2⟩ := h2
      have X2 : pCx σ s w2 := X2
      have hs : s ≤ n := (txR_ok (bt := bt) (n := n) hT).2
      have hσ : okS σ := (txR_ok (bt := bt) (n := n) hT).1
      rw [v0, if_neg (by decide), hP_let, hP_B]
      have g3 : fz ([], [(0, 2)]) w2 (nS w2 0 2 (-1)) := fz_nS fz_refl rfl
      obtain ⟨q2, d2, o2, z2, K, k1, k2, k3⟩ := id X2
      have X3 : pCx σ s (nS w2 0 2 (-1)) := by
        obtain ⟨g', tD, tG, on, r'⟩ := σ
        exact pCx_of (qC_fz (by decide) g3 q2) (tdC_fz d2 g3 rfl rfl) (onC_fz o2 g3 rfl) (pCr_fz ⟨z2, K, k1, k2, k3⟩ g3 (by decide) (Nat.le_refl _))
      have A3 : ∀ a j, fIn pL1 a j = false → wI (nS w2 0 2 (-1)) a j = wI w a j := fun a j ha => (g3.1 a j (fLe_no (by decide) ha)).trans (A2 a j ha)
      have e02 : wI (nS w2 0 2 (-1)) 0 2 = -nI 1 := by rw [rd_nS]; rfl
      have z01' : wI (nS w2 0 2 (-1)) 0 1 = nI 0 := by rw [rd_nSj (by decide)]; exact z01
      have e03 : wI (nS w2 0 2 (-1)) 0 3 = wI w 0 3 := by rw [rd_nSj (by decide), fz_rd f2 rfl, rd_nSj (by decide)]
      have k81 : wI (nS w2 0 2 (-1)) 8 1 = nI K.length := by rw [rd_nSa (by decide)]; exact k1.1
      have k85 : wI (nS w2 0 2 (-1)) 8 5 = nI (tiV K) := by rw [rd_nSa (by decide)]; exact k1.2.2
      have C3 : (nS w2 0 2 (-1)).2.2.2.2 = w.2.2.2.2 := C2
      have e18 : wI (nS w2 0 2 (-1)) 80 18 = nI t := by
        rw [rd_nSa (by decide), fz_rd f2 rfl, rd_nSa (by decide)]; exact t1
      have e20' : wI (nS w2 0 2 (-1)) 88 0 = wI w 88 0 := by
        rw [rd_nSa (by decide), fz_rd f2 rfl, rd_nSa (by decide)]
      generalize nS w2 0 2 (-1) = w3 at X3 A3 e02 z01' e03 k81 k85 C3 e18 e20'
      have ht1 : tiV K ≤ 1 := by unfold tiV; split <;> decide
      refine c_newP k81 (by omega) k85 ht1 (fun w4 f4 p4 => ?_)
      rw [hP_B]
      refine c_newL (fun w5 f5 p5 => ?_)
      rw [hP_let, hP_let, hP_some]
      dsimp only
      rw [hP_let, hP_some]
      obtain ⟨rc, rcr, ti, l5, l7, l9⟩ := new_C hσ (by omega) X3 k81 (by omega) w4 p4 f4 f5 p5
      have f35 : fr ([25, 26, 27, 28, 30, 31, 32, 35, 36, 37, 38, 39, 40, 41], [(24, 0), (24, 1), (24, 4), (24, 6), (24, 7), (24, 8), (24, 9), (24, 10), (24, 12), (29, 1), (29, 5), (34, 1), (34, 4), (34, 5), (34, 7), (34, 9)]) w3 w5 := fr_then (fr_up f4 (by decide)) f5 (by decide)
      have f6 : fr ([116], [(0, 15), (0, 11)]) w5 (nSJ (nS (nS w5 0 15 0) 0 11 0) 116 0 (0 : Int32).toInt64) := fr_nSJ (fr_nS (fr_nS fr_refl rfl) rfl) rfl
      have e015 : wI (nSJ (nS (nS w5 0 15 0) 0 11 0) 116 0 (0 : Int32).toInt64) 0 15 = nI 0 := by
        show wI (nS (nS w5 0 15 0) 0 11 0) 0 15 = _
        rw [rd_nSj (by decide), rd_nS]; rfl
      have e011 : wI (nSJ (nS (nS w5 0 15 0) 0 11 0) 116 0 (0 : Int32).toInt64) 0 11 = nI 0 := by
        show wI (nS (nS w5 0 15 0) 0 11 0) 0 11 = _
        rw [rd_nS]; rfl
      have eJ : wJ (nSJ (nS (nS w5 0 15 0) 0 11 0) 116 0 (0 : Int32).toInt64) 116 0 = (nI 0).toInt64 := rd_nSJ
      generalize nSJ (nS (nS w5 0 15 0) 0 11 0) 116 0 (0 : Int32).toInt64 = w6 at f6 e015 e011 eJ
      have F6 : fr ([25, 26, 27, 28, 30, 31, 32, 35, 36, 37, 38, 39, 40, 41, 116], [(24, 0), (24, 1), (24, 4), (24, 6), (24, 7), (24, 8), (24, 9), (24, 10), (24, 12), (29, 1), (29, 5), (34, 1), (34, 4), (34, 5), (34, 7), (34, 9), (0, 15), (0, 11)]) w3 w6 := fr_then (fr_up f35 (by decide)) f6 (by decide)
      have C6 : w6.2.2.2.2 = w.2.2.2.2 := by rw [F6.2.2]; exact C3
      have S6 : ∀ j, wI w6 2000000 j = wI w 2000000 j := fun j => (fr_rd F6 rfl).trans (A3 2000000 j rfl)
      have sk : ∀ w9 : mW, (∀ j, wI w9 2000000 j = wI w6 2000000 j) → w9.2.2.2.2 = w6.2.2.2.2 → sK w w9 ∧ cT 1 w w9 := by
        intro w9 A9 C9
        refine ⟨⟨?_, fun j => (A9 j).trans (S6 j)⟩, ?_, ?_⟩
        · show w9.2.2.2.2.2.2 = w.2.2.2.2.2.2
          rw [C9, C6]
        · rw [C9, C6]; omega
        · rw [C9, C6]; omega
      refine ⟨(sk w6 (fun _ => rfl) rfl).1, ?_⟩
      refine m_begin ((fr_rd F6 rfl).trans e18) t3 (by omega) ?_
      refine m_text (bt := bt) (by omega) (fun i hi => ⟨(t4 i (by omega)).1, ?_⟩) (fun f' w7 e7 => by rw [hT] at e7; cases e7) (fun σ' s' w7 e7 O7 S7 F7 z7 g7 X7 => ?_)
      · rw [rd_nSa (by decide), fr_rd F6 rfl, A3 87 i rfl]
        exact (t4 i (by omega)).2.1
      · have ex : (σ, s) = (σ', s') := Sum.inr.inj (hT.symm.trans e7)
        have e1 : σ = σ' := congrArg Prod.fst ex
        have e2 : s = s' := congrArg Prod.snd ex
        subst e1
        subst e2
        refine m_newP g7 (fun w8 f8 p8 => ?_)
        obtain ⟨rm, rmr⟩ := new_M hσ (by omega) X7 p8
        have F8 : fr ([81, 82, 83, 84, 85, 86, 100, 89, 90, 91, 92, 93, 94, 95, 96, 97, 98, 99], [(80, 1), (80, 2), (80, 3), (80, 4), (80, 5), (80, 6), (80, 7), (80, 8), (80, 9), (80, 10), (80, 63), (80, 71), (80, 74), (80, 75), (80, 79), (80, 0), (80, 18), (80, 19), (80, 20), (80, 22), (80, 23), (80, 24), (80, 25), (80, 26), (80, 27), (80, 28), (80, 29), (80, 30), (80, 31), (80, 32), (80, 33), (80, 34), (80, 35), (80, 36), (80, 37), (80, 38), (80, 39), (80, 40), (80, 41), (80, 42), (80, 43), (80, 44), (80, 45), (80, 46), (80, 47), (80, 48)]) w6 w8 := fr_then (fr_then (fr_nS fr_refl rfl) F7 (by decide)) f8 (by decide)
        have rc8 : rC σ.1 w8 := rC_fr (by decide) F8 (rC_fr (by decide) f6 rc)
        have rcr8 : rCr σ.2.2.2.2 σ.1 w8 := rCr_fr (by decide) F8 (rCr_fr (by decide) f6 rcr)
        have ti8 : iTir σ.2.2.2.2 w8 := by
          have e : wI w8 29 5 = wI w5 29 5 := (fr_rd F8 rfl).trans (fr_rd f6 rfl)
          unfold iTir at ti ⊢
          rw [e]
          exact ti
        obtain ⟨⟨_, _, _, _, _, _, _, _, _, _, _, _, n63, n74, n75, n71, n79⟩, _⟩ := p8
        have e80 : wI w8 80 0 = 0 := by rw [fr_rd f8 rfl, fr_rd F7 rfl, rd_nS]
        have e20 : wI w8 80 20 = -nI 1 := (fr_rd f8 rfl).trans X7.2.2.2.1
        refine ⟨e80, fun _ => ?_, ⟨σ.1, σ.2.2.2.2, [], [], [], ⟨rm, rmr, rc8, rcr8, hσ.1, hσ.2.2.2.2.1, ⟨hσ.2.2.1, hσ.2.2.2.1⟩, ?_, ti8⟩, ⟨n63, (fr_rd F8 rfl).trans ((fr_rd f6 rfl).trans l5), by decide, fun j hj => absurd hj (Nat.not_lt_zero _)⟩, ⟨n74, (fr_rd F8 rfl).trans ((fr_rd f6 rfl).trans l7), by decide, fun j hj => absurd hj (Nat.not_lt_zero _)⟩, ⟨n75, (fr_rd F8 rfl).trans ((fr_rd f6 rfl).trans l9), by decide, fun j hj => absurd hj (Nat.not_lt_zero _)⟩, .inl ⟨n79, (fr_rd F8 rfl).trans e011⟩, ⟨bt, 0, (fr_rd f8 rfl).trans z7, (fr_rd F8 rfl).trans ((fr_rd F6 rfl).trans z01'), by decide, fun i hi => absurd hi (Nat.not_lt_zero _)⟩, ⟨?_, ?_, ?_, ?_⟩, .inl ⟨n71, (fr_rd F8 rfl).trans e015⟩⟩, (sk w8 (fun j => fr_rd F8 rfl) (by rw [F8.2.2])).1, (sk w8 (fun j => fr_rd F8 rfl) (by rw [F8.2.2])).2⟩
        · rw [(fr_rdJ F8 rfl).trans eJ]
          exact lgc_refl _
        · rw [fr_rd F8 rfl, fr_rd F6 rfl, A3 80 66 rfl]; exact hcm
        · rw [e20, fr_rd F8 rfl, fr_rd F6 rfl, e02]
        · rw [fr_rd F8 rfl, fr_rd F6 rfl, e20', fr_rd F8 rfl, fr_rd F6 rfl, e03]; exact m2
        · rw [fr_rd F8 rfl, fr_rd F6 rfl, A3 88 1 rfl, fr_rd F8 rfl, fr_rd F6 rfl, A3 0 4 rfl]; exact m3
        · rw [fr_rd F8 rfl, fr_rd F6 rfl, A3 88 2 rfl, fr_rd F8 rfl, fr_rd F6 rfl, A3 0 5 rfl]; exact m4
  · -- not so many bytes
    have e18 : wI (nS (nThr w) 80 0 0) 80 18 = nI t := by rw [rd_nSj (by decide)]; exact t1
    have thr : hP (nB (f177_80 0 1 (nS (nThr w) 80 0 0)) fun v1 w2 => (if v1 = 0 then (some ((0 : Int32), w2)) else (nLet (nS w2 80 18 0) fun w3 => (nLet (nS w3 80 20 (-1)) fun w4 => (nLet (nS w4 80 19 0) fun w5 => (nLet (nS w5 80 22 x1) fun w6 => (nLet (nS w6 80 23 0) fun w7 => (nLet (nS w7 80 30 8) fun w8 => (nLet (nS w8 80 31 5) fun w9 => (nLet (nS w9 80 32 0) fun w10 => (nLet (nS w10 80 33 0) fun w11 => (nLet (nS w11 80 34 60) fun w12 => (nLet (nS w12 80 35 20) fun w13 => (nLet (nS w13 80 36 0) fun w14 => (nLet (nS w14 80 37 0) fun w15 => (nLet (nS w15 80 38 (-1)) fun w16 => (nLet (nS w16 80 39 (-1)) fun w17 => (nLet (nS w17 80 40 0) fun w18 => (nLet (nS w18 80 41 0) fun w19 => (nLet (nSJ w19 80 47 0) fun w20 => (nLet (nSJ w20 80 48 0) fun w21 => (nLet (nS w21 80 44 0) fun w22 => (mLoop f213_80_b137 nF (0, w22)))))))))))))))))))))))) (fun b w2 => wI w2 80 0 = 1 ∧ ((1 : Int32) = 0 → lg_cmp (wJ w2 116 0) b.toInt64 = 0) ∧ Inv w2 ∧ sK w w2 ∧ cT 1 w w2) := by
      rw [hP_B]
      refine m_rightN (c := 1) (by decide) (by decide) rd_nS ?_
      rw [if_pos (show nI 0 = 0 from rfl), hP_some]
      have hf9 : fr ([], [(80, 0)]) (nThr w) (nS (nS (nThr w) 80 0 0) 80 0 (nI 1)) := fr_nS (fr_nS fr_refl rfl) rfl
      have hq : fq ([], [(80, 0)]) w (nS (nS (nThr w) 80 0 0) 80 0 (nI 1)) := fq_then (fq_thr (q := ([], [(80, 0)])) fr_refl (by decide)) hf9
      exact ⟨rd_nS, fun e => absurd e (by decide), Inv_fr (by decide) hf9 (Inv_thr hI), ⟨hq.2.1, fun j => hq.1 2000000 j rfl⟩, hq.2.2⟩
    have sT0 : sK w (nThr w) := ⟨rfl, fun j => rfl⟩
    rcases inR_no0 (by omega) c with c5 | ⟨c5, c6, a, ha, ha2, rfl⟩
    · rw [if_pos c5, hP_some]
      dsimp only
      rw [if_pos rfl, hP_some]
      refine ⟨sT0, ?_⟩
      unfold f213_80
      rw [hP_let, if_pos c5]
      exact thr
    · have hlt : nI t < nI a := by rw [q_lt (by omega) ha2]; omega
      rw [if_neg c5, t2, if_pos hlt, hP_some]
      dsimp only
      rw [if_pos rfl, hP_some]
      refine ⟨sT0, ?_⟩
      unfold f213_80
      rw [hP_let, if_neg c5, e18, if_pos hlt]
      exact thr
