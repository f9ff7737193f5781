/-! ===== OPERATIONS: week ===== -/
theorem op_week (x1 x2 x3 : Int32) : opB Inv (f321_0_116 x1 x2 x3) (f285_80 x1 x2 x3) := by
  intro w hI
  have hI0 := hI
  obtain ⟨g, r, h, D, H, hp, -⟩ := hI
  obtain ⟨hM, hMr, hC, hCr, ho, hk, hl1, hcm, -⟩ := hp
  have thr : ∀ k : Nat, k < 100 → Inv (nS (nS (nThr w) 80 0 0) 80 0 (nI k)) ∧ sK w (nS (nS (nThr w) 80 0 0) 80 0 (nI k)) ∧ cT 1 w (nS (nS (nThr w) 80 0 0) 80 0 (nI k)) := by
    intro k _
    have hf9 : fr ([], [(80, 0)]) (nThr w) (nS (nS (nThr w) 80 0 0) 80 0 (nI k)) := fr_nS (fr_nS fr_refl rfl) rfl
    have hq : fq ([], [(80, 0)]) w (nS (nS (nThr w) 80 0 0) 80 0 (nI k)) := fq_then (fq_thr (q := ([], [(80, 0)])) fr_refl (by decide)) hf9
    exact ⟨Inv_fr (by decide) hf9 (Inv_thr hI0), ⟨hq.2.1, fun j => hq.1 2000000 j rfl⟩, hq.2.2⟩
  have sT0 : sK w (nThr w) := ⟨rfl, fun j => rfl⟩
  unfold f321_0_116 f159_0
  rw [hP_xh, hP_xb]
  by_cases c3 : inR x3 (2 + 1)
  · obtain ⟨y, hy, rfl⟩ := c3
    refine (gdC_what (x := nI y) (w := w) (most := 2) (by decide)).1 ⟨y, hy, rfl⟩ _ ?_
    by_cases c2 : inR x2 101
    · obtain ⟨tm, ht, rfl⟩ := c2
      dsimp only
      rw [if_neg (by rw [q_lit, q_lt (by omega) (by omega)]; omega), if_neg (by rw [q_lit, q_lt (by omega) (by omega)]; omega), hP_B]
      refine c_week (sd := x1) hC hCr ho hk (by omega) (fun w1 f1 k1 => ?_)
      obtain ⟨k3, k0, kl, k2⟩ := k1
      have f1' : fr pQ w w1 := fr_up f1 (by decide)
      have fin : ∀ V : Int32, V = nI (if y = 0 then (wkV g r x1 tm).2.1 else if y = 1 then (wkV g r x1 tm).2.2.1 else (wkV g r x1 tm).2.2.2) → hP (nLet (nSJ w1 116 0 V.toInt64) fun w3 => some ((0 : Int32), w3)) (fun k w1 => sK w w1 ∧ hP (f285_80 x1 (nI tm) (nI y) w1) (fun b w2 => wI w2 80 0 = k ∧ (k = 0 → lg_cmp (wJ w2 116 0) b.toInt64 = 0) ∧ Inv w2 ∧ sK w w2 ∧ cT 1 w w2)) := by
        intro V hV
        rw [hP_let, hP_some]
        have f2 : fq pQ w (nSJ w1 116 0 V.toInt64) := fq_J (fq_fr f1' pQ_le)
        refine ⟨fq_sK f2, ?_⟩
        unfold f285_80
        rw [hP_let, hP_B]
        refine (gdM_what (x := nI y) (w := nS (nSJ w1 116 0 V.toInt64) 80 0 0) (most := 2) (by decide) rd_nS).1 ⟨y, hy, rfl⟩ _ ?_
        rw [if_neg (by decide), hP_B]
        refine m_within (lo := 0) (hi := 100) (by decide) (by decide) (fun a' _ _ e => ?_) (fun hn => absurd rfl (hn tm (by omega) (by omega)))
        rw [hP_B]
        refine m_rightY (c := 2) rd_nS ?_
        rw [if_neg (by decide), hP_let, hP_B]
        have f4 : fr ([], [(80, 0), (80, 78)]) (nSJ w1 116 0 V.toInt64) (nS (nS (nSJ w1 116 0 V.toInt64) 80 0 0) 80 78 x1) := fr_nS (fr_nS fr_refl rfl) rfl
        have hM2 : rM g (nSJ w1 116 0 V.toInt64) := fq_rM f2 hM
        have hR2 : rMr r g (nSJ w1 116 0 V.toInt64) := fq_rMr f2 hMr
        have hcm2 : wI (nSJ w1 116 0 V.toInt64) 80 66 = nI 0 := (f2.1 80 66 (by decide +kernel)).trans hcm
        refine hP_mono (m_week (Q := fun b w2 => wI w2 80 0 = 0 ∧ ((0 : Int32) = 0 → lg_cmp (wJ w2 116 0) b.toInt64 = 0) ∧ Inv w2 ∧ sK w w2 ∧ cT 1 w w2) (sd := x1) (y := y) (tm := tm) (rM_fr (by decide) f4 hM2) (rMr_fr (by decide) f4 hR2) ho hk ((fr_rd f4 rfl).trans hcm2) (by omega) hy rd_nS (fun w5 f5 => ?_)) (fun v9 w10 h10 => by rw [hP_B]; exact h10)
        have f25 : fr pQ (nSJ w1 116 0 V.toInt64) w5 := fr_then (fr_up f4 (by decide)) f5 (by decide)
        have hq5 := fq_then f2 f25
        refine ⟨?_, fun _ => ?_, fq_Inv hq5 hI0, fq_sK hq5, hq5.2.2⟩
        · rw [fr_rd f5 rfl, rd_nSj (by decide), rd_nS]
        · have e : wJ w5 116 0 = V.toInt64 := by rw [fr_rdJ f5 rfl, fr_rdJ f4 rfl, rd_nSJ]
          rw [e, hV]
          exact lgc_refl _
      have hy3 : y = 0 ∨ y = 1 ∨ y = 2 := by omega
      rcases hy3 with rfl | rfl | rfl
      · rw [if_pos (show nI 0 = 0 from rfl), hP_some]
        exact fin _ k0
      · rw [if_neg (by decide), if_pos (show nI 1 = 1 from rfl), hP_some]
        exact fin _ kl
      · rw [if_neg (by decide), if_neg (by decide), hP_gd, hP_some]
        exact ⟨by decide, fin _ k2⟩
    · have hR : hP (if x2 < 0 then (some ((.inr 0 : Int32 ⊕ Nat), nThr w)) else (if 100 < x2 then (some (.inr 0, nThr w)) else (nB (f119_63_23  x1 x2 w) fun v3 w4 => (if nI y = 0 then (some (.inl (wI w4 63 0), w4)) else (if nI y = 1 then (some (.inl (wI w4 63 1), w4)) else (nGd (!decide (nI y = 0) && !decide (nI y = 1)) (some (.inl (wI w4 63 2), w4)))))))) (fun v w1 => v = .inr 0 ∧ w1 = nThr w) := by
        rcases inR_no0 (by decide) c2 with c5 | ⟨c5, c6, a, ha, ha2, rfl⟩
        · rw [if_pos c5, hP_some]; exact ⟨rfl, rfl⟩
        · rw [if_neg c5, if_pos (by rw [q_lit, q_lt (by omega) ha2]; omega), hP_some]; exact ⟨rfl, rfl⟩
      refine hP_mono hR (fun v w1 hv => ?_)
      obtain ⟨rfl, rfl⟩ := hv
      dsimp only
      rw [if_neg (by decide), if_pos rfl, hP_some]
      refine ⟨sT0, ?_⟩
      unfold f285_80
      rw [hP_let, hP_B]
      refine (gdM_what (x := nI y) (w := nS (nThr w) 80 0 0) (most := 2) (by decide) rd_nS).1 ⟨y, hy, rfl⟩ _ ?_
      rw [if_neg (by decide), hP_B]
      refine m_within (lo := 0) (hi := 100) (by decide) (by decide) (fun a' _ h2 e => absurd ⟨a', by omega, e⟩ c2) (fun hn => ?_)
      rw [hP_B]
      refine m_rightN (c := 2) (by decide) (by decide) rd_nS ?_
      rw [if_pos (show nI 0 = 0 from rfl), hP_some]
      exact ⟨rd_nS, fun e => absurd e (by decide), thr 2 (by decide)⟩
  · refine (gdC_what (x := x3) (w := w) (most := 2) (by decide)).2 c3 _ ?_
    dsimp only
    rw [if_pos rfl, hP_some]
    refine ⟨sT0, ?_⟩
    unfold f285_80
    rw [hP_let, hP_B]
    refine (gdM_what (x := x3) (w := nS (nThr w) 80 0 0) (most := 2) (by decide) rd_nS).2 c3 _ ?_
    rw [if_pos (show nI 0 = 0 from rfl), hP_some]
    exact ⟨rd_nS, fun e => absurd e (by decide), thr 1 (by decide)⟩
