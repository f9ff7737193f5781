/-! ===== OPERATIONS: order ===== -/
section ORM
variable {g : gS} {r : gR} {w : mW} {Q : Int32 → mW → Prop}
abbrev pOM : fP := ([100, 101, 103, 104, 105, 106, 107, 108, 109], [(80, 70)])
def orSt (g : gS) (r : gR) (fu : Nat) (x1 x2 : Int32) (w2 : mW) : Prop := (fu = 721 ∧ x1 = -nI 1 ∧ x2 = nI 1 ∧ rL 109 w2 (List.range (gLk g))) ∨ (∃ l b v, fu ≤ 720 ∧ x1 = eN v ∧ oB v ∧ ckL (gLk g) fu l = true ∧ b.length = gLk g ∧ rL 108 w2 b ∧ ordGo (orF g r) fu l b v = orFin g r ∧ ((nxL l = none ∧ x2 = nI 0) ∨ ∃ l', nxL l = some l' ∧ x2 = nI 1 ∧ rL 109 w2 l'))
/-- what stays while orders are tried -/
def oBs (g : gS) (w w2 : mW) : Prop := fr pOM w w2 ∧ (∀ i, i < 38 → wI w2 101 i = wI w 100 i) ∧ rFix g w2
theorem oBs_then {w w2 w3 : mW} {p : fP} (h : oBs g w w2) (hf : fr p w2 w3) (hp : fLe p pOM = true) (h1 : fOff [100, 101] [] p = true) : oBs g w w3 := by
  have e100 : ∀ j, wI w3 100 j = wI w2 100 j := fun j => fr_rd hf (fOff_row h1 (by decide) j)
  have e101 : ∀ j, wI w3 101 j = wI w2 101 j := fun j => fr_rd hf (fOff_row h1 (by decide) j)
  obtain ⟨a1, a2, a3, a4, a5⟩ := h
  refine ⟨fr_then a1 hf hp, fun i hi => (e101 i).trans (a2 i hi), ?_, ?_, ?_⟩
  · intro i hi; rw [e100]; exact a3 i hi
  · rw [e100]; exact a4
  · rw [e100]; exact a5
theorem oBs_K {w w2 : mW} (hM : rM g w) (ho : gOk g) (h : oBs g w w2) : rK101 g w2 := by
  have hlk := gOk_lk ho
  refine ⟨fun k hk => ?_, fun k hk => ?_⟩
  · rw [h.2.1 _ (by omega)]; exact rM_lat hM k hk
  · rw [h.2.1 _ (by omega)]; exact rM_las hM k hk
theorem m_tryAll {w2 : mW} {l : List Nat} (hM : rM g w) (hR : rMr r g w) (ho : gOk g) (hk : rOk r g) (hm : wI w 80 66 = nI 0) (hl1 : ∀ k, k < gLk g → 1 ≤ g 7 k) (hb : oBs g w w2) (hl : lOf g l) (h : rL 109 w2 l) (hq : ∀ w', oBs g w w' → fr ([100, 103, 104, 105, 106, 107], [(80, 70)]) w2 w' → Q (eN (orF g r l)) w') : hP (f255_80 w2) (fun _ w7 => hP (f234_80 w7) Q) := by
  have hn4 : wI w2 80 4 = nI (gLk g) := (fr_rd hb.1 rfl).trans (rM_lk hM)
  refine m_triesL hn4 ho hl h (oBs_K hM ho hb) hb.2.2 (fun w3 hf3 hs3 => ?_)
  have hf13 : fr pOM w w3 := fr_then hb.1 hf3 (by decide)
  have hA := gPm_A g l
  have hM3 : rM (gPm g l) w3 := rM_of (by decide) hf13 hM hA.pl hs3
  have hR3 : rMr r (gPm g l) w3 := rMr_of (by decide) hf13 hR hA.pl
  refine m_worstAll (ex := 0) hM3 hR3 (gPm_ok ho hl1 hl) (rOk_g (gPl_ga hA.pl) hk) ((fr_rd hf13 rfl).trans hm) (fun w4 hf4 _ => ?_)
  have hB3 : oBs g w w3 := by
    refine ⟨hf13, fun i hi => (fr_rd hf3 rfl).trans (hb.2.1 i hi), ?_, hs3.2.2.2.1, hs3.2.2.2.2⟩
    intro i hi
    have := hs3.1 i hi
    rw [Nat.zero_add] at this
    exact this
  exact hq w4 (oBs_then hB3 hf4 (by decide) (by decide)) (fr_then (fr_up hf3 (by decide)) hf4 (by decide))
theorem m_order (hM : rM g w) (hR : rMr r g w) (ho : gOk g) (hk : rOk r g) (hm : wI w 80 66 = nI 0) (hl1 : ∀ k, k < gLk g → 1 ≤ g 7 k) (h7 : gLk g ≤ 7) (hq : ∀ w', fr ([100, 101, 103, 104, 105, 106, 107, 108, 109], [(80, 70), (80, 71)]) w w' → (∀ i, i < 38 → wI w' 100 i = wI w 100 i) → wI w' 80 71 = nI (gLk g) → rL 108 w' (orFin g r).1 → (orFin g r).1.length = gLk g → oB (orFin g r).2 → hP (f235 (eN (orFin g r).2) w') Q) : hP (f180_80_100_101 w) (fun _ w3 => hP (mLoop f258_80_b31 nF (nI 0, w3)) Q) := by
  have hn := gOk_n ho
  have hck := ck_all ⟨gLk g, by omega⟩
  have hlR := ck_lOf hck
  have hlen : (List.range (gLk g)).length = gLk g := List.length_range
  refine m_copies (L := 38) (fun _ _ _ => rfl) (by decide) (by decide) (fun w1 hf1 hc1 => ?_)
  have hB1 : oBs g w w1 := ⟨fr_up hf1 (by decide), hc1, fun i hi => (fr_rd hf1 rfl).trans (rM_at hM i hi), (fr_rd hf1 rfl).trans (rM_ch hM), (fr_rd hf1 rfl).trans (rM_mi hM)⟩
  refine hP_loopF (fun n s => ∃ k w2, k + n = gLk g ∧ s = (nI k, w2) ∧ oBs g w w2 ∧ ∀ i, i < k → wI w2 109 i = nI i) (gLk g) (by omega) ⟨0, w1, by omega, rfl, hB1, fun i hi => absurd hi (Nat.not_lt_zero _)⟩ ?_
  rintro n s rec ⟨k, w2, hkn, rfl, hB2, h109⟩ ih
  have hn4 : wI w2 80 4 = nI (gLk g) := (fr_rd hB2.1 rfl).trans (rM_lk hM)
  simp only [f258_80_b31]
  by_cases c1 : k < gLk g
  · simp (disch := first | omega | (simp only [fIn, fR, fC, Nat.reduceEqDiff, decide_false, decide_true, Bool.false_or, Bool.or_false, Bool.false_and, Bool.and_false, Bool.or_self, Bool.true_and, Bool.true_or, Bool.and_true, Bool.or_true, Bool.and_self]; done) | fail) only [hP_some, hP_let, hP_gd, hP_B, hP_if, reduceIte, q_lit, nI_add, pk_mul, q_lt, q_le, q_eq, q_cl, q_g, Bool.not_eq_true', decide_eq_false_iff_not, decide_eq_true_eq, q_div, q_rm, q_sub, q_m1, Nat.zero_add, Nat.add_zero, hn4, c1]
    have f9 : fr ([109], []) w2 (nS w2 109 k (nI k)) := fr_nS fr_refl rfl
    refine ⟨by omega, ih (n - 1) _ (by omega) ⟨k + 1, _, by omega, rfl, oBs_then hB2 f9 (by decide) (by decide), fun i hi => ?_⟩⟩
    by_cases e : i = k
    · rw [e, rd_nS]
    · rw [rd_nSj e]; exact h109 i (by omega)
  · have e : k = gLk g := by omega
    subst e
    have hrl : rL 109 w2 (List.range (gLk g)) := fun i hi => by
      rw [hlen] at hi
      rw [gd_range hi]; exact h109 i hi
    rw [if_neg (by rw [hn4, q_lt (by omega) (by omega)]; exact c1)]
    refine hP_loopF (fun fu s => ∃ x1 x2 w3, s = (x1, x2, w3) ∧ oBs g w w3 ∧ orSt g r fu x1 x2 w3) 721 (by decide) ⟨_, _, w2, rfl, hB2, .inl ⟨rfl, rfl, rfl, hrl⟩⟩ ?_
    rintro fu s rec2 ⟨x1, x2, w3, rfl, hB3, hst⟩ ih2
    -- after an order was tried: what was best is kept, the next is made
    have tail : ∀ f, f < fu → ∀ l b v w9, oBs g w w9 → f ≤ 720 → oB v → ckL (gLk g) f l = true → b.length = gLk g → rL 108 w9 b → ordGo (orF g r) f l b v = orFin g r → rL 109 w9 l → hP (f256_80 w9) (fun v12 w13 => hP (rec2 (eN v, v12, w13)) Q) := by
      intro f hf l b v w9 hB9 hf720 hvB hckl hbl hb hgo hl9
      cases f with
      | zero => exact absurd hckl (by intro h; exact ck_zero h)
      | succ f =>
        have hlo := ck_lOf hckl
        have hn9 : wI w9 80 4 = nI l.length := by rw [hlo.1]; exact (fr_rd hB9.1 rfl).trans (rM_lk hM)
        refine m_next hl9 hn9 (by rw [hlo.1]; omega) (fun i hi => by rw [hlo.1] at hi; have := hlo.2 i hi; omega) (fun h => ?_) (fun l' w10 h hf10 hl10 => ?_)
        · exact ih2 (f + 1) _ hf ⟨_, _, w9, rfl, hB9, .inr ⟨l, b, v, hf720, rfl, hvB, hckl, hbl, hb, hgo, .inl ⟨h, rfl⟩⟩⟩
        · exact ih2 (f + 1) _ hf ⟨_, _, w10, rfl, oBs_then hB9 hf10 (by decide) (by decide), .inr ⟨l, b, v, hf720, rfl, hvB, hckl, hbl, rL_fr hb hf10 (fun _ => rfl), hgo, .inr ⟨l', h, rfl, hl10⟩⟩⟩
    simp only [f258_80_b56]
    rcases hst with ⟨rfl, rfl, rfl, hr9⟩ | ⟨l, b, v, hfu, rfl, hvB, hckl, hbl, hb, hgo, hnx⟩
    · rw [if_neg (by decide), hP_B]
      refine hP_mono (m_tryAll (Q := fun v8 w9 => hP (if (-nI 1 : Int32) = (-1) then (nB (f180_80_109_108 w9) fun v10 w11 => (nB (f256_80 w11) fun v12 w13 => (rec2 (v8, v12, w13)))) else (if v8 < (-nI 1) then (nB (f180_80_109_108 w9) fun v16 w17 => (nB (f256_80 w17) fun v18 w19 => (rec2 (v8, v18, w19)))) else (nB (f256_80 w9) fun v14 w15 => (rec2 (-nI 1, v14, w15))))) Q) hM hR ho hk hm hl1 hB3 hlR hr9 (fun w9 hB9 hf9 => ?_)) (fun _ w7 h => by rw [hP_B]; exact h)
      rw [if_pos (by decide), hP_B]
      have hl9 : rL 109 w9 (List.range (gLk g)) := rL_fr hr9 hf9 (fun _ => rfl)
      refine m_copies (L := 12) (fun _ _ _ => rfl) (by decide) (by decide) (fun w10 hf10 hc10 => ?_)
      rw [hP_B]
      exact tail 720 (by decide) _ (List.range (gLk g)) _ w10 (oBs_then hB9 hf10 (by decide) (by decide)) (Nat.le_refl _) (orF_B ho hl1 hlR) hck hlen (fun i hi => (hc10 i (by rw [hlen] at hi; omega)).trans (hl9 i hi)) rfl (rL_fr hl9 hf10 (fun _ => rfl))
    · cases fu with
      | zero => exact absurd hckl (by intro h; exact ck_zero h)
      | succ f =>
        rcases hnx with ⟨h, rfl⟩ | ⟨l', h, rfl, hl'⟩
        · rw [if_pos (show nI 0 = 0 from rfl), hP_B]
          refine m_copies (L := 38) (fun _ _ _ => rfl) (by decide) (by decide) (fun w10 hf10 hc10 => ?_)
          rw [hP_let, hP_B]
          rw [ord_no h] at hgo
          have hf11 : fr ([100, 101, 103, 104, 105, 106, 107, 108, 109], [(80, 70), (80, 71)]) w (nS w10 80 71 (wI w10 80 4)) := fr_nS (fr_then (fr_up hB3.1 (by decide)) hf10 (by decide)) rfl
          have := hq _ hf11 (fun i hi => ?_) ?_
          · rw [← hgo] at this
            refine hP_mono (this (fun i hi => ?_) hbl hvB) (fun v4 w5 h5 => by rw [hP_some]; exact h5)
            rw [rd_nSa (by decide), fr_rd hf10 rfl]; exact hb i hi
          · rw [rd_nSa (by decide), hc10 i hi]; exact hB3.2.1 i hi
          · rw [rd_nS, fr_rd hf10 rfl]; exact (fr_rd hB3.1 rfl).trans (rM_lk hM)
        · have hck' := ck_next hckl h
          rw [ord_yes h] at hgo
          cases f with
          | zero => exact absurd hck' (by intro h; exact ck_zero h)
          | succ f =>
            have hlo' := ck_lOf hck'
            have hFB := orF_B (r := r) ho hl1 hlo'
            have ene : ¬ eN v = (-1 : Int32) := by
              have := eN_lt hvB
              have h9 := q_neq (a := oN 1000000 v) (by omega)
              unfold eN
              rw [show (nI (oN 1000000 v) = (-1 : Int32)) = False from h9]
              exact fun h => h
            rw [if_neg (by decide), hP_B]
            refine hP_mono (m_tryAll (Q := fun v8 w9 => hP (if eN v = (-1) then (nB (f180_80_109_108 w9) fun v10 w11 => (nB (f256_80 w11) fun v12 w13 => (rec2 (v8, v12, w13)))) else (if v8 < eN v then (nB (f180_80_109_108 w9) fun v16 w17 => (nB (f256_80 w17) fun v18 w19 => (rec2 (v8, v18, w19)))) else (nB (f256_80 w9) fun v14 w15 => (rec2 (eN v, v14, w15))))) Q) hM hR ho hk hm hl1 hB3 hlo' hl' (fun w9 hB9 hf9 => ?_)) (fun _ w7 h => by rw [hP_B]; exact h)
            rw [if_neg ene]
            have hl9 : rL 109 w9 l' := rL_fr hl' hf9 (fun _ => rfl)
            have hb9 : rL 108 w9 b := rL_fr hb hf9 (fun _ => rfl)
            have e9 : (eN (orF g r l') < eN v) = (oLt (orF g r l') v = true) := eN_oLt hFB hvB
            by_cases c3 : oLt (orF g r l') v = true
            · rw [if_pos (by rw [e9]; exact c3), hP_B]
              rw [if_pos c3] at hgo
              refine m_copies (L := 12) (fun _ _ _ => rfl) (by decide) (by decide) (fun w10 hf10 hc10 => ?_)
              rw [hP_B]
              exact tail (f + 1) (by omega) l' l' _ w10 (oBs_then hB9 hf10 (by decide) (by decide)) (by omega) hFB hck' hlo'.1 (fun i hi => (hc10 i (by rw [hlo'.1] at hi; omega)).trans (hl9 i hi)) hgo (rL_fr hl9 hf10 (fun _ => rfl))
            · rw [if_neg (by rw [e9]; exact c3), hP_B]
              rw [if_neg c3] at hgo
              exact tail (f + 1) (by omega) l' b v w9 hB9 (by omega) hvB hck' hbl hb9 hgo hl9
theorem op_order : opA Inv f141_0 f258_80 := by
  intro w hI
  have hI0 := hI
  obtain ⟨g, r, h, D, H, hp, hh, hD, hH, hi, ht, hm, hrw⟩ := hI
  obtain ⟨hM, hMr, hC, hCr, ho, hk, ⟨hl1, hl2⟩, hcm, hti⟩ := id hp
  have hlk := gOk_lk ho
  unfold f141_0
  by_cases c : 7 < gLk g
  · rw [if_pos (by rw [rC_lk hC, q_lit, q_lt (by omega) (by omega)]; exact c), hP_some]
    refine ⟨⟨rfl, fun _ => rfl⟩, ?_⟩
    unfold f258_80
    have f0 : fr ([], [(80, 0)]) w (nS w 80 0 0) := fr_nS fr_refl rfl
    rw [hP_let, if_pos (by rw [rd_nSj (by decide), rM_lk hM, q_lit, q_lt (by omega) (by omega)]; exact c), hP_some]
    exact ⟨rfl, Inv_fr (by decide) f0 hI0, sK_fr f0 (by decide), fr_cT f0⟩
  · rw [if_neg (by rw [rC_lk hC, q_lit, q_lt (by omega) (by omega)]; exact c), hP_B]
    refine c_order hC hCr ho hk hl1 (by omega) (fun w1 hf1 hb1 hbl hvB => ?_)
    rw [hP_let, hP_B]
    refine c_orNone hvB ?_
    rw [hP_some]
    have hC1 := rC_fr (by decide) hf1 hC
    rw [rC_lk hC1]
    have hf2 : fr ([33, 50, 51, 52, 43, 44, 54, 79], [(23, 7), (42, 2), (42, 4), (42, 5), (42, 6), (0, 15)]) w (nS w1 0 15 (nI (gLk g))) := fr_nS (fr_up hf1 (by decide)) rfl
    refine ⟨sK_fr hf2 (by decide), ?_⟩
    unfold f258_80
    have hf3 : fr ([33, 50, 51, 52, 43, 44, 54, 79], [(23, 7), (42, 2), (42, 4), (42, 5), (42, 6), (0, 15), (80, 0)]) w (nS (nS w1 0 15 (nI (gLk g))) 80 0 0) := fr_nS (fr_up hf2 (by decide)) rfl
    have hM3 := rM_fr (by decide) hf3 hM
    rw [hP_let, if_neg (by rw [rM_lk hM3, q_lit, q_lt (by omega) (by omega)]; exact c), hP_B]
    refine m_order hM3 (rMr_fr (by decide) hf3 hMr) ho hk ((fr_rd hf3 rfl).trans hcm) hl1 (by omega) (fun w4 hf4 h100 h71 hb4 hbl4 hvB4 => ?_)
    refine m_shown hvB4 ?_
    have hE : fr ([33, 50, 51, 52, 43, 44, 54, 79, 100, 101, 103, 104, 105, 106, 107, 108, 109], [(23, 7), (42, 2), (42, 4), (42, 5), (42, 6), (0, 15), (80, 0), (80, 70), (80, 71)]) w w4 := fr_then (fr_up hf3 (by decide)) hf4 (by decide)
    have e100 : ∀ i, i < 38 → wI w4 100 i = wI w 100 i := fun i hi => (h100 i hi).trans (fr_rd hf3 rfl)
    have hsw := gOk_sw ho
    refine ⟨rfl, ⟨g, r, h, D, H, iPool_of (by decide) hE hp (gPl_refl g) (snOk_g ho hl1) ?_ ?_, iHist_fr (by decide) hE hh, iDum_fr (by decide) hE hD, iHd_fr (by decide) hE hH, iImg_fr (by decide) hE hi, iText_fr (by decide) hE ht, iMisc_fr (by decide) hE hm, .inr ⟨gLk g, hlk, h71, ?_, fun i hi => ?_⟩⟩, sK_fr hE (by decide), fr_cT hE⟩
    · exact mv_snM (a := 100) (fun i hi => by rw [Nat.zero_add]; exact e100 i hi) hsw hlk (snM_rM hM)
    · exact snC_rC (rC_fr (by decide) hE hC)
    · rw [fr_rd hf4 rfl, rd_nSa (by decide), rd_nS]
    · rw [hb4 i (by rw [hbl4]; exact hi)]
      have : wI w4 79 i = wI w1 79 i := by rw [fr_rd hf4 rfl, rd_nSa (by decide), rd_nSa (by decide)]
      rw [this, hb1 i (by rw [hbl]; exact hi)]
end ORM
