/-! ===== OPERATIONS: order ===== -/
def ordGo (F : List Nat → Option Nat) : Nat → List Nat → List Nat → Option Nat → List Nat × Option Nat
  | 0, _, b, v => (b, v)
  | k + 1, l, b, v => match nxL l with
    | none => (b, v)
    | some l' => if oLt (F l') v = true then ordGo F k l' l' (F l') else ordGo F k l' b v
theorem ord_no {F : List Nat → Option Nat} {k : Nat} {l b : List Nat} {v : Option Nat} (h : nxL l = none) : ordGo F (k + 1) l b v = (b, v) := by
  unfold ordGo
  rw [h]
theorem ord_yes {F : List Nat → Option Nat} {k : Nat} {l l' b : List Nat} {v : Option Nat} (h : nxL l = some l') : ordGo F (k + 1) l b v = if oLt (F l') v = true then ordGo F k l' l' (F l') else ordGo F k l' b v := by
  show (match nxL l with | none => (b, v) | some l' => if oLt (F l') v = true then ordGo F k l' l' (F l') else ordGo F k l' b v) = _
  rw [h]
theorem gd_range {n i : Nat} (h : i < n) : gd (List.range n) i = i := by
  unfold gd
  rw [List.getD_eq_getElem?_getD, List.getElem?_range h]
  rfl
theorem gc12 : ∀ n, n < 13 → nGc (nI n) 0 0 12 12 = true := by decide
abbrev orF (g : gS) (r : gR) (l : List Nat) : Option Nat := gWall (gPm g l) r (gCh g) (gMi g) 0 99
abbrev orFin (g : gS) (r : gR) : List Nat × Option Nat := ordGo (orF g r) 720 (List.range (gLk g)) (List.range (gLk g)) (orF g r (List.range (gLk g)))
theorem ck_lOf {g : gS} {f : Nat} {l : List Nat} (h : ckL (gLk g) (f + 1) l = true) : lOf g l := ⟨ck_len h, fun i hi => ck_lt h hi⟩
section ORD
variable {g : gS} {r : gR} {w : mW} {Q : Int32 → mW → Prop}
abbrev pOC : fP := ([33, 50, 51, 52, 43, 44, 54, 79], [(23, 7), (42, 2), (42, 4), (42, 5), (42, 6)])
theorem orF_B (ho : gOk g) (hl1 : ∀ k, k < gLk g → 1 ≤ g 7 k) {l : List Nat} (hl : lOf g l) : oB (orF g r l) := wall_B (gPm_ok ho hl1 hl) _ _ _
theorem c_order (hr : rC g w) (hR : rCr r g w) (ho : gOk g) (hk : rOk r g) (hl1 : ∀ k, k < gLk g → 1 ≤ g 7 k) (h7 : gLk g ≤ 7) (hq : ∀ w', fr pOC w w' → rL 79 w' (orFin g r).1 → (orFin g r).1.length = gLk g → oB (orFin g r).2 → Q (eC (orFin g r).2) w') : hP (f104_23_79 w) Q := by
  have hn := gOk_n ho
  have hch := gOk_ch ho
  have hmi := gOk_mi ho
  have hck := ck_all ⟨gLk g, by omega⟩
  have hlR := ck_lOf hck
  have hlen : (List.range (gLk g)).length = gLk g := List.length_range
  unfold f104_23_79
  rw [hP_B, rC_ch hr, rC_mi hr]
  refine c_gather (ex := 0) hr hR ho hk (by omega) (by omega) (by omega) (fun w1 hf1 hs1 => ?_)
  refine hP_loopF (fun n s => ∃ k w2, k + n = gLk g ∧ s = (nI k, w2) ∧ fr pOC w w2 ∧ rSp w2 (gSp g (gSw g)) (gNd g r (gCh g) (gMi g) 0) ∧ ∀ i, i < k → wI w2 54 i = nI i) (gLk g) (by omega) ⟨0, w1, by omega, rfl, fr_up hf1 (by decide), hs1, fun i hi => absurd hi (Nat.not_lt_zero _)⟩ ?_
  rintro n s rec ⟨k, w2, hkn, rfl, hf2, hs2, h54⟩ ih
  have hr2 := rC_fr (by decide) hf2 hr
  simp only [f104_23_79_b21]
  by_cases c1 : k < gLk g
  · simp (disch := first | omega | (simp only [fIn, fR, fC, Nat.reduceEqDiff, decide_false, decide_true, Bool.false_or, Bool.or_false, Bool.false_and, Bool.and_false, Bool.or_self, Bool.true_and, Bool.true_or, Bool.and_true, Bool.or_true, Bool.and_self]; done) | fail) only [hP_some, hP_let, hP_gd, hP_B, hP_if, reduceIte, q_lit, nI_add, pk_mul, q_lt, q_le, q_eq, q_cl, q_g, Bool.not_eq_true', decide_eq_false_iff_not, decide_eq_true_eq, q_div, q_rm, q_sub, q_m1, Nat.zero_add, Nat.add_zero, rC_lk hr2, c1]
    have f54 : fr ([54], []) w2 (nS w2 54 k (nI k)) := fr_nS fr_refl rfl
    refine ⟨by omega, ih (n - 1) _ (by omega) ⟨k + 1, _, by omega, rfl, fr_then hf2 f54 (by decide), rSp_fr hs2 f54 rfl (fun _ => rfl) (fun _ => rfl), fun i hi => ?_⟩⟩
    by_cases e : i = k
    · rw [e, rd_nS]
    · rw [rd_nSj e]; exact h54 i (by omega)
  · have e : k = gLk g := by omega
    subst e
    have hrl : rL 54 w2 (List.range (gLk g)) := fun i hi => by
      rw [hlen] at hi
      rw [gd_range hi]; exact h54 i hi
    rw [if_neg (by rw [rC_lk hr2, q_lt (by omega) (by omega)]; exact c1), hP_B]
    refine c_tryL (r := r) (ch := gCh g) (mi := gMi g) hr2 ho hl1 hlR hrl hs2 (fun w3 hf3 => ?_)
    have hf13 : fr pOC w w3 := fr_then hf2 hf3 (by decide)
    have hr3 := rC_fr (by decide) hf13 hr
    rw [rC_lk hr3, hP_gd, hP_let]
    refine ⟨gc12 _ (by omega), ?_⟩
    rw [q_cl (by omega)]
    have f79 : fr ([79], []) w3 (nCpy w3 54 0 79 0 (gLk g)) := fr_cpy fr_refl rfl
    have hrl3 : rL 54 w3 (List.range (gLk g)) := rL_fr hrl hf3 (fun _ => rfl)
    have hb0 : rL 79 (nCpy w3 54 0 79 0 (gLk g)) (List.range (gLk g)) := fun i hi => by
      have hi2 : i < gLk g := by rw [hlen] at hi; exact hi
      rw [rd_cpyy hi2]; exact hrl3 i hi
    refine hP_loopF (fun fu s => ∃ l b v x3 w4, x3 + fu = 721 ∧ s = (eC v, nI x3, w4) ∧ ckL (gLk g) fu l = true ∧ b.length = gLk g ∧ ordGo (orF g r) fu l b v = orFin g r ∧ fr pOC w w4 ∧ rL 54 w4 l ∧ rL 79 w4 b ∧ rSp w4 (gSp g (gSw g)) (gNd g r (gCh g) (gMi g) 0) ∧ oB v) 720 (by decide) ⟨List.range (gLk g), List.range (gLk g), orF g r (List.range (gLk g)), 1, _, rfl, rfl, hck, hlen, rfl, fr_then hf13 f79 (by decide), rL_fr hrl3 f79 (fun _ => rfl), hb0, rSp_fr (rSp_fr hs2 hf3 rfl (fun _ => rfl) (fun _ => rfl)) f79 rfl (fun _ => rfl) (fun _ => rfl), orF_B ho hl1 hlR⟩ ?_
    rintro fu s rec2 ⟨l, b, v, x3, w4, hx3, rfl, hckl, hbl, hgo, hf4, hl54, hb79, hs4, hvB⟩ ih2
    have hr4 := rC_fr (by decide) hf4 hr
    cases fu with
    | zero => exact absurd hckl (by intro h; exact ck_zero h)
    | succ f =>
      have hlo := ck_lOf hckl
      have done : nxL l = none → ∀ w', fr pOC w w' → rL 79 w' b → Q (eC v) w' := by
        intro h w' hf' hb'
        rw [ord_no h] at hgo
        have := hq w' hf'
        rw [← hgo] at this
        exact this hb' hbl hvB
      simp only [f104_23_79_b69]
      by_cases c2 : x3 < 720
      · rw [if_pos (by rw [q_lit, q_lt (by omega) (by omega)]; exact c2), hP_B]
        refine c_next hl54 (by rw [hlo.1]; exact rC_lk hr4) (by rw [hlo.1]; omega) (fun i hi => by rw [hlo.1] at hi; have := hlo.2 i hi; omega) (fun h => ?_) (fun l' w5 h hf5 hl5 => ?_)
        · rw [if_pos (show nI 0 = 0 from rfl), hP_some]
          exact done h w4 hf4 hb79
        · have hck' := ck_next hckl h
          rw [ord_yes h] at hgo
          have hf45 : fr pOC w w5 := fr_then hf4 hf5 (by decide)
          have hr5 := rC_fr (by decide) hf45 hr
          have hs5 := rSp_fr hs4 hf5 rfl (fun _ => rfl) (fun _ => rfl)
          cases f with
          | zero => exact absurd hck' (by intro h; exact ck_zero h)
          | succ f =>
            have hlo' := ck_lOf hck'
            rw [if_neg (by decide), hP_B]
            refine c_tryL (r := r) (ch := gCh g) (mi := gMi g) hr5 ho hl1 hlo' hl5 hs5 (fun w6 hf6 => ?_)
            have hf46 : fr pOC w w6 := fr_then hf45 hf6 (by decide)
            have hr6 := rC_fr (by decide) hf46 hr
            have hs6 := rSp_fr hs5 hf6 rfl (fun _ => rfl) (fun _ => rfl)
            have hl6 : rL 54 w6 l' := rL_fr hl5 hf6 (fun _ => rfl)
            have hb6 : rL 79 w6 b := rL_fr (rL_fr hb79 hf5 (fun _ => rfl)) hf6 (fun _ => rfl)
            have hFB := orF_B (r := r) ho hl1 hlo'
            have e9 := eC_oLt hFB hvB
            have e9' : (eC (gWall (gPm g l') r (gCh g) (gMi g) 0 99) < eC v) = (oLt (orF g r l') v = true) := e9
            by_cases c3 : oLt (orF g r l') v = true
            · rw [if_pos (by rw [e9']; exact c3), rC_lk hr6, hP_gd, hP_let, q_cl (by omega)]
              rw [if_pos c3] at hgo
              have f79' : fr ([79], []) w6 (nCpy w6 54 0 79 0 (gLk g)) := fr_cpy fr_refl rfl
              refine ⟨gc12 _ (by omega), ih2 (f + 1) _ (by omega) ⟨l', l', orF g r l', x3 + 1, _, by omega, ?_, hck', hlo'.1, hgo, fr_then hf46 f79' (by decide), rL_fr hl6 f79' (fun _ => rfl), fun i hi => ?_, rSp_fr hs6 f79' rfl (fun _ => rfl) (fun _ => rfl), hFB⟩⟩
              · rw [← nI_add]; rfl
              · have hi2 : i < gLk g := by rw [hlo'.1] at hi; exact hi
                rw [rd_cpyy hi2]; exact hl6 i hi
            · rw [if_neg (by rw [e9']; exact c3)]
              rw [if_neg c3] at hgo
              refine ih2 (f + 1) _ (by omega) ⟨l', b, v, x3 + 1, w6, by omega, ?_, hck', hbl, hgo, hf46, hl6, hb6, hs6, hvB⟩
              rw [← nI_add]; rfl
      · rw [if_neg (by rw [q_lit, q_lt (by omega) (by omega)]; exact c2), hP_some]
        have hf0 : f = 0 := by omega
        subst hf0
        refine done ?_ w4 hf4 hb79
        cases hnx : nxL l with
        | none => rfl
        | some l' => exact absurd (ck_next hckl hnx) (by intro h; exact ck_zero h)
end ORD
