/-! ===== OPERATIONS: lengths ===== -/
def lnO (n x j : Nat) : Nat := 1 + x / 4 ^ (n - 1 - j) % 4
theorem lnO_b (n x j : Nat) : 1 ≤ lnO n x j ∧ lnO n x j ≤ 4 := by
  have := Nat.mod_lt (x / 4 ^ (n - 1 - j)) (show 0 < 4 by decide)
  unfold lnO
  omega
def gLn (g : gS) (x : Nat) : gS := fun a => if a = 7 then (fun j => if j < gLk g then lnO (gLk g) x j else g 7 j) else g a
theorem gLn_A (g : gS) (x : Nat) : gA5 g (gLn g x) := by
  refine ⟨fun j => rfl, fun a h1 h2 => ?_⟩
  unfold gLn
  rw [if_neg (by omega)]
theorem gLn7 (g : gS) (x : Nat) {j : Nat} (h : j < gLk g) : gLn g x 7 j = lnO (gLk g) x j := by
  show (if j < gLk g then lnO (gLk g) x j else g 7 j) = _
  rw [if_pos h]
theorem gLn_sn {g : gS} (x : Nat) (h : snOk g g) : snOk (gLn g x) (gLn g x) := by
  obtain ⟨q1, q2, q3, q4, q5⟩ := h
  refine ⟨q1, q2, fun k hk => ?_, q4, q5⟩
  have hk : k < gLk g := hk
  have := lnO_b (gLk g) x k
  rw [gLn7 g x hk]
  omega
theorem gLn_ok {g : gS} (x : Nat) (ho : gOk g) (hl1 : ∀ k, k < gLk g → 1 ≤ g 7 k) : gOk (gLn g x) := gOk_of ho (gLn_A g x).pl (gLn_sn x (snOk_g ho hl1))
theorem us3 : ∀ x : Fin 1024, ∀ t : Fin 5, (nUsr (nI x.1) (nI (2 * t.1))) &&& 3 = nI (x.1 / 4 ^ t.1 % 4) := by decide +kernel
theorem sh4 : ∀ n : Fin 6, nShl 1 (nI (2 * n.1)) = nI (4 ^ n.1) := by decide
theorem p4_le {n : Nat} (h : n ≤ 5) : 4 ^ n ≤ 1024 := Nat.pow_le_pow_right (by decide) h
section LEN
variable {g : gS} {r : gR} {w : mW} {Q : Int32 → mW → Prop}
abbrev lnF (g : gS) (r : gR) (x : Nat) : Option Nat := gWall (gLn g x) r (gCh g) (gMi g) 0 99
theorem lnF_B (ho : gOk g) (hl1 : ∀ k, k < gLk g → 1 ≤ g 7 k) (x : Nat) : oB (lnF g r x) := wall_B (gLn_ok x ho hl1) _ _ _
theorem c_lenOf {x k : Nat} (hr : rC g w) (h5 : gLk g ≤ 5) (hx : x < 1024) (hk : k < gLk g) (hq : Q (nI (lnO (gLk g) x k)) w) : hP (f109_23 (nI x) (nI k) w) Q := by
  unfold f109_23
  rw [hP_some, rC_lk hr]
  have e : (2 : Int32) * (nI (gLk g) - 1 - nI k) = nI (2 * (gLk g - 1 - k)) := by
    rw [q_lit, q_lit, q_sub (by omega), q_sub (by omega), pk_mul]
  rw [e, us3 ⟨x, hx⟩ ⟨gLk g - 1 - k, by omega⟩, q_lit, nI_add]
  exact hq
abbrev pLC : fP := ([33, 50, 51, 52, 43, 44, 79], [(23, 7), (42, 2), (42, 4), (42, 5), (42, 6)])
abbrev lnB (g : gS) (r : gR) (k : Nat) : Nat × Option Nat := bst (fun x => lnF g r x) k
theorem lnB_lt (k : Nat) : (lnB g r (k + 1)).1 < k + 1 := bst_lt (f := fun x => lnF g r x) k
theorem c_lengths (hr : rC g w) (hR : rCr r g w) (ho : gOk g) (hk : rOk r g) (hl1 : ∀ k, k < gLk g → 1 ≤ g 7 k) (h5 : gLk g ≤ 5) (hq : ∀ w', fr pLC w w' → (∀ i, i < gLk g → wI w' 79 i = nI (lnO (gLk g) (lnB g r (4 ^ gLk g)).1 i)) → Q (eC (lnB g r (4 ^ gLk g)).2) w') : hP (f108_23_79 w) Q := by
  have hn := gOk_n ho
  have hch := gOk_ch ho
  have hmi := gOk_mi ho
  have hp4 := p4_le h5
  have hp0 : 0 < 4 ^ gLk g := Nat.pow_pos (by decide)
  have hB := fun k => bst_B (f := fun x => lnF g r x) (fun x => lnF_B ho hl1 x) k
  unfold f108_23_79
  rw [hP_B, rC_ch hr, rC_mi hr]
  refine c_gather (ex := 0) hr hR ho hk (by omega) (by omega) (by omega) (fun w1 hf1 hs1 => ?_)
  have hf01 : fr pLC w w1 := fr_up hf1 (by decide)
  have hr1 := rC_fr (by decide) hf01 hr
  have esh : nShl 1 (2 * nMin (wI w1 24 6) 5) = nI (4 ^ gLk g) := by
    rw [rC_lk hr1]
    show nShl 1 (nI 2 * nMin (nI (gLk g)) (nI 5)) = _
    rw [q_min (by omega) (by omega), Nat.min_eq_left h5, pk_mul]
    exact sh4 ⟨gLk g, by omega⟩
  rw [hP_let, esh]
  refine hP_loopF (fun n s => ∃ k w2, k + n = 4 ^ gLk g ∧ s = (eC (lnB g r k).2, nI (lnB g r k).1, nI k, w2) ∧ fr pLC w w2 ∧ rSp w2 (gSp g (gSw g)) (gNd g r (gCh g) (gMi g) 0)) (4 ^ gLk g) (by omega) ⟨0, w1, by omega, rfl, hf01, hs1⟩ ?_
  rintro n s rec ⟨k, w2, hkn, rfl, hf2, hs2⟩ ih
  have hr2 := rC_fr (by decide) hf2 hr
  simp only [f108_23_79_b44]
  by_cases c1 : k < 4 ^ gLk g
  · rw [if_pos (by rw [q_lt (by omega) (by omega)]; exact c1), hP_B]
    refine c_empty42 (fun w3 hf3 hl3 => ?_)
    refine hP_loopF (fun m s => ∃ j w4, j + m = gLk g ∧ s = (nI j, w4) ∧ fr pR w2 w4 ∧ rRd 42 43 44 w4 (gRl (gLn g k) 99 j)) (gLk g) (by omega) ⟨0, w3, by omega, rfl, hf3, hl3⟩ ?_
    rintro m s rec2 ⟨j, w4, hjm, rfl, hf4, hl4⟩ ih2
    have hr4 := rC_fr (by decide) hf4 hr2
    simp only [f108_23_79_b61]
    by_cases c2 : j < gLk g
    · have hb := lnO_b (gLk g) k j
      have h3 := gOk_lat ho j c2
      have hlen := gRl_len (gLn g k) 99 j
      rw [if_pos (by rw [rC_lk hr4, q_lt (by omega) (by omega)]; exact c2), hP_gd, hP_B]
      refine ⟨by rw [q_g (by omega)]; omega, ?_⟩
      refine c_lenOf hr4 h5 (by omega) c2 ?_
      rw [q_cl (by omega), rC_lat hr4 j c2, hP_B, show nI (g 6 j) = cE (g 6 j) from (if_neg (by omega)).symm]
      refine c_add42 hl4 (by omega) (by omega) (fun w5 hf5 hl5 => ?_)
      refine ih2 (m - 1) _ (by omega) ⟨j + 1, w5, by omega, ?_, fr_then hf4 hf5 (by decide), ?_⟩
      · rw [q_lit, nI_add]
      · simp only [gRl, show ¬ j = 99 by omega, false_or, gLn7 g k c2]
        exact hl5
    · have e : j = gLk g := by omega
      subst e
      rw [if_neg (by rw [rC_lk hr4, q_lt (by omega) (by omega)]; exact c2), hP_B]
      have hA := gLn_A g k
      have hs4 : rSp w4 (gSp (gLn g k) (gSw (gLn g k))) (gNd (gLn g k) r (gCh g) (gMi g) 0) := by
        have en : gNd (gLn g k) r (gCh g) (gMi g) 0 = gNd g r (gCh g) (gMi g) 0 := funext fun c => hA.nd r _ _ 0 c
        rw [hA.sp, en]
        exact rSp_fr hs2 hf4 rfl (fun _ => rfl) (fun _ => rfl)
      refine c_worstB (g := gLn g k) (S := []) (gLn_ok k ho hl1) hl4 hs4 (fun c => gNd_b (gLn g k) r _ _ _ c) (fun w6 hf6 => ?_)
      have hf26 : fr pTR w2 w6 := fr_then (fr_up hf4 (by decide)) hf6 (by decide)
      have hf16 : fr pLC w w6 := fr_then hf2 hf26 (by decide)
      have hs6 := rSp_fr hs2 hf26 rfl (fun _ => rfl) (fun _ => rfl)
      have e9 : (eC (lnF g r k) < eC (lnB g r k).2) = (oLt (lnF g r k) (lnB g r k).2 = true) := eC_oLt (lnF_B ho hl1 k) (hB k)
      have e0 : lnB g r (k + 1) = if oLt (lnF g r k) (lnB g r k).2 = true then (k, lnF g r k) else lnB g r k := rfl
      show hP (if eC (lnF g r k) < eC (lnB g r k).2 then _ else _) Q
      by_cases c3 : oLt (lnF g r k) (lnB g r k).2 = true
      · rw [if_pos (by rw [e9]; exact c3)]
        rw [if_pos c3] at e0
        refine ih (n - 1) _ (by omega) ⟨k + 1, w6, by omega, ?_, hf16, hs6⟩
        rw [e0, ← nI_add]; rfl
      · rw [if_neg (by rw [e9]; exact c3)]
        rw [if_neg c3] at e0
        refine ih (n - 1) _ (by omega) ⟨k + 1, w6, by omega, ?_, hf16, hs6⟩
        rw [e0, ← nI_add]; rfl
  · have e : k = 4 ^ gLk g := by omega
    rw [if_neg (by rw [q_lt (by omega) (by omega)]; exact c1)]
    have hx : (lnB g r k).1 < 1024 := by
      have := lnB_lt (g := g) (r := r) (k - 1)
      rw [show k - 1 + 1 = k by omega] at this
      omega
    refine hP_loopF (fun m s => ∃ j w4, j + m = gLk g ∧ s = (nI j, w4) ∧ fr pLC w w4 ∧ ∀ i, i < j → wI w4 79 i = nI (lnO (gLk g) (lnB g r k).1 i)) (gLk g) (by omega) ⟨0, w2, by omega, rfl, hf2, fun i hi => absurd hi (Nat.not_lt_zero _)⟩ ?_
    rintro m s rec2 ⟨j, w4, hjm, rfl, hf4, h79⟩ ih2
    have hr4 := rC_fr (by decide) hf4 hr
    simp only [f108_23_79_b131]
    by_cases c2 : j < gLk g
    · rw [if_pos (by rw [rC_lk hr4, q_lt (by omega) (by omega)]; exact c2), hP_B]
      refine c_lenOf hr4 h5 hx c2 ?_
      rw [hP_gd, hP_let, q_cl (by omega)]
      refine ⟨by rw [q_g (by omega)]; omega, ih2 (m - 1) _ (by omega) ⟨j + 1, nS w4 79 j (nI (lnO (gLk g) (lnB g r k).1 j)), by omega, ?_, fr_nS hf4 rfl, fun i hi => ?_⟩⟩
      · rw [q_lit, nI_add]
      · by_cases e2 : i = j
        · rw [e2, rd_nS]
        · rw [rd_nSj e2]; exact h79 i (by omega)
    · have e2 : j = gLk g := by omega
      subst e2
      rw [if_neg (by rw [rC_lk hr4, q_lt (by omega) (by omega)]; exact c2), hP_some]
      subst e
      exact hq w4 hf4 h79
end LEN
