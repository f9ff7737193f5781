/-! ===== OPERATIONS: two ===== -/
theorem oMin_comm (a b : Option Nat) : oMin a b = oMin b a := by
  cases a <;> cases b <;> simp [oMin]
  omega
theorem oMin_B {a b : Option Nat} (ha : oB a) (hb : oB b) : oB (oMin a b) := by
  cases a with
  | none => cases b with
    | none => exact ha
    | some y => exact hb
  | some x => cases b with
    | none => exact ha
    | some y =>
      have h1 := ha x rfl
      have h2 := hb y rfl
      intro z hz
      have : min x y = z := Option.some.inj hz
      omega
theorem eC_min {a b : Option Nat} (ha : oB a) (hb : oB b) : nMin (eC a) (eC b) = eC (oMin a b) := by
  unfold eC
  rw [q_min (eC_lt ha) (eC_lt hb)]
  congr 1
  cases a with
  | none => cases b with
    | none => rfl
    | some y => have := hb y rfl; show min 2147483647 y = y; omega
  | some x => cases b with
    | none => have := ha x rfl; show min x 2147483647 = x; omega
    | some y => rfl
theorem eN_min {a b : Option Nat} (ha : oB a) (hb : oB b) : (if oN 1000000 a < oN 1000000 b then oN 1000000 a else oN 1000000 b) = oN 1000000 (oMin a b) := by
  cases a with
  | none => cases b with
    | none => rfl
    | some y => have := hb y rfl; show (if 1000000 < y then 1000000 else y) = y; rw [if_neg (by omega)]
  | some x => cases b with
    | none => have := ha x rfl; show (if x < 1000000 then x else 1000000) = x; rw [if_pos (by omega)]
    | some y =>
      show (if x < y then x else y) = min x y
      split <;> omega
def gWF (P : Nat → Bool) (f : Nat → Option Nat) : Nat → Option Nat
  | 0 => some 0
  | c + 1 => if P c = true then oMax (gWF P f c) (f c) else gWF P f c
theorem gWF_oMx (P : Nat → Bool) (f : Nat → Option Nat) : ∀ k, gWF P f k = oMx (((List.range k).filter P).map f)
  | 0 => rfl
  | k + 1 => by
    rw [List.range_succ, List.filter_append, List.map_append]
    show (if P k = true then oMax (gWF P f k) (f k) else gWF P f k) = _
    rw [gWF_oMx P f k]
    by_cases h : P k = true
    · rw [if_pos h, List.filter_cons_of_pos h, List.filter_nil, List.map_cons, List.map_nil, oMx_snoc]
    · rw [if_neg h, List.filter_cons_of_neg h, List.filter_nil, List.map_nil, List.append_nil]
theorem gWF_spots {P : Nat → Bool} {f : Nat → Option Nat} {S : List Nat} {k : Nat} (h : ∀ c, c ∈ S ↔ c < k ∧ P c = true) : oMx (S.map f) = gWF P f k := by
  rw [gWF_oMx]
  apply oMx_ext
  · intro x hx
    obtain ⟨c, hc, rfl⟩ := List.mem_map.mp hx
    exact List.mem_map.mpr ⟨c, List.mem_filter.mpr ⟨List.mem_range.mpr ((h c).mp hc).1, ((h c).mp hc).2⟩, rfl⟩
  · intro x hx
    obtain ⟨c, hc, rfl⟩ := List.mem_map.mp hx
    have := List.mem_filter.mp hc
    exact List.mem_map.mpr ⟨c, (h c).mpr ⟨List.mem_range.mp this.1, this.2⟩, rfl⟩
/-- the longest where two look, half a round apart -/
def gB1 (d : Nat → Option Nat) (T k : Nat) : Option Nat := oMx ((List.range k).map (fun s => oMin (d s) (d ((s + T / 2) % T))))
def gB2 (d : Nat → Option Nat) (T k : Nat) : Option Nat := oMx ((List.range k).map (fun s => oMin (d s) (d ((s + T - T / 2) % T))))
theorem gB1_s (d : Nat → Option Nat) (T k : Nat) : gB1 d T (k + 1) = oMax (gB1 d T k) (oMin (d k) (d ((k + T / 2) % T))) := by
  unfold gB1
  rw [List.range_succ, List.map_append, List.map_cons, List.map_nil, oMx_snoc]
theorem gB2_s (d : Nat → Option Nat) (T k : Nat) : gB2 d T (k + 1) = oMax (gB2 d T k) (oMin (d k) (d ((k + T - T / 2) % T))) := by
  unfold gB2
  rw [List.range_succ, List.map_append, List.map_cons, List.map_nil, oMx_snoc]
theorem md_sub {a T : Nat} (h : T ≤ a) (h2 : a < 2 * T) : a % T = a - T := by rw [Nat.mod_eq_sub_mod h, Nat.mod_eq_of_lt (by omega)]
theorem half_key {s T h : Nat} (hs : s < T) (h2 : h < T) : ((s + h) % T + T - h) % T = s ∧ ((s + T - h) % T + h) % T = s := by
  constructor
  · by_cases c : s + h < T
    · rw [Nat.mod_eq_of_lt c, md_sub (by omega) (by omega)]; omega
    · rw [md_sub (a := s + h) (by omega) (by omega), show s + h - T + T - h = s by omega, Nat.mod_eq_of_lt hs]
  · by_cases c : s + T - h < T
    · rw [Nat.mod_eq_of_lt c, md_sub (by omega) (by omega)]; omega
    · rw [md_sub (a := s + T - h) (by omega) (by omega), Nat.mod_eq_of_lt (by omega)]; omega
theorem gB12 (d : Nat → Option Nat) (T : Nat) : gB1 d T T = gB2 d T T := by
  have key : ∀ s, s < T → ((s + T / 2) % T + T - T / 2) % T = s ∧ ((s + T - T / 2) % T + T / 2) % T = s := fun s hs => half_key hs (by omega)
  unfold gB1 gB2
  apply oMx_ext
  · intro x hx
    obtain ⟨s, hs, rfl⟩ := List.mem_map.mp hx
    have hs := List.mem_range.mp hs
    refine List.mem_map.mpr ⟨(s + T / 2) % T, List.mem_range.mpr (Nat.mod_lt _ (by omega)), ?_⟩
    rw [(key s hs).1]
    exact oMin_comm _ _
  · intro x hx
    obtain ⟨s, hs, rfl⟩ := List.mem_map.mp hx
    have hs := List.mem_range.mp hs
    refine List.mem_map.mpr ⟨(s + T - T / 2) % T, List.mem_range.mpr (Nat.mod_lt _ (by omega)), ?_⟩
    rw [(key s hs).2]
    exact oMin_comm _ _
theorem gB1_B {d : Nat → Option Nat} (h : ∀ s, oB (d s)) (T k : Nat) : oB (gB1 d T k) := oMx_B (fun x hx => by
  obtain ⟨s, -, rfl⟩ := List.mem_map.mp hx
  exact oMin_B (h _) (h _))
theorem gB2_B {d : Nat → Option Nat} (h : ∀ s, oB (d s)) (T k : Nat) : oB (gB2 d T k) := oMx_B (fun x hx => by
  obtain ⟨s, -, rfl⟩ := List.mem_map.mp hx
  exact oMin_B (h _) (h _))

section TWO
variable {g : gS} {r : gR} {w : mW} {Q : Int32 → mW → Prop}
/-- the worst where both look -/
def gTw (g : gS) (r : gR) : Option Nat := if gRnd g (gLk g) = 0 then (if (gSp g (gSw g)).length = 0 then some 0 else none) else oMx ((gSp g (gSw g)).map (fun c => gB1 (gDl g r c) (gRnd g (gLk g)) (gRnd g (gLk g))))
theorem gTw_B (ho : gOk g) : oB (gTw g r) := by
  unfold gTw
  split
  · split
    · intro x hx; cases hx; decide
    · intro x hx; cases hx
  · refine oMx_B (fun x hx => ?_)
    obtain ⟨c, -, rfl⟩ := List.mem_map.mp hx
    exact gB1_B (fun s => gDl_B ho r c s) _ _
abbrev pTW : fP := ([33, 50, 43, 44, 45, 51, 52, 53, 65, 66, 67, 68, 69, 70, 71, 72, 73, 74, 75, 76], [(42, 2), (23, 7)])
theorem c_both (hr : rC g w) (hR : rCr r g w) (ho : gOk g) (hk : rOk r g) (hq : ∀ w', fr pTW w w' → Q (eC (gTw g r)) w') : hP (f117_23 w) Q := by
  have hn := gOk_n ho
  have hch := gOk_ch ho
  have hmi := gOk_mi ho
  have hT := gRnd_T ho
  have hSl := gSp_len g (gSw g)
  have hsw := gOk_sw ho
  unfold f117_23
  simp only [hP_B]
  refine c_rounds hr ho ?_
  rw [rC_ch hr, rC_mi hr]
  refine c_gather (ex := 0) hr hR ho hk (by omega) (by omega) (by omega) (fun w1 hf1 hs1 => ?_)
  have hf1' : fr pTW w w1 := fr_up hf1 (by decide)
  by_cases c0 : gRnd g (gLk g) = 0
  · rw [if_pos (by rw [c0]; rfl), hs1.1]
    have e0 : gTw g r = if (gSp g (gSw g)).length = 0 then some 0 else none := by unfold gTw; rw [if_pos c0]
    rw [e0] at hq
    by_cases c1 : (gSp g (gSw g)).length = 0
    · rw [if_pos (by rw [c1]; rfl), hP_some]
      rw [if_pos c1] at hq
      exact hq w1 hf1'
    · rw [if_neg (by rw [q_lit, q_eq (by omega) (by omega)]; exact c1), hP_some]
      rw [if_neg c1] at hq
      exact hq w1 hf1'
  · rw [if_neg (by rw [q_lit, q_eq (by omega) (by omega)]; exact c0)]
    have e0 : gTw g r = oMx ((gSp g (gSw g)).map (fun c => gB1 (gDl g r c) (gRnd g (gLk g)) (gRnd g (gLk g)))) := by unfold gTw; rw [if_neg c0]
    rw [e0] at hq
    generalize hf : (fun c => gB1 (gDl g r c) (gRnd g (gLk g)) (gRnd g (gLk g))) = f at hq
    have hfB : ∀ c, oB (f c) := fun c => by rw [← hf]; exact gB1_B (fun s => gDl_B ho r c s) _ _
    refine hP_loopF (fun n s => ∃ k w2, k + n = (gSp g (gSw g)).length ∧ s = (eC (oMx (((gSp g (gSw g)).take k).map f)), nI k, w2) ∧ fr pTW w w2 ∧ rSp w2 (gSp g (gSw g)) (gNd g r (gCh g) (gMi g) 0)) (gSp g (gSw g)).length (by omega) ⟨0, w1, by omega, rfl, hf1', hs1⟩ ?_
    rintro n s rec ⟨k, w2, hkn, rfl, hf2, hs2⟩ ih
    have hr2 := rC_fr (by decide) hf2 hr
    have hR2 := rCr_fr (by decide) hf2 hR
    simp only [f117_23_b46]
    by_cases c1 : k < (gSp g (gSw g)).length
    · have hgd : (gSp g (gSw g)).getD k 0 ∈ gSp g (gSw g) := by
        rw [List.getD_eq_getElem?_getD, List.getElem?_eq_getElem c1]
        exact List.getElem_mem c1
      have hclt := gSp_lt ho _ (Nat.le_refl _) _ hgd
      have htk : (gSp g (gSw g)).take (k + 1) = (gSp g (gSw g)).take k ++ [(gSp g (gSw g)).getD k 0] := by
        rw [List.take_add_one, List.getElem?_eq_getElem c1, List.getD_eq_getElem?_getD, List.getElem?_eq_getElem c1]
        rfl
      generalize hcc : (gSp g (gSw g)).getD k 0 = c at hgd hclt htk
      have h51 : wI w2 51 k = nI c := by rw [(hs2.2 k c1).1, hcc]
      simp (disch := first | omega | (simp only [fIn, fR, fC, Nat.reduceEqDiff, decide_false, decide_true, Bool.false_or, Bool.or_false, Bool.false_and, Bool.and_false, Bool.or_self, Bool.true_and, Bool.true_or, Bool.and_true, Bool.or_true, Bool.and_self]; done) | fail) only [hP_some, hP_let, hP_gd, hP_B, hP_if, reduceIte, q_lit, nI_add, pk_mul, q_lt, q_le, q_eq, q_cl, q_g, Bool.not_eq_true', decide_eq_false_iff_not, decide_eq_true_eq, q_div, q_rm, q_sub, q_m1, Nat.zero_add, Nat.add_zero, hs2.1, c1, h51]
      refine ⟨by omega, ?_⟩
      refine c_takeD hr2 hR2 ho hk (by omega) (.inl rfl) (fun w3 hf3 _ hd3 => ?_)
      have hf23 : fr pTW w w3 := fr_then hf2 hf3 (by decide)
      have hs3 := rSp_fr hs2 hf3 rfl (fun _ => rfl) (fun _ => rfl)
      have hBm : oB (oMx (((gSp g (gSw g)).take k).map f)) := oMx_B (fun x hx => by obtain ⟨c, -, rfl⟩ := List.mem_map.mp hx; exact hfB c)
      refine hP_loopF (fun m s => ∃ j, j + m = gRnd g (gLk g) ∧ s = (eC (oMax (oMx (((gSp g (gSw g)).take k).map f)) (gB1 (gDl g r c) (gRnd g (gLk g)) j)), nI j, w3)) (gRnd g (gLk g)) (by omega) ⟨0, by omega, ?_⟩ ?_
      · have : oMax (oMx (((gSp g (gSw g)).take k).map f)) (gB1 (gDl g r c) (gRnd g (gLk g)) 0) = oMx (((gSp g (gSw g)).take k).map f) := by
          show oMax _ (some 0) = _
          cases oMx (((gSp g (gSw g)).take k).map f) with
          | none => rfl
          | some x => show some (max x 0) = some x; rw [Nat.max_eq_left (Nat.zero_le _)]
        rw [this]
      rintro m s rec2 ⟨j, hjm, rfl⟩ ih2
      simp only [f117_23_b71]
      by_cases c2 : j < gRnd g (gLk g)
      · have hm2 := Nat.mod_lt (j + gRnd g (gLk g) / 2) (show 0 < gRnd g (gLk g) by omega)
        have hdB := fun s => gDl_B ho r c s
        have hb1 := gB1_B hdB (gRnd g (gLk g)) j
        have hbm := oMin_B (hdB j) (hdB ((j + gRnd g (gLk g) / 2) % gRnd g (gLk g)))
        have hOm : oB (oMax (oMx (((gSp g (gSw g)).take k).map f)) (gB1 (gDl g r c) (gRnd g (gLk g)) j)) := by
          rw [← oMx_snoc]
          exact oMx_B (fun x hx => by
            rcases List.mem_append.mp hx with h | h
            · obtain ⟨c, -, rfl⟩ := List.mem_map.mp h; exact hfB c
            · rw [List.mem_singleton.mp h]; exact hb1)
        simp (disch := first | omega | (simp only [fIn, fR, fC, Nat.reduceEqDiff, decide_false, decide_true, Bool.false_or, Bool.or_false, Bool.false_and, Bool.and_false, Bool.or_self, Bool.true_and, Bool.true_or, Bool.and_true, Bool.or_true, Bool.and_self]; done) | fail) only [hP_some, hP_let, hP_gd, hP_B, hP_if, reduceIte, q_lit, nI_add, pk_mul, q_lt, q_le, q_eq, q_cl, q_g, Bool.not_eq_true', decide_eq_false_iff_not, decide_eq_true_eq, q_div, q_rm, q_sub, q_m1, Nat.zero_add, Nat.add_zero, c2, show j < 108 by omega, show ¬ gRnd g (gLk g) = 0 by omega, hd3 j c2]
        generalize hx : (j + gRnd g (gLk g) / 2) % gRnd g (gLk g) = x at hm2 hbm
        have h108 : x < 108 := by omega
        simp (disch := first | omega | (simp only [fIn, fR, fC, Nat.reduceEqDiff, decide_false, decide_true, Bool.false_or, Bool.or_false, Bool.false_and, Bool.and_false, Bool.or_self, Bool.true_and, Bool.true_or, Bool.and_true, Bool.or_true, Bool.and_self]; done) | fail) only [hP_some, hP_let, hP_gd, hP_B, hP_if, reduceIte, q_lit, nI_add, pk_mul, q_lt, q_le, q_eq, q_cl, q_g, Bool.not_eq_true', decide_eq_false_iff_not, decide_eq_true_eq, q_div, q_rm, q_sub, q_m1, Nat.zero_add, Nat.add_zero, h108, hd3 x hm2]
        rw [eC_min (hdB j) (hdB x), eC_max hOm hbm, oMax_assoc, ← hx, ← gB1_s]
        refine ⟨fun h => h, trivial, trivial, ih2 (m - 1) _ (by omega) ⟨j + 1, by omega, rfl⟩⟩
      · have e : j = gRnd g (gLk g) := by omega
        simp (disch := first | omega | (simp only [fIn, fR, fC, Nat.reduceEqDiff, decide_false, decide_true, Bool.false_or, Bool.or_false, Bool.false_and, Bool.and_false, Bool.or_self, Bool.true_and, Bool.true_or, Bool.and_true, Bool.or_true, Bool.and_self]; done) | fail) only [hP_some, hP_let, hP_gd, hP_B, hP_if, reduceIte, q_lit, nI_add, pk_mul, q_lt, q_le, q_eq, q_cl, q_g, Bool.not_eq_true', decide_eq_false_iff_not, decide_eq_true_eq, q_div, q_rm, q_sub, q_m1, Nat.zero_add, Nat.add_zero, c2]
        refine ih (n - 1) _ (by omega) ⟨k + 1, w3, by omega, ?_, hf23, hs3⟩
        rw [htk, List.map_append, List.map_cons, List.map_nil, oMx_snoc, e, ← hf]
    · have e : k = (gSp g (gSw g)).length := by omega
      simp (disch := first | omega | (simp only [fIn, fR, fC, Nat.reduceEqDiff, decide_false, decide_true, Bool.false_or, Bool.or_false, Bool.false_and, Bool.and_false, Bool.or_self, Bool.true_and, Bool.true_or, Bool.and_true, Bool.or_true, Bool.and_self]; done) | fail) only [hP_some, hP_let, hP_gd, hP_B, hP_if, reduceIte, q_lit, nI_add, pk_mul, q_lt, q_le, q_eq, q_cl, q_g, Bool.not_eq_true', decide_eq_false_iff_not, decide_eq_true_eq, q_div, q_rm, q_sub, q_m1, Nat.zero_add, Nat.add_zero, hs2.1, c1]
      rw [e, List.take_length]
      exact hq w2 hf2
theorem gTw_eq (ho : gOk g) (h0 : ¬ gRnd g (gLk g) = 0) : gTw g r = gWF (gIn g 0 (gW g)) (fun c => gB2 (gDl g r c) (gRnd g (gLk g)) (gRnd g (gLk g))) (gW g * gH g) := by
  have hw := gOk_wd ho
  unfold gTw
  rw [if_neg h0, show (fun c => gB1 (gDl g r c) (gRnd g (gLk g)) (gRnd g (gLk g))) = (fun c => gB2 (gDl g r c) (gRnd g (gLk g)) (gRnd g (gLk g))) from funext fun c => gB12 _ _]
  refine gWF_spots (fun c => ?_)
  have hm := Nat.mod_lt c (show 0 < gW g by omega)
  unfold gIn
  simp only [Bool.and_eq_true, decide_eq_true_eq]
  constructor
  · intro h
    exact ⟨gSp_lt ho _ (Nat.le_refl _) c h, (gSp_mem g c _).mp h, Nat.zero_le _, hm⟩
  · intro h
    exact (gSp_mem g c _).mpr h.2.1
theorem gSp_no (ho : gOk g) (h : ∀ c, c < gW g * gH g → ¬ gIn g 0 (gW g) c = true) : (gSp g (gSw g)).length = 0 := by
  have hw := gOk_wd ho
  cases e : gSp g (gSw g) with
  | nil => rfl
  | cons c t =>
    exfalso
    have hc : c ∈ gSp g (gSw g) := by rw [e]; exact List.mem_cons_self
    have hm := Nat.mod_lt c (show 0 < gW g by omega)
    refine h c (gSp_lt ho _ (Nat.le_refl _) c hc) ?_
    unfold gIn
    simp only [Bool.and_eq_true, decide_eq_true_eq]
    exact ⟨(gSp_mem g c _).mp hc, Nat.zero_le _, hm⟩
theorem gSp_yes (ho : gOk g) {c : Nat} (h : gIn g 0 (gW g) c = true) : ¬ (gSp g (gSw g)).length = 0 := by
  unfold gIn at h
  simp only [Bool.and_eq_true, decide_eq_true_eq] at h
  have hc := (gSp_mem g c (gSw g)).mpr h.1
  intro e
  rw [List.length_eq_zero_iff.mp e] at hc
  cases hc
theorem m_both (hr : rM g w) (hR : rMr r g w) (ho : gOk g) (hk : rOk r g) (hm : wI w 80 66 = nI 0) (hq : ∀ w', fr pMq w w' → Q (eN (gTw g r)) w') : hP (f267_80 w) Q := by
  have hn := gOk_n ho
  have hwd := gOk_wd ho
  have hT := lay_T ho (gLk g) (Nat.le_refl _)
  have hT8 := gRnd_T ho
  have hlo := lay_ok ho
  unfold f267_80
  simp only [hP_B]
  refine m_laysAll hr ho (fun w1 hf1 hl1 => ?_)
  have hf1' : fr pMq w w1 := fr_up hf1 (by decide)
  -- the state: the greatest so far, and no cell with swimmers before when the round is empty
  refine hP_loopF (fun n s => ∃ k w2, k + n = gW g * gH g ∧ s = (eN (gWF (gIn g 0 (gW g)) (fun c => gB2 (gDl g r c) (gRnd g (gLk g)) (gRnd g (gLk g))) k), nI k, w2) ∧ fr pMq w w2 ∧ rLk w2 (gLay g 0 (gW g) 99 0 (gLk g)) ∧ (gRnd g (gLk g) = 0 → ∀ c, c < k → ¬ gIn g 0 (gW g) c = true)) (gW g * gH g) (by omega) ⟨0, w1, by omega, rfl, hf1', hl1, fun _ c hc => absurd hc (Nat.not_lt_zero _)⟩ ?_
  rintro n s rec ⟨k, w2, hkn, rfl, hf2, hl2, hz⟩ ih
  have hr2 := rM_fr (by decide) hf2 hr
  have hR2 := rMr_fr (by decide) hf2 hR
  have hm2 : wI w2 80 66 = nI 0 := (fr_rd hf2 rfl).trans hm
  simp only [f267_80_b8, f218_80]
  by_cases c1 : k < gW g * gH g
  · simp (disch := first | omega | (simp only [fIn, fR, fC, Nat.reduceEqDiff, decide_false, decide_true, Bool.false_or, Bool.or_false, Bool.false_and, Bool.and_false, Bool.or_self, Bool.true_and, Bool.true_or, Bool.and_true, Bool.or_true, Bool.and_self]; done) | fail) only [hP_some, hP_let, hP_gd, hP_B, hP_if, reduceIte, q_lit, nI_add, pk_mul, q_lt, q_le, q_eq, q_cl, q_g, Bool.not_eq_true', decide_eq_false_iff_not, decide_eq_true_eq, q_div, q_rm, q_sub, q_m1, Nat.zero_add, Nat.add_zero, rM_wd hr2, rM_hi hr2, c1]
    refine m_isIn hr2 ho (by omega) (by omega) (by omega) ?_
    have e0 : gWF (gIn g 0 (gW g)) (fun c => gB2 (gDl g r c) (gRnd g (gLk g)) (gRnd g (gLk g))) (k + 1) = if gIn g 0 (gW g) k = true then oMax (gWF (gIn g 0 (gW g)) (fun c => gB2 (gDl g r c) (gRnd g (gLk g)) (gRnd g (gLk g))) k) (gB2 (gDl g r k) (gRnd g (gLk g)) (gRnd g (gLk g))) else gWF (gIn g 0 (gW g)) (fun c => gB2 (gDl g r c) (gRnd g (gLk g)) (gRnd g (gLk g))) k := rfl
    have hGB : oB (gWF (gIn g 0 (gW g)) (fun c => gB2 (gDl g r c) (gRnd g (gLk g)) (gRnd g (gLk g))) k) := by
      rw [gWF_oMx]
      exact oMx_B (fun x hx => by obtain ⟨c, -, rfl⟩ := List.mem_map.mp hx; exact gB2_B (fun s => gDl_B ho r c s) _ _)
    by_cases c2 : gIn g 0 (gW g) k = true
    · rw [if_pos c2] at e0
      have hp2 := hl2.1
      rw [hT] at hp2
      simp (disch := first | omega | (simp only [fIn, fR, fC, Nat.reduceEqDiff, decide_false, decide_true, Bool.false_or, Bool.or_false, Bool.false_and, Bool.and_false, Bool.or_self, Bool.true_and, Bool.true_or, Bool.and_true, Bool.or_true, Bool.and_self]; done) | fail) only [c2, reduceIte, hP_some, hP_let, hP_gd, hP_B, hP_if, reduceIte, q_lit, nI_add, pk_mul, q_lt, q_le, q_eq, q_cl, q_g, Bool.not_eq_true', decide_eq_false_iff_not, decide_eq_true_eq, q_div, q_rm, q_sub, q_m1, Nat.zero_add, Nat.add_zero, Nat.reduceEqDiff, hp2]
      by_cases c3 : gRnd g (gLk g) = 0
      · rw [if_pos c3]
        have := hq w2 hf2
        unfold gTw at this
        rw [if_pos c3, if_neg (gSp_yes ho c2)] at this
        exact this
      · rw [if_neg c3]
        refine m_need hr2 hR2 ho hk (by omega) hm2 (fun w3 hf3 => ?_)
        have hl3 := rLk_fr hl2 hf3 rfl (fun _ => rfl)
        have hnd := gNd_b g r (gCh g) (gMi g) 0 k
        refine m_watch (by omega) hlo.1 hlo.2 (by omega) hnd.1 hnd.2 hl3 (fun w4 hf4 hS => ?_)
        have hl4 := rLk_fr hl3 hf4 rfl (fun _ => rfl)
        have hf : fr pMq w w4 := fr_then (fr_then hf2 hf3 (by decide)) hf4 (by decide)
        have hp4 := hl4.1
        rw [hT] at hp4 hS
        generalize hG : gWF (gIn g 0 (gW g)) (fun c => gB2 (gDl g r c) (gRnd g (gLk g)) (gRnd g (gLk g))) k = G at e0 hGB
        have hdB := fun s => gDl_B ho r k s
        refine hP_loopF (fun m s => ∃ j, j + m = gRnd g (gLk g) ∧ s = (eN (oMax G (gB2 (gDl g r k) (gRnd g (gLk g)) j)), nI j, w4)) (gRnd g (gLk g)) (by omega) ⟨0, by omega, ?_⟩ ?_
        · have : oMax G (gB2 (gDl g r k) (gRnd g (gLk g)) 0) = G := by
            show oMax _ (some 0) = _
            cases G with
            | none => rfl
            | some x => show some (max x 0) = some x; rw [Nat.max_eq_left (Nat.zero_le _)]
          rw [this]
        rintro m s rec2 ⟨j, hjm, rfl⟩ ih2
        simp only [f267_80_b58]
        by_cases c4 : j < gRnd g (gLk g)
        · have hm2 := Nat.mod_lt (j + gRnd g (gLk g) - gRnd g (gLk g) / 2) (show 0 < gRnd g (gLk g) by omega)
          have hOm : oB (oMax G (gB2 (gDl g r k) (gRnd g (gLk g)) j)) := by
            have hb2 := gB2_B hdB (gRnd g (gLk g)) j
            cases hGe : G with
            | none => intro x hx; cases hx
            | some a =>
              cases hbe : gB2 (gDl g r k) (gRnd g (gLk g)) j with
              | none => intro x hx; cases hx
              | some b =>
                have h1 := hGB a hGe
                have h2 := hb2 b hbe
                intro x hx
                have : max a b = x := Option.some.inj hx
                omega
          have e2 := gB2_s (gDl g r k) (gRnd g (gLk g)) j
          simp (disch := first | omega | (simp only [fIn, fR, fC, Nat.reduceEqDiff, decide_false, decide_true, Bool.false_or, Bool.or_false, Bool.false_and, Bool.and_false, Bool.or_self, Bool.true_and, Bool.true_or, Bool.and_true, Bool.or_true, Bool.and_self]; done) | fail) only [hP_some, hP_let, hP_gd, hP_B, hP_if, reduceIte, q_lit, nI_add, pk_mul, q_lt, q_le, q_eq, q_cl, q_g, Bool.not_eq_true', decide_eq_false_iff_not, decide_eq_true_eq, q_div, q_rm, q_sub, q_m1, Nat.zero_add, Nat.add_zero, c4, hp4]
          refine m_delay (n := gN1 g r 0 k) (by omega) hnd.1 hnd.2 c4 hS ?_
          simp (disch := first | omega | (simp only [fIn, fR, fC, Nat.reduceEqDiff, decide_false, decide_true, Bool.false_or, Bool.or_false, Bool.false_and, Bool.and_false, Bool.or_self, Bool.true_and, Bool.true_or, Bool.and_true, Bool.or_true, Bool.and_self]; done) | fail) only [hP_gd, hP_B, q_lit, nI_add, pk_mul, q_lt, q_le, q_eq, q_cl, q_g, Bool.not_eq_true', decide_eq_false_iff_not, decide_eq_true_eq, q_div, q_rm, q_sub, q_m1, Nat.zero_add, Nat.add_zero, hp4]
          refine ⟨by omega, ?_⟩
          generalize hx : (j + gRnd g (gLk g) - gRnd g (gLk g) / 2) % gRnd g (gLk g) = x at hm2 e2
          refine m_delay (n := gN1 g r 0 k) (by omega) hnd.1 hnd.2 hm2 hS ?_
          have hA := hdB j
          have hX := hdB x
          have hla := eN_lt hA
          have hlx := eN_lt hX
          have hmin := eN_min hA hX
          have hmB := oMin_B hA hX
          have hlm := eN_lt hmB
          have hlO := eN_lt hOm
          have hmx := eN_max hOm hmB
          rw [oMax_assoc, ← e2] at hmx
          have next : hP (rec2 (nI (oN 1000000 (oMax G (gB2 (gDl g r k) (gRnd g (gLk g)) (j + 1)))), nI (j + 1), w4)) Q := ih2 (m - 1) _ (by omega) ⟨j + 1, by omega, rfl⟩
          rw [← hmx] at next
          have fin : ∀ v, v = oN 1000000 (oMin (gDl g r k j) (gDl g r k x)) → hP (f267_80_j116 (eN (oMax G (gB2 (gDl g r k) (gRnd g (gLk g)) j))) (nI k) (nI (gN1 g r 0 k)) (nI j) (nI v) rec rec2 w4) Q := by
            rintro v rfl
            unfold f267_80_j116 eN
            simp (disch := first | omega | (simp only [fIn, fR, fC, Nat.reduceEqDiff, decide_false, decide_true, Bool.false_or, Bool.or_false, Bool.false_and, Bool.and_false, Bool.or_self, Bool.true_and, Bool.true_or, Bool.and_true, Bool.or_true, Bool.and_self]; done) | fail) only [q_lit, nI_add, pk_mul, q_lt, q_le, q_eq, q_cl, q_g, Bool.not_eq_true', decide_eq_false_iff_not, decide_eq_true_eq, q_div, q_rm, q_sub, q_m1, Nat.zero_add, Nat.add_zero]
            rw [hP_if]
            by_cases c5 : oN 1000000 (oMax G (gB2 (gDl g r k) (gRnd g (gLk g)) j)) < oN 1000000 (oMin (gDl g r k j) (gDl g r k x))
            · rw [if_pos c5] at next ⊢
              exact next
            · rw [if_neg c5] at next ⊢
              exact next
          show (if nI (oN 1000000 (gDl g r k j)) < nI (oN 1000000 (gDl g r k x)) then _ else _)
          have eq6 : (nI (oN 1000000 (gDl g r k j)) < nI (oN 1000000 (gDl g r k x))) = (oN 1000000 (gDl g r k j) < oN 1000000 (gDl g r k x)) := q_lt (by omega) (by omega)
          by_cases c6 : oN 1000000 (gDl g r k j) < oN 1000000 (gDl g r k x)
          · rw [if_pos (by rw [eq6]; exact c6)]
            rw [if_pos c6] at hmin
            exact fin _ hmin
          · rw [if_neg (by rw [eq6]; exact c6)]
            rw [if_neg c6] at hmin
            exact fin _ hmin
        · have e : j = gRnd g (gLk g) := by omega
          simp (disch := first | omega | (simp only [fIn, fR, fC, Nat.reduceEqDiff, decide_false, decide_true, Bool.false_or, Bool.or_false, Bool.false_and, Bool.and_false, Bool.or_self, Bool.true_and, Bool.true_or, Bool.and_true, Bool.or_true, Bool.and_self]; done) | fail) only [hP_some, hP_let, hP_gd, hP_B, hP_if, reduceIte, q_lit, nI_add, pk_mul, q_lt, q_le, q_eq, q_cl, q_g, Bool.not_eq_true', decide_eq_false_iff_not, decide_eq_true_eq, q_div, q_rm, q_sub, q_m1, Nat.zero_add, Nat.add_zero, c4, hp4]
          refine ih (n - 1) _ (by omega) ⟨k + 1, w4, by omega, ?_, hf, hl4, fun h => absurd h c3⟩
          rw [e0, e]
    · rw [if_neg c2] at e0
      simp (disch := first | omega | (simp only [fIn, fR, fC, Nat.reduceEqDiff, decide_false, decide_true, Bool.false_or, Bool.or_false, Bool.false_and, Bool.and_false, Bool.or_self, Bool.true_and, Bool.true_or, Bool.and_true, Bool.or_true, Bool.and_self]; done) | fail) only [c2, reduceIte, q_lit, nI_add, pk_mul, q_lt, q_le, q_eq, q_cl, q_g, Bool.not_eq_true', decide_eq_false_iff_not, decide_eq_true_eq, q_div, q_rm, q_sub, q_m1, Nat.zero_add, Nat.add_zero, Nat.reduceEqDiff]
      refine ih (n - 1) _ (by omega) ⟨k + 1, w2, by omega, by rw [e0], hf2, hl2, fun h0 c hc => ?_⟩
      by_cases e : c = k
      · rw [e]; exact c2
      · exact hz h0 c (by omega)
  · have e : k = gW g * gH g := by omega
    simp (disch := first | omega | (simp only [fIn, fR, fC, Nat.reduceEqDiff, decide_false, decide_true, Bool.false_or, Bool.or_false, Bool.false_and, Bool.and_false, Bool.or_self, Bool.true_and, Bool.true_or, Bool.and_true, Bool.or_true, Bool.and_self]; done) | fail) only [hP_some, hP_let, hP_gd, hP_B, hP_if, reduceIte, q_lit, nI_add, pk_mul, q_lt, q_le, q_eq, q_cl, q_g, Bool.not_eq_true', decide_eq_false_iff_not, decide_eq_true_eq, q_div, q_rm, q_sub, q_m1, Nat.zero_add, Nat.add_zero, rM_wd hr2, rM_hi hr2, c1]
    subst e
    by_cases c3 : gRnd g (gLk g) = 0
    · have h0 := gSp_no ho (hz c3)
      have := hq w2 hf2
      unfold gTw at this
      rw [if_pos c3, if_pos h0] at this
      have e9 : gWF (gIn g 0 (gW g)) (fun c => gB2 (gDl g r c) (gRnd g (gLk g)) (gRnd g (gLk g))) (gW g * gH g) = some 0 := by
        rw [gWF_oMx]
        have : (List.range (gW g * gH g)).filter (gIn g 0 (gW g)) = [] := List.filter_eq_nil_iff.mpr (fun c hc => hz c3 c (List.mem_range.mp hc))
        rw [this]
        rfl
      rw [e9]
      exact this
    · rw [← gTw_eq ho c3]
      exact hq w2 hf2
end TWO
