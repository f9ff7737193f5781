/-! ===== EXPRESSIONS: the reference reads a whole one ===== -/
theorem dr_len (k : Nat) : ∀ W, (drW k W).length + (drO k W).length = W.length
  | [] => rfl
  | a :: t => by
    unfold drW drO
    have := dr_len k t
    split
    · show (drW k t).length + ((drO k t).length + 1) = t.length + 1
      omega
    · rfl
abbrev pEX : fP := ([97, 98, 99], [(80, 19), (80, 20), (80, 42), (80, 43), (80, 44), (80, 45), (80, 46), (80, 23), (80, 24), (80, 25), (80, 26), (80, 27), (80, 28), (80, 29)])
theorem opn_dr (k : Nat) : ∀ W, opn (drW k W) = opn W
  | [] => rfl
  | a :: t => by
    unfold drW
    split
    · rename_i h
      rw [opn_dr k t]
      show _ = opn t + (if 14 ≤ a then 1 else 0)
      rw [if_neg (by omega)]
      rfl
    · rfl
section MEXPR
variable {bt : Nat → Nat} {n lo hi : Nat} {w : mW}
theorem m_opened {Q : Int32 → mW → Prop} {W : List Nat} (hS : mS W w) (hl : W.length ≤ 900) (h1 : (W.any fun a => decide (14 ≤ a)) = true → Q (nI 1) w) (h0 : ¬ (W.any fun a => decide (14 ≤ a)) = true → Q (nI 0) w) : hP (f205_80 w) Q := by
  obtain ⟨s1, s2, s3⟩ := hS
  unfold f205_80
  rw [hP_let, s1]
  refine hP_loopF (fun m st => ∃ W1 : List Nat, W1.length = m ∧ W1.length ≤ W.length ∧ st = (nI W1.length - 1, w) ∧ (∀ a ∈ W1, a ≤ 14) ∧ pSt 98 w (W1.map nI) ∧ (W1.any fun a => decide (14 ≤ a)) = (W.any fun a => decide (14 ≤ a))) W.length (by omega) ⟨W, rfl, Nat.le_refl _, rfl, s2, s3, rfl⟩ ?_
  rintro m st rec ⟨W1, hm, hl1, rfl, a1, a2, a3⟩ ih
  simp only [f205_80_b7]
  cases W1 with
  | nil =>
    rw [if_pos (show nI ([] : List Nat).length - 1 < 0 by decide), if_pos (show nI ([] : List Nat).length - 1 < 0 by decide), hP_some]
    refine h0 (fun h => ?_)
    rw [← a3] at h
    cases h
  | cons a t =>
    have hlen : (a :: t).length = t.length + 1 := rfl
    rw [hlen] at hl1 hm ⊢
    have es : nI (t.length + 1) - 1 = nI t.length := by
      have := q_sub (a := t.length + 1) (b := 1) (by omega)
      exact this
    have ha := a1 a (List.mem_cons_self ..)
    have top : wI w 98 t.length = nI a := by
      have := a2.1
      rw [List.length_map] at this
      exact this
    have hn0 : ¬ nI t.length < 0 := by rw [q_lit, q_lt (by omega) (by omega)]; omega
    rw [es, if_neg hn0, hP_gd, q_cl (by omega), top, hP_B]
    refine ⟨by rw [q_g (by omega)]; omega, ?_⟩
    unfold f198
    by_cases c1 : a < 14
    · rw [if_pos (by rw [q_lit, q_lt (by omega) (by omega)]; exact c1), hP_some, if_pos rfl]
      have em : nI t.length + (-1) = nI t.length - 1 := (Int32.sub_eq_add_neg _ _).symm
      rw [em]
      refine ih t.length _ (by omega) ⟨t, rfl, by omega, rfl, fun b hb => a1 b (List.mem_cons_of_mem _ hb), a2.2, ?_⟩
      rw [← a3]
      show _ = (decide (14 ≤ a) || t.any fun a => decide (14 ≤ a))
      rw [decide_eq_false (by omega), Bool.false_or]
    · rw [if_neg (by rw [q_lit, q_lt (by omega) (by omega)]; exact c1), hP_some, if_neg (by decide), if_neg hn0, hP_some]
      refine h1 ?_
      rw [← a3]
      show (decide (14 ≤ a) || t.any fun a => decide (14 ≤ a)) = true
      rw [decide_eq_true (by omega), Bool.true_or]
theorem m_strAny {Q : Int32 → mW → Prop} {x : Int32} (hq : ∀ v, ¬ v < 0 → Q v w) : hP (f199 x w) Q := by
  unfold f199
  simp only [hP_if, hP_some]
  repeat' split
  all_goals exact hq _ (by decide)
/-- a text with a fault: the pile is emptied all the same -/
theorem m_dropsBad {Q : Unit → mW → Prop} {a m : Nat} (ha : wI w 80 45 = nI a) (hm : wI w 80 44 = nI m) (ha9 : a ≤ 900) (hm3 : m ≤ 2000) (hq : ∀ w' m', fr ([97], [(80, 44), (80, 45)]) w w' → wI w' 80 44 = nI m' → m' ≤ 2900 → Q () w') : hP (f200_80 0 w) Q := by
  unfold f200_80
  refine hP_loopF (fun k w1 => ∃ m1, k + m1 = a + m ∧ k ≤ a ∧ fr ([97], [(80, 44), (80, 45)]) w w1 ∧ wI w1 80 45 = nI k ∧ wI w1 80 44 = nI m1) a (by omega) ⟨m, rfl, Nat.le_refl _, fr_refl, ha, hm⟩ ?_
  rintro k w1 rec ⟨m1, hk, hka, f1, a1, b1⟩ ih
  simp only [f200_80_b0]
  rw [a1]
  have stop : Q () w1 := hq w1 m1 f1 b1 (by omega)
  by_cases c0 : 0 < k
  · have es : nI k - 1 = nI (k - 1) := q_sub (a := k) (b := 1) (by omega)
    rw [if_pos (by rw [q_lit, q_lt (by omega) (by omega)]; exact c0), hP_gd, es, q_cl (by omega), hP_B]
    refine ⟨by rw [q_g (by omega)]; omega, ?_⟩
    unfold f198
    by_cases c1 : wI w1 98 (k - 1) < 14
    · rw [if_pos c1, hP_some, if_pos rfl, hP_gd, a1, es, q_cl (by omega), hP_B]
      refine ⟨by rw [q_g (by omega)]; omega, ?_⟩
      refine m_strAny (fun v hv => ?_)
      rw [if_neg hv, hP_let, a1, es, hP_gd, rd_nS, q_cl (by omega), hP_B]
      refine ⟨by rw [q_g (by omega)]; omega, ?_⟩
      refine m_putsL (m := m1) (by rw [rd_nSj (by decide)]; exact b1) (by omega) (fun w3 f3 e3 => ?_)
      exact ih (k - 1) w3 (by omega) ⟨m1 + 1, by omega, by omega, fr_then (fr_nS f1 rfl) f3 (by decide), (fr_rd f3 rfl).trans rd_nS, e3⟩
    · rw [if_neg c1, hP_some, if_neg (by decide), hP_some]
      exact stop
  · rw [if_neg (by rw [q_lit, q_lt (by omega) (by omega)]; exact c0), hP_some]
    exact stop
def bF (f : Nat × Nat) (w : mW) : Prop := wI w 80 19 = nI f.1 ∧ (1 ≤ f.1 ∧ f.1 ≤ 5) ∧ wI w 80 20 = nI f.2
theorem m_endBad {Q : Unit → mW → Prop} {f : Nat × Nat} (hb : bE f w) (hq : ∀ w', fr pE w w' → bF f w' → Q () w') : hP (nB (f200_80 0 w) fun _ w4 => (nB (f197_80 0 w4) fun _ w6 => (some ((), w6)))) Q := by
  obtain ⟨b1, b2, b3, a, m, b4, b5, b6, b7⟩ := hb
  rw [hP_B]
  refine m_dropsBad b4 b6 b5 b7 (fun w1 m1 f1 e1 h1 => ?_)
  rw [hP_B]
  refine m_putsL e1 (by omega) (fun w2 f2 e2 => ?_)
  rw [hP_some]
  exact hq w2 (fr_then (fr_up f1 (by decide)) f2 (by decide)) ⟨(fr_rd f2 rfl).trans ((fr_rd f1 rfl).trans b1), b2, (fr_rd f2 rfl).trans ((fr_rd f1 rfl).trans b3)⟩
theorem stpA_rest {s dep : Nat} {W C : List Nat} {T : Nat → Bool} (h1 : ¬ isW bt n s 14) (h2 : ¬ isW bt n s 13) (h3 : ¬ (isS bt n s 60 ∧ T dep = false)) (h4 : ¬ (isS bt n s 61 ∧ T dep = false)) : stpA bt n s W dep T C = if isS bt n s 43 then stpB bt n false 8 5 s W dep T C
  else if isS bt n s 45 then stpB bt n false 9 5 s W dep T C
  else if isS bt n s 42 then stpB bt n false 10 6 s W dep T C
  else if isS bt n s 47 then stpB bt n false 11 6 s W dep T C
  else if isS bt n s 41 ∧ (W.any fun a => decide (14 ≤ a)) = true then .inl (none, nx bt n s, (drW 0 W).tail, dep - 1, T, C ++ drO 0 W)
  else if 1 < dep then .inr (.inl (1, s)) else .inr (.inr (s, C ++ drO 0 W ++ [0])) := by
  unfold stpA
  rw [if_neg h1, if_neg h2, if_neg h3, if_neg h4]
theorem drW_any {W : List Nat} (h : (W.any fun a => decide (14 ≤ a)) = true) : ∃ a t, drW 0 W = a :: t ∧ 14 ≤ a := by
  induction W with
  | nil => cases h
  | cons a t ih =>
    by_cases c : a < 14
    · have h' : (decide (14 ≤ a) || t.any fun a => decide (14 ≤ a)) = true := h
      rw [decide_eq_false (by omega), Bool.false_or] at h'
      obtain ⟨b, u, e, hb⟩ := ih h'
      refine ⟨b, u, ?_, hb⟩
      show (if a < 14 ∧ 0 ≤ str a then drW 0 t else a :: t) = _
      rw [if_pos ⟨c, Nat.zero_le _⟩, e]
    · refine ⟨a, t, ?_, by omega⟩
      show (if a < 14 ∧ 0 ≤ str a then drW 0 t else a :: t) = _
      rw [if_neg (fun h => c h.1)]
theorem m_expr {Q : Unit → mW → Prop} {s : Nat} {C : List Nat} (hlo : lo ≤ 9 ∧ hi ≤ 9) (hk : tkM bt n s w) (hC : mC C w) (hg : wI w 80 19 = nI 0) (h20 : wI w 80 20 = -nI 1) (hl : C.length + 1 ≤ 2 * s)
    (h0 : ∀ f w', fr pEX w w' → bF f w' → eEx bt n lo hi 8 0 s = .inl f → Q () w')
    (h1 : ∀ l s' w', fr pEX w w' → tkM bt n s' w' → mC (C ++ cells l ++ [0]) w' → wI w' 80 19 = nI 0 → wI w' 80 20 = -nI 1 → eEx bt n lo hi 8 0 s = .inr (l, s') → Q () w') : hP (f207_80 (nI lo) (nI hi) w) Q := by
  have hn := hk.1.2.1
  have hsn := hk.2.1
  unfold f207_80
  rw [hP_B]
  refine m_good1 hg ?_
  rw [if_neg (by decide), hP_let, hP_let, hP_let, hP_let, hP_B]
  have f1 : fr pEX w (nS (nS (nS (nS w 80 42 (nI lo)) 80 43 (nI hi)) 80 45 0) 80 46 0) := fr_nS (fr_nS (fr_nS (fr_nS fr_refl rfl) rfl) rfl) rfl
  have fs : fr ([], [(80, 42), (80, 43), (80, 45), (80, 46)]) w (nS (nS (nS (nS w 80 42 (nI lo)) 80 43 (nI hi)) 80 45 0) 80 46 0) := fr_nS (fr_nS (fr_nS (fr_nS fr_refl rfl) rfl) rfl) rfl
  have v42 : wI (nS (nS (nS (nS w 80 42 (nI lo)) 80 43 (nI hi)) 80 45 0) 80 46 0) 80 42 = nI lo := by
    rw [rd_nSj (by decide), rd_nSj (by decide), rd_nSj (by decide), rd_nS]
  have v43 : wI (nS (nS (nS (nS w 80 42 (nI lo)) 80 43 (nI hi)) 80 45 0) 80 46 0) 80 43 = nI hi := by
    rw [rd_nSj (by decide), rd_nSj (by decide), rd_nS]
  have v45 : wI (nS (nS (nS (nS w 80 42 (nI lo)) 80 43 (nI hi)) 80 45 0) 80 46 0) 80 45 = nI 0 := by
    rw [rd_nSj (by decide), rd_nS]; rfl
  have v46 : wI (nS (nS (nS (nS w 80 42 (nI lo)) 80 43 (nI hi)) 80 45 0) 80 46 0) 80 46 = nI 0 := by
    rw [rd_nS]; rfl
  generalize nS (nS (nS (nS w 80 42 (nI lo)) 80 43 (nI hi)) 80 45 0) 80 46 0 = w1 at f1 fs v42 v43 v45 v46
  have k1 : tkM bt n s w1 := tkM_on hk fs ⟨rfl, rfl, rfl, rfl, rfl, rfl, rfl, rfl⟩ (fun _ => rfl)
  have C1 : mC C w1 := mC_fr hC fs rfl (fun _ => rfl)
  have g1 : wI w1 80 19 = nI 0 := (fr_rd fs rfl).trans hg
  have v20 : wI w1 80 20 = -nI 1 := (fr_rd fs rfl).trans h20
  unfold f203_80
  have e1 : nI 0 + 1 = nI 1 := rfl
  rw [v46, if_pos (by decide), hP_let, e1, hP_gd, rd_nS, hP_let, hP_some, q_cl (by decide)]
  refine ⟨by decide, ?_⟩
  have f2 : fr ([99], [(80, 46)]) w1 (nS (nS w1 80 46 (nI 1)) 99 1 (vp_nar .boolean 0)) := fr_nS (fr_nS fr_refl rfl) rfl
  have A2 : aW bt n lo hi s [] 1 (fun _ => false) C (nS (nS w1 80 46 (nI 1)) 99 1 (vp_nar .boolean 0)) := by
    refine ⟨tkM_on k1 f2 ⟨rfl, rfl, rfl, rfl, rfl, rfl, rfl, rfl⟩ (fun _ => rfl), ⟨(fr_rd f2 rfl).trans v45, (fun a ha => by cases ha), trivial⟩, mC_fr C1 f2 rfl (fun _ => rfl), ?_, by decide, fun d h1 h2 => ?_, (fr_rd f2 rfl).trans g1, ⟨Nat.zero_le _, by show C.length + 0 + 1 ≤ 2 * s; omega⟩, (fr_rd f2 rfl).trans v42, (fr_rd f2 rfl).trans v43, (fr_rd f2 rfl).trans v20⟩
    · rw [rd_nSa (by decide), rd_nS]
    · have : d = 1 := by omega
      rw [this, rd_nS]
      rfl
  have f12 : fr pEX w (nS (nS w1 80 46 (nI 1)) 99 1 (vp_nar .boolean 0)) := fr_then f1 f2 (by decide)
  generalize nS (nS w1 80 46 (nI 1)) 99 1 (vp_nar .boolean 0) = w2 at A2 f12
  have GX := Go_ex (bt := bt) (lo := lo) (hi := hi) (T := fun _ => false) (C := C) hn hsn rfl
  have bad : ∀ f w', fr pEX w w' → bF f w' → Go bt n lo hi (some (true, 0), s, [], 1, fun _ => false, C) (.inl f) → Q () w' := by
    intro f w' f' b' G
    have e := Go_det G GX
    cases hx : eEx bt n lo hi 8 0 s with
    | inl f2 =>
      rw [hx] at e
      have : f = f2 := Sum.inl.inj e
      exact h0 f w' f' b' (by rw [hx, this])
    | inr x => rw [hx] at e; cases e
  have good : ∀ s' C' w', fr pEX w w' → tkM bt n s' w' → mC C' w' → wI w' 80 19 = nI 0 → wI w' 80 20 = -nI 1 → Go bt n lo hi (some (true, 0), s, [], 1, fun _ => false, C) (.inr (s', C')) → Q () w' := by
    intro s' C' w' f' k' c' g' v' G
    have e := Go_det G GX
    cases hx : eEx bt n lo hi 8 0 s with
    | inl f2 => rw [hx] at e; cases e
    | inr x =>
      rw [hx] at e
      have e2 : (s', C') = (x.2, C ++ cells x.1 ++ [0]) := Sum.inr.inj e
      have e3 : s' = x.2 := congrArg Prod.fst e2
      have e4 : C' = C ++ cells x.1 ++ [0] := congrArg Prod.snd e2
      exact h1 x.1 x.2 w' f' (e3 ▸ k') (e4 ▸ c') g' v' hx
  rw [hP_B]
  refine m_operand (mn := true) (x0 := (some (true, 0), s, [], 1, fun _ => false, C)) hlo A2 (fun r h => h) (fun f w3 f3 b3 G3 => ?_) (fun s3 W3 dep3 T3 C3 w3 f3 A3 X3 hs3 => ?_)
  · refine hP_loopF (fun m st => m = 0 ∧ st = ((1 : Int32), w3)) 0 (by decide) ⟨rfl, rfl⟩ ?_
    rintro m st rec ⟨rfl, rfl⟩ ih
    simp only [f207_80_b39]
    rw [if_neg (by decide), hP_B]
    refine m_good0 b3.1 b3.2.1 ?_
    rw [if_pos (show nI 0 = 0 from rfl)]
    unfold f207_80_j340
    rw [hP_B]
    refine m_good0 b3.1 b3.2.1 ?_
    rw [if_pos (show nI 0 = 0 from rfl)]
    exact m_endBad b3 (fun w4 f4 b4 => bad f w4 (fr_then (fr_then f12 f3 (by decide)) f4 (by decide)) b4 G3)
  · refine hP_loopF (fun m st => (∃ s1 W1 dep1 T1 D1 w4, m = n - s1 + 2 ∧ st = ((1 : Int32), w4) ∧ fr pEX w w4 ∧ aW bt n lo hi s1 W1 dep1 T1 D1 w4 ∧ stTo bt n lo hi (some (true, 0), s, [], 1, fun _ => false, C) (none, s1, W1, dep1, T1, D1)) ∨ (∃ s1 W1 dep1 T1 D1 w4, m = 0 ∧ st = ((0 : Int32), w4) ∧ fr pEX w w4 ∧ aW bt n lo hi s1 W1 dep1 T1 D1 w4 ∧ Go bt n lo hi (some (true, 0), s, [], 1, fun _ => false, C) (if 1 < dep1 then .inl (1, s1) else .inr (s1, D1 ++ drO 0 W1 ++ [0]))) ∨ (∃ x f w4, m = 0 ∧ st = ((x : Int32), w4) ∧ fr pEX w w4 ∧ bE f w4 ∧ Go bt n lo hi (some (true, 0), s, [], 1, fun _ => false, C) (.inl f))) (n - s3 + 2) (by omega) (.inl ⟨s3, W3, dep3, T3, C3, w3, rfl, rfl, fr_then f12 f3 (by decide), A3, X3⟩) ?_
    rintro m st rec (⟨s1, W1, dep1, T1, D1, w4, hm, rfl, f4, A4, X4⟩ | ⟨s1, W1, dep1, T1, D1, w4, hm, rfl, f4, A4, G4⟩ | ⟨x, f, w4, hm, rfl, f4, B4, G4⟩) ih
    · obtain ⟨k4, S4, Co4, d4, hdep4, T4, g4, hl4, vlo4, vhi4, v204⟩ := id A4
      have hsn4 := k4.2.1
      have dl := dr_len
      -- a sign is put to the others, and the next operand is read
      have go : ∀ (mn : Bool) (a k : Nat) (T2 : Nat → Bool) (w5 : mW), a < 14 → stp bt n lo hi (none, s1, W1, dep1, T1, D1) = stpB bt n mn a k s1 W1 dep1 T2 D1 → tK bt n s1 ≠ 0 → fr ([97, 98, 99], [(80, 44), (80, 45)]) w4 w5 → mS (a :: drW k W1) w5 → mC (D1 ++ drO k W1) w5 → mTs dep1 T2 w5 → hP (nB (f187_80 w5) fun _ w6 => (nB (f204_80 (nI (if mn = true then 1 else 0)) w6) fun _ w7 => (rec ((1 : Int32), w7)))) Q := by
        intro mn a k T2 w5 ha hst hK0 f5 S5 C5 T5
        have hlt := nx_of hK0 hsn4
        have hgt := nx_gt bt n hlt
        have hnx := nx_le bt n hsn4
        rw [hP_B]
        refine m_on (tkM_on k4 f5 ⟨rfl, rfl, rfl, rfl, rfl, rfl, rfl, rfl⟩ (fun _ => rfl)) (fun w6 f6 k6 => ?_)
        have f56 : fr pEX w w6 := fr_then (fr_then f4 f5 (by decide)) f6 (by decide)
        have := dl k W1
        have A6 : aW bt n lo hi (nx bt n s1) (a :: drW k W1) dep1 T2 (D1 ++ drO k W1) w6 := by
          refine ⟨k6, mS_fr S5 f6 rfl (fun _ => rfl), mC_fr C5 f6 rfl (fun _ => rfl), (fr_rd f6 rfl).trans ((fr_rd f5 rfl).trans d4), ⟨by show opn (drW k W1) + (if 14 ≤ a then 1 else 0) + 1 = dep1; rw [opn_dr, if_neg (by omega)]; exact hdep4.1, hdep4.2⟩, mTs_fr T5 f6 (fun _ => rfl), (fr_rd f6 rfl).trans ((fr_rd f5 rfl).trans g4), ⟨?_, ?_⟩, (fr_rd f6 rfl).trans ((fr_rd f5 rfl).trans vlo4), (fr_rd f6 rfl).trans ((fr_rd f5 rfl).trans vhi4), (fr_rd f6 rfl).trans ((fr_rd f5 rfl).trans v204)⟩
          · show (drW k W1).length + 1 ≤ nx bt n s1
            omega
          · rw [List.length_append]
            show D1.length + (drO k W1).length + ((drW k W1).length + 1) + 1 ≤ 2 * nx bt n s1
            omega
        rw [hP_B]
        refine m_operand (x0 := (some (true, 0), s, [], 1, fun _ => false, C)) hlo A6 (stTo_next X4 hst) (fun f w7 f7 b7 G7 => ?_) (fun s7 W7 dep7 T7 C7 w7 f7 A7 X7 hs7 => ?_)
        · exact ih 0 _ (by omega) (.inr (.inr ⟨1, f, w7, rfl, rfl, fr_then f56 f7 (by decide), b7, G7⟩))
        · exact ih (n - s7 + 2) _ (by have := A7.1.2.1; omega) (.inl ⟨s7, W7, dep7, T7, C7, w7, rfl, rfl, fr_then f56 f7 (by decide), A7, X7⟩)
      have drop : ∀ k, k ≤ 6 → ∀ (K : Unit → mW → Option (Unit × mW)), (∀ w5, fr ([97], [(80, 44), (80, 45)]) w4 w5 → mS (drW k W1) w5 → mC (D1 ++ drO k W1) w5 → hP (K () w5) Q) → hP (nB (f200_80 (nI k) w4) K) Q := by
        intro k hk6 K hK
        rw [hP_B]
        exact m_drops hk6 S4 Co4 (by omega) (by omega) (fun w5 f5 s5 c5 => hK w5 f5 s5 c5)
      have wait : ∀ (a k : Nat) (w5 : mW), k ≤ 6 → a ≤ 14 → mS (drW k W1) w5 → ∀ (K : Unit → mW → Option (Unit × mW)), (∀ w6, fr ([98], [(80, 45)]) w5 w6 → mS (a :: drW k W1) w6 → hP (K () w6) Q) → hP (nB (f201_80 (nI a) w5) K) Q := by
        intro a k w5 hk6 ha S5 K hK
        have := dl k W1
        rw [hP_B]
        exact m_waits S5 (by omega) ha (fun w6 f6 s6 => hK w6 f6 s6)
      have T5' : ∀ (b : Bool) (w6 : mW), (∀ d, wI w6 99 d = wI w4 99 d) → mTs dep1 (tUp T1 dep1 b) (nS w6 99 dep1 (nI (if b = true then 1 else 0))) := by
        intro b w6 h99 d h1 h2
        by_cases e : d = dep1
        · rw [e, rd_nS, tUp_s]
        · rw [rd_nSj e, tUp_o e, h99]
          exact T4 d h1 h2
      -- and / or
      have word : ∀ (a k : Nat), a < 14 → k ≤ 6 → tK bt n s1 ≠ 0 → stp bt n lo hi (none, s1, W1, dep1, T1, D1) = stpB bt n true a k s1 W1 dep1 (tUp T1 dep1 false) D1 → ∀ w5, fr ([97], [(80, 44), (80, 45)]) w4 w5 → mS (drW k W1) w5 → mC (D1 ++ drO k W1) w5 → hP (f207_80_j99 1 (nI a) rec w5) Q := by
        intro a k ha hk6 hK0 hst w5 f5 S5 C5
        unfold f207_80_j99
        refine wait a k w5 hk6 (by omega) S5 _ (fun w6 f6 S6 => ?_)
        have f46 : fr ([97, 98, 99], [(80, 44), (80, 45)]) w4 w6 := fr_then (fr_up f5 (by decide)) f6 (by decide)
        have d6 : wI w6 80 46 = nI dep1 := (fr_rd f46 rfl).trans d4
        rw [hP_gd, d6, hP_let, q_cl (by omega)]
        refine ⟨by rw [q_g (by omega)]; omega, ?_⟩
        have f7 : fr ([99], []) w6 (nS w6 99 dep1 (vp_nar .boolean 0)) := fr_nS fr_refl rfl
        exact go true a k _ _ ha hst hK0 (fr_then f46 f7 (by decide)) (mS_fr S6 f7 rfl (fun _ => rfl)) (mC_fr (mC_fr C5 f6 rfl (fun _ => rfl)) f7 rfl (fun _ => rfl)) (T5' false w6 (fun d => (fr_rd f6 rfl).trans (fr_rd f5 rfl)))
      -- what is left: plus, minus, times, by, a bracket's end, or nothing
      have rest : ¬ isW bt n s1 14 → ¬ isW bt n s1 13 → ¬ (isS bt n s1 60 ∧ T1 dep1 = false) → ¬ (isS bt n s1 61 ∧ T1 dep1 = false) → hP (f207_80_j201 1 rec w4) Q := by
        intro n14 n13 n60 n61
        have hst := stpA_rest (W := W1) (C := D1) n14 n13 n60 n61
        have one : ∀ (a k : Nat) (w5 : mW), a < 14 → k ≤ 6 → tK bt n s1 ≠ 0 → stp bt n lo hi (none, s1, W1, dep1, T1, D1) = stpB bt n false a k s1 W1 dep1 T1 D1 → fr ([97], [(80, 44), (80, 45)]) w4 w5 → mS (drW k W1) w5 → mC (D1 ++ drO k W1) w5 → hP (nB (f201_80 (nI a) w5) fun _ w6 => (nB (f187_80 w6) fun _ w8 => (nB (f204_80 0 w8) fun _ w10 => (rec (1, w10))))) Q := by
          intro a k w5 ha hk6 hK0 hs5 f5 S5 C5
          refine wait a k w5 hk6 (by omega) S5 _ (fun w6 f6 S6 => ?_)
          have f46 : fr ([97, 98, 99], [(80, 44), (80, 45)]) w4 w6 := fr_then (fr_up f5 (by decide)) f6 (by decide)
          exact go false a k _ _ ha hs5 hK0 f46 S6 (mC_fr C5 f6 rfl (fun _ => rfl)) (fun d h1 h2 => (fr_rd f6 rfl).trans ((fr_rd f5 rfl).trans (T4 d h1 h2)))
        have j219 : (isS bt n s1 43 ∨ isS bt n s1 45) → hP (f207_80_j219 1 rec w4) Q := by
          intro hy
          unfold f207_80_j219
          refine drop 5 (by decide) _ (fun w5 f5 S5 C5 => ?_)
          rw [hP_B]
          refine m_isS (b := 43) (by decide) (tkM_on k4 f5 ⟨rfl, rfl, rfl, rfl, rfl, rfl, rfl, rfl⟩ (fun _ => rfl)) (fun h43 => ?_) (fun n43 => ?_)
          · rw [if_neg (by decide)]
            exact one 8 5 w5 (by decide) (by decide) (isS_K h43) (by show stpA bt n s1 W1 dep1 T1 D1 = _; rw [hst, if_pos h43]) f5 S5 C5
          · have h45 : isS bt n s1 45 := by rcases hy with h | h; exact absurd h n43; exact h
            rw [if_pos (show nI 0 = 0 from rfl)]
            exact one 9 5 w5 (by decide) (by decide) (isS_K h45) (by show stpA bt n s1 W1 dep1 T1 D1 = _; rw [hst, if_neg n43, if_pos h45]) f5 S5 C5
        have j274 : ¬ isS bt n s1 43 → ¬ isS bt n s1 45 → (isS bt n s1 42 ∨ isS bt n s1 47) → hP (f207_80_j274 1 rec w4) Q := by
          intro n43 n45 hy
          unfold f207_80_j274
          refine drop 6 (by decide) _ (fun w5 f5 S5 C5 => ?_)
          rw [hP_B]
          refine m_isS (b := 42) (by decide) (tkM_on k4 f5 ⟨rfl, rfl, rfl, rfl, rfl, rfl, rfl, rfl⟩ (fun _ => rfl)) (fun h42 => ?_) (fun n42 => ?_)
          · rw [if_neg (by decide)]
            exact one 10 6 w5 (by decide) (by decide) (isS_K h42) (by show stpA bt n s1 W1 dep1 T1 D1 = _; rw [hst, if_neg n43, if_neg n45, if_pos h42]) f5 S5 C5
          · have h47 : isS bt n s1 47 := by rcases hy with h | h; exact absurd h n42; exact h
            rw [if_pos (show nI 0 = 0 from rfl)]
            exact one 11 6 w5 (by decide) (by decide) (isS_K h47) (by show stpA bt n s1 W1 dep1 T1 D1 = _; rw [hst, if_neg n43, if_neg n45, if_neg n42, if_pos h47]) f5 S5 C5
        unfold f207_80_j201
        rw [hP_B]
        refine m_isS (b := 43) (by decide) k4 (fun h43 => ?_) (fun n43 => ?_)
        · rw [if_neg (by decide)]; exact j219 (.inl h43)
        rw [if_pos (show nI 0 = 0 from rfl), hP_B]
        refine m_isS (b := 45) (by decide) k4 (fun h45 => ?_) (fun n45 => ?_)
        · rw [if_neg (by decide)]; exact j219 (.inr h45)
        rw [if_pos (show nI 0 = 0 from rfl), hP_B]
        refine m_isS (b := 42) (by decide) k4 (fun h42 => ?_) (fun n42 => ?_)
        · rw [if_neg (by decide)]; exact j274 n43 n45 (.inl h42)
        rw [if_pos (show nI 0 = 0 from rfl), hP_B]
        refine m_isS (b := 47) (by decide) k4 (fun h47 => ?_) (fun n47 => ?_)
        · rw [if_neg (by decide)]; exact j274 n43 n45 (.inr h47)
        rw [if_neg n43, if_neg n45, if_neg n42, if_neg n47] at hst
        rw [if_pos (show nI 0 = 0 from rfl), hP_B]
        have ends : ¬ (isS bt n s1 41 ∧ (W1.any fun a => decide (14 ≤ a)) = true) → hP (rec (0, w4)) Q := by
          intro hno
          rw [if_neg hno] at hst
          refine ih 0 _ (by omega) (.inr (.inl ⟨s1, W1, dep1, T1, D1, w4, rfl, rfl, f4, A4, X4 _ (Go_end ?_)⟩))
          show stpA bt n s1 W1 dep1 T1 D1 = _
          rw [hst]
          split <;> rfl
        refine m_isS (b := 41) (by decide) k4 (fun h41 => ?_) (fun n41 => ?_)
        · rw [if_neg (by decide), hP_B]
          refine m_opened S4 (by omega) (fun ho => ?_) (fun hno => ?_)
          · rw [if_pos ⟨h41, ho⟩] at hst
            have hlt := nx_of (isS_K h41) hsn4
            have hgt := nx_gt bt n hlt
            have hnx := nx_le bt n hsn4
            obtain ⟨a, t, ed, ha14⟩ := drW_any ho
            rw [if_neg (by decide), hP_B]
            unfold f206_80
            refine (fun h => h) (show hP (nB (f200_80 (nI 0) w4) fun v1 w2 => (nLet (nS w2 80 45 ((wI w2 80 45) - 1)) fun w3 => (nLet (nS w3 80 46 ((wI w3 80 46) - 1)) fun w4 => (nB (f187_80 w4) fun v5 w6 => (some ((), w6)))))) (fun v w14 => hP (rec (1, w14)) Q) from ?_)
            rw [hP_B]
            refine m_drops (k := 0) (by decide) S4 Co4 (by omega) (by omega) (fun w5 f5 S5 C5 => ?_)
            rw [ed] at S5
            have dl0 := dl 0 W1
            rw [ed] at dl0
            have tl : (a :: t).length = t.length + 1 := rfl
            rw [tl] at dl0
            have hdep2 : 1 < dep1 ∨ dep1 = 1 := by omega
            have e45 : wI w5 80 45 = nI (t.length + 1) := S5.1
            have e46 : wI w5 80 46 = nI dep1 := (fr_rd f5 rfl).trans d4
            have es : nI (t.length + 1) - 1 = nI t.length := q_sub (a := t.length + 1) (b := 1) (by omega)
            have es2 : nI dep1 - 1 = nI (dep1 - 1) := q_sub (a := dep1) (b := 1) (by omega)
            rw [hP_let, e45, es, hP_let, rd_nSj (by decide), e46, es2, hP_B]
            have f6 : fr ([], [(80, 45), (80, 46)]) w5 (nS (nS w5 80 45 (nI t.length)) 80 46 (nI (dep1 - 1))) := fr_nS (fr_nS fr_refl rfl) rfl
            refine m_on (tkM_on (tkM_on k4 f5 ⟨rfl, rfl, rfl, rfl, rfl, rfl, rfl, rfl⟩ (fun _ => rfl)) f6 ⟨rfl, rfl, rfl, rfl, rfl, rfl, rfl, rfl⟩ (fun _ => rfl)) (fun w7 f7 k7 => ?_)
            rw [hP_some]
            have e14 : opn (a :: t) = opn W1 := by rw [← ed, opn_dr]
            have e15 : opn (a :: t) = opn t + 1 := by
              show opn t + (if 14 ≤ a then 1 else 0) = _
              rw [if_pos ha14]
            have f57 : fr pEX w w7 := fr_then (fr_then (fr_then f4 f5 (by decide)) f6 (by decide)) f7 (by decide)
            have hst2 : stp bt n lo hi (none, s1, W1, dep1, T1, D1) = .inl (none, nx bt n s1, t, dep1 - 1, T1, D1 ++ drO 0 W1) := by
              show stpA bt n s1 W1 dep1 T1 D1 = _
              rw [hst, ed]
              rfl
            refine ih (n - nx bt n s1 + 2) _ (by omega) (.inl ⟨nx bt n s1, t, dep1 - 1, T1, D1 ++ drO 0 W1, w7, rfl, rfl, f57, ⟨k7, mS_fr ⟨?_, fun b hb => S5.2.1 b (List.mem_cons_of_mem _ hb), ?_⟩ f7 rfl (fun _ => rfl), mC_fr (mC_fr C5 f6 rfl (fun _ => rfl)) f7 rfl (fun _ => rfl), (fr_rd f7 rfl).trans rd_nS, ⟨by omega, by omega⟩, fun d h1 h2 => (fr_rd f7 rfl).trans ((fr_rd f6 rfl).trans ((fr_rd f5 rfl).trans (T4 d h1 (by omega)))), (fr_rd f7 rfl).trans ((fr_rd f6 rfl).trans ((fr_rd f5 rfl).trans g4)), ⟨by omega, ?_⟩, (fr_rd f7 rfl).trans ((fr_rd f6 rfl).trans ((fr_rd f5 rfl).trans vlo4)), (fr_rd f7 rfl).trans ((fr_rd f6 rfl).trans ((fr_rd f5 rfl).trans vhi4)), (fr_rd f7 rfl).trans ((fr_rd f6 rfl).trans ((fr_rd f5 rfl).trans v204))⟩, stTo_next X4 hst2⟩)
            · rw [rd_nSj (by decide), rd_nS]
            · exact pSt_cg (fun j => fr_rd f6 rfl) _ S5.2.2.2
            · rw [List.length_append]
              omega
          · rw [if_pos (show nI 0 = 0 from rfl)]
            exact ends (fun h => hno h.2)
        · rw [if_pos (show nI 0 = 0 from rfl)]
          exact ends (fun h => n41 h.1)
      simp only [f207_80_b39]
      rw [if_neg (by decide), hP_B]
      refine m_good1 g4 ?_
      rw [if_neg (by decide), hP_B]
      have test : ¬ isW bt n s1 14 → ¬ isW bt n s1 13 → (isS bt n s1 60 ∨ isS bt n s1 61) → hP (f207_80_j142 1 rec w4) Q := by
        intro n14 n13 hy
        unfold f207_80_j142
        rw [hP_gd, d4, q_cl (by omega)]
        refine ⟨by rw [q_g (by omega)]; omega, ?_⟩
        rw [T4 dep1 (by omega) (Nat.le_refl _)]
        cases ht : T1 dep1 with
        | true =>
          rw [if_neg (show ¬ nI (if true = true then 1 else 0) = 0 by decide)]
          exact rest n14 n13 (fun h => by rw [ht] at h; cases h.2) (fun h => by rw [ht] at h; cases h.2)
        | false =>
          rw [if_pos (show nI (if false = true then 1 else 0) = 0 from rfl)]
          refine drop 4 (by decide) _ (fun w5 f5 S5 C5 => ?_)
          rw [hP_B]
          have sgn : ∀ (a : Nat), a < 14 → tK bt n s1 ≠ 0 → stp bt n lo hi (none, s1, W1, dep1, T1, D1) = stpB bt n false a 4 s1 W1 dep1 (tUp T1 dep1 true) D1 → hP (f207_80_j176 1 (nI a) rec w5) Q := by
            intro a ha hK0 hs5
            unfold f207_80_j176
            refine wait a 4 w5 (by decide) (by omega) S5 _ (fun w6 f6 S6 => ?_)
            have f46 : fr ([97, 98, 99], [(80, 44), (80, 45)]) w4 w6 := fr_then (fr_up f5 (by decide)) f6 (by decide)
            have d6 : wI w6 80 46 = nI dep1 := (fr_rd f46 rfl).trans d4
            rw [hP_gd, d6, hP_let, q_cl (by omega)]
            refine ⟨by rw [q_g (by omega)]; omega, ?_⟩
            have f7 : fr ([99], []) w6 (nS w6 99 dep1 (vp_nar .boolean 1)) := fr_nS fr_refl rfl
            exact go false a 4 _ _ ha hs5 hK0 (fr_then f46 f7 (by decide)) (mS_fr S6 f7 rfl (fun _ => rfl)) (mC_fr (mC_fr C5 f6 rfl (fun _ => rfl)) f7 rfl (fun _ => rfl)) (T5' true w6 (fun d => (fr_rd f6 rfl).trans (fr_rd f5 rfl)))
          refine m_isS (b := 60) (by decide) (tkM_on k4 f5 ⟨rfl, rfl, rfl, rfl, rfl, rfl, rfl, rfl⟩ (fun _ => rfl)) (fun h60 => ?_) (fun n60 => ?_)
          · rw [if_neg (by decide)]
            refine sgn 6 (by decide) (isS_K h60) ?_
            show stpA bt n s1 W1 dep1 T1 D1 = _
            unfold stpA
            rw [if_neg n14, if_neg n13, if_pos ⟨h60, ht⟩]
          · have h61 : isS bt n s1 61 := by rcases hy with h | h; exact absurd h n60; exact h
            rw [if_pos (show nI 0 = 0 from rfl)]
            refine sgn 7 (by decide) (isS_K h61) ?_
            show stpA bt n s1 W1 dep1 T1 D1 = _
            unfold stpA
            rw [if_neg n14, if_neg n13, if_neg (fun h => n60 h.1), if_pos ⟨h61, ht⟩]
      have noword : ∀ v : Int32, ¬ v = 22 → ¬ v = 23 → ¬ isW bt n s1 14 → ¬ isW bt n s1 13 → hP (if v = 22 then (f207_80_j70 1 v rec w4) else (if v = 23 then (f207_80_j70 1 v rec w4) else (nB (f193_80 60 w4) fun v5 w6 => (if v5 = 0 then (nB (f193_80 61 w6) fun v7 w8 => (if v7 = 0 then (f207_80_j201 1 rec w8) else (f207_80_j142 1 rec w8))) else (f207_80_j142 1 rec w6))))) Q := by
        intro v h22 h23 n14 n13
        rw [if_neg h22, if_neg h23, hP_B]
        refine m_isS (b := 60) (by decide) k4 (fun h60 => ?_) (fun n60 => ?_)
        · rw [if_neg (by decide)]
          exact test n14 n13 (.inl h60)
        · rw [if_pos (show nI 0 = 0 from rfl), hP_B]
          refine m_isS (b := 61) (by decide) k4 (fun h61 => ?_) (fun n61 => ?_)
          · rw [if_neg (by decide)]
            exact test n14 n13 (.inr h61)
          · rw [if_pos (show nI 0 = 0 from rfl)]
            exact rest n14 n13 (fun h => n60 h.1) (fun h => n61 h.1)
      refine m_known k4 (fun c hc e => ?_) (fun e => ?_)
      · by_cases c14 : c = 14
        · have hw : isW bt n s1 14 := by rw [isW, e, c14]
          rw [c14, if_pos (show nI (rfI.getD 14 0) = 22 from rfl)]
          unfold f207_80_j70
          rw [if_pos (show nI (rfI.getD 14 0) = 22 from rfl)]
          refine drop 2 (by decide) _ (fun w5 f5 S5 C5 => ?_)
          rw [if_pos (show nI (rfI.getD 14 0) = 22 from rfl)]
          refine word 4 2 (by decide) (by decide) (isW_K hw) ?_ w5 f5 S5 C5
          show stpA bt n s1 W1 dep1 T1 D1 = _
          unfold stpA
          rw [if_pos hw]
        · by_cases c13 : c = 13
          · have hw : isW bt n s1 13 := by rw [isW, e, c13]
            rw [c13, if_neg (show ¬ nI (rfI.getD 13 0) = 22 by decide), if_pos (show nI (rfI.getD 13 0) = 23 from rfl)]
            unfold f207_80_j70
            rw [if_neg (show ¬ nI (rfI.getD 13 0) = 22 by decide)]
            refine drop 1 (by decide) _ (fun w5 f5 S5 C5 => ?_)
            rw [if_neg (show ¬ nI (rfI.getD 13 0) = 22 by decide)]
            refine word 5 1 (by decide) (by decide) (isW_K hw) ?_ w5 f5 S5 C5
            show stpA bt n s1 W1 dep1 T1 D1 = _
            unfold stpA
            rw [if_neg (W_one hw (by decide)), if_pos hw]
          · have hr := rf_2 c hc
            have ne : ∀ i, i < 25 → ¬ rfL.getD i 0 = c → ¬ nI (rfI.getD c 0) = nI i := by
              intro i hi hne h
              rw [q_eq (by omega) (by omega)] at h
              exact hne (by rw [← h]; exact hr.2)
            exact noword _ (ne 22 (by decide) (fun h => c14 h.symm)) (ne 23 (by decide) (fun h => c13 h.symm)) (fun h => c14 (by rw [isW, e] at h; exact Option.some.inj h)) (fun h => c13 (by rw [isW, e] at h; exact Option.some.inj h))
      · exact noword _ (by decide) (by decide) (fun h => by rw [isW, e] at h; cases h) (fun h => by rw [isW, e] at h; cases h)
    · -- it ends here
      obtain ⟨k4, S4, Co4, d4, hdep4, T4, g4, hl4, vlo4, vhi4, v204⟩ := id A4
      have hsn4 := k4.2.1
      simp only [f207_80_b39]
      rw [if_pos trivial]
      unfold f207_80_j340
      rw [hP_B]
      refine m_good1 g4 ?_
      rw [if_neg (by decide), d4]
      by_cases c1 : 1 < dep1
      · rw [if_pos c1] at G4
        rw [if_pos (by rw [q_lit, q_lt (by omega) (by omega)]; exact c1), hP_B]
        refine m_wrong1 g4 k4 ?_
        exact m_endBad (bE_of (by decide) S4 Co4 ⟨by omega, by omega⟩) (fun w5 f5 b5 => bad _ w5 (fr_then (fr_nS (fr_nS f4 rfl) rfl) f5 (by decide)) b5 G4)
      · rw [if_neg c1] at G4
        rw [if_neg (by rw [q_lit, q_lt (by omega) (by omega)]; exact c1), hP_B]
        refine m_drops (k := 0) (by decide) S4 Co4 (by omega) (by omega) (fun w5 f5 S5 C5 => ?_)
        rw [hP_B]
        have dl0 := dr_len 0 W1
        refine m_puts (v := 0) C5 (by rw [List.length_append]; omega) (fun w6 f6 C6 => ?_)
        rw [hP_some]
        have f56 : fr ([97], [(80, 44), (80, 45)]) w4 w6 := fr_then f5 f6 (by decide)
        exact good s1 _ w6 (fr_then f4 f56 (by decide)) (tkM_on k4 f56 ⟨rfl, rfl, rfl, rfl, rfl, rfl, rfl, rfl⟩ (fun _ => rfl)) C6 ((fr_rd f56 rfl).trans g4) ((fr_rd f56 rfl).trans v204) G4
    · simp only [f207_80_b39]
      have fin : hP (f207_80_j340 w4) Q := by
        unfold f207_80_j340
        rw [hP_B]
        refine m_good0 B4.1 B4.2.1 ?_
        rw [if_pos (show nI 0 = 0 from rfl)]
        exact m_endBad B4 (fun w5 f5 b5 => bad _ w5 (fr_then f4 f5 (by decide)) b5 G4)
      by_cases cx : x = 0
      · rw [if_pos cx]; exact fin
      · rw [if_neg cx, hP_B]
        refine m_good0 B4.1 B4.2.1 ?_
        rw [if_pos (show nI 0 = 0 from rfl)]
        exact fin
end MEXPR
