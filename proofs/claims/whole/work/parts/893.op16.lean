/-! ===== OPERATIONS: change, undo ===== -/
/-- two turns of looking changed over -/
def gSwp (g : gS) (a b : Nat) : gS := mUp (mUp (mUp (mUp g 6 a (g 6 b)) 6 b (g 6 a)) 7 a (g 7 b)) 7 b (g 7 a)
theorem gSwp6 (g : gS) (a b i : Nat) : gSwp g a b 6 i = if i = b then g 6 a else if i = a then g 6 b else g 6 i := by simp [gSwp, mUp]
theorem gSwp7 (g : gS) (a b i : Nat) : gSwp g a b 7 i = if i = b then g 7 a else if i = a then g 7 b else g 7 i := by simp [gSwp, mUp]
theorem gSwp5 (g : gS) (a b i : Nat) : gSwp g a b 5 i = g 5 i := by simp [gSwp, mUp]
theorem gSwp0 (g : gS) (a b i : Nat) : gSwp g a b 0 i = g 0 i := by simp [gSwp, mUp]
theorem gSwp_pl (g : gS) (a b : Nat) : gPl g (gSwp g a b) := by
  refine ⟨fun j _ => gSwp0 g a b j, fun x h1 h2 => ?_⟩
  unfold gSwp mUp
  simp only [show ¬ x = 6 by omega, show ¬ x = 7 by omega, reduceIte]
theorem gSwp_ok {g : gS} {a b : Nat} (ho : snOk g g) (ha : a < gLk g) (hb : b < gLk g) : snOk (gSwp g a b) (gSwp g a b) := by
  obtain ⟨q1, q2, q3, q4, q5⟩ := ho
  have hp := gSwp_pl g a b
  unfold snOk
  simp only [gPl_sw hp, gPl_lk hp, gPl_w hp, gPl_h hp, gSwp5, gSwp6, gSwp7, gSwp0]
  refine ⟨q1, fun k hk => ?_, fun k hk => ?_, q4, q5⟩
  · split
    · exact q2 a ha
    · split
      · exact q2 b hb
      · exact q2 k hk
  · split
    · exact q3 a ha
    · split
      · exact q3 b hb
      · exact q3 k hk
theorem gSwp_back {g : gS} {a b : Nat} (hab : ¬ a = b) : snEq g g (unE 3 a b (gSwp g a b)) := by
  have e : unE 3 a b (gSwp g a b) = gSwp (gSwp g a b) a b := rfl
  rw [e]
  refine ⟨fun _ _ => by rw [gSwp5, gSwp5], fun k _ => ?_, fun k _ => ?_, by rw [gSwp0, gSwp0], by rw [gSwp0, gSwp0]⟩
  · rw [gSwp6]
    by_cases h1 : k = b
    · rw [if_pos h1, gSwp6, if_neg hab, if_pos rfl, h1]
    · rw [if_neg h1]
      by_cases h2 : k = a
      · rw [if_pos h2, gSwp6, if_pos rfl, h2]
      · rw [if_neg h2, gSwp6, if_neg h1, if_neg h2]
  · rw [gSwp7]
    by_cases h1 : k = b
    · rw [if_pos h1, gSwp7, if_neg hab, if_pos rfl, h1]
    · rw [if_neg h1]
      by_cases h2 : k = a
      · rw [if_pos h2, gSwp7, if_pos rfl, h2]
      · rw [if_neg h2, gSwp7, if_neg h1, if_neg h2]
theorem c_changeOver {a b : Nat} {w : mW} {Q : Unit → mW → Prop} (ha : a < 12) (hb : b < 12) (hab : ¬ a = b) (hq : ∀ w', fr ([36, 37], []) w w' → (∀ i, wI w' 36 i = if i = b then wI w 36 a else if i = a then wI w 36 b else wI w 36 i) → (∀ i, wI w' 37 i = if i = b then wI w 37 a else if i = a then wI w 37 b else wI w 37 i) → Q () w') : hP (f5_34 (nI a) (nI b) w) Q := by
  unfold f5_34
  simp (disch := first | omega | (simp only [fIn, fR, fC, Nat.reduceEqDiff, decide_false, decide_true, Bool.false_or, Bool.or_false, Bool.false_and, Bool.and_false, Bool.or_self, Bool.true_and, Bool.true_or, Bool.and_true, Bool.or_true, Bool.and_self]; done) | fail) only [hP_some, hP_let, hP_gd, hP_B, hP_if, reduceIte, q_lit, nI_add, pk_mul, q_lt, q_le, q_eq, q_cl, q_g, Bool.not_eq_true', decide_eq_false_iff_not, decide_eq_true_eq, q_div, q_rm, q_sub, q_m1, Nat.zero_add, Nat.add_zero]
  refine ⟨ha, hb, ha, hb, ha, hb, ha, hb, ?_⟩
  refine hq _ (fr_nS (fr_nS (fr_nS (fr_nS fr_refl rfl) rfl) rfl) rfl) (fun i => ?_) (fun i => ?_)
  · rw [rd_nSa (by decide), rd_nSa (by decide), rd_nSi]
    by_cases h1 : i = b
    · rw [if_pos h1, if_pos h1]
    · rw [if_neg h1, if_neg h1, rd_nSi]
  · rw [rd_nSi]
    by_cases h1 : i = b
    · rw [if_pos h1, if_pos h1, rd_nSa (by decide), rd_nSa (by decide)]
    · rw [if_neg h1, if_neg h1, rd_nSi]
      by_cases h2 : i = a
      · rw [if_pos h2, if_pos h2, rd_nSa (by decide), rd_nSa (by decide)]
      · rw [if_neg h2, if_neg h2, rd_nSa (by decide), rd_nSa (by decide)]
theorem m_changes {a b : Nat} {w : mW} {Q : Unit → mW → Prop} (ha : a < 12) (hb : b < 12) (hab : ¬ a = b) (hq : ∀ w', fr ([100], []) w w' → (∀ i, i < 12 → wI w' 100 i = wI w 100 i) → (∀ o i, o = 12 ∨ o = 24 → i < 12 → wI w' 100 (o + i) = if i = b then wI w 100 (o + a) else if i = a then wI w 100 (o + b) else wI w 100 (o + i)) → wI w' 100 36 = wI w 100 36 → wI w' 100 37 = wI w 100 37 → Q () w') : hP (f252_80 (nI a) (nI b) w) Q := by
  unfold f252_80
  have st : ∀ (rec : Int32 × mW → Option (Unit × mW)) (o : Nat) (w1 : mW), o = 12 ∨ o = 24 → hP (rec (nI (o + 12), nS (nS w1 100 (o + a) (wI w1 100 (o + b))) 100 (o + b) (wI w1 100 (o + a)))) Q → hP (f252_80_b3 (nI a) (nI b) rec (nI o, w1)) Q := by
    intro rec o w1 ho hr
    simp only [f252_80_b3]
    simp (disch := first | omega | (simp only [fIn, fR, fC, Nat.reduceEqDiff, decide_false, decide_true, Bool.false_or, Bool.or_false, Bool.false_and, Bool.and_false, Bool.or_self, Bool.true_and, Bool.true_or, Bool.and_true, Bool.or_true, Bool.and_self]; done) | fail) only [hP_some, hP_let, hP_gd, hP_B, hP_if, reduceIte, q_lit, nI_add, pk_mul, q_lt, q_le, q_eq, q_cl, q_g, Bool.not_eq_true', decide_eq_false_iff_not, decide_eq_true_eq, q_div, q_rm, q_sub, q_m1, Nat.zero_add, Nat.add_zero, show ¬ 24 < o by omega]
    exact ⟨by omega, by omega, by omega, by omega, hr⟩
  refine hP_loopF (fun n s => (n = 2 ∧ s = (nI 12, w)) ∨ (n = 1 ∧ s = (nI 24, nS (nS w 100 (12 + a) (wI w 100 (12 + b))) 100 (12 + b) (wI w 100 (12 + a)))) ∨ (n = 0 ∧ ∃ w1, w1 = nS (nS w 100 (12 + a) (wI w 100 (12 + b))) 100 (12 + b) (wI w 100 (12 + a)) ∧ s = (nI 36, nS (nS w1 100 (24 + a) (wI w1 100 (24 + b))) 100 (24 + b) (wI w1 100 (24 + a))))) 2 (by decide) (.inl ⟨rfl, rfl⟩) ?_
  rintro n s rec hs ih
  rcases hs with ⟨rfl, rfl⟩ | ⟨rfl, rfl⟩ | ⟨rfl, w1, rfl, rfl⟩
  · exact st rec 12 w (.inl rfl) (ih 1 _ (by decide) (.inr (.inl ⟨rfl, rfl⟩)))
  · exact st rec 24 _ (.inr rfl) (ih 0 _ (by decide) (.inr (.inr ⟨rfl, _, rfl, rfl⟩)))
  · simp only [f252_80_b3]
    simp (disch := first | omega | (simp only [fIn, fR, fC, Nat.reduceEqDiff, decide_false, decide_true, Bool.false_or, Bool.or_false, Bool.false_and, Bool.and_false, Bool.or_self, Bool.true_and, Bool.true_or, Bool.and_true, Bool.or_true, Bool.and_self]; done) | fail) only [hP_some, hP_let, hP_gd, hP_B, hP_if, reduceIte, q_lit, nI_add, pk_mul, q_lt, q_le, q_eq, q_cl, q_g, Bool.not_eq_true', decide_eq_false_iff_not, decide_eq_true_eq, q_div, q_rm, q_sub, q_m1, Nat.zero_add, Nat.add_zero, Nat.reduceLT]
    refine hq _ (fr_nS (fr_nS (fr_nS (fr_nS fr_refl rfl) rfl) rfl) rfl) (fun i hi => ?_) (fun o i ho hi => ?_) ?_ ?_
    · rw [rd_nSj (by omega), rd_nSj (by omega), rd_nSj (by omega), rd_nSj (by omega)]
    · have e1 : wI (nS (nS w 100 (12 + a) (wI w 100 (12 + b))) 100 (12 + b) (wI w 100 (12 + a))) 100 (24 + a) = wI w 100 (24 + a) := by rw [rd_nSj (by omega), rd_nSj (by omega)]
      have e2 : wI (nS (nS w 100 (12 + a) (wI w 100 (12 + b))) 100 (12 + b) (wI w 100 (12 + a))) 100 (24 + b) = wI w 100 (24 + b) := by rw [rd_nSj (by omega), rd_nSj (by omega)]
      rw [e1, e2]
      rcases ho with rfl | rfl
      · rw [rd_nSj (by omega), rd_nSj (by omega)]
        by_cases h1 : i = b
        · rw [if_pos h1, h1, rd_nS]
        · rw [if_neg h1, rd_nSj (by omega)]
          by_cases h2 : i = a
          · rw [if_pos h2, h2, rd_nS]
          · rw [if_neg h2, rd_nSj (by omega)]
      · by_cases h1 : i = b
        · rw [if_pos h1, h1, rd_nS]
        · rw [if_neg h1, rd_nSj (by omega)]
          by_cases h2 : i = a
          · rw [if_pos h2, h2, rd_nS]
          · rw [if_neg h2, rd_nSj (by omega), rd_nSj (by omega), rd_nSj (by omega)]
    · rw [rd_nSj (by omega), rd_nSj (by omega), rd_nSj (by omega), rd_nSj (by omega)]
    · rw [rd_nSj (by omega), rd_nSj (by omega), rd_nSj (by omega), rd_nSj (by omega)]
theorem op_change (x1 x2 : Int32) : opA Inv (f138_0 x1 x2) (f253_80 x1 x2) := by
  intro w hI
  have no : hP (f216_80 1 (nS (nS w 0 4 (wI w 0 4 + 1)) 80 0 0)) (fun v w2 => hP (if 0 < v then some ((1 : Int32), w2) else some ((0 : Int32), w2)) (fun v2 w2 => (0 : Int32) = v2 ∧ Inv w2 ∧ sK w w2 ∧ cT 1 w w2)) := by
    refine hP_mono (refu1 hI) (fun v w2 h2 => ?_)
    obtain ⟨rfl, h3⟩ := h2
    rw [if_neg (by decide), hP_some]
    exact ⟨rfl, h3⟩
  obtain ⟨g, r, h, D, H, hX⟩ := hI
  obtain ⟨hp, hh, hD, hH, hi, ht, hm, hrw⟩ := id hX
  obtain ⟨hM, hMr, hC, hCr, ho, hk9, ⟨hl1, hl2⟩, hcm, hti⟩ := id hp
  have hsw := gOk_sw ho
  have hlk := gOk_lk ho
  have s1 : sK w (nS w 0 4 (wI w 0 4 + 1)) := sK_fr (p := ([], [(0, 4)])) (fr_nS fr_refl rfl) (by decide)
  have e4 : wI (nS (nS w 0 4 (wI w 0 4 + 1)) 80 0 0) 80 4 = nI (gLk g) := by rw [rd_nSj (by decide), rd_nSa (by decide), rM_lk hM]
  have L : ∀ x : Int32, ¬ inR x (gLk g) → ∀ Q : Int32 → mW → Prop, Q 0 w → hP (f47_24 x w) Q := by
    intro x hx Q hq
    unfold f47_24
    rcases inR_no0 (by omega) hx with c3 | ⟨c3, c4, -⟩
    · rw [if_pos c3, hP_some]; exact hq
    · rw [if_neg c3, rC_lk hC, if_neg c4, hP_some]; exact hq
  have Y : ∀ a, a < gLk g → ∀ Q : Int32 → mW → Prop, Q 1 w → hP (f47_24 (nI a) w) Q := by
    intro a ha Q hq
    unfold f47_24
    simp (disch := first | omega | (simp only [fIn, fR, fC, Nat.reduceEqDiff, decide_false, decide_true, Bool.false_or, Bool.or_false, Bool.false_and, Bool.and_false, Bool.or_self, Bool.true_and, Bool.true_or, Bool.and_true, Bool.or_true, Bool.and_self]; done) | fail) only [hP_some, hP_let, hP_gd, hP_B, hP_if, reduceIte, q_lit, nI_add, pk_mul, q_lt, q_le, q_eq, q_cl, q_g, Bool.not_eq_true', decide_eq_false_iff_not, decide_eq_true_eq, q_div, q_rm, q_sub, q_m1, Nat.zero_add, Nat.add_zero, Nat.not_lt_zero, rC_lk hC, ha]
    exact hq
  unfold f138_0
  rw [hP_B]
  by_cases cA : inR x1 (gLk g)
  · obtain ⟨a, ha, rfl⟩ := cA
    have a0 : ¬ nI a < 0 := by rw [q_lit, q_lt (by omega) (by omega)]; omega
    have a1 : nI a < nI (gLk g) := by rw [q_lt (by omega) (by omega)]; exact ha
    refine Y a ha _ ?_
    rw [if_neg (by decide), hP_B]
    by_cases cB : inR x2 (gLk g)
    · obtain ⟨b, hb, rfl⟩ := cB
      have b0 : ¬ nI b < 0 := by rw [q_lit, q_lt (by omega) (by omega)]; omega
      have b1 : nI b < nI (gLk g) := by rw [q_lt (by omega) (by omega)]; exact hb
      refine Y b hb _ ?_
      rw [if_neg (by decide)]
      by_cases hab : a = b
      · subst hab
        rw [if_pos rfl, hP_let, hP_some]
        refine ⟨s1, ?_⟩
        unfold f253_80
        rw [hP_let, if_neg a0, if_neg a0, e4, if_pos a1, if_pos a1, if_pos rfl, hP_B]
        exact no
      · have ne : ¬ nI a = nI b := by rw [q_eq (by omega) (by omega)]; exact hab
        rw [if_neg ne, hP_B]
        refine c_note (g := g) (kd := 3) (wh := a) (was := b) hh.2.1 hh.2.2.1 (fun w' f1 c1 c2 c3 => ?_)
        rw [hP_B]
        refine c_changeOver (by omega) (by omega) hab (fun w3 fc k6 k7 => ?_)
        rw [hP_some]
        have f13 : fr ([38, 36, 37], [(34, 5)]) w w3 := fr_then (fr_up f1 (by decide)) fc (by decide)
        refine ⟨sK_fr f13 (by decide), ?_⟩
        have f2 : fr ([35, 36, 37], [(34, 1), (34, 4), (80, 0), (116, 0)]) w' (nS w3 80 0 0) := fr_nS (fr_up fc (by decide)) rfl
        have fA : fr ([38, 36, 37], [(34, 5), (80, 0)]) w (nS w3 80 0 0) := fr_nS (fr_up f13 (by decide)) rfl
        have hMu := rM_fr (by decide) fA hM
        unfold f253_80
        rw [hP_let, if_neg a0, if_neg b0, rM_lk hMu, if_pos a1, if_pos b1, if_neg ne, hP_B]
        refine m_keeps (g := g) ((fr_rd fA rfl).trans hh.1) hh.2.2.1 (fun w2 f3 m1 m2 m3 => ?_)
        rw [hP_B]
        refine m_changes (by omega) (by omega) hab (fun W f4 z1 z2 z3 z4 => ?_)
        rw [hP_some]
        refine ⟨rfl, ?_⟩
        have hM2 : rM g w2 := rM_fr (by decide) f3 hMu
        have fz : fr ([100, 102, 38, 36, 37], [(80, 0), (80, 63), (34, 5)]) w W := fr_then (fr_then (fr_up fA (by decide)) f3 (by decide)) f4 (by decide)
        have fy : fr ([100, 102], [(80, 0), (80, 63)]) w3 W := fr_then (fr_then (fr_nS fr_refl rfl) f3 (by decide)) f4 (by decide)
        refine act_end hX (g' := gSwp g a b) (kd := 3) (wh := a) (was := b) (gSwp_pl g a b) (gSwp_ok (snOk_g ho hl1) ha hb) (.inr (.inr (.inr (.inl ⟨rfl, ha, hb, hab⟩)))) (gSwp_back hab) f1 c1 c2 c3 f2 f3 m1 m2 m3 f4 ?_ ?_
        · obtain ⟨q1, q2, q3, q4, q5⟩ := snM_rM hM2
          have hpp := gSwp_pl g a b
          unfold snM
          simp only [gPl_sw hpp, gPl_lk hpp, gSwp5, gSwp6, gSwp7, gSwp0]
          refine ⟨fun i hi => ?_, fun i hi => ?_, fun i hi => ?_, ?_, ?_⟩
          · rw [Nat.zero_add, z1 i (by omega)]; have := q1 i hi; rw [Nat.zero_add] at this; exact this
          · show wI W 100 (12 + i) = _
            rw [z2 12 i (.inl rfl) (by omega), rM_lat hM2 a ha, rM_lat hM2 b hb, rM_lat hM2 i hi]
            split
            · rfl
            · split <;> rfl
          · show wI W 100 (24 + i) = _
            rw [z2 24 i (.inr rfl) (by omega), rM_las hM2 a ha, rM_las hM2 b hb, rM_las hM2 i hi]
            split
            · rfl
            · split <;> rfl
          · show wI W 100 36 = _
            rw [z3]; exact q4
          · show wI W 100 37 = _
            rw [z4]; exact q5
        · obtain ⟨q1, q2, q3, q4, q5⟩ := snC_rC hC
          have hpp := gSwp_pl g a b
          unfold snC
          simp only [gPl_sw hpp, gPl_lk hpp, gSwp5, gSwp6, gSwp7, gSwp0]
          refine ⟨fun i hi => ?_, fun i hi => ?_, fun i hi => ?_, ?_, ?_⟩
          · rw [fr_rd fz rfl]; exact q1 i hi
          · rw [fr_rd fy rfl, k6, fr_rd f1 rfl, fr_rd f1 rfl, fr_rd f1 rfl, q2 a ha, q2 b hb, q2 i hi]
            split
            · rfl
            · split <;> rfl
          · rw [fr_rd fy rfl, k7, fr_rd f1 rfl, fr_rd f1 rfl, fr_rd f1 rfl, q3 a ha, q3 b hb, q3 i hi]
            split
            · rfl
            · split <;> rfl
          · rw [fr_rd fz rfl]; exact q4
          · rw [fr_rd fz rfl]; exact q5
    · refine L x2 cB _ ?_
      rw [if_pos rfl, hP_let, hP_some]
      refine ⟨s1, ?_⟩
      unfold f253_80
      rw [hP_let, if_neg a0]
      rcases inR_no0 (by omega) cB with c3 | ⟨c3, c4, -⟩
      · rw [if_pos c3, hP_B]
        exact no
      · rw [if_neg c3, e4, if_pos a1, if_neg c4, hP_B]
        exact no
  · refine L x1 cA _ ?_
    rw [if_pos rfl, hP_let, hP_some]
    refine ⟨s1, ?_⟩
    unfold f253_80
    rw [hP_let]
    rcases inR_no0 (by omega) cA with c3 | ⟨c3, c4, -⟩
    · rw [if_pos c3, hP_B]
      exact no
    · rw [if_neg c3]
      by_cases c5 : x2 < 0
      · rw [if_pos c5, hP_B]
        exact no
      · rw [if_neg c5, e4, if_neg c4, hP_B]
        exact no
