/-! ===== LINES: the reference, numbers, cells, what is told once ===== -/
section MSTEP
variable {bt : Nat → Nat} {n : Nat} {w : mW}
/-- where the second number of a cell stands, not yet passed -/
def spX (bt : Nat → Nat) (n : Nat) (g : gS) (s : Nat) : pRs Nat := pThen (nmR bt n s 0 (gW g - 1)) fun x s1 => pThen (nmR bt n s1 0 (gH g - 1)) fun y _ => .inr (gW g * y + x, s1)
theorem spR_X (g : gS) (told : Nat → Bool) (s : Nat) : spR bt n g told s = pThen (spX bt n g s) fun c s1 => if told c = true then .inl (4, s1) else .inr (c, nx bt n s1) := by
  unfold spR spX
  cases h1 : nmR bt n s 0 (gW g - 1) with
  | inl f => rfl
  | inr x =>
    obtain ⟨vx, s1⟩ := x
    cases h2 : nmR bt n s1 0 (gH g - 1) with
    | inl f => simp only [pThen, h2]
    | inr y =>
      obtain ⟨vy, s2⟩ := y
      have : s2 = nx bt n s1 := by
        unfold nmR at h2
        split at h2
        · split at h2
          · cases h2; rfl
          · cases h2
        · cases h2
      simp only [pThen, h2, this]
theorem bF_of {s k : Nat} (hk : 1 ≤ k ∧ k ≤ 5) : bF (k, s) (nS (nS w 80 19 (nI k)) 80 20 (nI s)) := ⟨(rd_nSj (by decide)).trans rd_nS, hk, rd_nS⟩
theorem bF_fr {p : fP} {f : Nat × Nat} {w' : mW} (h : bF f w) (hf : fr p w w') (h1 : fIn p 80 19 = false) (h2 : fIn p 80 20 = false) : bF f w' := ⟨(fr_rd hf h1).trans h.1, h.2.1, (fr_rd hf h2).trans h.2.2⟩
abbrev pMw : fP := ([], [(80, 19), (80, 20), (80, 23), (80, 24), (80, 25), (80, 26), (80, 27), (80, 28), (80, 29)])
theorem m_here {Q : Int32 → mW → Prop} {s a b : Nat} (hb : b ≤ 9999) (ha : a ≤ 9999) (hk : tkM bt n s w) (hg : wI w 80 19 = nI 0)
    (h0 : ∀ f w', nmR bt n s a b = .inl f → fr pMw w w' → bF f w' → Q (nI 0) w')
    (h1 : ∀ v, nmR bt n s a b = .inr (v, nx bt n s) → wI w 80 27 = nI v → Q (nI 1) w) : hP (f195_80 (nI a) (nI b) w) Q := by
  have hK := tK_le bt n s
  have hn := hk.1.2.1
  have hE := tE_le bt n hk.2.1
  have wr : ∀ k, (1 ≤ k ∧ k ≤ 5) → nmR bt n s a b = .inl (k, s) → hP (nB (f191_80 (nI k) w) fun v3 w4 => (nB (f192_80 w4) fun v5 w6 => (nGd (nB01 v5) (some (v5, w6))))) Q := by
    intro k hk5 e
    rw [hP_B]
    refine m_wrong1 hg hk ?_
    have B := bF_of (w := w) (s := s) hk5
    rw [hP_B]
    refine m_good0 B.1 B.2.1 ?_
    rw [hP_gd, hP_some]
    exact ⟨by decide, h0 _ _ e (fr_nS (fr_nS fr_refl rfl) rfl) B⟩
  unfold f195_80
  rw [hP_B]
  refine m_good1 hg ?_
  rw [if_neg (by decide), hk.2.2.2.1]
  by_cases c1 : tK bt n s = 2
  · rw [if_pos (by rw [c1]; rfl), hk.2.2.2.2.2.1]
    by_cases c4 : tE bt n s - s ≤ 4
    · have h99 := tV_lt c1 hk.2.1 c4
      have v27 : wI w 80 27 = nI (dv bt s (tE bt n s - s)) := by rw [hk.2.2.2.2.2.2.1 c1, Nat.min_eq_right c4]
      rw [if_neg (by rw [q_lit, q_lt (by omega) (by omega)]; omega), v27]
      by_cases c2 : dv bt s (tE bt n s - s) < a
      · rw [if_pos (by rw [q_lt (by omega) (by omega)]; exact c2)]
        exact wr 2 (by decide) (by unfold nmR; rw [if_pos c1, if_neg (fun h => by omega)])
      · rw [if_neg (by rw [q_lt (by omega) (by omega)]; exact c2)]
        by_cases c3 : b < dv bt s (tE bt n s - s)
        · rw [if_pos (by rw [q_lt (by omega) (by omega)]; exact c3)]
          exact wr 2 (by decide) (by unfold nmR; rw [if_pos c1, if_neg (fun h => by omega)])
        · rw [if_neg (by rw [q_lt (by omega) (by omega)]; exact c3), hP_B]
          refine m_good1 hg ?_
          rw [hP_gd, hP_some]
          exact ⟨by decide, h1 _ (by unfold nmR; rw [if_pos c1, if_pos ⟨c4, by omega, by omega⟩]) v27⟩
    · rw [if_pos (by rw [q_lit, q_lt (by omega) (by omega)]; omega)]
      exact wr 2 (by decide) (by unfold nmR; rw [if_pos c1, if_neg (fun h => c4 h.1)])
  · rw [if_neg (by rw [q_lit, q_eq (by omega) (by omega)]; exact c1)]
    exact wr 1 (by decide) (by unfold nmR; rw [if_neg c1])
theorem m_hereB {Q : Int32 → mW → Prop} {f : Nat × Nat} {x y : Int32} (hb : bF f w) (hq : Q (nI 0) w) : hP (f195_80 x y w) Q := by
  unfold f195_80
  rw [hP_B]
  refine m_good0 hb.1 hb.2.1 ?_
  rw [if_pos (show nI 0 = 0 from rfl), hP_some]
  exact hq
theorem m_nm {Q : Int32 → mW → Prop} {s a b : Nat} (hb : b ≤ 9999) (ha : a ≤ 9999) (hk : tkM bt n s w) (hg : wI w 80 19 = nI 0)
    (h0 : ∀ f w', nmR bt n s a b = .inl f → fr pMw w w' → bF f w' → Q (nI 0) w')
    (h1 : ∀ v s' w', nmR bt n s a b = .inr (v, s') → fr pM w w' → tkM bt n s' w' → Q (nI v) w') : hP (f196_80 (nI a) (nI b) w) Q := by
  unfold f196_80
  rw [hP_B]
  refine m_here hb ha hk hg (fun f w' e f' b' => ?_) (fun v e hv => ?_)
  · rw [if_pos (show nI 0 = 0 from rfl), hP_B]
    refine m_good0 b'.1 b'.2.1 ?_
    rw [if_pos (show nI 0 = 0 from rfl), hP_some]
    exact h0 f w' e f' b'
  · rw [if_neg (by decide), hP_let, hP_B]
    refine m_good1 hg ?_
    rw [if_neg (by decide), hP_B, hv]
    exact m_on hk (fun w' f' k' => by rw [hP_some]; exact h1 v _ w' e f' k')
theorem m_nmB {Q : Int32 → mW → Prop} {f : Nat × Nat} {x y : Int32} (hb : bF f w) (hq : Q (nI 0) w) : hP (f196_80 x y w) Q := by
  unfold f196_80
  rw [hP_B]
  refine m_hereB hb ?_
  rw [if_pos (show nI 0 = 0 from rfl), hP_B]
  refine m_good0 hb.1 hb.2.1 ?_
  rw [if_pos (show nI 0 = 0 from rfl), hP_some]
  exact hq
theorem m_cellH {Q : Int32 → mW → Prop} {s : Nat} {g : gS} (ho : gOk g) (hk : tkM bt n s w) (hg : wI w 80 19 = nI 0) (h3 : wI w 80 30 = nI (gW g)) (h4 : wI w 80 31 = nI (gH g))
    (h0 : ∀ f w', spX bt n g s = .inl f → fr pMw w w' → bF f w' → Q (nI 0) w')
    (h1 : ∀ c s1 w', spX bt n g s = .inr (c, s1) → c < 40 → s < s1 → tK bt n s1 ≠ 0 → fr pM w w' → tkM bt n s1 w' → Q (nI c) w') : hP (f209_80 w) Q := by
  have hw := gOk_wd ho
  have hh := gOk_hi ho
  have hn40 := gOk_n ho
  have e1 : nI (gW g) - 1 = nI (gW g - 1) := q_sub (a := gW g) (b := 1) hw.1
  have e2 : nI (gH g) - 1 = nI (gH g - 1) := q_sub (a := gH g) (b := 1) hh.1
  unfold f209_80
  rw [hP_B, h3, e1]
  refine m_nm (a := 0) (b := gW g - 1) (by omega) (by decide) hk hg (fun f w1 r1 f1 b1 => ?_) (fun x s1 w1 r1 f1 k1 => ?_)
  · rw [hP_B]
    refine m_hereB b1 ?_
    rw [if_pos (show nI 0 = 0 from rfl), hP_some]
    exact h0 f w1 (pThen_n r1) f1 b1
  · obtain ⟨a1, a2, a3, a4, a5⟩ := nmR_ok r1 hk.2.1
    have hg1 : wI w1 80 19 = nI 0 := (fr_rd f1 rfl).trans hg
    rw [hP_B, (fr_rd f1 rfl).trans h4, e2]
    refine m_here (a := 0) (b := gH g - 1) (by omega) (by decide) k1 hg1 (fun f w2 r2 f2 b2 => ?_) (fun y r2 hv => ?_)
    · rw [if_pos (show nI 0 = 0 from rfl), hP_some]
      exact h0 f w2 ((pThen_y r1).trans (pThen_n r2)) (fr_then (fr_up f1 (by decide)) f2 (by decide)) b2
    · obtain ⟨b1, b2, b3, b4, b5⟩ := nmR_ok r2 k1.2.1
      have hc : gW g * y + x < 40 := by
        have : gW g * (y + 1) ≤ gW g * gH g := Nat.mul_le_mul_left _ (by omega)
        rw [Nat.mul_succ] at this
        omega
      rw [if_neg (by decide), hP_some, (fr_rd f1 rfl).trans h3, hv, pk_mul, nI_add]
      refine h1 _ _ w1 ((pThen_y r1).trans (pThen_y r2)) hc a4 (fun hz => ?_) f1 k1
      have := (tK_0 bt n s1).1 hz
      have := nx_le bt n k1.2.1
      omega
theorem m_cellHB {Q : Int32 → mW → Prop} {f : Nat × Nat} (hb : bF f w) (hq : Q (nI 0) w) : hP (f209_80 w) Q := by
  unfold f209_80
  rw [hP_B]
  refine m_nmB hb ?_
  rw [hP_B]
  refine m_hereB hb ?_
  rw [if_pos (show nI 0 = 0 from rfl), hP_some]
  exact hq
theorem m_cellN {Q : Int32 → mW → Prop} {s : Nat} {g : gS} (ho : gOk g) (hk : tkM bt n s w) (hg : wI w 80 19 = nI 0) (h3 : wI w 80 30 = nI (gW g)) (h4 : wI w 80 31 = nI (gH g))
    (h0 : ∀ f w', spR bt n g noT s = .inl f → fr pMw w w' → bF f w' → Q (nI 0) w')
    (h1 : ∀ c s' w', spR bt n g noT s = .inr (c, s') → fr pM w w' → tkM bt n s' w' → Q (nI c) w') : hP (f210_80 w) Q := by
  unfold f210_80
  rw [hP_B]
  refine m_cellH ho hk hg h3 h4 (fun f w1 r1 f1 b1 => ?_) (fun c s1 w1 r1 hc hs hK f1 k1 => ?_)
  · rw [hP_B]
    refine m_good0 b1.1 b1.2.1 ?_
    rw [if_pos (show nI 0 = 0 from rfl), hP_some]
    exact h0 f w1 (by rw [spR_X]; exact pThen_n r1) f1 b1
  · rw [hP_B]
    refine m_good1 ((fr_rd f1 rfl).trans hg) ?_
    rw [if_neg (by decide), hP_B]
    refine m_on k1 (fun w2 f2 k2 => ?_)
    rw [hP_some]
    exact h1 c _ w2 (by rw [spR_X]; exact pThen_y r1) (fr_then f1 f2 (by decide)) k2
/-- the end of a line -/
theorem m_semi {Q : Unit → mW → Prop} {s : Nat} (hk : tkM bt n s w) (hg : wI w 80 19 = nI 0) (h1 : isS bt n s 59 → ∀ w', fr pM w w' → tkM bt n (nx bt n s) w' → Q () w') (h0 : ¬ isS bt n s 59 → Q () (nS (nS w 80 19 (nI 1)) 80 20 (nI s))) : hP (nB (f193_80 59 w) fun v5 w6 => (nB (f194_80 v5 w6) fun _ w8 => (some ((), w8)))) Q := by
  rw [hP_B]
  refine m_isS (b := 59) (by decide) hk (fun hy => ?_) (fun hno => ?_)
  · rw [hP_B]
    unfold f194_80
    rw [hP_B]
    refine m_good1 hg ?_
    rw [if_neg (by decide), if_neg (by decide), hP_B]
    refine m_on hk (fun w' f' k' => ?_)
    rw [hP_some, hP_some]
    exact h1 hy w' f' k'
  · rw [hP_B]
    unfold f194_80
    rw [hP_B]
    refine m_good1 hg ?_
    rw [if_neg (by decide), if_pos (show nI 0 = 0 from rfl), hP_B]
    refine m_wrong1 hg hk ?_
    rw [hP_some, hP_some]
    exact h0 hno
theorem m_semiB {Q : Unit → mW → Prop} {f : Nat × Nat} (hb : bF f w) (hq : Q () w) : hP (nB (f193_80 59 w) fun v5 w6 => (nB (f194_80 v5 w6) fun _ w8 => (some ((), w8)))) Q := by
  have fin : ∀ v : Int32, hP (nB (f194_80 v w) fun _ w8 => (some ((), w8))) Q := by
    intro v
    rw [hP_B]
    unfold f194_80
    rw [hP_B]
    refine m_good0 hb.1 hb.2.1 ?_
    rw [if_pos (show nI 0 = 0 from rfl), hP_some, hP_some]
    exact hq
  rw [hP_B]
  unfold f193_80
  split
  · split
    · rw [hP_some]; exact fin _
    · rw [hP_some]; exact fin _
  · rw [hP_some]; exact fin _
theorem m_once {Q : Int32 → mW → Prop} {s i : Nat} {on : Nat → Bool} (hi : i < 5) (hk : tkM bt n s w) (hg : wI w 80 19 = nI 0) (hon : onM on w)
    (h0 : ∀ f w', onR bt n on i s = .inl f → fr pMm w w' → bF f w' → Q (nI 0) w')
    (h1 : ∀ on' s' w', onR bt n on i s = .inr (on', s') → fr ([], [(80, 41), (80, 23), (80, 24), (80, 25), (80, 26), (80, 27), (80, 28), (80, 29)]) w w' → tkM bt n s' w' → onM on' w' → Q (nI 1) w') : hP (f208_80 (nI (rIx.getD i 0)) w) Q := by
  obtain ⟨m, m1, m2, m3⟩ := hon
  have hx : ∀ i : Fin 5, rIx.getD i.1 0 ≤ 20 := by decide
  have hx1 := hx ⟨i, hi⟩
  have hx1 : rIx.getD i 0 ≤ 20 := hx1
  have inj : ∀ i : Fin 5, ∀ j : Fin 5, rIx.getD i.1 0 = rIx.getD j.1 0 → i.1 = j.1 := by decide
  have hp : 2 ^ rIx.getD i 0 ≤ 2 ^ 20 := Nat.pow_le_pow_right (by decide) hx1
  have hsh : nShl 1 (nI (rIx.getD i 0)) = nI (2 ^ rIx.getD i 0) := by
    have e := q_shl (a := 1) (k := rIx.getD i 0) (by omega) (by rw [Nat.one_mul]; omega)
    rw [Nat.one_mul] at e
    exact e
  have hb := Nat.mod_lt (m / 2 ^ rIx.getD i 0) (show 0 < 2 by decide)
  unfold f208_80
  rw [m1, q_bit1 (by omega) (by omega)]
  have tb := tb_mod m (rIx.getD i 0)
  rw [m3 i hi] at tb
  cases ho : on i with
  | true =>
    rw [ho] at tb
    have t1 : m / 2 ^ rIx.getD i 0 % 2 = 1 := by rw [← tb]
    rw [t1, if_pos (show nI 1 = 1 from rfl), hP_B]
    refine m_wrong1 hg hk ?_
    have B := bF_of (w := w) (s := s) (k := 5) (by decide)
    unfold f208_80_j17
    have m19 : wI (nS (nS w 80 19 5) 80 20 (nI s)) 80 41 = nI m := by rw [rd_nSj (by decide), rd_nSj (by decide)]; exact m1
    rw [hP_let, m19, hsh, q_orN (by omega) (by omega), hP_B]
    have fr1 : fr ([], [(80, 41)]) (nS (nS w 80 19 (nI 5)) 80 20 (nI s)) (nS (nS (nS w 80 19 (nI 5)) 80 20 (nI s)) 80 41 (nI (m ||| 2 ^ rIx.getD i 0))) := fr_nS fr_refl rfl
    have B2 : bF (5, s) (nS (nS (nS w 80 19 5) 80 20 (nI s)) 80 41 (nI (m ||| 2 ^ rIx.getD i 0))) := bF_fr B fr1 rfl rfl
    refine m_good0 B2.1 B2.2.1 ?_
    rw [if_pos (show nI 0 = 0 from rfl), hP_B]
    refine m_good0 B2.1 B2.2.1 ?_
    rw [hP_gd, hP_some]
    exact ⟨by decide, h0 (5, s) _ (by unfold onR; rw [if_pos ho]) (fr_nS (fr_nS (fr_nS fr_refl rfl) rfl) rfl) B2⟩
  | false =>
    rw [ho] at tb
    have t0 : ¬ m / 2 ^ rIx.getD i 0 % 2 = 1 := by rw [← tb]; exact fun h => by cases h
    rw [if_neg (by rw [q_lit, q_eq (by omega) (by omega)]; exact t0)]
    unfold f208_80_j17
    rw [hP_let, m1, hsh, q_orN (by omega) (by omega), hP_B]
    have f1 : fr ([], [(80, 41)]) w (nS w 80 41 (nI (m ||| 2 ^ rIx.getD i 0))) := fr_nS fr_refl rfl
    have hg1 : wI (nS w 80 41 (nI (m ||| 2 ^ rIx.getD i 0))) 80 19 = nI 0 := (fr_rd f1 rfl).trans hg
    refine m_good1 hg1 ?_
    rw [if_neg (by decide), hP_B]
    refine m_on (tkM_on hk f1 ⟨rfl, rfl, rfl, rfl, rfl, rfl, rfl, rfl⟩ (fun _ => rfl)) (fun w2 f2 k2 => ?_)
    rw [hP_B]
    refine m_good1 ((fr_rd f2 rfl).trans hg1) ?_
    rw [hP_gd, hP_some]
    refine ⟨by decide, h1 _ _ w2 (by unfold onR; rw [if_neg (by rw [ho]; exact fun h => by cases h)]) (fr_then (fr_up f1 (by decide)) f2 (by decide)) k2 ⟨m ||| 2 ^ rIx.getD i 0, (fr_rd f2 rfl).trans rd_nS, Nat.or_lt_two_pow m2 (by omega), fun j hj => ?_⟩⟩
    rw [Nat.testBit_or, Nat.testBit_two_pow, m3 j hj]
    by_cases e : i = j
    · rw [decide_eq_true (by rw [e]), Bool.or_true, ← e, tUp_s]
    · rw [decide_eq_false (fun h => e (inj ⟨i, hi⟩ ⟨j, hj⟩ h)), Bool.or_false, tUp_o (fun h => e h.symm)]
end MSTEP
