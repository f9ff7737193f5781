/-! ===== OPERATIONS: missing ===== -/
section MISS12
variable {g : gS} {r : gR} {w : mW} {H : List (Nat × Nat)}
theorem cR_sum (rho : Nat → Nat) (R : Nat) : ∀ k, sumR (fun a => cR rho a k) R ≤ k
  | 0 => by
    have : ∀ R, sumR (fun a => cR rho a 0) R = 0 := by
      intro R
      induction R with
      | zero => rfl
      | succ R ih =>
        show sumR (fun a => cR rho a 0) R + 0 = 0
        rw [ih]
    rw [this]
    exact Nat.le_refl _
  | k + 1 => by
    have h := cR_sum rho R k
    have e : sumR (fun a => cR rho a (k + 1)) R = sumR (fun a => cR rho a k) R + sumR (fun a => if rho k = a then 1 else 0) R := sumR_add _ _ R
    rw [e, sumR_one]
    split <;> omega
theorem way1_le (o : Option Nat) (c : Nat) : way1 o c ≤ 2 ^ c := by
  cases o with
  | none => exact Nat.le_refl _
  | some m => exact bnm_le c m
theorem wayP_le (rho : Nat → Nat) (q : Nat → Option Nat) (k : Nat) : ∀ R, wayP rho q k R ≤ 2 ^ sumR (fun a => cR rho a k) R
  | 0 => Nat.le_refl _
  | R + 1 => by
    show wayP rho q k R * way1 (q R) (cR rho R k) ≤ 2 ^ (sumR (fun a => cR rho a k) R + cR rho R k)
    rw [Nat.pow_add]
    exact Nat.mul_le_mul (wayP_le rho q k R) (way1_le _ _)
noncomputable abbrev fN (g : gS) (H : List (Nat × Nat)) : Nat := cN (fitH g H (gSw g)) (2 ^ gSw g)
def msFnd (g : gS) (H : List (Nat × Nat)) (w : mW) : Prop :=
  (fN g H = 0 ∧ wI w 78 0 = nI 0 ∧ wI w 78 1 = -nI 1 ∧ wI w 78 2 = nI 0) ∨
  (0 < fN g H ∧ wI w 78 0 = nI (fN g H) ∧ (∀ a, hdA H a) ∧ wI w 78 1 = nI (lwQ (rw9 g) (gSw g) (hQ H)) ∧ ∃ m2, wI w 78 2 = nI m2 ∧ m2 < 2 ^ gSw g ∧ ∀ s, s < gSw g → (Nat.testBit m2 s = true ↔ hQ H (rw9 g s) = some 0))
def fdB (g : gS) (H : List (Nat × Nat)) (a m1 : Nat) : Prop := ∀ s, Nat.testBit m1 s = true ↔ (s < gSw g ∧ rw9 g s < a ∧ ∃ m, hQ H (rw9 g s) = some m ∧ cR (rw9 g) (rw9 g s) s + m < cR (rw9 g) (rw9 g s) (gSw g))
def fdC (g : gS) (H : List (Nat × Nat)) (a m2 : Nat) : Prop := ∀ s, Nat.testBit m2 s = true ↔ (s < gSw g ∧ rw9 g s < a ∧ hQ H (rw9 g s) = some 0)
def fdI (g : gS) (H : List (Nat × Nat)) (a : Nat) (w : mW) : Prop :=
  (fN g H = 0 ∧ wI w 78 0 = nI 0) ∨ (0 < wayP (rw9 g) (hQ H) (gSw g) a ∧ wI w 78 0 = nI (wayP (rw9 g) (hQ H) (gSw g) a) ∧ (∀ b, b < a → hdA H b) ∧ ∃ m1 m2, wI w 78 1 = nI m1 ∧ wI w 78 2 = nI m2 ∧ m1 < 2 ^ gSw g ∧ m2 < 2 ^ gSw g ∧ fdB g H a m1 ∧ fdC g H a m2)
abbrev p78 : fP := ([], [(78, 0), (78, 1), (78, 2)])
theorem fN_no (h : ∀ x, ¬ fitH g H (gSw g) x) : fN g H = 0 := cN_false _ (fun x _ => h x)
theorem fdB_keep {a m1 : Nat} (h : fdB g H a m1) (hn : ∀ i, i < H.length → ¬ (H.getD i (0, 0)).1 = a) : fdB g H (a + 1) m1 := by
  intro s
  rw [h s]
  constructor
  · rintro ⟨h1, h2, h3⟩; exact ⟨h1, by omega, h3⟩
  · rintro ⟨h1, h2, m, h3, h4⟩
    refine ⟨h1, ?_, m, h3, h4⟩
    by_cases e : rw9 g s = a
    · rw [e, show hQ H a = none from hdQ_no _ hn] at h3; cases h3
    · omega
theorem fdC_keep {a m2 : Nat} (h : fdC g H a m2) (hn : ¬ hQ H a = some 0) : fdC g H (a + 1) m2 := by
  intro s
  rw [h s]
  constructor
  · rintro ⟨h1, h2, h3⟩; exact ⟨h1, by omega, h3⟩
  · rintro ⟨h1, h2, h3⟩
    refine ⟨h1, ?_, h3⟩
    by_cases e : rw9 g s = a
    · rw [e] at h3; exact absurd h3 hn
    · omega
theorem c_find {Q : Unit → mW → Prop} (hC : rC g w) (ho : gOk g) (hH : iHd g H w 75 111 34 40 41) (hq : ∀ w', fr p78 w w' → msFnd g H w' → Q () w') : hP (f10_78_24_34 w) Q := by
  have hsw := gOk_sw ho
  have hwd := gOk_wd ho
  have hn := gOk_n ho
  have hhi := gOk_hi ho
  have hp := pw12 hsw
  have hN : fN g H ≤ 4096 := Nat.le_trans (cN_le _ _) hp
  have hrho : ∀ s, s < gSw g → rw9 g s < gH g := fun s hs => by
    have := gOk_at ho s hs
    show g 5 s / gW g < gH g
    rw [Nat.div_lt_iff_lt_mul (by omega), Nat.mul_comm]
    exact this
  have hHr : ∀ i, i < H.length → (H.getD i (0, 0)).1 < gH g := fun i hi => (hH.2.2.2 i hi).2.2.2.2.1
  unfold f10_78_24_34
  rw [hP_let, hP_let, hP_let]
  have f0 : fr p78 w (nS (nS (nS w 78 0 1) 78 1 0) 78 2 0) := fr_nS (fr_nS (fr_nS fr_refl rfl) rfl) rfl
  refine hP_loopF (fun n s => ∃ (a : Nat) (w2 : mW), a + n = gH g ∧ fr p78 w w2 ∧ fdI g H a w2 ∧ s = (nI a, w2)) (gH g) (by omega) ⟨0, _, by omega, f0, .inr ⟨Nat.zero_lt_one, ?_, fun b hb => absurd hb (Nat.not_lt_zero _), 0, 0, ?_, ?_, Nat.two_pow_pos _, Nat.two_pow_pos _, fun s => ?_, fun s => ?_⟩, rfl⟩ ?_
  · rw [rd_nSj (by decide), rd_nSj (by decide), rd_nS]; rfl
  · rw [rd_nSj (by decide), rd_nS]; rfl
  · rw [rd_nS]; rfl
  · rw [Nat.zero_testBit]
    exact ⟨fun h => (by cases h), fun h => absurd h.2.1 (Nat.not_lt_zero _)⟩
  · rw [Nat.zero_testBit]
    exact ⟨fun h => (by cases h), fun h => absurd h.2.1 (Nat.not_lt_zero _)⟩
  rintro n s rec ⟨a, w2, han, f2, hI, rfl⟩ ih
  have hC2 : rC g w2 := rC_fr (by decide) f2 hC
  have hH2 : iHd g H w2 75 111 34 40 41 := iHd_fr (by decide) f2 hH
  have ea : nI a + 1 = nI (a + 1) := by rw [← nI_add]; rfl
  have hw : wayP (rw9 g) (hQ H) (gSw g) a ≤ 4096 := Nat.le_trans (wayP_le _ _ _ _) (pw12 (Nat.le_trans (cR_sum (rw9 g) a (gSw g)) hsw))
  have hcR : ∀ a, cR (rw9 g) a (gSw g) ≤ gSw g := by
    have : ∀ a k, cR (rw9 g) a k ≤ k := by
      intro a k
      induction k with
      | zero => exact Nat.le_refl _
      | succ k ih =>
        show cR (rw9 g) a k + _ ≤ _
        split <;> omega
    exact fun a => this a _
  have fin : hP (if wI w2 78 0 = 0 then (nLet (nS w2 78 1 (-1)) fun w3 => (nLet (nS w3 78 2 0) fun w4 => (some ((), w4)))) else (some ((), w2))) Q ∨ (a < gH g ∧ ¬ wI w2 78 0 = nI 0) := by
    rcases hI with ⟨h1, h2⟩ | ⟨h1, h2, h3, m1, m2, h4, h5, h6, h7, h8, h9⟩
    · refine .inl ?_
      rw [if_pos (show wI w2 78 0 = 0 from h2), hP_let, hP_let, hP_some]
      refine hq _ (fr_nS (fr_nS f2 rfl) rfl) (.inl ⟨h1, ?_, ?_, ?_⟩)
      · rw [rd_nSj (by decide), rd_nSj (by decide)]; exact h2
      · rw [rd_nSj (by decide), rd_nS]; rfl
      · rw [rd_nS]; rfl
    · have hne : ¬ wI w2 78 0 = nI 0 := by rw [h2, q_eq (by omega) (by omega)]; omega
      by_cases c : a < gH g
      · exact .inr ⟨c, hne⟩
      · refine .inl ?_
        have e : a = gH g := by omega
        subst e
        have hA : ∀ b, hdA H b := by
          intro b
          by_cases cb : b < gH g
          · exact h3 b cb
          · intro i hi hib
            have := hHr i hi
            omega
        have hNw : fN g H = wayP (rw9 g) (hQ H) (gSw g) (gH g) := by
          rw [way_count (rw9 g) (gSw g) (hQ H) (gH g) hrho (fun b hb => hdQ_no _ (fun i hi hib => by have := hHr i hi; omega))]
          exact cN_congr _ (fun x _ => fitH_Q hA)
        rw [if_neg (show ¬ wI w2 78 0 = 0 from hne), hP_some]
        refine hq _ f2 (.inr ⟨by rw [hNw]; exact h1, by rw [hNw]; exact h2, hA, ?_, m2, h5, h7, fun s hs => ?_⟩)
        · rw [h4]
          congr 1
          refine tb_eq h6 (lwQ_lt _ _ _) (fun s hs => ?_)
          rw [h8 s, lwQ_tb _ _ _ s hs]
          exact ⟨fun h => h.2.2, fun h => ⟨hs, hrho s hs, h⟩⟩
        · rw [h9 s]
          exact ⟨fun h => h.2.2, fun h => ⟨hs, hrho s hs, h⟩⟩
  simp only [f10_78_24_34_b17]
  rw [rC_hi hC2]
  by_cases c1 : a < gH g
  · rw [if_pos (by rw [q_lt (by omega) (by omega)]; exact c1)]
    rcases hI with ⟨h1, h2⟩ | ⟨h1, h2, h3, m1, m2, h4, h5, h6, h7, h8, h9⟩
    · rw [if_neg (by rw [h2]; decide)]
      rcases fin with h | ⟨_, h⟩
      · exact h
      · exact absurd h2 h
    · rw [if_pos (by rw [h2, q_lit, q_lt (by omega) (by omega)]; exact h1), hP_B]
      refine c_inRow hC2 ho (by omega) (fun v hv => ?_)
      have hv4 : v < 4096 := Nat.lt_of_lt_of_le hv.1 hp
      have hca := hcR a
      rw [hP_B]
      have eW : wayP (rw9 g) (hQ H) (gSw g) (a + 1) = wayP (rw9 g) (hQ H) (gSw g) a * way1 (hQ H a) (cR (rw9 g) a (gSw g)) := rfl
      refine c_row ho hH2 (by omega) hv (fun hno => ?_) (fun hx => ?_) (fun m j hm hj hja hall => ?_)
      · have hQa : hQ H a = none := hdQ_no _ hno
        have e1 : way1 (hQ H a) (cR (rw9 g) a (gSw g)) = 2 ^ cR (rw9 g) a (gSw g) := by rw [hQa]; rfl
        have hp2 := Nat.two_pow_pos (cR (rw9 g) a (gSw g))
        rw [h2, pk_mul, ea]
        refine ih (n - 1) _ (by omega) ⟨a + 1, _, by omega, fr_nS f2 rfl, .inr ⟨?_, ?_, fun b hb => ?_, m1, m2, ?_, ?_, h6, h7, fdB_keep h8 hno, fdC_keep h9 (by rw [hQa]; exact fun h => by cases h)⟩, rfl⟩
        · rw [eW, e1]; exact Nat.mul_pos h1 hp2
        · rw [rd_nS, eW, e1]
        · by_cases e : b = a
          · rw [e]; exact fun i hi hia => absurd hia (hno i hi)
          · exact h3 b (by omega)
        · rw [rd_nSj (by decide)]; exact h4
        · rw [rd_nSj (by decide)]; exact h5
      · rw [ea]
        exact ih (n - 1) _ (by omega) ⟨a + 1, _, by omega, fr_nS f2 rfl, .inl ⟨fN_no hx, rd_nS⟩, rfl⟩
      · have hQa : hQ H a = some m := hdQ_yes _ j hj hja hall
        have e1 : way1 (hQ H a) (cR (rw9 g) a (gSw g)) = bnm (cR (rw9 g) a (gSw g)) m := by rw [hQa]; rfl
        rw [hP_B]
        refine c_ways (by omega) hm ?_
        rw [hP_let, hP_B, h2, pk_mul]
        by_cases c2 : m ≤ cR (rw9 g) a (gSw g)
        · have hbp := bnm_pos _ _ c2
          rw [q_sub c2]
          refine c_low hv4 (by omega) (fun o ho4 hob => ?_)
          rw [hP_let, rd_nSj (by decide), h4, q_orN (by omega) (by omega)]
          have hob2 : ∀ s, Nat.testBit o s = true ↔ (s < gSw g ∧ rw9 g s = a ∧ cR (rw9 g) a s + m < cR (rw9 g) a (gSw g)) := by
            intro s
            rw [hob s, hv.2 s]
            constructor
            · rintro ⟨⟨k1, k2⟩, k3⟩
              rw [rowM_pop hv s (by omega)] at k3
              exact ⟨k1, k2, by omega⟩
            · rintro ⟨k1, k2, k3⟩
              refine ⟨⟨k1, k2⟩, ?_⟩
              rw [rowM_pop hv s (by omega)]
              omega
          have o2 : o < 2 ^ gSw g := by
            refine Nat.lt_pow_two_of_testBit o (fun i hi => ?_)
            cases ht : Nat.testBit o i with
            | false => rfl
            | true => have := ((hob2 i).1 ht).1; omega
          have hB' : fdB g H (a + 1) (m1 ||| o) := by
            intro s
            rw [Nat.testBit_or, Bool.or_eq_true, h8 s, hob2 s]
            constructor
            · rintro (⟨k1, k2, k3⟩ | ⟨k1, k2, k3⟩)
              · exact ⟨k1, by omega, k3⟩
              · refine ⟨k1, by omega, m, by rw [k2]; exact hQa, by rw [k2]; exact k3⟩
            · rintro ⟨k1, k2, m', k3, k4⟩
              by_cases e : rw9 g s = a
              · rw [e, hQa] at k3
                have k5 : m = m' := Option.some.inj k3
                rw [e] at k4
                exact .inr ⟨k1, e, by omega⟩
              · exact .inl ⟨k1, by omega, m', k3, k4⟩
          have hA' : ∀ b, b < a + 1 → hdA H b := by
            intro b hb
            by_cases e : b = a
            · rw [e]
              intro i hi hia
              rw [hall i hi hia]
              exact hQa
            · exact h3 b (by omega)
          have hpos : 0 < wayP (rw9 g) (hQ H) (gSw g) (a + 1) := by rw [eW, e1]; exact Nat.mul_pos h1 hbp
          have m1b : m1 ||| o < 2 ^ gSw g := Nat.or_lt_two_pow h6 o2
          by_cases c3 : m = 0
          · rw [if_pos (by rw [c3]; rfl), hP_let, hP_some, ea, rd_nSj (by decide), rd_nSj (by decide), h5, q_orN (by omega) (by omega)]
            refine ih (n - 1) _ (by omega) ⟨a + 1, _, by omega, fr_nS (fr_nS (fr_nS f2 rfl) rfl) rfl, .inr ⟨hpos, ?_, hA', m1 ||| o, m2 ||| v, ?_, ?_, m1b, Nat.or_lt_two_pow h7 hv.1, hB', fun s => ?_⟩, rfl⟩
            · rw [rd_nSj (by decide), rd_nSj (by decide), rd_nS, eW, e1]
            · rw [rd_nSj (by decide), rd_nS]
            · rw [rd_nS]
            · rw [Nat.testBit_or, Bool.or_eq_true, h9 s, hv.2 s]
              constructor
              · rintro (⟨k1, k2, k3⟩ | ⟨k1, k2⟩)
                · exact ⟨k1, by omega, k3⟩
                · exact ⟨k1, by omega, by rw [k2, hQa, c3]⟩
              · rintro ⟨k1, k2, k3⟩
                by_cases e : rw9 g s = a
                · exact .inr ⟨k1, e⟩
                · exact .inl ⟨k1, by omega, k3⟩
          · rw [if_neg (by rw [q_lit, q_eq (by omega) (by omega)]; exact c3), hP_some, ea]
            refine ih (n - 1) _ (by omega) ⟨a + 1, _, by omega, fr_nS (fr_nS f2 rfl) rfl, .inr ⟨hpos, ?_, hA', m1 ||| o, m2, ?_, ?_, m1b, h7, hB', fdC_keep h9 (by rw [hQa]; exact fun h => c3 (Option.some.inj h))⟩, rfl⟩
            · rw [rd_nSj (by decide), rd_nS, eW, e1]
            · rw [rd_nS]
            · rw [rd_nSj (by decide), rd_nSj (by decide)]; exact h5
        · have hno : ∀ x, ¬ fitH g H (gSw g) x := by
            intro x hf
            have f1 := hf j hj
            rw [hall j hj hja, hja] at f1
            have := prs_le (rw9 g) a x (gSw g)
            omega
          have hng : nI (cR (rw9 g) a (gSw g)) - nI m = -nI (m - cR (rw9 g) a (gSw g)) := by
            rw [← q_sub (show cR (rw9 g) a (gSw g) ≤ m by omega), Int32.neg_sub]
          unfold f14
          rw [hng]
          refine hP_loopF (fun n s => n = 0 ∧ s = (nI v, 0, 0, _)) 0 (by decide) ⟨rfl, rfl⟩ ?_
          rintro n' s' rec' ⟨rfl, rfl⟩ ih'
          simp only [f14_b7]
          have hlt : ¬ (0 : Int32) < -nI (m - cR (rw9 g) a (gSw g)) := by
            rw [q_lit, q_pm_lt (by omega) (by omega)]
            exact fun h => h
          rw [if_neg hlt, hP_some, hP_let, bnm_0 _ _ (by omega), Nat.mul_zero]
          have hb : ∀ w9, fr p78 w w9 → wI w9 78 0 = nI 0 → hP (rec (nI a + 1, w9)) Q := by
            intro w9 f9 h9'
            rw [ea]
            exact ih (n - 1) _ (by omega) ⟨a + 1, _, by omega, f9, .inl ⟨fN_no hno, h9'⟩, rfl⟩
          have g1 : fr p78 w (nS (nS w2 78 0 (nI 0)) 78 1 (wI (nS w2 78 0 (nI 0)) 78 1 ||| 0)) := fr_nS (fr_nS f2 rfl) rfl
          have g2 : wI (nS (nS w2 78 0 (nI 0)) 78 1 (wI (nS w2 78 0 (nI 0)) 78 1 ||| 0)) 78 0 = nI 0 := by rw [rd_nSj (by decide), rd_nS]
          by_cases c3 : nI m = 0
          · rw [if_pos c3, hP_let, hP_some]
            exact hb _ (fr_nS g1 rfl) (by rw [rd_nSj (by decide)]; exact g2)
          · rw [if_neg c3, hP_some]
            exact hb _ g1 g2
  · rw [if_neg (by rw [q_lt (by omega) (by omega)]; exact c1)]
    rcases fin with h | ⟨h, _⟩
    · exact h
    · exact absurd h c1
theorem msBest_one {F : Nat → Prop} {x b c : Nat} (h1 : msBst F x b) (h2 : msBst F x c) : b = c := by
  obtain ⟨a1, a2, a3, a4⟩ := h1
  obtain ⟨b1, b2, b3, b4⟩ := h2
  have e1 := a3 c b1 b2
  have e2 := b3 b a1 a2
  apply Classical.byContradiction
  intro hne
  by_cases e : b < c
  · have := b4 b e a2; omega
  · have := a4 c (by omega) b2; omega
theorem pop_lt12 {x n : Nat} (hx : x < 2 ^ n) (hn : n ≤ 12) : pop x 12 = pop x n := by
  have : ∀ k, pop x (n + k) = pop x n := by
    intro k
    induction k with
    | zero => rfl
    | succ k ih =>
      have hp : 2 ^ n ≤ 2 ^ (n + k) := Nat.pow_le_pow_right (by decide) (by omega)
      show pop x (n + k + 1) = _
      rw [pop_tb, ih, if_neg (by rw [Nat.testBit_lt_two_pow (by omega)]; exact fun h => by cases h)]
      rfl
  have h := this (12 - n)
  rwa [show n + (12 - n) = 12 by omega] at h
theorem fd_facts (ho : gOk g) (hrho : ∀ s, s < gSw g → rw9 g s < gH g) (hp : 0 < fN g H) (hA : ∀ a, hdA H a) : srv (rw9 g) (hQ H) (gSw g) ∧ msBst (fitH g H (gSw g)) (2 ^ gSw g) (lwQ (rw9 g) (gSw g) (hQ H)) := by
  have hsw := gOk_sw ho
  obtain ⟨y, hy, hf⟩ := cN_ex hp
  have hsrv : srv (rw9 g) (hQ H) (gSw g) := by
    intro a m e
    have h1 := (fitH_Q hA).1 hf a m e
    have := prs_le (rw9 g) a y (gSw g)
    omega
  refine ⟨hsrv, lwQ_lt _ _ _, (fitH_Q hA).2 (lwQ_fit _ _ _ hsrv), fun z hz hfz => ?_, fun z hz hfz => ?_⟩
  · rw [pop_lt12 (lwQ_lt _ _ _) hsw, pop_lt12 hz hsw, lwQ_bits (rw9 g) hrho hsrv]
    exact fit_bits (rw9 g) hrho ((fitH_Q hA).1 hfz)
  · have hz2 : z < 2 ^ gSw g := Nat.lt_trans hz (lwQ_lt _ _ _)
    have h1 := fit_bits (rw9 g) hrho ((fitH_Q hA).1 hfz)
    rw [pop_lt12 (lwQ_lt _ _ _) hsw, pop_lt12 hz2 hsw, lwQ_bits (rw9 g) hrho hsrv]
    apply Classical.byContradiction
    intro hc
    have := lwQ_least (rw9 g) (R := gH g) (gSw g) (hQ H) z hrho hz2 ((fitH_Q hA).1 hfz) (by omega)
    omega
theorem fit_hdA {y : Nat} (hf : fitH g H (gSw g) y) (a : Nat) : hdA H a := by
  intro i hi hia
  have h1 := hf i hi
  rw [hia] at h1
  rw [← h1]
  exact hdQ_yes _ i hi hia (fun j hj hja => by
    have := hf j hj
    rw [hja] at this
    exact this.symm)
end MISS12
theorem op_missing (x1 : Int32) : opB Inv (f320_0_116 x1) (f282_80 x1) := by
  refine opB_gx (f := f158_0 x1) (ex := 1) (fun w => rfl) (fun w hI => ?_)
  obtain ⟨g, r, h, D, H, hp, hh, hD, hH, hi, -, -, hrw⟩ := hI
  obtain ⟨hM, hMr, hC, hCr, ho, hk, hl1, hcm, -⟩ := id hp
  have hsw := gOk_sw ho
  have hwd := gOk_wd ho
  have hn := gOk_n ho
  have hrho : ∀ s, s < gSw g → rw9 g s < gH g := fun s hs => by
    have := gOk_at ho s hs
    show g 5 s / gW g < gH g
    rw [Nat.div_lt_iff_lt_mul (by omega), Nat.mul_comm]
    exact this
  have hN : fN g H ≤ 4096 := Nat.le_trans (cN_le _ _) (pw12 hsw)
  by_cases c : inR x1 (2 + 1)
  · obtain ⟨b, hb, rfl⟩ := c
    refine ⟨g, r, True, if b = 0 then nI (fN g H) else if b = 1 then (if fN g H = 0 then -nI 1 else nI (lwQ (rw9 g) (gSw g) (hQ H))) else (if fN g H = 0 then nI 0 else nI (Classical.epsilon (fun m => msAnd (fitH g H (gSw g)) (gSw g) (2 ^ gSw g) m))), hp, fun _ => ?_, fun c => absurd trivial c, fun _ w1 hx hs => ?_, fun c => absurd trivial c⟩
    · unfold f158_0
      rw [hP_xb]
      refine (gdC_what (x := nI b) (w := w) (most := 2) (by decide)).1 ⟨b, hb, rfl⟩ _ ?_
      dsimp only
      rw [hP_B]
      refine c_find hC ho hH (fun w' f' hF => ?_)
      have fq' : fr pQ w w' := fr_up f' (by decide)
      have hb3 : b = 0 ∨ b = 1 ∨ b = 2 := by omega
      rcases hb3 with rfl | rfl | rfl
      · rw [if_pos (show nI 0 = 0 from rfl), hP_some]
        refine ⟨?_, fq'⟩
        rw [if_pos rfl]
        rcases hF with ⟨k1, k2, -⟩ | ⟨k1, k2, -⟩
        · rw [k2, k1]
        · rw [k2]
      · rw [if_neg (show ¬ nI 1 = 0 by decide), if_pos (show nI 1 = 1 from rfl), hP_some]
        refine ⟨?_, fq'⟩
        rw [if_neg (by decide), if_pos rfl]
        rcases hF with ⟨k1, k2, k3, -⟩ | ⟨k1, k2, k3, k4, -⟩
        · rw [k3, if_pos k1]
        · rw [k4, if_neg (by omega)]
      · rw [if_neg (show ¬ nI 2 = 0 by decide), if_neg (show ¬ nI 2 = 1 by decide), hP_gd, hP_some]
        refine ⟨by decide, ?_, fq'⟩
        rw [if_neg (by decide), if_neg (by decide)]
        rcases hF with ⟨k1, k2, k3, k4⟩ | ⟨k1, k2, k3, k4, m2, k5, k6, k7⟩
        · rw [k4, if_pos k1]
        · rw [k5, if_neg (by omega)]
          congr 2
          have hsv := (fd_facts ho hrho k1 k3).1
          have hA2 : msAnd (fitH g H (gSw g)) (gSw g) (2 ^ gSw g) m2 := by
            refine ⟨k6, fun s hs => ?_⟩
            rw [k7 s hs]
            constructor
            · intro h0 y hy hf
              rw [tb_mod]
              exact all_miss (rw9 g) hs h0 ((fitH_Q k3).1 hf)
            · intro hall
              apply Classical.byContradiction
              intro hc
              obtain ⟨x, z1, z2, z3⟩ := some_there (rw9 g) (gSw g) (hQ H) s hsv hs hc
              have := hall x z1 ((fitH_Q k3).2 z2)
              rw [tb_mod, z3] at this
              cases this
          have hE := Classical.epsilon_spec (p := fun m => msAnd (fitH g H (gSw g)) (gSw g) (2 ^ gSw g) m) ⟨m2, hA2⟩
          exact tb_eq hA2.1 hE.1 (fun s hs => (hA2.2 s hs).trans (hE.2 s hs).symm)
    · have hM1 : rM g (nS w1 80 0 (nI 0)) := hx.1
      have hH1 : iHd g H (nS w1 80 0 (nI 0)) 75 111 34 40 41 := by
        obtain ⟨d1, d2, d3, d4⟩ := hH
        refine ⟨(hs 80 75 (by decide +kernel)).trans d1, (hs 34 9 (by decide +kernel)).trans d2, d3, fun i hi => ?_⟩
        obtain ⟨e1, e2, e3, e4, e5, e6⟩ := d4 i hi
        exact ⟨(hs 111 _ rfl).trans e1, (hs 111 _ rfl).trans e2, (hs 40 _ rfl).trans e3, (hs 41 _ rfl).trans e4, e5, e6⟩
      unfold f282_80
      rw [hP_let, hP_B]
      refine (gdM_what (x := nI b) (w := nS w1 80 0 0) (most := 2) (by decide) rd_nS).1 ⟨b, hb, rfl⟩ _ ?_
      rw [if_neg (by decide), hP_let]
      refine m_sets hM1 ho hH1 (fun e => ?_) (fun v e hB => ?_) (fun m e0 e1 hA => ?_)
      · rw [q_eq (by omega) (by omega)] at e
        rw [if_pos e]
        exact ⟨rfl, fr_nS fr_refl rfl, rd_nS⟩
      · rw [q_eq (by omega) (by omega)] at e
        rw [if_neg (by omega), if_pos e]
        refine ⟨?_, fr_nS fr_refl rfl, rd_nS⟩
        rcases hB with ⟨z1, z2⟩ | ⟨z1, bb, rfl, z3⟩
        · rw [if_pos z1]; exact z2
        · rw [if_neg (show ¬ fN g H = 0 by show ¬ cN _ _ = 0; omega)]
          obtain ⟨y, hy, hf⟩ := cN_ex z1
          rw [msBest_one z3 (fd_facts ho hrho z1 (fit_hdA hf)).2]
      · rw [q_eq (by omega) (by omega)] at e0
        rw [q_eq (by omega) (by omega)] at e1
        rw [if_neg e0, if_neg e1]
        refine ⟨?_, fr_nS fr_refl rfl, rd_nS⟩
        have hE := Classical.epsilon_spec (p := fun m => msAnd (fitH g H (gSw g)) (gSw g) (2 ^ gSw g) m) ⟨m, hA⟩
        have em := tb_eq hA.1 hE.1 (fun s hs => (hA.2 s hs).trans (hE.2 s hs).symm)
        by_cases z : fN g H = 0
        · rw [if_pos z, if_pos z]
        · rw [if_neg z, if_neg z]
          exact congrArg nI em
  · refine ⟨g, r, False, 0, hp, fun c => absurd c (fun h => h), fun _ => ?_, fun c => absurd c (fun h => h), fun _ w1 hx hs => ?_⟩
    · unfold f158_0
      rw [hP_xb]
      refine (gdC_what (x := x1) (w := w) (most := 2) (by decide)).2 c _ ?_
      exact ⟨rfl, rfl⟩
    · unfold f282_80
      rw [hP_let, hP_B]
      refine (gdM_what (x := x1) (w := nS w1 80 0 0) (most := 2) (by decide) rd_nS).2 c _ ?_
      rw [if_pos (show nI 0 = 0 from rfl), hP_some]
      exact ⟨fr_nS (fr_nS fr_refl rfl) rfl, rd_nS⟩
