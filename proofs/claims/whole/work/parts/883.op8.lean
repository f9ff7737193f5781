/-! ===== OPERATIONS: delay, dummies, more ===== -/
theorem op_delay (x1 x2 : Int32) : opB Inv (f307_0_116 x1 x2) (f246_80 x1 x2) := by
  refine opB_gx (f := f133_0 x1 x2) (ex := 1) (fun w => rfl) (fun w hI => ?_)
  obtain ⟨g, r, h, D, H, hp, -⟩ := hI
  have hp0 := hp
  obtain ⟨hM, hMr, hC, hCr, ho, hk, hl1, hcm, -⟩ := hp
  have hn := gOk_n ho
  have hT8 := gRnd_T ho
  have hT := lay_T ho (gLk g) (Nat.le_refl _)
  by_cases c1 : inR x1 (gW g * gH g)
  · obtain ⟨c, hc, rfl⟩ := c1
    have hnd := gNd_b g r (gCh g) (gMi g) 0 c
    by_cases c2 : inR x2 (gRnd g (gLk g))
    · obtain ⟨s, hs, rfl⟩ := c2
      refine ⟨g, r, True, fgE (gDl g r c s), hp0, fun _ => ?_, fun c => absurd trivial c, fun _ w1 hx hsm => ?_, fun c => absurd trivial c⟩
      · unfold f133_0
        simp only [hP_xb]
        refine c_wantCell hC ho (fun _ _ _ => ?_) (fun h => absurd ⟨c, hc, rfl⟩ h)
        simp (disch := first | omega | (simp only [fIn, fR, fC, Nat.reduceEqDiff, decide_false, decide_true, Bool.false_or, Bool.or_false, Bool.false_and, Bool.and_false, Bool.or_self, Bool.true_and, Bool.true_or, Bool.and_true, Bool.or_true, Bool.and_self]; done) | fail) only [hP_if, hP_B, q_lit, nI_add, pk_mul, q_lt, q_le, q_eq, q_cl, q_g, Bool.not_eq_true', decide_eq_false_iff_not, decide_eq_true_eq, q_div, q_rm, q_sub, q_m1, Nat.zero_add, Nat.add_zero, Nat.not_lt_zero, reduceIte]
        refine c_rounds hC ho ?_
        simp (disch := first | omega | (simp only [fIn, fR, fC, Nat.reduceEqDiff, decide_false, decide_true, Bool.false_or, Bool.or_false, Bool.false_and, Bool.and_false, Bool.or_self, Bool.true_and, Bool.true_or, Bool.and_true, Bool.or_true, Bool.and_self]; done) | fail) only [hP_B, q_lit, nI_add, pk_mul, q_lt, q_le, q_eq, q_cl, q_g, Bool.not_eq_true', decide_eq_false_iff_not, decide_eq_true_eq, q_div, q_rm, q_sub, q_m1, Nat.zero_add, Nat.add_zero, hs, reduceIte, hP_some]
        refine c_delayF hC hCr ho hk (by omega) hs (fun w2 hf2 => ?_)
        exact c_orNone (gDl_B ho r c s) ⟨rfl, fr_up hf2 (by decide)⟩
      · unfold f246_80
        simp only [hP_let, hP_B, q_lit]
        refine m_isCell hx.1 ho hx.2.2.2 (fun _ _ _ => ?_) (fun h => absurd ⟨c, hc, rfl⟩ h)
        simp (disch := first | omega | (simp only [fIn, fR, fC, Nat.reduceEqDiff, decide_false, decide_true, Bool.false_or, Bool.or_false, Bool.false_and, Bool.and_false, Bool.or_self, Bool.true_and, Bool.true_or, Bool.and_true, Bool.or_true, Bool.and_self]; done) | fail) only [hP_if, hP_B, q_lit, nI_add, pk_mul, q_lt, q_le, q_eq, q_cl, q_g, Bool.not_eq_true', decide_eq_false_iff_not, decide_eq_true_eq, q_div, q_rm, q_sub, q_m1, Nat.zero_add, Nat.add_zero, Nat.not_lt_zero, reduceIte, Nat.reduceEqDiff]
        refine m_roundOf hx.1 ho ?_
        unfold f246_80_j31
        simp (disch := first | omega | (simp only [fIn, fR, fC, Nat.reduceEqDiff, decide_false, decide_true, Bool.false_or, Bool.or_false, Bool.false_and, Bool.and_false, Bool.or_self, Bool.true_and, Bool.true_or, Bool.and_true, Bool.or_true, Bool.and_self]; done) | fail) only [hP_if, hP_B, q_lit, nI_add, pk_mul, q_lt, q_le, q_eq, q_cl, q_g, Bool.not_eq_true', decide_eq_false_iff_not, decide_eq_true_eq, q_div, q_rm, q_sub, q_m1, Nat.zero_add, Nat.add_zero, hs, reduceIte]
        refine m_rightY hx.2.2.2 ?_
        simp (disch := first | omega | (simp only [fIn, fR, fC, Nat.reduceEqDiff, decide_false, decide_true, Bool.false_or, Bool.or_false, Bool.false_and, Bool.and_false, Bool.or_self, Bool.true_and, Bool.true_or, Bool.and_true, Bool.or_true, Bool.and_self]; done) | fail) only [hP_if, hP_B, q_lit, nI_add, pk_mul, q_lt, q_le, q_eq, q_cl, q_g, Bool.not_eq_true', decide_eq_false_iff_not, decide_eq_true_eq, q_div, q_rm, q_sub, q_m1, Nat.zero_add, Nat.add_zero, reduceIte, Nat.reduceEqDiff, hP_some]
        refine m_laysAll hx.1 ho (fun w3 hf3 hl3 => ?_)
        refine m_need (rM_fr (by decide) hf3 hx.1) (rMr_fr (by decide) hf3 hx.2.1) ho hk (by omega) ((fr_rd hf3 rfl).trans hx.2.2.1) (fun w4 hf4 => ?_)
        have hl4 := rLk_fr hl3 hf4 rfl (fun _ => rfl)
        refine m_watch (by omega) (lay_ok ho).1 (lay_ok ho).2 (by omega) hnd.1 hnd.2 hl4 (fun w5 hf5 hS => ?_)
        rw [hT] at hS
        refine m_delay (n := gN1 g r 0 c) (by omega) hnd.1 hnd.2 hs hS ?_
        refine m_shown (gDl_B ho r c s) ⟨rfl, ?_, ?_⟩
        · exact fr_then (fr_then (fr_then (fr_nS fr_refl rfl) hf3 (by decide)) hf4 (by decide)) hf5 (by decide)
        · rw [fr_rd hf5 rfl, fr_rd hf4 rfl, fr_rd hf3 rfl]
          exact hx.2.2.2
    · refine ⟨g, r, False, 0, hp0, fun c => c.elim, fun _ => ?_, fun c => c.elim, fun _ w1 hx hs => ?_⟩
      · unfold f133_0
        simp only [hP_xb]
        refine c_wantCell hC ho (fun _ _ _ => ?_) (fun h => absurd ⟨c, hc, rfl⟩ h)
        dsimp only
        simp only [hP_if, hP_B, q_lit, hP_some]
        rcases inR_no (by omega) c2 with d1 | ⟨d1, d2, -⟩
        · rw [if_pos d1]; exact ⟨trivial, trivial⟩
        · rw [if_neg d1]
          refine c_rounds hC ho ?_
          rw [if_neg d2]; exact ⟨trivial, rfl⟩
      · have no : ∀ w2, w2 = nS w1 80 0 (nI 0) → hP (f246_80_j31 (nI c) x2 (nI 0) w2) (fun _ w2 => fr pQ w1 w2 ∧ wI w2 80 0 = nI 1) := by
          intro w2 e
          subst e
          unfold f246_80_j31
          simp only [hP_B, q_lit]
          refine m_rightN (by decide) (by decide) hx.2.2.2 ?_
          rw [if_pos (show nI 0 = nI 0 from rfl), hP_some]
          exact ⟨fr_nS (fr_nS fr_refl rfl) rfl, rd_nS⟩
        unfold f246_80
        simp only [hP_let, hP_B, q_lit]
        refine m_isCell hx.1 ho hx.2.2.2 (fun _ _ _ => ?_) (fun h => absurd ⟨c, hc, rfl⟩ h)
        rw [if_neg (by decide)]
        rw [hP_if]
        rcases inR_no (by omega) c2 with d1 | ⟨d1, d2, -⟩
        · rw [if_pos d1]; exact no _ rfl
        · rw [if_neg d1, hP_B]
          refine m_roundOf hx.1 ho ?_
          rw [if_neg d2]; exact no _ rfl
  · refine ⟨g, r, False, 0, hp0, fun c => c.elim, fun _ => ?_, fun c => c.elim, fun _ w1 hx hs => ?_⟩
    · unfold f133_0
      simp only [hP_xb]
      exact c_wantCell hC ho (fun a ha e => absurd ⟨a, ha, e⟩ c1) (fun h => ⟨rfl, rfl⟩)
    · unfold f246_80
      simp only [hP_let, hP_B, q_lit]
      refine m_isCell hx.1 ho hx.2.2.2 (fun a ha e => absurd ⟨a, ha, e⟩ c1) (fun h => ?_)
      rw [if_pos (show nI 0 = nI 0 from rfl), hP_some]
      exact ⟨fr_nS (fr_nS fr_refl rfl) rfl, rd_nS⟩
/-! Euclid -/
def eT : Nat → Nat → Nat → Prop
  | 0, _, b => b = 0
  | n + 1, a, b => b = 0 ∨ eT n b (a % b)
theorem eT_up : ∀ {n a b : Nat}, eT n a b → eT (n + 1) a b
  | 0, _, _, h => .inl h
  | n + 1, a, b, h => h.elim .inl (fun h => .inr (eT_up h))
theorem eT_le {n m a b : Nat} (h : eT n a b) (hm : n ≤ m) : eT m a b := by
  induction m with
  | zero =>
    have : n = 0 := by omega
    subst this
    exact h
  | succ m ih =>
    by_cases e : n = m + 1
    · subst e; exact h
    · exact eT_up (ih (by omega))
theorem eT_ex : ∀ (f a b : Nat), b ≤ a → a < 2 ^ f → eT (2 * f + 1) a b
  | 0, a, b, h1, h2 => .inl (by
    have : a < 1 := h2
    omega)
  | f + 1, a, b, h1, h2 => by
    show b = 0 ∨ eT (2 * f + 2) b (a % b)
    by_cases c : b = 0
    · exact .inl c
    · right
      show a % b = 0 ∨ eT (2 * f + 1) (a % b) (b % (a % b))
      by_cases c2 : a % b = 0
      · exact .inl c2
      · right
        have hlt := Nat.mod_lt a (show 0 < b by omega)
        have h3 : b + a % b ≤ a := by
          have h4 := Nat.mod_add_div a b
          have h5 : 1 ≤ a / b := (Nat.one_le_div_iff (by omega)).mpr h1
          have h6 : b * 1 ≤ b * (a / b) := Nat.mul_le_mul_left b h5
          omega
        rw [Nat.pow_succ] at h2
        exact eT_ex f (a % b) (b % (a % b)) (Nat.le_of_lt (Nat.mod_lt _ (by omega))) (by omega)
theorem eT_any (a b : Nat) (ha : a < 131072) (hb : b < 131072) : eT 36 a b := by
  by_cases h : b ≤ a
  · exact eT_le (eT_ex 17 a b h ha) (by decide)
  · right
    rw [Nat.mod_eq_of_lt (by omega)]
    exact eT_le (eT_ex 17 b a (by omega) hb) (by decide)
theorem gcd_st {a b : Nat} : Nat.gcd a b = Nat.gcd b (a % b) := by
  rw [Nat.gcd_comm a b, Nat.gcd_rec b a, Nat.gcd_comm]
section EU
variable {w : mW} {Q : Int32 → mW → Prop}
theorem c_gcd {a b : Nat} (ha : a < 131072) (hb : b < 131072) (hq : Q (nI (Nat.gcd a b)) w) : hP (f173 (nI a) (nI b) w) Q := by
  unfold f173
  refine hP_loopF (fun n s => ∃ x y k, k + n = 36 ∧ s = (nI x, nI y, nI k, w) ∧ x < 131072 ∧ y < 131072 ∧ eT n x y ∧ Nat.gcd x y = Nat.gcd a b) 36 (by omega) ⟨a, b, 0, by omega, rfl, ha, hb, eT_any a b ha hb, rfl⟩ ?_
  rintro n s rec ⟨x, y, k, hk, rfl, hx, hy, he, hg⟩ ih
  simp only [f173_b7]
  simp (disch := first | omega | (simp only [fIn, fR, fC, Nat.reduceEqDiff, decide_false, decide_true, Bool.false_or, Bool.or_false, Bool.false_and, Bool.and_false, Bool.or_self, Bool.true_and, Bool.true_or, Bool.and_true, Bool.or_true, Bool.and_self]; done) | fail) only [hP_some, hP_let, hP_gd, hP_B, hP_if, reduceIte, q_lit, nI_add, pk_mul, q_lt, q_le, q_eq, q_cl, q_g, Bool.not_eq_true', decide_eq_false_iff_not, decide_eq_true_eq, q_div, q_rm, q_sub, q_m1, Nat.zero_add, Nat.add_zero, show k < 64 by omega]
  by_cases c : y = 0
  · rw [if_pos c]
    subst c
    rw [Nat.gcd_zero_right] at hg
    rw [hg]
    exact hq
  · rw [if_neg c]
    have hm := Nat.mod_lt x (show 0 < y by omega)
    cases n with
    | zero => exact absurd he c
    | succ n =>
      refine ⟨c, ih n _ (by omega) ⟨y, x % y, k + 1, by omega, rfl, hy, by omega, he.resolve_left c, ?_⟩⟩
      rw [← gcd_st]
      exact hg
theorem m_portion {up low wh : Nat} (hu : up < 131072) (hl : low < 131072) (h0 : 0 < low) (hw : wh < 10) (hq : Q (nI ((if wh = 0 then up else low) / Nat.gcd up low)) w) : hP (f276 (nI up) (nI low) (nI wh) w) Q := by
  have hgp : 0 < Nat.gcd up low := Nat.gcd_pos_of_pos_right _ h0
  have hgl : Nat.gcd up low ≤ low := Nat.le_of_dvd h0 (Nat.gcd_dvd_right _ _)
  unfold f276
  refine hP_loopF (fun n s => ∃ x y, s = (nI x, nI y, w) ∧ x < 131072 ∧ y < 131072 ∧ eT n x y ∧ Nat.gcd x y = Nat.gcd up low) 36 (by omega) ⟨low, up, rfl, hl, hu, eT_any low up hl hu, Nat.gcd_comm _ _⟩ ?_
  rintro n s rec ⟨x, y, rfl, hx, hy, he, hg⟩ ih
  simp only [f276_b5]
  by_cases c : y = 0
  · subst c
    rw [Nat.gcd_zero_right] at hg
    subst hg
    simp (disch := first | omega | (simp only [fIn, fR, fC, Nat.reduceEqDiff, decide_false, decide_true, Bool.false_or, Bool.or_false, Bool.false_and, Bool.and_false, Bool.or_self, Bool.true_and, Bool.true_or, Bool.and_true, Bool.or_true, Bool.and_self]; done) | fail) only [hP_some, hP_let, hP_gd, hP_B, hP_if, reduceIte, q_lit, nI_add, pk_mul, q_lt, q_le, q_eq, q_cl, q_g, Bool.not_eq_true', decide_eq_false_iff_not, decide_eq_true_eq, q_div, q_rm, q_sub, q_m1, Nat.zero_add, Nat.add_zero]
    by_cases c2 : wh = 0
    · rw [if_pos c2] at hq ⊢
      exact ⟨by omega, hq⟩
    · rw [if_neg c2] at hq ⊢
      exact ⟨by omega, hq⟩
  · have hm := Nat.mod_lt x (show 0 < y by omega)
    cases n with
    | zero => exact absurd he c
    | succ n =>
      simp (disch := first | omega | (simp only [fIn, fR, fC, Nat.reduceEqDiff, decide_false, decide_true, Bool.false_or, Bool.or_false, Bool.false_and, Bool.and_false, Bool.or_self, Bool.true_and, Bool.true_or, Bool.and_true, Bool.or_true, Bool.and_self]; done) | fail) only [hP_some, hP_let, hP_gd, hP_B, hP_if, reduceIte, q_lit, nI_add, pk_mul, q_lt, q_le, q_eq, q_cl, q_g, Bool.not_eq_true', decide_eq_false_iff_not, decide_eq_true_eq, q_div, q_rm, q_sub, q_m1, Nat.zero_add, Nat.add_zero, c]
      refine ⟨fun h => h, ih n _ (by omega) ⟨y, x % y, rfl, hy, by omega, he.resolve_left c, ?_⟩⟩
      rw [← gcd_st]
      exact hg
theorem c_upper {a b : Nat} (ha : a < 131072) (hb : b < 131072) (hq : Q (nI (if b = 0 then 0 else a / Nat.gcd a b)) w) : hP (f171 (nI a) (nI b) w) Q := by
  unfold f171
  simp only [hP_B]
  refine c_gcd ha hb ?_
  by_cases c : b = 0
  · simp (disch := first | omega | (simp only [fIn, fR, fC, Nat.reduceEqDiff, decide_false, decide_true, Bool.false_or, Bool.or_false, Bool.false_and, Bool.and_false, Bool.or_self, Bool.true_and, Bool.true_or, Bool.and_true, Bool.or_true, Bool.and_self]; done) | fail) only [hP_some, hP_let, hP_gd, hP_B, hP_if, reduceIte, q_lit, nI_add, pk_mul, q_lt, q_le, q_eq, q_cl, q_g, Bool.not_eq_true', decide_eq_false_iff_not, decide_eq_true_eq, q_div, q_rm, q_sub, q_m1, Nat.zero_add, Nat.add_zero, c] at hq ⊢
    exact hq
  · have hgp : 0 < Nat.gcd a b := Nat.gcd_pos_of_pos_right _ (by omega)
    have hgl : Nat.gcd a b ≤ b := Nat.le_of_dvd (by omega) (Nat.gcd_dvd_right _ _)
    simp (disch := first | omega | (simp only [fIn, fR, fC, Nat.reduceEqDiff, decide_false, decide_true, Bool.false_or, Bool.or_false, Bool.false_and, Bool.and_false, Bool.or_self, Bool.true_and, Bool.true_or, Bool.and_true, Bool.or_true, Bool.and_self]; done) | fail) only [hP_some, hP_let, hP_gd, hP_B, hP_if, reduceIte, q_lit, nI_add, pk_mul, q_lt, q_le, q_eq, q_cl, q_g, Bool.not_eq_true', decide_eq_false_iff_not, decide_eq_true_eq, q_div, q_rm, q_sub, q_m1, Nat.zero_add, Nat.add_zero, c, show ¬ Nat.gcd a b = 0 by omega] at hq ⊢
    exact ⟨fun h => h, hq⟩
theorem c_lower {a b : Nat} (ha : a < 131072) (hb : b < 131072) (hq : Q (nI (if b = 0 then 1 else b / Nat.gcd a b)) w) : hP (f172 (nI a) (nI b) w) Q := by
  unfold f172
  simp only [hP_B]
  refine c_gcd ha hb ?_
  by_cases c : b = 0
  · simp (disch := first | omega | (simp only [fIn, fR, fC, Nat.reduceEqDiff, decide_false, decide_true, Bool.false_or, Bool.or_false, Bool.false_and, Bool.and_false, Bool.or_self, Bool.true_and, Bool.true_or, Bool.and_true, Bool.or_true, Bool.and_self]; done) | fail) only [hP_some, hP_let, hP_gd, hP_B, hP_if, reduceIte, q_lit, nI_add, pk_mul, q_lt, q_le, q_eq, q_cl, q_g, Bool.not_eq_true', decide_eq_false_iff_not, decide_eq_true_eq, q_div, q_rm, q_sub, q_m1, Nat.zero_add, Nat.add_zero, c] at hq ⊢
    exact hq
  · have hgp : 0 < Nat.gcd a b := Nat.gcd_pos_of_pos_right _ (by omega)
    have hgl : Nat.gcd a b ≤ b := Nat.le_of_dvd (by omega) (Nat.gcd_dvd_right _ _)
    simp (disch := first | omega | (simp only [fIn, fR, fC, Nat.reduceEqDiff, decide_false, decide_true, Bool.false_or, Bool.or_false, Bool.false_and, Bool.and_false, Bool.or_self, Bool.true_and, Bool.true_or, Bool.and_true, Bool.or_true, Bool.and_self]; done) | fail) only [hP_some, hP_let, hP_gd, hP_B, hP_if, reduceIte, q_lit, nI_add, pk_mul, q_lt, q_le, q_eq, q_cl, q_g, Bool.not_eq_true', decide_eq_false_iff_not, decide_eq_true_eq, q_div, q_rm, q_sub, q_m1, Nat.zero_add, Nat.add_zero, c, show ¬ Nat.gcd a b = 0 by omega] at hq ⊢
    exact ⟨fun h => h, hq⟩
end EU
