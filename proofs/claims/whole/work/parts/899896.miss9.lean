/-! ===== WHO IS MISSING: the reference, all sets ===== -/
section MISS9
variable {g : gS} {r : gR} {w : mW} {Q : Int32 → mW → Prop} {H : List (Nat × Nat)}
def msAnd (F : Nat → Prop) (n x m : Nat) : Prop := m < 2 ^ n ∧ ∀ s, s < n → (Nat.testBit m s = true ↔ ∀ y, y < x → F y → Nat.testBit y s = true)
def msBst (F : Nat → Prop) (x b : Nat) : Prop := b < x ∧ F b ∧ (∀ y, y < x → F y → pop b 12 ≤ pop y 12) ∧ ∀ y, y < b → F y → pop b 12 < pop y 12
def msBest (F : Nat → Prop) (x : Nat) (v : Int32) : Prop := (cN F x = 0 ∧ v = -nI 1) ∨ (0 < cN F x ∧ ∃ b, v = nI b ∧ msBst F x b)
theorem cN_le (F : Nat → Prop) : ∀ n, cN F n ≤ n
  | 0 => Nat.le_refl _
  | n + 1 => by
    have := cN_le F n
    show cN F n + cI (F n) ≤ n + 1
    by_cases c : F n
    · rw [cI_pos c]; omega
    · rw [cI_neg c]; omega
theorem cN_yes {F : Nat → Prop} {n : Nat} (h : F n) : cN F (n + 1) = cN F n + 1 := by
  show cN F n + _ = _
  rw [cI_pos h]
theorem cN_no {F : Nat → Prop} {n : Nat} (h : ¬ F n) : cN F (n + 1) = cN F n := by
  show cN F n + _ = _
  rw [cI_neg h]
  rfl
theorem cN_pos {F : Nat → Prop} : ∀ {n y}, y < n → F y → 0 < cN F n
  | 0, _, h, _ => absurd h (Nat.not_lt_zero _)
  | n + 1, y, h, hf => by
    show 0 < cN F n + _
    by_cases e : y = n
    · rw [e] at hf
      rw [cI_pos hf]; omega
    · have := cN_pos (n := n) (y := y) (by omega) hf
      omega
theorem cN_ex {F : Nat → Prop} : ∀ {n}, 0 < cN F n → ∃ y, y < n ∧ F y
  | 0, h => absurd h (Nat.lt_irrefl _)
  | n + 1, h => by
    by_cases c : F n
    · exact ⟨n, by omega, c⟩
    · rw [cN_no c] at h
      obtain ⟨y, h1, h2⟩ := cN_ex h
      exact ⟨y, by omega, h2⟩
theorem msAnd_no {F : Nat → Prop} {n x m : Nat} (h : msAnd F n x m) (hf : ¬ F x) : msAnd F n (x + 1) m := by
  refine ⟨h.1, fun s hs => (h.2 s hs).trans ⟨fun a y hy hF => ?_, fun a y hy hF => a y (by omega) hF⟩⟩
  by_cases e : y = x
  · exact absurd (e ▸ hF) hf
  · exact a y (by omega) hF
theorem msAnd_yes {F : Nat → Prop} {n x m : Nat} (h : msAnd F n x m) (hf : F x) : msAnd F n (x + 1) (m &&& x) := by
  refine ⟨Nat.lt_of_le_of_lt Nat.and_le_left h.1, fun s hs => ?_⟩
  rw [Nat.testBit_and, Bool.and_eq_true, h.2 s hs]
  constructor
  · intro a y hy hF
    by_cases e : y = x
    · rw [e]; exact a.2
    · exact a.1 y (by omega) hF
  · intro a
    exact ⟨fun y hy hF => a y (by omega) hF, a x (by omega) hf⟩
theorem msAnd_zero (F : Nat → Prop) (n : Nat) : msAnd F n 0 (2 ^ n - 1) := by
  have hp := Nat.two_pow_pos n
  refine ⟨by omega, fun s hs => ?_⟩
  rw [Nat.testBit_two_pow_sub_one, decide_eq_true_eq]
  exact ⟨fun _ y hy => absurd hy (Nat.not_lt_zero _), fun _ => hs⟩
theorem msBest_no {F : Nat → Prop} {x : Nat} {v : Int32} (h : msBest F x v) (hf : ¬ F x) : msBest F (x + 1) v := by
  rcases h with ⟨a, b⟩ | ⟨a, b, e, c1, c2, c3, c4⟩
  · exact .inl ⟨by rw [cN_no hf]; exact a, b⟩
  · refine .inr ⟨by rw [cN_no hf]; exact a, b, e, by omega, c2, fun y hy hF => ?_, c4⟩
    by_cases e : y = x
    · exact absurd (e ▸ hF) hf
    · exact c3 y (by omega) hF
theorem msBest_first {F : Nat → Prop} {x : Nat} (h : cN F x = 0) (hf : F x) : msBest F (x + 1) (nI x) := by
  have hz : ∀ y, y < x → ¬ F y := fun y hy hF => by
    have := cN_pos hy hF
    omega
  refine .inr ⟨by rw [cN_yes hf]; omega, x, rfl, by omega, hf, fun y hy hF => ?_, fun y hy hF => absurd hF (hz y hy)⟩
  by_cases e : y = x
  · rw [e]; exact Nat.le_refl _
  · exact absurd hF (hz y (by omega))
theorem msBest_new {F : Nat → Prop} {x b : Nat} (h : msBst F x b) (hf : F x) (c : pop x 12 < pop b 12) : msBest F (x + 1) (nI x) := by
  obtain ⟨c1, c2, c3, c4⟩ := h
  refine .inr ⟨by rw [cN_yes hf]; omega, x, rfl, by omega, hf, fun y hy hF => ?_, fun y hy hF => ?_⟩
  · by_cases e : y = x
    · rw [e]; exact Nat.le_refl _
    · have := c3 y (by omega) hF
      omega
  · have := c3 y hy hF
    omega
theorem msBest_old {F : Nat → Prop} {x b : Nat} (h : msBst F x b) (hf : F x) (c : ¬ pop x 12 < pop b 12) : msBest F (x + 1) (nI b) := by
  obtain ⟨c1, c2, c3, c4⟩ := h
  refine .inr ⟨by rw [cN_yes hf]; omega, b, rfl, by omega, c2, fun y hy hF => ?_, c4⟩
  by_cases e : y = x
  · rw [e]; omega
  · exact c3 y (by omega) hF
theorem pw12 {n : Nat} (h : n ≤ 12) : 2 ^ n ≤ 4096 := by
  have : 2 ^ n ≤ 2 ^ 12 := Nat.pow_le_pow_right (by decide) h
  exact this
theorem pop_k (x : Nat) : ∀ k, pop x k ≤ k
  | 0 => Nat.le_refl _
  | k + 1 => by
    have := pop_k x k
    have h := Nat.mod_lt (x / 2 ^ k) (show 0 < 2 by decide)
    show pop x k + x / 2 ^ k % 2 ≤ k + 1
    omega
/-- what the reference finds -/
theorem m_sets {x1 : Int32} (hM : rM g w) (ho : gOk g) (hH : iHd g H w 75 111 34 40 41)
    (h0 : x1 = nI 0 → Q (nI (cN (fitH g H (gSw g)) (2 ^ gSw g))) w)
    (h1 : ∀ v, x1 = nI 1 → msBest (fitH g H (gSw g)) (2 ^ gSw g) v → Q v w)
    (h2 : ∀ m, ¬ x1 = nI 0 → ¬ x1 = nI 1 → msAnd (fitH g H (gSw g)) (gSw g) (2 ^ gSw g) m → Q (if cN (fitH g H (gSw g)) (2 ^ gSw g) = 0 then nI 0 else nI m) w) :
    hP (mLoop (f282_80_b33 x1) nF (0, (-1), (nShl 1 (wI w 80 3)) - 1, 0, w)) Q := by
  have hsw := gOk_sw ho
  have hpw := pw12 hsw
  have hp1 := Nat.two_pow_pos (gSw g)
  have es : nShl 1 (wI w 80 3) = nI (2 ^ gSw g) := by
    rw [rM_sw hM, q_lit, q_shl (by omega) (by omega), Nat.one_mul]
  have es1 : nI (2 ^ gSw g) - 1 = nI (2 ^ gSw g - 1) := by
    rw [q_lit, q_sub hp1]
  rw [es, es1]
  refine hP_loopF (fun n s => ∃ x v m, x + n = 2 ^ gSw g ∧ msBest (fitH g H (gSw g)) x v ∧ msAnd (fitH g H (gSw g)) (gSw g) x m ∧ s = (nI (cN (fitH g H (gSw g)) x), v, nI m, nI x, w)) (2 ^ gSw g) (Nat.lt_of_le_of_lt hpw (by decide)) ⟨0, -nI 1, 2 ^ gSw g - 1, by omega, .inl ⟨rfl, rfl⟩, msAnd_zero _ _, rfl⟩ ?_
  rintro n s rec ⟨x, v, m, hxn, hB, hA, rfl⟩ ih
  have hc := cN_le (fitH g H (gSw g)) x
  have hm := hA.1
  simp only [f282_80_b33]
  rw [es]
  have ek : nI x + 1 = nI (x + 1) := by rw [← nI_add]; rfl
  by_cases c1 : x < 2 ^ gSw g
  · rw [if_pos (by rw [q_lt (by omega) (by omega)]; exact c1), hP_B]
    refine m_fits hM ho hH (by omega) (fun hf => ?_) (fun hf => ?_)
    · have ec : nI (cN (fitH g H (gSw g)) x) + 1 = nI (cN (fitH g H (gSw g)) (x + 1)) := by rw [cN_yes hf, ← nI_add]; rfl
      rw [if_neg (by decide)]
      rcases hB with ⟨a, rfl⟩ | ⟨a, b, rfl, hb⟩
      · rw [if_pos (show -nI 1 = -1 from rfl), hP_let, q_and (by omega) (by omega), ec, ek]
        exact ih (n - 1) _ (by omega) ⟨x + 1, _, _, by omega, msBest_first a hf, msAnd_yes hA hf, rfl⟩
      · have hbx := hb.1
        have hpx := pop_k x 12
        have hpb := pop_k b 12
        have e1 : ¬ nI b = -1 := by
          show ¬ nI b = -nI 1
          rw [q_neq (by omega)]
          exact fun h => h
        rw [if_neg e1, hP_B]
        refine m_pop (by omega) ?_
        rw [hP_B]
        refine m_pop (by omega) ?_
        by_cases c2 : pop x 12 < pop b 12
        · rw [if_pos (by rw [q_lt (by omega) (by omega)]; exact c2), hP_let, q_and (by omega) (by omega), ec, ek]
          exact ih (n - 1) _ (by omega) ⟨x + 1, _, _, by omega, msBest_new hb hf c2, msAnd_yes hA hf, rfl⟩
        · rw [if_neg (by rw [q_lt (by omega) (by omega)]; exact c2), hP_let, q_and (by omega) (by omega), ec, ek]
          exact ih (n - 1) _ (by omega) ⟨x + 1, _, _, by omega, msBest_old hb hf c2, msAnd_yes hA hf, rfl⟩
    · rw [if_pos (show nI 0 = 0 from rfl), ek]
      have ec : nI (cN (fitH g H (gSw g)) x) = nI (cN (fitH g H (gSw g)) (x + 1)) := by rw [cN_no hf]
      rw [ec]
      exact ih (n - 1) _ (by omega) ⟨x + 1, _, _, by omega, msBest_no hB hf, msAnd_no hA hf, rfl⟩
  · have e : x = 2 ^ gSw g := by omega
    rw [if_neg (by rw [q_lt (by omega) (by omega)]; exact c1)]
    subst e
    by_cases d0 : x1 = nI 0
    · rw [if_pos (show x1 = 0 from d0), hP_some]
      exact h0 d0
    · rw [if_neg (show ¬ x1 = 0 from d0)]
      by_cases d1 : x1 = nI 1
      · rw [if_pos (show x1 = 1 from d1), hP_some]
        exact h1 v d1 hB
      · rw [if_neg (show ¬ x1 = 1 from d1)]
        have := h2 m d0 d1 hA
        by_cases d2 : cN (fitH g H (gSw g)) (2 ^ gSw g) = 0
        · rw [if_pos d2] at this
          rw [if_pos (by rw [d2]; rfl), hP_some]
          exact this
        · rw [if_neg d2] at this
          rw [if_neg (by rw [q_lit, q_eq (by omega) (by omega)]; exact d2), hP_some]
          exact this
end MISS9
