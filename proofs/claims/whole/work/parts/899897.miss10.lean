/-! ===== WHO IS MISSING: the class, ways and lowest bits ===== -/
theorem q_orN {a b : Nat} (ha : a < 2147483648) (hb : b < 2147483648) : nI a ||| nI b = nI (a ||| b) := by
  apply Int32.toBitVec_inj.mp
  apply BitVec.eq_of_toNat_eq
  show (BitVec.ofNat 32 a ||| BitVec.ofNat 32 b).toNat = (BitVec.ofNat 32 (a ||| b)).toNat
  have h : a ||| b < 2 ^ 31 := Nat.or_lt_two_pow ha hb
  rw [BitVec.toNat_or, BitVec.toNat_ofNat, BitVec.toNat_ofNat, BitVec.toNat_ofNat, Nat.mod_eq_of_lt (by omega), Nat.mod_eq_of_lt (by omega), Nat.mod_eq_of_lt (by omega)]
theorem q_xorN {a b : Nat} (ha : a < 2147483648) (hb : b < 2147483648) : nI a ^^^ nI b = nI (a ^^^ b) := by
  apply Int32.toBitVec_inj.mp
  apply BitVec.eq_of_toNat_eq
  show (BitVec.ofNat 32 a ^^^ BitVec.ofNat 32 b).toNat = (BitVec.ofNat 32 (a ^^^ b)).toNat
  have h : a ^^^ b < 2 ^ 31 := Nat.xor_lt_two_pow ha hb
  rw [BitVec.toNat_xor, BitVec.toNat_ofNat, BitVec.toNat_ofNat, BitVec.toNat_ofNat, Nat.mod_eq_of_lt (by omega), Nat.mod_eq_of_lt (by omega), Nat.mod_eq_of_lt (by omega)]
theorem q_sh1 {k : Nat} (hk : k ≤ 12) : nShl 1 (nI k) = nI (2 ^ k) := by
  have h : 2 ^ k ≤ 2 ^ 12 := Nat.pow_le_pow_right (by decide) hk
  have e := q_shl (a := 1) (k := k) (by omega) (by rw [Nat.one_mul]; omega)
  rw [Nat.one_mul] at e
  exact e
theorem tb_mod (x s : Nat) : (Nat.testBit x s = true) = (x / 2 ^ s % 2 = 1) := by
  rw [Nat.testBit_eq_decide_div_mod_eq, decide_eq_true_eq]
theorem tb_eq {a b n : Nat} (ha : a < 2 ^ n) (hb : b < 2 ^ n) (h : ∀ s, s < n → (Nat.testBit a s = true ↔ Nat.testBit b s = true)) : a = b := by
  apply Nat.eq_of_testBit_eq
  intro s
  by_cases c : s < n
  · have := h s c
    cases h1 : Nat.testBit a s <;> cases h2 : Nat.testBit b s <;> rw [h1, h2] at this <;> first | rfl | (exfalso; simp at this)
  · have hp : 2 ^ n ≤ 2 ^ s := Nat.pow_le_pow_right (by decide) (by omega)
    rw [Nat.testBit_lt_two_pow (by omega), Nat.testBit_lt_two_pow (by omega)]
/-! binomials -/
theorem bnm_le : ∀ c m, bnm c m ≤ 2 ^ c
  | c, 0 => by
    have := Nat.two_pow_pos c
    unfold bnm
    omega
  | 0, m + 1 => by
    show 0 ≤ _
    omega
  | c + 1, m + 1 => by
    have h1 := bnm_le c m
    have h2 := bnm_le c (m + 1)
    show bnm c m + bnm c (m + 1) ≤ 2 ^ (c + 1)
    rw [Nat.pow_succ]
    omega
theorem bnm_pos : ∀ c m, m ≤ c → 0 < bnm c m
  | c, 0, _ => by unfold bnm; exact Nat.zero_lt_one
  | 0, m + 1, h => absurd h (by omega)
  | c + 1, m + 1, h => by
    have h1 := bnm_pos c m (by omega)
    show 0 < bnm c m + bnm c (m + 1)
    omega
theorem bnm_0 : ∀ c m, c < m → bnm c m = 0
  | _, 0, h => absurd h (Nat.not_lt_zero _)
  | 0, m + 1, _ => rfl
  | c + 1, m + 1, h => by
    show bnm c m + bnm c (m + 1) = 0
    rw [bnm_0 c m (by omega), bnm_0 c (m + 1) (by omega)]
theorem bnm_step {c i : Nat} (hc : c < 13) (hi : i < 13) : bnm c i * (c - i) = bnm c (i + 1) * (i + 1) := by
  have h : ∀ c : Fin 13, ∀ i : Fin 13, bnm c.1 i.1 * (c.1 - i.1) = bnm c.1 (i.1 + 1) * (i.1 + 1) := by decide +kernel
  exact h ⟨c, hc⟩ ⟨i, hi⟩
def lwb (v : Nat) : Nat := (List.range 12).find? (fun s => Nat.testBit v s) |>.getD 0
theorem lw_ck : ∀ v, v < 4096 → ¬ v = 0 → lwb v < 12 ∧ Nat.testBit v (lwb v) = true ∧ (∀ t, t < lwb v → Nat.testBit v t = false) ∧ nI v &&& -nI v = nI (2 ^ lwb v) := by
  have h : (List.range 4096).all (fun v => decide (v = 0) || (decide (lwb v < 12) && Nat.testBit v (lwb v) && (List.range (lwb v)).all (fun t => !Nat.testBit v t) && decide (nI v &&& -nI v = nI (2 ^ lwb v)))) = true := by decide +kernel
  intro v hv h0
  have h1 := List.all_eq_true.mp h v (List.mem_range.mpr hv)
  rw [decide_eq_false h0, Bool.false_or, Bool.and_eq_true, Bool.and_eq_true, Bool.and_eq_true, decide_eq_true_eq, decide_eq_true_eq] at h1
  obtain ⟨⟨⟨a, b⟩, c⟩, d⟩ := h1
  refine ⟨a, b, fun t ht => ?_, d⟩
  have := List.all_eq_true.mp c t (List.mem_range.mpr ht)
  rw [Bool.not_eq_true'] at this
  exact this
theorem pop_tb (v s : Nat) : pop v (s + 1) = pop v s + (if Nat.testBit v s = true then 1 else 0) := by
  show pop v s + v / 2 ^ s % 2 = _
  have hb := Nat.mod_lt (v / 2 ^ s) (show 0 < 2 by decide)
  by_cases c : Nat.testBit v s = true
  · rw [if_pos c]
    rw [tb_mod] at c
    rw [c]
  · rw [if_neg c]
    rw [tb_mod] at c
    generalize v / 2 ^ s % 2 = z at c hb ⊢
    omega
theorem pop_mono (v : Nat) {s t : Nat} (h : s ≤ t) : pop v s ≤ pop v t := by
  induction t with
  | zero =>
    have : s = 0 := by omega
    rw [this]
    exact Nat.le_refl _
  | succ t ih =>
    by_cases e : s = t + 1
    · rw [e]; exact Nat.le_refl _
    · have := ih (by omega)
      rw [pop_tb]
      omega
section MISS10
variable {g : gS} {r : gR} {w : mW} {Q : Int32 → mW → Prop} {H : List (Nat × Nat)}
theorem c_ways {c m : Nat} (hc : c ≤ 12) (hm : m ≤ 12) (hq : Q (nI (bnm c m)) w) : hP (f13 (nI c) (nI m) w) Q := by
  unfold f13
  by_cases c0 : c < m
  · rw [if_pos (by rw [q_lt (by omega) (by omega)]; exact c0), hP_some]
    rw [bnm_0 c m c0] at hq
    exact hq
  · rw [if_neg (by rw [q_lt (by omega) (by omega)]; exact c0)]
    refine hP_loopF (fun n s => ∃ i, i + n = m ∧ s = (nI (bnm c i), nI i, w)) m (by omega) ⟨0, by omega, by unfold bnm; rfl⟩ ?_
    rintro n s rec ⟨i, hin, rfl⟩ ih
    simp only [f13_b11]
    by_cases c1 : i < m
    · rw [if_pos (by rw [q_lt (by omega) (by omega)]; exact c1), hP_gd, hP_let]
      have ei : nI i + 1 = nI (i + 1) := by rw [← nI_add]; rfl
      have hb := bnm_le c i
      have hp := pw12 hc
      have hb2 := bnm_le c (i + 1)
      have hne : ¬ nI (i + 1) = 0 := by rw [q_lit, q_eq (by omega) (by omega)]; omega
      rw [ei, decide_eq_false hne, q_sub (by omega), pk_mul, bnm_step (by omega) (by omega)]
      have hbd : bnm c (i + 1) * (i + 1) ≤ 4096 * 13 := Nat.mul_le_mul (by omega) (by omega)
      rw [q_div (by omega) (by omega) (by omega), Nat.mul_div_cancel _ (by omega)]
      exact ⟨rfl, ih (n - 1) _ (by omega) ⟨i + 1, by omega, rfl⟩⟩
    · have e : i = m := by omega
      rw [if_neg (by rw [q_lt (by omega) (by omega)]; exact c1), hP_some]
      subst e
      exact hq
theorem c_low {v k : Nat} (hv : v < 4096) (hk : k ≤ 12) (hq : ∀ o, o < 4096 → (∀ s, Nat.testBit o s = true ↔ (Nat.testBit v s = true ∧ pop v s < k)) → Q (nI o) w) : hP (f14 (nI v) (nI k) w) Q := by
  unfold f14
  refine hP_loopF (fun n s => ∃ i o t, i + n = k ∧ o < 4096 ∧ t < 4096 ∧ (∀ s, Nat.testBit o s = true ↔ (Nat.testBit v s = true ∧ pop v s < i)) ∧ (∀ s, Nat.testBit t s = true ↔ (Nat.testBit v s = true ∧ i ≤ pop v s)) ∧ s = (nI t, nI o, nI i, w)) k (by omega) ⟨0, 0, v, by omega, by omega, hv, fun s => ?_, fun s => ⟨fun h => ⟨h, Nat.zero_le _⟩, fun h => h.1⟩, rfl⟩ ?_
  · rw [Nat.zero_testBit]
    exact ⟨fun h => (by cases h), fun h => absurd h.2 (Nat.not_lt_zero _)⟩
  rintro n s rec ⟨i, o, t, hin, ho, ht, h1, h2, rfl⟩ ih
  simp only [f14_b7]
  by_cases c1 : i < k
  · rw [if_pos (by rw [q_lt (by omega) (by omega)]; exact c1)]
    by_cases c2 : t = 0
    · rw [if_pos (by rw [c2]; rfl), hP_some]
      refine hq o ho (fun s => ⟨fun h => ⟨((h1 s).1 h).1, by have := ((h1 s).1 h).2; omega⟩, fun h => ?_⟩)
      refine (h1 s).2 ⟨h.1, ?_⟩
      apply Classical.byContradiction
      intro hc
      have := (h2 s).2 ⟨h.1, by omega⟩
      rw [c2, Nat.zero_testBit] at this
      cases this
    · rw [if_neg (by rw [q_lit, q_eq (by omega) (by omega)]; exact c2)]
      obtain ⟨l1, l2, l3, l4⟩ := lw_ck t ht c2
      generalize lwb t = z at l1 l2 l3 l4
      obtain ⟨hvz, hiz⟩ := (h2 z).1 l2
      have hle : ∀ s, s ≤ z → pop v s ≤ i := by
        intro s
        induction s with
        | zero => intro _; exact Nat.zero_le _
        | succ s ihs =>
          intro hs
          have hps := ihs (by omega)
          rw [pop_tb]
          by_cases cb : Nat.testBit v s = true
          · rw [if_pos cb]
            have : ¬ i ≤ pop v s := fun hh => by
              have e1 := (h2 s).2 ⟨cb, hh⟩
              rw [l3 s (by omega)] at e1
              cases e1
            omega
          · rw [if_neg cb]
            omega
      have hpz : pop v z = i := by
        have := hle z (Nat.le_refl _)
        omega
      have hp2 : 2 ^ z ≤ 2 ^ 11 := Nat.pow_le_pow_right (by decide) (by omega)
      have hp3 : 2 ^ z < 2 ^ 12 := Nat.lt_of_le_of_lt hp2 (by decide)
      have ei : nI i + 1 = nI (i + 1) := by rw [← nI_add]; rfl
      have hz1 : pop v (z + 1) = i + 1 := by rw [pop_tb, if_pos hvz, hpz]
      have o12 : o ||| 2 ^ z < 2 ^ 12 := Nat.or_lt_two_pow ho hp3
      have t12 : t ^^^ 2 ^ z < 2 ^ 12 := Nat.xor_lt_two_pow ht hp3
      have only : ∀ s, Nat.testBit v s = true → pop v s = i → s = z := by
        intro s hs he
        apply Classical.byContradiction
        intro hne
        by_cases cs : s < z
        · have := (h2 s).2 ⟨hs, by omega⟩
          rw [l3 s cs] at this
          cases this
        · have := pop_mono v (show z + 1 ≤ s by omega)
          omega
      rw [hP_let, hP_let, hP_let, l4, q_orN (by omega) (by omega), q_xorN (by omega) (by omega), ei]
      refine ih (n - 1) _ (by omega) ⟨i + 1, o ||| 2 ^ z, t ^^^ 2 ^ z, by omega, o12, t12, fun s => ?_, fun s => ?_, rfl⟩
      · rw [Nat.testBit_or, Bool.or_eq_true, h1 s, Nat.testBit_two_pow, decide_eq_true_eq]
        constructor
        · intro h
          rcases h with h | h
          · exact ⟨h.1, by omega⟩
          · rw [← h]; exact ⟨hvz, by omega⟩
        · intro h
          by_cases e : pop v s < i
          · exact .inl ⟨h.1, e⟩
          · exact .inr (only s h.1 (by omega)).symm
      · rw [Nat.testBit_xor, Nat.testBit_two_pow]
        by_cases e : z = s
        · rw [decide_eq_true e, ← e, l2]
          constructor
          · intro h; cases h
          · intro h; omega
        · rw [decide_eq_false e, Bool.xor_false, h2 s]
          constructor
          · intro h
            refine ⟨h.1, ?_⟩
            apply Classical.byContradiction
            intro hc
            exact e (only s h.1 (by omega)).symm
          · intro h
            exact ⟨h.1, by omega⟩
  · have e : i = k := by omega
    rw [if_neg (by rw [q_lt (by omega) (by omega)]; exact c1), hP_some]
    subst e
    exact hq o ho h1
/-- the swimmers in a row -/
def rowM (g : gS) (a v : Nat) : Prop := v < 2 ^ gSw g ∧ ∀ s, Nat.testBit v s = true ↔ (s < gSw g ∧ rw9 g s = a)
theorem c_inRow {a : Nat} (hC : rC g w) (ho : gOk g) (ha : a < 1000) (hq : ∀ v, rowM g a v → Q (nI v) w) : hP (f11_24_34 (nI a) w) Q := by
  have hsw := gOk_sw ho
  have hwd := gOk_wd ho
  have hn := gOk_n ho
  unfold f11_24_34
  refine hP_loopF (fun n s => ∃ k v, k + n = gSw g ∧ v < 2 ^ k ∧ (∀ s, Nat.testBit v s = true ↔ (s < k ∧ rw9 g s = a)) ∧ s = (nI v, nI k, w)) (gSw g) (by omega) ⟨0, 0, by omega, by omega, fun s => ?_, rfl⟩ ?_
  · rw [Nat.zero_testBit]
    exact ⟨fun h => (by cases h), fun h => absurd h.1 (Nat.not_lt_zero _)⟩
  rintro n s rec ⟨k, v, hkn, hv, h1, rfl⟩ ih
  simp only [f11_24_34_b5]
  rw [rC_sw hC]
  by_cases c1 : k < gSw g
  · have hat := gOk_at ho k c1
    have hdv := Nat.div_le_self (g 5 k) (gW g)
    have hp := pw12 hsw
    have hp1 : 2 ^ (k + 1) ≤ 2 ^ gSw g := Nat.pow_le_pow_right (by decide) (by omega)
    have hp2 : 2 ^ (k + 1) = 2 ^ k + 2 ^ k := by rw [Nat.pow_succ]; omega
    have ek : nI k + 1 = nI (k + 1) := by rw [← nI_add]; rfl
    rw [if_pos (by rw [q_lt (by omega) (by omega)]; exact c1), hP_gd, q_cl (by omega), rC_at hC k c1, hP_B]
    refine ⟨by rw [q_g (by omega)]; omega, ?_⟩
    unfold f49_24
    have hne : ¬ nI (gW g) = 0 := by rw [q_lit, q_eq (by omega) (by omega)]; omega
    rw [rC_wd hC, if_neg (by rw [q_lit, q_lt (by omega) (by omega)]; omega), hP_gd, decide_eq_false hne, q_div (by omega) (by omega) (by omega), hP_some]
    refine ⟨rfl, ?_⟩
    by_cases c2 : rw9 g k = a
    · rw [if_pos (by rw [q_eq (by omega) (by omega)]; exact c2), hP_let, q_sh1 (by omega), q_orN (by omega) (by omega), ek]
      refine ih (n - 1) _ (by omega) ⟨k + 1, v ||| 2 ^ k, by omega, Nat.or_lt_two_pow (by omega) (by omega), fun s => ?_, rfl⟩
      rw [Nat.testBit_or, Bool.or_eq_true, h1 s, Nat.testBit_two_pow, decide_eq_true_eq]
      constructor
      · intro h
        rcases h with h | h
        · exact ⟨by omega, h.2⟩
        · rw [← h]; exact ⟨by omega, c2⟩
      · intro h
        by_cases e : k = s
        · exact .inr e
        · exact .inl ⟨by omega, h.2⟩
    · rw [if_neg (by rw [q_eq (by omega) (by omega)]; exact c2), ek]
      refine ih (n - 1) _ (by omega) ⟨k + 1, v, by omega, by omega, fun s => ?_, rfl⟩
      rw [h1 s]
      constructor
      · intro h; exact ⟨by omega, h.2⟩
      · intro h
        refine ⟨?_, h.2⟩
        by_cases e : s = k
        · rw [e] at h; exact absurd h.2 c2
        · omega
  · have e : k = gSw g := by omega
    rw [if_neg (by rw [q_lt (by omega) (by omega)]; exact c1), hP_some]
    subst e
    exact hq v ⟨hv, h1⟩
theorem rowM_pop {a v : Nat} (h : rowM g a v) : ∀ k, k ≤ gSw g → pop v k = cR (rw9 g) a k
  | 0, _ => rfl
  | k + 1, hk => by
    rw [pop_tb, rowM_pop h k (by omega)]
    show _ = cR (rw9 g) a k + (if rw9 g k = a then 1 else 0)
    by_cases c : rw9 g k = a
    · rw [if_pos ((h.2 k).2 ⟨by omega, c⟩), if_pos c]
    · rw [if_neg (fun hh => c ((h.2 k).1 hh).2), if_neg c]
theorem rowM_all {a v : Nat} (h : rowM g a v) : ∀ k, pop v (gSw g + k) = cR (rw9 g) a (gSw g)
  | 0 => rowM_pop h _ (Nat.le_refl _)
  | k + 1 => by
    show pop v (gSw g + k + 1) = _
    rw [pop_tb, rowM_all h k, if_neg (fun hh => by have := ((h.2 _).1 hh).1; omega)]
    rfl
theorem nBts_pop (v : Nat) : ∀ k, nBts v k = pop v k
  | 0 => rfl
  | k + 1 => by
    show nBts v k + _ = pop v k + _
    rw [nBts_pop v k]
theorem rowM_12 {a v : Nat} (ho : gOk g) (h : rowM g a v) : nBts v 12 = cR (rw9 g) a (gSw g) := by
  have hsw := gOk_sw ho
  have e : gSw g + (12 - gSw g) = 12 := by omega
  have := rowM_all h (12 - gSw g)
  rw [e] at this
  rw [nBts_pop, this]
end MISS10
