/-! ===== WHO IS MISSING: the class, row by row ===== -/
section MISS11
variable {g : gS} {r : gR} {w : mW} {H : List (Nat × Nat)}
theorem cR_lt (rho : Nat → Nat) : ∀ k s, s < k → cR rho (rho s) s < cR rho (rho s) k
  | 0, _, h => absurd h (Nat.not_lt_zero _)
  | k + 1, s, h => by
    show _ < cR rho (rho s) k + (if rho k = rho s then 1 else 0)
    by_cases e : s = k
    · rw [e, if_pos rfl]; omega
    · have := cR_lt rho k s (by omega)
      split <;> omega
/-- the bits of the lowest of the fewest -/
theorem lwQ_tb (rho : Nat → Nat) : ∀ k q s, s < k → (Nat.testBit (lwQ rho k q) s = true ↔ ∃ m, q (rho s) = some m ∧ cR rho (rho s) s + m < cR rho (rho s) k)
  | 0, _, _, h => absurd h (Nat.not_lt_zero _)
  | k + 1, q, s, h => by
    unfold lwQ
    have hc : cR rho (rho s) (k + 1) = cR rho (rho s) k + (if rho k = rho s then 1 else 0) := rfl
    by_cases c : q (rho k) = some 0
    · rw [if_pos c]
      by_cases e : s = k
      · rw [e, Nat.testBit_two_pow_add_eq, Nat.testBit_lt_two_pow (lwQ_lt rho k q)]
        refine ⟨fun _ => ⟨0, c, ?_⟩, fun _ => rfl⟩
        rw [cR_mine]
        omega
      · rw [Nat.testBit_two_pow_add_gt (by omega), lwQ_tb rho k q s (by omega), hc]
        have hlt := cR_lt rho k s (by omega)
        by_cases d : rho k = rho s
        · rw [if_pos d, ← d, c]
          rw [← d] at hlt
          constructor
          · rintro ⟨m, h1, h2⟩
            exact ⟨m, h1, by omega⟩
          · rintro ⟨m, h1, h2⟩
            refine ⟨m, h1, ?_⟩
            have : 0 = m := Option.some.inj h1
            omega
        · rw [if_neg d]
          exact Iff.rfl
    · rw [if_neg c]
      by_cases e : s = k
      · rw [e, Nat.testBit_lt_two_pow (lwQ_lt rho k _)]
        refine ⟨fun h => (by cases h), fun h => ?_⟩
        obtain ⟨m, h1, h2⟩ := h
        rw [cR_mine] at h2
        have : m = 0 := by omega
        rw [this] at h1
        exact absurd h1 c
      · rw [lwQ_tb rho k _ s (by omega), hc]
        unfold dcQ
        by_cases d : rho k = rho s
        · rw [if_pos d, ← d, if_pos rfl]
          cases hq : q (rho k) with
          | none => exact ⟨fun h => (by obtain ⟨m, h1, _⟩ := h; cases h1), fun h => (by obtain ⟨m, h1, _⟩ := h; cases h1)⟩
          | some m =>
            cases m with
            | zero => exact absurd hq c
            | succ m =>
              constructor
              · rintro ⟨m', h1, h2⟩
                have h1' : m = m' := Option.some.inj h1
                exact ⟨m + 1, rfl, by omega⟩
              · rintro ⟨m', h1, h2⟩
                have h1' : m + 1 = m' := Option.some.inj h1
                exact ⟨m, rfl, by omega⟩
        · rw [if_neg d, if_neg (fun h => d h.symm)]
          exact Iff.rfl
/-- the heads counted in row a -/
def hdQ (H : List (Nat × Nat)) (a : Nat) : Nat → Option Nat
  | 0 => none
  | i + 1 => if (H.getD i (0, 0)).1 = a then some (H.getD i (0, 0)).2 else hdQ H a i
abbrev hQ (H : List (Nat × Nat)) (a : Nat) : Option Nat := hdQ H a H.length
def hdA (H : List (Nat × Nat)) (a : Nat) : Prop := ∀ i, i < H.length → (H.getD i (0, 0)).1 = a → hQ H a = some (H.getD i (0, 0)).2
theorem hdQ_no {a : Nat} : ∀ k, (∀ i, i < k → ¬ (H.getD i (0, 0)).1 = a) → hdQ H a k = none
  | 0, _ => rfl
  | k + 1, h => by
    show (if (H.getD k (0, 0)).1 = a then _ else _) = none
    rw [if_neg (h k (by omega)), hdQ_no k (fun i hi => h i (by omega))]
theorem hdQ_yes {a m : Nat} : ∀ k j, j < k → (H.getD j (0, 0)).1 = a → (∀ i, i < k → (H.getD i (0, 0)).1 = a → (H.getD i (0, 0)).2 = m) → hdQ H a k = some m
  | 0, _, h, _, _ => absurd h (Nat.not_lt_zero _)
  | k + 1, j, hj, ha, h => by
    show (if (H.getD k (0, 0)).1 = a then some (H.getD k (0, 0)).2 else hdQ H a k) = some m
    by_cases c : (H.getD k (0, 0)).1 = a
    · rw [if_pos c, h k (by omega) c]
    · have : ¬ j = k := fun e => c (e ▸ ha)
      rw [if_neg c, hdQ_yes k j (by omega) ha (fun i hi => h i (by omega))]
theorem hdQ_ex {a m : Nat} : ∀ k, hdQ H a k = some m → ∃ i, i < k ∧ (H.getD i (0, 0)).1 = a ∧ (H.getD i (0, 0)).2 = m
  | 0, h => by cases h
  | k + 1, h => by
    have h' : (if (H.getD k (0, 0)).1 = a then some (H.getD k (0, 0)).2 else hdQ H a k) = some m := h
    by_cases c : (H.getD k (0, 0)).1 = a
    · rw [if_pos c] at h'
      exact ⟨k, by omega, c, Option.some.inj h'⟩
    · rw [if_neg c] at h'
      obtain ⟨i, h1, h2⟩ := hdQ_ex k h'
      exact ⟨i, by omega, h2⟩
theorem fitH_Q {k x : Nat} (hA : ∀ a, hdA H a) : fitH g H k x ↔ fitQ (rw9 g) (hQ H) k x := by
  constructor
  · intro h a m e
    obtain ⟨i, h1, h2, h3⟩ := hdQ_ex _ e
    have := h i h1
    rw [h2, h3] at this
    exact this
  · intro h i hi
    exact h _ _ (hA _ i hi rfl)
/-- one row: none counted, so many counted, or two counts that fight -/
theorem c_row {Q : Unit → mW → Prop} {a v : Nat} (ho : gOk g) (hH : iHd g H w 75 111 34 40 41) (ha : a < 1000) (hv : rowM g a v)
    (hno : (∀ i, i < H.length → ¬ (H.getD i (0, 0)).1 = a) → Q () (nS w 78 0 (wI w 78 0 * nI (2 ^ cR (rw9 g) a (gSw g)))))
    (hx : (∀ x, ¬ fitH g H (gSw g) x) → Q () (nS w 78 0 (nI 0)))
    (hs : ∀ m j, m ≤ 12 → j < H.length → (H.getD j (0, 0)).1 = a → (∀ i, i < H.length → (H.getD i (0, 0)).1 = a → (H.getD i (0, 0)).2 = m) →
      hP ((nB (f13 (nI (cR (rw9 g) a (gSw g))) (nI m) w) fun v1 w2 => (nLet (nS w2 78 0 ((wI w 78 0) * v1)) fun w3 => (nB (f14 (nI v) (nI (cR (rw9 g) a (gSw g)) - nI m) w3) fun v4 w5 => (nLet (nS w5 78 1 ((wI w3 78 1) ||| v4)) fun w6 => (if nI m = 0 then (nLet (nS w6 78 2 ((wI w6 78 2) ||| nI v)) fun w7 => (some ((), w7))) else (some ((), w6)))))))) Q) :
    hP (f12_78_34 (nI v) (nI a) w) Q := by
  have hsw := gOk_sw ho
  have hp := pw12 hsw
  have hv4 : v < 4096 := Nat.lt_of_lt_of_le hv.1 hp
  obtain ⟨d1, d2, d3, d4⟩ := hH
  unfold f12_78_34
  rw [hP_B]
  refine c_bits hv4 ?_
  rw [rowM_12 ho hv]
  have hc := rowM_pop hv (gSw g) (Nat.le_refl _)
  have hc2 := pop_k v (gSw g)
  have hhi := gOk_hi ho
  refine hP_loopF (fun n s => ∃ (i : Nat) (x : Int32), i + n = H.length ∧ s = (x, nI i, w) ∧ ((x = -nI 1 ∧ ∀ j, j < i → ¬ (H.getD j (0, 0)).1 = a) ∨ ∃ m j, m ≤ 12 ∧ x = nI m ∧ j < i ∧ (H.getD j (0, 0)).1 = a ∧ ∀ j, j < i → (H.getD j (0, 0)).1 = a → (H.getD j (0, 0)).2 = m)) H.length (by omega) ⟨0, -nI 1, by omega, rfl, .inl ⟨rfl, fun j hj => absurd hj (Nat.not_lt_zero _)⟩⟩ ?_
  rintro n s rec ⟨i, x, hin, rfl, hx5⟩ ih
  simp only [f12_78_34_b12]
  rw [d2]
  have ei : nI i + 1 = nI (i + 1) := by rw [← nI_add]; rfl
  by_cases c1 : i < H.length
  · obtain ⟨v1, v2, v3, v4, v5, v6⟩ := d4 i c1
    rw [if_pos (by rw [q_lt (by omega) (by omega)]; exact c1), hP_gd, q_cl (by omega), v3, v4]
    refine ⟨by rw [q_g (by omega)]; omega, ?_⟩
    by_cases c2 : (H.getD i (0, 0)).1 = a
    · rw [if_pos (by rw [c2])]
      rcases hx5 with ⟨rfl, hn⟩ | ⟨m, j, hm, rfl, hj, hja, hall⟩
      · rw [if_pos (show -nI 1 = -1 from rfl), hP_gd, hP_let, ei]
        refine ⟨by rw [q_g (by omega)]; omega, ih (n - 1) _ (by omega) ⟨i + 1, _, by omega, rfl, .inr ⟨_, i, by omega, rfl, by omega, c2, fun j hj hja => ?_⟩⟩⟩
        by_cases e : j = i
        · rw [e]
        · exact absurd hja (hn j (by omega))
      · have e1 : ¬ nI m = -1 := by
          show ¬ nI m = -nI 1
          rw [q_neq (by omega)]
          exact fun h => h
        rw [if_neg e1, hP_gd]
        refine ⟨by rw [q_g (by omega)]; omega, ?_⟩
        by_cases c3 : m = (H.getD i (0, 0)).2
        · rw [if_pos (by rw [c3]), hP_gd, hP_let, ei]
          refine ⟨by rw [q_g (by omega)]; omega, ih (n - 1) _ (by omega) ⟨i + 1, _, by omega, rfl, .inr ⟨_, i, by omega, rfl, by omega, c2, fun j hj hja => ?_⟩⟩⟩
          by_cases e : j = i
          · rw [e]
          · rw [hall j (by omega) hja]; exact c3
        · rw [if_neg (by rw [q_eq (by omega) (by omega)]; exact c3), hP_let, hP_some]
          refine hx (fun x hf => ?_)
          have f1 := hf j (by omega)
          have f2 := hf i c1
          rw [hall j hj hja, hja] at f1
          rw [c2] at f2
          exact c3 (f1.symm.trans f2)
    · rw [if_neg (by rw [q_eq (by omega) (by omega)]; exact c2), ei]
      refine ih (n - 1) _ (by omega) ⟨i + 1, _, by omega, rfl, ?_⟩
      rcases hx5 with ⟨h1, hn⟩ | ⟨m, j, hm, h1, hj, hja, hall⟩
      · refine .inl ⟨h1, fun j hj => ?_⟩
        by_cases e : j = i
        · rw [e]; exact c2
        · exact hn j (by omega)
      · refine .inr ⟨m, j, hm, h1, by omega, hja, fun j hj hja => ?_⟩
        by_cases e : j = i
        · rw [e] at hja; exact absurd hja c2
        · exact hall j (by omega) hja
  · have e : i = H.length := by omega
    rw [if_neg (by rw [q_lt (by omega) (by omega)]; exact c1)]
    subst e
    rcases hx5 with ⟨rfl, hn⟩ | ⟨m, j, hm, rfl, hj, hja, hall⟩
    · have hpc : 2 ^ cR (rw9 g) a (gSw g) ≤ 2 ^ 12 := Nat.pow_le_pow_right (by decide) (by omega)
      have h1 := hno hn
      rw [if_pos (show -nI 1 = -1 from rfl), hP_let, hP_some, q_sh1 (by omega)]
      exact h1
    · have e1 : ¬ nI m = -1 := by
        show ¬ nI m = -nI 1
        rw [q_neq (by omega)]
        exact fun h => h
      rw [if_neg e1]
      exact hs m j hm hj hja hall
end MISS11
