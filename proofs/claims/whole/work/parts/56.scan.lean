/-! ===== THE SCAN: stretch, gap, first gap, longest gap, second by second ===== -/
abbrev scT : Type := Nat × Nat × Option Nat × Nat
/-- a stretch ends -/
def scE (n : Nat) (x : scT) : scT := if x.1 < n then (0, x.2.1 + x.1, x.2.2.1, x.2.2.2) else match x.2.2.1 with
  | none => (0, 0, some x.2.1, x.2.2.2)
  | some f => (0, 0, some f, max x.2.2.2 x.2.1)
def scB (n : Nat) (x : scT) (v : Bool) : scT := if v = true then (x.1 + 1, x.2) else (0, (scE n x).2.1 + 1, (scE n x).2.2)
def scS (b : Nat → Bool) (n : Nat) : Nat → scT
  | 0 => (0, 0, none, 0)
  | p + 1 => scB n (scS b n p) (b p)
def scEx (b : Nat → Bool) (n p f lg : Nat) : Prop := lg = 0 ∨ ∃ s, f ≤ s ∧ s + n ≤ p ∧ ∀ j, j + 1 < lg + n → ¬ dGd b n (s + j)
theorem scEx.up {b : Nat → Bool} {n p f lg : Nat} (h : scEx b n p f lg) : scEx b n (p + 1) f lg := by
  rcases h with h | ⟨s, s1, s2, s3⟩
  · exact .inl h
  · exact .inr ⟨s, s1, by omega, s3⟩
/-- what holds at p: q is where the gap began -/
def scInv (b : Nat → Bool) (n p : Nat) (x : scT) : Prop :=
  x.1 + x.2.1 ≤ p ∧ (∀ i, p - x.1 ≤ i → i < p → b i = true) ∧ (p = 0 ∨ (x.1 < p ∧ b (p - x.1 - 1) = false)) ∧
  (match x.2.2.1 with
   | none => x.1 + x.2.1 = p ∧ x.2.2.2 = 0 ∧ ∀ t, t + n ≤ p - x.1 → ¬ dGd b n t
   | some f => n ≤ p - x.1 - x.2.1 ∧ f + n ≤ p - x.1 - x.2.1 ∧ dGd b n f ∧ dGd b n (p - x.1 - x.2.1 - n) ∧ (∀ t, t < f → t + n ≤ p → ¬ dGd b n t) ∧ (∀ t, p - x.1 - x.2.1 - n < t → t + n ≤ p - x.1 → ¬ dGd b n t) ∧
     (∀ s, f ≤ s → s + n ≤ p - x.1 - x.2.1 → ∃ j, j + 1 ≤ x.2.2.2 + n ∧ dGd b n (s + j)) ∧ scEx b n p f x.2.2.2)
theorem scInv_t {b : Nat → Bool} {n p : Nat} {x : scT} (hb : b p = true) (hp : ¬ p = 0) (h : scInv b n p x) : scInv b n (p + 1) (x.1 + 1, x.2) := by
  obtain ⟨str, gap, fg, lg⟩ := x
  obtain ⟨h1, h2, h3, h4⟩ := h
  dsimp only at h1 h2 h3 h4
  have h3 : str < p ∧ b (p - str - 1) = false := h3.resolve_left hp
  refine ⟨by dsimp only; omega, ?_, .inr ⟨by dsimp only; omega, ?_⟩, ?_⟩
  · intro i hi1 hi2
    dsimp only at hi1
    by_cases e : i = p
    · rw [e]; exact hb
    · exact h2 i (by omega) (by omega)
  · dsimp only
    rw [show p + 1 - (str + 1) - 1 = p - str - 1 by omega]
    exact h3.2
  · cases fg with
    | none =>
      dsimp only at h4 ⊢
      refine ⟨by omega, h4.2.1, fun t ht => h4.2.2 t (by omega)⟩
    | some f =>
      dsimp only at h4 ⊢
      obtain ⟨a1, a2, a3, a4, a5, a6, a7, a8⟩ := h4
      have e1 : p + 1 - (str + 1) - gap = p - str - gap := by omega
      have e2 : p + 1 - (str + 1) = p - str := by omega
      rw [e1, e2]
      refine ⟨a1, a2, a3, a4, fun t t1 t2 => a5 t t1 (by omega), a6, a7, a8.up⟩
/-- where a false second lies within, nothing is good -/
theorem dGd_no {b : Nat → Bool} {n t i : Nat} (hb : b i = false) (h1 : t ≤ i) (h2 : i < t + n) : ¬ dGd b n t := by
  intro g
  have := g (i - t) (by omega)
  rw [show t + (i - t) = i by omega, hb] at this
  cases this
theorem scInv_f1 {b : Nat → Bool} {n p : Nat} {x : scT} (hb : b p = false) (hn : 1 ≤ n) (hx : x.1 < n) (h : scInv b n p x) : scInv b n (p + 1) (0, x.2.1 + x.1 + 1, x.2.2) := by
  obtain ⟨str, gap, fg, lg⟩ := x
  obtain ⟨h1, h2, h3, h4⟩ := h
  dsimp only at h1 h2 h3 h4 hx
  have no : ∀ t, p - str < t + n → t + n ≤ p + 1 → ¬ dGd b n t := by
    intro t t1 t2
    by_cases e : t + n = p + 1
    · exact dGd_no hb (by omega) (by omega)
    · rcases h3 with h3 | ⟨h3, h5⟩
      · omega
      · exact dGd_no h5 (by omega) (by omega)
  refine ⟨by dsimp only; omega, fun i hi1 hi2 => by dsimp only at hi1; omega, .inr ⟨by dsimp only; omega, by dsimp only; rw [show p + 1 - 0 - 1 = p by omega]; exact hb⟩, ?_⟩
  cases fg with
  | none =>
    dsimp only at h4 ⊢
    refine ⟨by omega, h4.2.1, fun t ht => ?_⟩
    by_cases e : t + n ≤ p - str
    · exact h4.2.2 t e
    · exact no t (by omega) (by omega)
  | some f =>
    dsimp only at h4 ⊢
    obtain ⟨a1, a2, a3, a4, a5, a6, a7, a8⟩ := h4
    have e1 : p + 1 - 0 - (gap + str + 1) = p - str - gap := by omega
    rw [e1]
    refine ⟨a1, a2, a3, a4, fun t t1 t2 => a5 t t1 (by omega), fun t t1 t2 => ?_, a7, a8.up⟩
    by_cases e : t + n ≤ p - str
    · exact a6 t t1 e
    · exact no t (by omega) (by omega)
theorem scInv_f2 {b : Nat → Bool} {n p str gap lg : Nat} (hb : b p = false) (hn : 1 ≤ n) (hx : ¬ str < n) (h : scInv b n p (str, gap, none, lg)) : scInv b n (p + 1) (0, 1, some gap, lg) := by
  obtain ⟨h1, h2, h3, h4⟩ := h
  dsimp only at h1 h2 h3 h4
  have h3 : str < p ∧ b (p - str - 1) = false := h3.resolve_left (by omega)
  have gd : ∀ t, p - str ≤ t → t + n ≤ p → dGd b n t := fun t t1 t2 i hi => h2 (t + i) (by omega) (by omega)
  refine ⟨by dsimp only; omega, fun i hi1 hi2 => by dsimp only at hi1; omega, .inr ⟨by dsimp only; omega, by dsimp only; rw [show p + 1 - 0 - 1 = p by omega]; exact hb⟩, ?_⟩
  dsimp only
  rw [show p + 1 - 0 - 1 = p by omega]
  refine ⟨by omega, by omega, gd _ (by omega) (by omega), gd _ (by omega) (by omega), fun t t1 t2 => ?_, fun t t1 t2 => dGd_no hb (by omega) (by omega), fun s s1 s2 => ⟨0, by omega, gd _ (by omega) (by omega)⟩, .inl h4.2.1⟩
  by_cases e : t + n ≤ p - str
  · exact h4.2.2 t e
  · exact dGd_no h3.2 (by omega) (by omega)
theorem scInv_f3 {b : Nat → Bool} {n p str gap lg f : Nat} (hb : b p = false) (hn : 1 ≤ n) (hx : ¬ str < n) (h : scInv b n p (str, gap, some f, lg)) : scInv b n (p + 1) (0, 1, some f, max lg gap) := by
  obtain ⟨h1, h2, h3, h4⟩ := h
  dsimp only at h1 h2 h3 h4
  have h3 : str < p ∧ b (p - str - 1) = false := h3.resolve_left (by omega)
  have gd : ∀ t, p - str ≤ t → t + n ≤ p → dGd b n t := fun t t1 t2 i hi => h2 (t + i) (by omega) (by omega)
  obtain ⟨a1, a2, a3, a4, a5, a6, a7, a8⟩ := h4
  refine ⟨by dsimp only; omega, fun i hi1 hi2 => by dsimp only at hi1; omega, .inr ⟨by dsimp only; omega, by dsimp only; rw [show p + 1 - 0 - 1 = p by omega]; exact hb⟩, ?_⟩
  dsimp only
  rw [show p + 1 - 0 - 1 = p by omega]
  refine ⟨by omega, by omega, a3, gd _ (by omega) (by omega), fun t t1 t2 => a5 t t1 (by omega), fun t t1 t2 => dGd_no hb (by omega) (by omega), fun s s1 s2 => ?_, ?_⟩
  · by_cases e : s + n ≤ p - str - gap
    · obtain ⟨j, j1, j2⟩ := a7 s s1 e
      exact ⟨j, by omega, j2⟩
    · by_cases e2 : p - str ≤ s
      · exact ⟨0, by omega, gd _ (by omega) (by omega)⟩
      · exact ⟨p - str - s, by omega, gd _ (by omega) (by omega)⟩
  · by_cases e : gap ≤ lg
    · rw [Nat.max_eq_left e]
      exact a8.up
    · rw [Nat.max_eq_right (by omega)]
      refine .inr ⟨p - str - gap - n + 1, by omega, by omega, fun j hj => ?_⟩
      by_cases e2 : p - str - gap - n + 1 + j + n ≤ p - str
      · exact a6 _ (by omega) e2
      · exact dGd_no h3.2 (by omega) (by omega)
theorem scInv_s {b : Nat → Bool} {n p : Nat} {x : scT} (hn : 1 ≤ n) (h0 : b 0 = false) (h : scInv b n p x) : scInv b n (p + 1) (scB n x (b p)) := by
  unfold scB
  cases hb : b p with
  | true =>
    rw [if_pos rfl]
    exact scInv_t hb (fun e => by subst e; rw [h0] at hb; cases hb) h
  | false =>
    rw [if_neg (by decide)]
    unfold scE
    by_cases hx : x.1 < n
    · rw [if_pos hx]
      exact scInv_f1 hb hn hx h
    · rw [if_neg hx]
      obtain ⟨str, gap, fg, lg⟩ := x
      cases fg with
      | none => exact scInv_f2 hb hn hx h
      | some f => exact scInv_f3 hb hn hx h
theorem scInv_all {b : Nat → Bool} {n : Nat} (hn : 1 ≤ n) (h0 : b 0 = false) : ∀ p, scInv b n p (scS b n p)
  | 0 => ⟨by show 0 + 0 ≤ 0; omega, fun i _ hi => absurd hi (Nat.not_lt_zero _), .inl rfl, by
    show 0 + 0 = 0 ∧ 0 = 0 ∧ ∀ t, t + n ≤ 0 - 0 → ¬ dGd b n t
    exact ⟨rfl, rfl, fun t ht => by omega⟩⟩
  | p + 1 => scInv_s hn h0 (scInv_all hn h0 p)
/-- **what the scan tells of a whole round that begins elsewhere** -/
def scEnd (n : Nat) (x : scT) : Option Nat := match x.2.2.1 with
  | none => none
  | some f => some (max x.2.2.2 (x.2.1 + f) + 2 * n - 1)
theorem scS_end {b : Nat → Bool} {n T : Nat} (hn : 1 ≤ n) (h0 : b 0 = false) (hp : dPer b T) (hT : 0 < T) : dMx b n T T = scEnd n (scE n (scS b n T)) := by
  have hbT : b T = false := by
    have := hp 0
    rw [Nat.zero_add] at this
    rw [this]
    exact h0
  have H := scInv_all (n := n) hn h0 (T + 1)
  have e0 : scS b n (T + 1) = (0, (scE n (scS b n T)).2.1 + 1, (scE n (scS b n T)).2.2) := by
    show scB n (scS b n T) (b T) = _
    unfold scB
    rw [hbT]
    rfl
  rw [e0] at H
  generalize scE n (scS b n T) = x at H
  obtain ⟨str, gap, fg, lg⟩ := x
  obtain ⟨h1, -, -, h4⟩ := H
  dsimp only at h1 h4
  cases fg with
  | none =>
    dsimp only at h4
    show dMx b n T T = none
    refine dMx_none (s := 0) hT ?_
    unfold dl
    rw [dF_none]
    · rfl
    · intro j hj
      rw [Nat.zero_add]
      by_cases e : j + n ≤ T + 1
      · exact h4.2.2 j (by omega)
      · exact dGd_no hbT (by omega) (by omega)
  | some f =>
    dsimp only at h4
    obtain ⟨a1, a2, a3, a4, a5, a6, a7, a8⟩ := h4
    show dMx b n T T = some (max lg (gap + f) + 2 * n - 1)
    have eq : T + 1 - 0 - (gap + 1) = T - gap := by omega
    rw [eq] at a1 a2 a4 a6 a7
    have gfT : dGd b n (f + T) := (hp.good f).mpr a3
    -- every second: soon enough
    have up : ∀ s, s ≤ T → ∃ j, j + 1 ≤ max lg (gap + f) + n ∧ dGd b n (s + j) := by
      intro s hs
      by_cases c1 : s < f
      · exact ⟨f - s, by omega, by rw [show s + (f - s) = f by omega]; exact a3⟩
      · by_cases c2 : s + n ≤ T - gap
        · obtain ⟨j, j1, j2⟩ := a7 s (by omega) c2
          exact ⟨j, by omega, j2⟩
        · exact ⟨f + T - s, by omega, by rw [show s + (f + T - s) = f + T by omega]; exact gfT⟩
    have upF : ∀ s, s ≤ T → ∃ k, k + 1 ≤ max lg (gap + f) + n ∧ dF b n s T = some k := by
      intro s hs
      cases e : dF b n s T with
      | none =>
        obtain ⟨j, -, j2⟩ := up s hs
        exact absurd j2 (hp.no hT (dF_use0 e) j)
      | some k =>
        obtain ⟨j, j1, j2⟩ := up s hs
        obtain ⟨k1, k2, k3⟩ := dF_use e
        refine ⟨k, ?_, rfl⟩
        by_cases c : j < k
        · exact absurd j2 (k3 j c)
        · omega
    have lo : ∃ s, s ≤ T ∧ dF b n s T = some (max lg (gap + f) + n - 1) := by
      by_cases c : lg ≤ gap + f
      · rw [Nat.max_eq_right c]
        refine ⟨T - gap - n + 1, by omega, ?_⟩
        refine dF_some (by omega) ?_ ?_
        · rw [show T - gap - n + 1 + (gap + f + n - 1) = f + T by omega]
          exact gfT
        · intro j hj
          by_cases c2 : T - gap - n + 1 + j ≤ T
          · by_cases c3 : T - gap - n + 1 + j + n ≤ T + 1
            · exact a6 _ (by omega) (by omega)
            · exact dGd_no hbT (by omega) (by omega)
          · intro g9
            have e9 : T - gap - n + 1 + j = (T - gap - n + 1 + j - T) + T := by omega
            rw [e9] at g9
            exact a5 (T - gap - n + 1 + j - T) (by omega) (by omega) ((hp.good _).mp g9)
      · rw [Nat.max_eq_left (by omega)]
        rcases a8 with a8 | ⟨s, s1, s2, s3⟩
        · omega
        · obtain ⟨k, k1, k2⟩ := upF s (by omega)
          refine ⟨s, by omega, ?_⟩
          rw [k2]
          obtain ⟨-, k4, -⟩ := dF_use k2
          congr 1
          by_cases c3 : k + 1 < lg + n
          · exact absurd k4 (s3 k c3)
          · omega
    refine dMx_some ?_ (.inr ?_)
    · intro s hs
      obtain ⟨k, k1, k2⟩ := upF s (by omega)
      refine ⟨k + n, by omega, ?_⟩
      unfold dl
      rw [k2]
      rfl
    · obtain ⟨s, s1, s2⟩ := lo
      have fin : ∀ s', dF b n s' T = some (max lg (gap + f) + n - 1) → dl b n T s' = some (max lg (gap + f) + 2 * n - 1) := by
        intro s' h
        unfold dl
        rw [h]
        show some (max lg (gap + f) + n - 1 + n) = _
        congr 1
        omega
      by_cases c : s = T
      · subst c
        refine ⟨0, hT, fin 0 ?_⟩
        rw [← s2]
        have := dF_per (n := n) (s := 0) (m := s) hp
        rw [Nat.zero_add] at this
        exact this.symm
      · exact ⟨s, by omega, fin s s2⟩
