/-! ===== DELAYS: b tells of each second, of a round that goes on and on, whether the cell is looked at; n seconds on end are needed ===== -/
def dGd (b : Nat → Bool) (n t : Nat) : Prop := ∀ i, i < n → b (t + i) = true
def dGb (b : Nat → Bool) (n t : Nat) : Bool := (List.range n).all (fun i => b (t + i))
theorem dGb_iff {b : Nat → Bool} {n t : Nat} : dGb b n t = true ↔ dGd b n t := by
  unfold dGb dGd
  rw [List.all_eq_true]
  exact ⟨fun h i hi => h i (List.mem_range.mpr hi), fun h i hi => h i (List.mem_range.mp hi)⟩
/-- so many seconds until a good stretch begins, sought m seconds far -/
def dF (b : Nat → Bool) (n : Nat) : Nat → Nat → Option Nat
  | _, 0 => none
  | s, m + 1 => if dGb b n s = true then some 0 else (dF b n (s + 1) m).map (· + 1)
theorem dF_y {b : Nat → Bool} {n s m : Nat} (h : dGd b n s) : dF b n s (m + 1) = some 0 := if_pos (dGb_iff.mpr h)
theorem dF_n {b : Nat → Bool} {n s m : Nat} (h : ¬ dGd b n s) : dF b n s (m + 1) = (dF b n (s + 1) m).map (· + 1) := if_neg (fun e => h (dGb_iff.mp e))
theorem dF_some {b : Nat → Bool} {n : Nat} : ∀ {m s k : Nat}, k < m → dGd b n (s + k) → (∀ j, j < k → ¬ dGd b n (s + j)) → dF b n s m = some k
  | 0, _, _, h, _, _ => absurd h (Nat.not_lt_zero _)
  | m + 1, s, 0, _, h, _ => dF_y h
  | m + 1, s, k + 1, h, h1, h2 => by
    rw [dF_n (s := s) (h2 0 (by omega))]
    rw [dF_some (m := m) (s := s + 1) (k := k) (by omega) (by rw [show s + 1 + k = s + (k + 1) by omega]; exact h1) (fun j hj => by rw [show s + 1 + j = s + (j + 1) by omega]; exact h2 (j + 1) (by omega))]
    rfl
theorem dF_none {b : Nat → Bool} {n : Nat} : ∀ {m s : Nat}, (∀ j, j < m → ¬ dGd b n (s + j)) → dF b n s m = none
  | 0, _, _ => by unfold dF; rfl
  | m + 1, s, h => by
    rw [dF_n (s := s) (h 0 (by omega)), dF_none (m := m) (s := s + 1) (fun j hj => by rw [show s + 1 + j = s + (j + 1) by omega]; exact h (j + 1) (by omega))]
    rfl
theorem dF_use {b : Nat → Bool} {n m s k : Nat} (h : dF b n s m = some k) : k < m ∧ dGd b n (s + k) ∧ ∀ j, j < k → ¬ dGd b n (s + j) := by
  by_cases e : ∃ k, k < m ∧ dGd b n (s + k)
  · obtain ⟨k2, h2, h3⟩ := pk_least _ e
    have h4 := dF_some h2.1 h2.2 (fun j hj g => h3 j hj ⟨by omega, g⟩)
    rw [h] at h4
    cases h4
    exact ⟨h2.1, h2.2, fun j hj g => h3 j hj ⟨by omega, g⟩⟩
  · rw [dF_none (fun j hj g => e ⟨j, hj, g⟩)] at h
    cases h
theorem dF_use0 {b : Nat → Bool} {n m s : Nat} (h : dF b n s m = none) : ∀ j, j < m → ¬ dGd b n (s + j) := by
  intro j hj g
  obtain ⟨k2, h2, h3⟩ := pk_least (fun k => k < m ∧ dGd b n (s + k)) ⟨j, hj, g⟩
  have h4 := dF_some h2.1 h2.2 (fun j hj g => h3 j hj ⟨by omega, g⟩)
  rw [h] at h4
  cases h4
/-- b comes again behind T -/
def dPer (b : Nat → Bool) (T : Nat) : Prop := ∀ i, b (i + T) = b i
theorem dPer.mul {b : Nat → Bool} {T : Nat} (h : dPer b T) : ∀ k i, b (i + k * T) = b i
  | 0, i => by rw [Nat.zero_mul, Nat.add_zero]
  | k + 1, i => by rw [Nat.add_mul, Nat.one_mul, ← Nat.add_assoc, h, h.mul k]
theorem dPer.mod {b : Nat → Bool} {T : Nat} (h : dPer b T) (i : Nat) : b (i % T) = b i := by
  have := h.mul (i / T) (i % T)
  rw [Nat.mul_comm, Nat.mod_add_div] at this
  exact this.symm
theorem dPer.good {b : Nat → Bool} {T n : Nat} (h : dPer b T) (t : Nat) : dGd b n (t + T) ↔ dGd b n t := by
  constructor <;> intro g i hi
  · rw [← h, show t + i + T = t + T + i by omega]
    exact g i hi
  · rw [show t + T + i = t + i + T by omega, h]
    exact g i hi
theorem dPer.goodk {b : Nat → Bool} {T n : Nat} (h : dPer b T) (k t : Nat) : dGd b n (t + k * T) ↔ dGd b n t := by
  constructor <;> intro g i hi
  · rw [← h.mul k, show t + i + k * T = t + k * T + i by omega]
    exact g i hi
  · rw [show t + k * T + i = t + i + k * T by omega, h.mul]
    exact g i hi
/-- none within a whole turn: none at all -/
theorem dPer.no {b : Nat → Bool} {T n s : Nat} (h : dPer b T) (hT : 0 < T) (g : ∀ j, j < T → ¬ dGd b n (s + j)) : ∀ t, ¬ dGd b n (s + t) := by
  intro t ht
  refine g (t % T) (Nat.mod_lt _ hT) ?_
  have e : s + t = s + t % T + t / T * T := by
    have := Nat.mod_add_div t T
    rw [Nat.mul_comm] at this
    omega
  rw [e] at ht
  exact (h.goodk _ _).mp ht
theorem dF_far {b : Nat → Bool} {T n s m : Nat} (h : dPer b T) (hT : 0 < T) (hm : T ≤ m) : dF b n s m = dF b n s T := by
  cases e : dF b n s T with
  | none => exact dF_none (fun j _ => h.no hT (dF_use0 e) j)
  | some k =>
    obtain ⟨h1, h2, h3⟩ := dF_use e
    exact dF_some (by omega) h2 h3
theorem dF_per {b : Nat → Bool} {T n s m : Nat} (h : dPer b T) : dF b n (s + T) m = dF b n s m := by
  cases e : dF b n s m with
  | none => exact dF_none (fun j hj g => dF_use0 e j hj ((h.good (s + j)).mp (by rw [show s + j + T = s + T + j by omega]; exact g)))
  | some k =>
    obtain ⟨h1, h2, h3⟩ := dF_use e
    refine dF_some h1 ?_ ?_
    · rw [show s + T + k = s + k + T by omega]
      exact (h.good _).mpr h2
    · intro j hj g
      rw [show s + T + j = s + j + T by omega] at g
      exact h3 j hj ((h.good _).mp g)
/-- the delay of second s; none: never -/
def dl (b : Nat → Bool) (n T s : Nat) : Option Nat := (dF b n s T).map (· + n)
/-- none is above all -/
def oMax : Option Nat → Option Nat → Option Nat
  | some a, some c => some (max a c)
  | _, _ => none
def oMin : Option Nat → Option Nat → Option Nat
  | some a, some c => some (min a c)
  | some a, none => some a
  | none, c => c
def oLe : Option Nat → Option Nat → Prop
  | _, none => True
  | some a, some c => a ≤ c
  | none, some _ => False
/-- the worst of the first k seconds -/
def dMx (b : Nat → Bool) (n T : Nat) : Nat → Option Nat
  | 0 => some 0
  | k + 1 => oMax (dMx b n T k) (dl b n T k)
/-- the number that stands for a delay, with N for never -/
def oN (N : Nat) : Option Nat → Nat
  | none => N
  | some a => a
theorem dl_le {b : Nat → Bool} {n T s k : Nat} (h : dl b n T s = some k) : k < T + n := by
  unfold dl at h
  cases e : dF b n s T with
  | none => rw [e] at h; cases h
  | some j =>
    rw [e] at h
    cases h
    have := (dF_use e).1
    show j + n < _
    omega
theorem dMx_le {b : Nat → Bool} {n T : Nat} : ∀ {k m : Nat}, dMx b n T k = some m → m ≤ T + n
  | 0, m, h => by cases h; omega
  | k + 1, m, h => by
    have h2 : oMax (dMx b n T k) (dl b n T k) = some m := h
    cases e1 : dMx b n T k with
    | none => rw [e1] at h2; cases h2
    | some a =>
      cases e2 : dl b n T k with
      | none => rw [e1, e2] at h2; cases h2
      | some c =>
        rw [e1, e2] at h2
        cases h2
        have := dMx_le e1
        have := dl_le e2
        omega
/-- what the worst is, told by bounds -/
theorem dMx_some {b : Nat → Bool} {n T M : Nat} : ∀ {k : Nat}, (∀ s, s < k → ∃ j, j ≤ M ∧ dl b n T s = some j) → (M = 0 ∨ ∃ s, s < k ∧ dl b n T s = some M) → dMx b n T k = some M := by
  have A : ∀ k, (∀ s, s < k → ∃ j, j ≤ M ∧ dl b n T s = some j) → ∃ m, m ≤ M ∧ dMx b n T k = some m ∧ ∀ s, s < k → ∀ j, dl b n T s = some j → j ≤ m := by
    intro k
    induction k with
    | zero => intro _; exact ⟨0, by omega, rfl, fun s hs => absurd hs (Nat.not_lt_zero _)⟩
    | succ k ih =>
      intro h
      obtain ⟨m, h1, h2, h3⟩ := ih (fun s hs => h s (by omega))
      obtain ⟨j, h4, h5⟩ := h k (by omega)
      refine ⟨max m j, by omega, ?_, ?_⟩
      · show oMax (dMx b n T k) (dl b n T k) = _
        rw [h2, h5]
        rfl
      · intro s hs i hi
        by_cases e : s = k
        · subst e
          rw [h5] at hi
          cases hi
          omega
        · have := h3 s (by omega) i hi
          omega
  intro k h1 h2
  obtain ⟨m, h3, h4, h5⟩ := A k h1
  rw [h4]
  rcases h2 with h2 | ⟨s, hs, h6⟩
  · congr 1; omega
  · have := h5 s hs M h6
    congr 1
    omega
theorem dMx_none {b : Nat → Bool} {n T s : Nat} : ∀ {k : Nat}, s < k → dl b n T s = none → dMx b n T k = none
  | 0, h, _ => absurd h (Nat.not_lt_zero _)
  | k + 1, h, e => by
    show oMax (dMx b n T k) (dl b n T k) = none
    by_cases e2 : s = k
    · subst e2
      rw [e]
      cases dMx b n T s <;> rfl
    · rw [dMx_none (k := k) (by omega) e]
      rfl
