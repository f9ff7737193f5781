/-! ===== WHO IS MISSING: one swimmer more ===== -/
section MISS2
variable (rho : Nat → Nat)
def fitQ (q : Nat → Option Nat) (k x : Nat) : Prop := ∀ a m, q a = some m → prs rho a x k = m
/-- one there in row a -/
def dcO : Option Nat → Option Nat
  | some (m + 1) => some m
  | o => o
def dcQ (q : Nat → Option Nat) (a : Nat) : Nat → Option Nat := fun b => if b = a then dcO (q a) else q b
theorem fit_missing {q : Nat → Option Nat} {k x : Nat} (hx : x < 2 ^ k) : fitQ rho q (k + 1) (2 ^ k + x) ↔ fitQ rho q k x := by
  unfold fitQ
  simp only [prs_missing rho hx]
theorem fit_there {q : Nat → Option Nat} {k x : Nat} (hx : x < 2 ^ k) : fitQ rho q (k + 1) x ↔ ¬ q (rho k) = some 0 ∧ fitQ rho (dcQ q (rho k)) k x := by
  unfold fitQ
  simp only [prs_there rho hx]
  constructor
  · intro h
    refine ⟨fun e => ?_, fun a m e => ?_⟩
    · have := h _ _ e
      rw [if_pos rfl] at this
      omega
    · unfold dcQ at e
      by_cases c : a = rho k
      · rw [if_pos c] at e
        subst c
        cases hq : q (rho k) with
        | none => rw [hq] at e; cases e
        | some m' =>
          have h2 := h _ _ hq
          rw [if_pos rfl] at h2
          cases m' with
          | zero => omega
          | succ m' =>
            rw [hq] at e
            have : m' = m := Option.some.inj e
            omega
      · rw [if_neg c] at e
        have := h _ _ e
        rw [if_neg (fun e2 => c e2.symm)] at this
        exact this
  · rintro ⟨h0, h⟩ a m e
    by_cases c : rho k = a
    · subst c
      rw [if_pos rfl]
      cases m with
      | zero => exact absurd e h0
      | succ m =>
        have := h (rho k) m (by unfold dcQ; rw [if_pos rfl, e]; rfl)
        omega
    · rw [if_neg c]
      exact h a m (by unfold dcQ; rw [if_neg (fun e2 => c e2.symm)]; exact e)
end MISS2
