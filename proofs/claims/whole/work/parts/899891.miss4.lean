/-! ===== WHO IS MISSING: how many are ===== -/
section MISS4
variable (rho : Nat → Nat)
def sumR (f : Nat → Nat) : Nat → Nat
  | 0 => 0
  | R + 1 => sumR f R + f R
theorem sumR_le {f h : Nat → Nat} : ∀ R, (∀ a, a < R → f a ≤ h a) → sumR f R ≤ sumR h R
  | 0, _ => Nat.le_refl _
  | R + 1, hh => by
    have h1 := sumR_le R (fun a ha => hh a (by omega))
    have h2 := hh R (by omega)
    show sumR f R + f R ≤ sumR h R + h R
    omega
theorem sumR_eq {f h : Nat → Nat} : ∀ R, (∀ a, a < R → f a = h a) → sumR f R = sumR h R
  | 0, _ => rfl
  | R + 1, hh => by
    show sumR f R + f R = sumR h R + h R
    rw [sumR_eq R (fun a ha => hh a (by omega)), hh R (by omega)]
theorem sumR_add (f h : Nat → Nat) : ∀ R, sumR (fun a => f a + h a) R = sumR f R + sumR h R
  | 0 => rfl
  | R + 1 => by
    show sumR (fun a => f a + h a) R + (f R + h R) = sumR f R + f R + (sumR h R + h R)
    rw [sumR_add f h R]
    omega
theorem sumR_one (b c : Nat) : ∀ R, sumR (fun a => if b = a then c else 0) R = if b < R then c else 0
  | 0 => rfl
  | R + 1 => by
    show sumR (fun a => if b = a then c else 0) R + (if b = R then c else 0) = _
    rw [sumR_one b c R]
    by_cases h1 : b < R
    · rw [if_pos h1, if_neg (by omega), if_pos (by omega)]; rfl
    · rw [if_neg h1]
      by_cases h2 : b = R
      · rw [if_pos h2, if_pos (by omega), Nat.zero_add]
      · rw [if_neg h2, if_neg (by omega)]
theorem prs_le (a x : Nat) : ∀ k, prs rho a x k ≤ cR rho a k
  | 0 => Nat.le_refl _
  | k + 1 => by
    have := prs_le a x k
    show prs rho a x k + (if rho k = a ∧ x / 2 ^ k % 2 = 0 then 1 else 0) ≤ cR rho a k + (if rho k = a then 1 else 0)
    by_cases h : rho k = a
    · rw [if_pos h]
      split <;> omega
    · rw [if_neg h, if_neg (fun e => h e.1)]
      omega
theorem pop_rows {R : Nat} (x : Nat) : ∀ k, (∀ s, s < k → rho s < R) → pop x k + sumR (fun a => prs rho a x k) R = sumR (fun a => cR rho a k) R
  | 0, _ => by
    show 0 + sumR (fun a => 0) R = sumR (fun a => 0) R
    rw [Nat.zero_add]
  | k + 1, h => by
    have ih := pop_rows x k (fun s hs => h s (by omega))
    have hk := h k (by omega)
    have e1 : sumR (fun a => cR rho a (k + 1)) R = sumR (fun a => cR rho a k) R + 1 := by
      have := sumR_add (fun a => cR rho a k) (fun a => if rho k = a then 1 else 0) R
      rw [sumR_one, if_pos hk] at this
      exact this
    have e2 : sumR (fun a => prs rho a x (k + 1)) R = sumR (fun a => prs rho a x k) R + (if x / 2 ^ k % 2 = 0 then 1 else 0) := by
      have e3 : sumR (fun a => prs rho a x (k + 1)) R = sumR (fun a => prs rho a x k + (if rho k = a then (if x / 2 ^ k % 2 = 0 then 1 else 0) else 0)) R := by
        refine sumR_eq R (fun a _ => ?_)
        show prs rho a x k + (if rho k = a ∧ x / 2 ^ k % 2 = 0 then 1 else 0) = _
        congr 1
        by_cases h1 : rho k = a
        · rw [if_pos h1]
          by_cases h2 : x / 2 ^ k % 2 = 0
          · rw [if_pos ⟨h1, h2⟩, if_pos h2]
          · rw [if_neg (fun e => h2 e.2), if_neg h2]
        · rw [if_neg h1, if_neg (fun e => h1 e.1)]
      rw [e3, sumR_add, sumR_one, if_pos hk]
    rw [e1, e2]
    show pop x k + x / 2 ^ k % 2 + _ = _
    have hb := Nat.mod_lt (x / 2 ^ k) (show 0 < 2 by decide)
    generalize x / 2 ^ k % 2 = z at hb ⊢
    by_cases h0 : z = 0
    · rw [if_pos h0]; omega
    · rw [if_neg h0]; omega
end MISS4
