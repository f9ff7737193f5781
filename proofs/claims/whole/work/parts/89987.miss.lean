/-! ===== WHO IS MISSING: sets that fit ===== -/
section MISS
variable (rho : Nat → Nat)
/-- how many of the first k in row a are there, when x tells who is missing -/
def prs (a x : Nat) : Nat → Nat
  | 0 => 0
  | k + 1 => prs a x k + (if rho k = a ∧ x / 2 ^ k % 2 = 0 then 1 else 0)
theorem bit_hi {k x j : Nat} (hx : x < 2 ^ k) (hj : j < k) : (2 ^ k + x) / 2 ^ j % 2 = x / 2 ^ j % 2 := by
  have e : 2 ^ k = 2 ^ j * (2 * 2 ^ (k - j - 1)) := by
    rw [← Nat.mul_assoc, ← Nat.pow_succ, ← Nat.pow_add]
    congr 1
    omega
  rw [e, Nat.mul_add_div (Nat.pow_pos (by decide)), Nat.mul_add_mod]
theorem bit_top {k x : Nat} (hx : x < 2 ^ k) : (2 ^ k + x) / 2 ^ k % 2 = 1 ∧ x / 2 ^ k % 2 = 0 := by
  constructor
  · have := Nat.mul_add_div (m := 2 ^ k) (Nat.pow_pos (by decide)) 1 x
    rw [Nat.mul_one] at this
    rw [this, Nat.div_eq_of_lt hx]
  · rw [Nat.div_eq_of_lt hx]
theorem prs_hi {k x a : Nat} (hx : x < 2 ^ k) : ∀ j, j ≤ k → prs rho a (2 ^ k + x) j = prs rho a x j
  | 0, _ => rfl
  | j + 1, h => by
    show prs rho a (2 ^ k + x) j + _ = prs rho a x j + _
    rw [prs_hi hx j (by omega), bit_hi hx (by omega)]
theorem prs_missing {k x a : Nat} (hx : x < 2 ^ k) : prs rho a (2 ^ k + x) (k + 1) = prs rho a x k := by
  show prs rho a (2 ^ k + x) k + (if rho k = a ∧ (2 ^ k + x) / 2 ^ k % 2 = 0 then 1 else 0) = _
  rw [prs_hi rho hx k (Nat.le_refl _), (bit_top hx).1, if_neg (by omega)]
  rfl
theorem prs_there {k x a : Nat} (hx : x < 2 ^ k) : prs rho a x (k + 1) = prs rho a x k + (if rho k = a then 1 else 0) := by
  show prs rho a x k + (if rho k = a ∧ x / 2 ^ k % 2 = 0 then 1 else 0) = _
  rw [(bit_top hx).2]
  congr 1
  by_cases e : rho k = a
  · rw [if_pos ⟨e, rfl⟩, if_pos e]
  · rw [if_neg (fun h => e h.1), if_neg e]
end MISS
