/-! ===== WHO IS MISSING: the lowest of the fewest ===== -/
section MISS6
variable (rho : Nat → Nat)
theorem lwQ_free : ∀ k q a, q a = none → prs rho a (lwQ rho k q) k = cR rho a k
  | 0, _, _, _ => rfl
  | k + 1, q, a, h => by
    unfold lwQ
    by_cases c : q (rho k) = some 0
    · have hne : ¬ rho k = a := by
        intro e
        rw [e, h] at c
        cases c
      rw [if_pos c, prs_missing rho (lwQ_lt rho k q), lwQ_free k q a h, cR_other rho hne]
    · rw [if_neg c, prs_there rho (lwQ_lt rho k _)]
      show _ = cR rho a k + (if rho k = a then 1 else 0)
      rw [lwQ_free k (dcQ q (rho k)) a]
      unfold dcQ
      by_cases e : a = rho k
      · rw [if_pos e, ← e, h]; rfl
      · rw [if_neg e]; exact h
theorem lwQ_bits {R : Nat} {k : Nat} {q : Nat → Option Nat} (hr : ∀ s, s < k → rho s < R) (h : srv rho q k) : pop (lwQ rho k q) k = sumR (mb rho q k) R := by
  have e := pop_rows rho (lwQ rho k q) k hr
  have hf := lwQ_fit rho k q h
  have h2 : sumR (fun a => mb rho q k a + prs rho a (lwQ rho k q) k) R = sumR (fun a => cR rho a k) R := by
    refine sumR_eq R (fun a _ => ?_)
    show mb rho q k a + prs rho a (lwQ rho k q) k = cR rho a k
    unfold mb
    cases hq : q a with
    | none => dsimp only; rw [lwQ_free rho k q a hq, Nat.zero_add]
    | some m =>
      have h3 := hf a m hq
      have h4 := h a m hq
      dsimp only
      omega
  rw [sumR_add] at h2
  omega
theorem mb_ms {R : Nat} {k : Nat} {q : Nat → Option Nat} (hk : rho k < R) (c : q (rho k) = some 0) : sumR (mb rho q (k + 1)) R = sumR (mb rho q k) R + 1 := by
  have e : sumR (mb rho q (k + 1)) R = sumR (fun a => mb rho q k a + (if rho k = a then 1 else 0)) R := by
    refine sumR_eq R (fun a _ => ?_)
    by_cases e : rho k = a
    · subst e
      rw [if_pos rfl]
      unfold mb
      rw [c, cR_mine]
      dsimp only
      omega
    · rw [if_neg e]
      unfold mb
      rw [cR_other rho e]
      rfl
  rw [e, sumR_add, sumR_one, if_pos hk]
theorem mb_dc {R : Nat} {k : Nat} {q : Nat → Option Nat} (c : ¬ q (rho k) = some 0) : sumR (mb rho q (k + 1)) R = sumR (mb rho (dcQ q (rho k)) k) R := by
  refine sumR_eq R (fun a _ => ?_)
  by_cases e : rho k = a
  · subst e
    unfold mb dcQ
    rw [if_pos rfl, cR_mine]
    cases hq : q (rho k) with
    | none => rfl
    | some m =>
      cases m with
      | zero => exact absurd hq c
      | succ m =>
        show cR rho (rho k) k + 1 - (m + 1) = cR rho (rho k) k - m
        omega
  · unfold mb dcQ
    rw [if_neg (fun e2 => e e2.symm), cR_other rho e]
theorem pop_low {x k : Nat} (hx : x < 2 ^ k) : pop x (k + 1) = pop x k := by
  show pop x k + x / 2 ^ k % 2 = _
  rw [(bit_top hx).2]
  rfl
theorem pop_hi {x k : Nat} (hx : x < 2 ^ k) : pop (2 ^ k + x) (k + 1) = pop x k + 1 := by
  have g : ∀ j, j ≤ k → pop (2 ^ k + x) j = pop x j := by
    intro j
    induction j with
    | zero => intro _; rfl
    | succ j ih =>
      intro h
      show pop (2 ^ k + x) j + _ = pop x j + _
      rw [ih (by omega), bit_hi hx (by omega)]
  show pop (2 ^ k + x) k + (2 ^ k + x) / 2 ^ k % 2 = _
  rw [g k (Nat.le_refl _), (bit_top hx).1]
theorem lwQ_least {R : Nat} : ∀ k q y, (∀ s, s < k → rho s < R) → y < 2 ^ k → fitQ rho q k y → pop y k = sumR (mb rho q k) R → lwQ rho k q ≤ y
  | 0, _, _, _, _, _, _ => Nat.zero_le _
  | k + 1, q, y, hr, hy, hf, hp => by
    have hk := hr k (by omega)
    unfold lwQ
    by_cases c : q (rho k) = some 0
    · rw [if_pos c]
      by_cases hl : y < 2 ^ k
      · exact absurd c ((fit_there rho hl).mp hf).1
      · obtain ⟨z, rfl⟩ : ∃ z, y = 2 ^ k + z := ⟨y - 2 ^ k, by omega⟩
        have hz : z < 2 ^ k := by rw [Nat.pow_succ] at hy; omega
        have h1 := (fit_missing rho hz).mp hf
        rw [pop_hi hz, mb_ms rho hk c] at hp
        have := lwQ_least k q z (fun s hs => hr s (by omega)) hz h1 (by omega)
        omega
    · rw [if_neg c]
      by_cases hl : y < 2 ^ k
      · have h1 := ((fit_there rho hl).mp hf).2
        rw [pop_low hl, mb_dc rho c] at hp
        exact lwQ_least k _ y (fun s hs => hr s (by omega)) hl h1 hp
      · have := lwQ_lt rho k (dcQ q (rho k))
        omega
end MISS6
