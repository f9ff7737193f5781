/-! ===== WHO IS MISSING: the fewest ===== -/
section MISS5
variable (rho : Nat → Nat)
/-- how many must be missing at the least -/
def mb (q : Nat → Option Nat) (k : Nat) (a : Nat) : Nat := match q a with
  | none => 0
  | some m => cR rho a k - m
theorem fit_bits {q : Nat → Option Nat} {k x R : Nat} (hr : ∀ s, s < k → rho s < R) (h : fitQ rho q k x) : sumR (mb rho q k) R ≤ pop x k := by
  have e := pop_rows rho x k hr
  have h2 : sumR (fun a => mb rho q k a + prs rho a x k) R ≤ sumR (fun a => cR rho a k) R := by
    refine sumR_le R (fun a _ => ?_)
    have := prs_le rho a x k
    show mb rho q k a + prs rho a x k ≤ cR rho a k
    unfold mb
    split
    · omega
    · rename_i m hm
      have := h a m hm
      omega
  rw [sumR_add] at h2
  omega
/-- the lowest of the fewest -/
def lwQ : Nat → (Nat → Option Nat) → Nat
  | 0, _ => 0
  | k + 1, q => if q (rho k) = some 0 then 2 ^ k + lwQ k q else lwQ k (dcQ q (rho k))
theorem lwQ_lt : ∀ k q, lwQ rho k q < 2 ^ k
  | 0, _ => Nat.zero_lt_one
  | k + 1, q => by
    unfold lwQ
    rw [Nat.pow_succ]
    split
    · have := lwQ_lt k q; omega
    · have := lwQ_lt k (dcQ q (rho k)); omega
/-- each row can be served -/
def srv (q : Nat → Option Nat) (k : Nat) : Prop := ∀ a m, q a = some m → m ≤ cR rho a k
theorem srv_dc {q : Nat → Option Nat} {k : Nat} (h : srv rho q (k + 1)) (h0 : ¬ q (rho k) = some 0) : srv rho (dcQ q (rho k)) k := by
  intro a m e
  unfold dcQ at e
  by_cases c : a = rho k
  · rw [if_pos c] at e
    subst c
    cases hq : q (rho k) with
    | none => rw [hq] at e; cases e
    | some m' =>
      cases m' with
      | zero => exact absurd hq h0
      | succ m' =>
        rw [hq] at e
        have e2 : m' = m := Option.some.inj e
        have := h _ _ hq
        rw [cR_mine] at this
        omega
  · rw [if_neg c] at e
    have := h _ _ e
    rw [cR_other rho (fun e2 => c e2.symm)] at this
    exact this
theorem srv_ms {q : Nat → Option Nat} {k : Nat} (h : srv rho q (k + 1)) (h0 : q (rho k) = some 0) : srv rho q k := by
  intro a m e
  have := h a m e
  by_cases c : rho k = a
  · subst c
    rw [h0] at e
    have : 0 = m := Option.some.inj e
    omega
  · rw [cR_other rho c] at this
    exact this
theorem lwQ_fit : ∀ k q, srv rho q k → fitQ rho q k (lwQ rho k q)
  | 0, q, h => fun a m e => by
    have := h a m e
    show 0 = m
    have : m ≤ 0 := this
    omega
  | k + 1, q, h => by
    unfold lwQ
    by_cases c : q (rho k) = some 0
    · rw [if_pos c]
      exact (fit_missing rho (lwQ_lt rho k q)).mpr (lwQ_fit k q (srv_ms rho h c))
    · rw [if_neg c]
      exact (fit_there rho (lwQ_lt rho k _)).mpr ⟨c, lwQ_fit k _ (srv_dc rho h c)⟩
end MISS5
