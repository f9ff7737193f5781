/-! ===== WHO IS MISSING: how many sets ===== -/
section MISS3
noncomputable def cI (P : Prop) : Nat := @ite Nat P (Classical.propDecidable P) 1 0
theorem cI_pos {P : Prop} (h : P) : cI P = 1 := if_pos h
theorem cI_neg {P : Prop} (h : ¬ P) : cI P = 0 := if_neg h
noncomputable def cN (P : Nat → Prop) : Nat → Nat
  | 0 => 0
  | n + 1 => cN P n + cI (P n)
theorem cN_congr {P R : Nat → Prop} : ∀ n, (∀ x, x < n → (P x ↔ R x)) → cN P n = cN R n
  | 0, _ => rfl
  | n + 1, h => by
    have e : P n = R n := propext (h n (by omega))
    show cN P n + _ = cN R n + _
    rw [cN_congr n (fun x hx => h x (by omega)), e]
theorem cN_add (P : Nat → Prop) (a : Nat) : ∀ b, cN P (a + b) = cN P a + cN (fun x => P (a + x)) b
  | 0 => rfl
  | b + 1 => by
    show cN P (a + b) + _ = cN P a + (cN (fun x => P (a + x)) b + _)
    rw [cN_add P a b, Nat.add_assoc]
    rfl
theorem cN_false {P : Nat → Prop} : ∀ n, (∀ x, x < n → ¬ P x) → cN P n = 0
  | 0, _ => rfl
  | n + 1, h => by
    show cN P n + _ = 0
    rw [cN_false n (fun x hx => h x (by omega)), cI_neg (h n (by omega))]
/-- binomials -/
def bnm : Nat → Nat → Nat
  | _, 0 => 1
  | 0, _ + 1 => 0
  | n + 1, m + 1 => bnm n m + bnm n (m + 1)
def way1 (o : Option Nat) (c : Nat) : Nat := match o with
  | none => 2 ^ c
  | some m => bnm c m
variable (rho : Nat → Nat)
def cR (a : Nat) : Nat → Nat
  | 0 => 0
  | k + 1 => cR a k + (if rho k = a then 1 else 0)
/-- the product over the rows below R -/
def wayP (q : Nat → Option Nat) (k : Nat) : Nat → Nat
  | 0 => 1
  | a + 1 => wayP q k a * way1 (q a) (cR rho a k)
theorem way1_no (o : Option Nat) (h : ¬ o = some 0) (c : Nat) : way1 o (c + 1) = way1 (dcO o) c + way1 o c := by
  cases o with
  | none => show 2 ^ (c + 1) = 2 ^ c + 2 ^ c; rw [Nat.pow_succ]; omega
  | some m =>
    cases m with
    | zero => exact absurd rfl h
    | succ m => rfl
theorem way1_zero (c : Nat) : way1 (some 0) (c + 1) = way1 (some 0) c := by
  show bnm (c + 1) 0 = bnm c 0
  unfold bnm
  rfl
theorem wayP_same (q q' : Nat → Option Nat) (k k' : Nat) : ∀ R, (∀ a, a < R → way1 (q a) (cR rho a k) = way1 (q' a) (cR rho a k')) → wayP rho q k R = wayP rho q' k' R
  | 0, _ => rfl
  | R + 1, h => by
    show wayP rho q k R * _ = wayP rho q' k' R * _
    rw [wayP_same q q' k k' R (fun a ha => h a (by omega)), h R (by omega)]
theorem cR_other {a k : Nat} (h : ¬ rho k = a) : cR rho a (k + 1) = cR rho a k := by
  show cR rho a k + _ = _
  rw [if_neg h]
  rfl
theorem cR_mine (k : Nat) : cR rho (rho k) (k + 1) = cR rho (rho k) k + 1 := by
  show cR rho (rho k) k + _ = _
  rw [if_pos rfl]
theorem wayP_rec (q : Nat → Option Nat) (k : Nat) : ∀ R, rho k < R → wayP rho q (k + 1) R = (if q (rho k) = some 0 then 0 else wayP rho (dcQ q (rho k)) k R) + wayP rho q k R
  | 0, h => absurd h (Nat.not_lt_zero _)
  | R + 1, h => by
    show wayP rho q (k + 1) R * way1 (q R) (cR rho R (k + 1)) = (if q (rho k) = some 0 then 0 else wayP rho (dcQ q (rho k)) k R * way1 (dcQ q (rho k) R) (cR rho R k)) + wayP rho q k R * way1 (q R) (cR rho R k)
    by_cases c : rho k = R
    · have e1 : wayP rho q (k + 1) R = wayP rho q k R := wayP_same rho q q (k + 1) k R (fun a ha => by rw [cR_other rho (by omega)])
      have e2 : wayP rho (dcQ q (rho k)) k R = wayP rho q k R := wayP_same rho _ q k k R (fun a ha => by unfold dcQ; rw [if_neg (by omega)])
      have e3 : dcQ q (rho k) R = dcO (q R) := by unfold dcQ; rw [if_pos c.symm, c]
      have e4 : cR rho R (k + 1) = cR rho R k + 1 := by rw [← c]; exact cR_mine rho k
      rw [e1, e2, e3, e4, c]
      by_cases c2 : q R = some 0
      · rw [if_pos c2, c2, way1_zero, Nat.zero_add]
      · rw [if_neg c2, way1_no _ c2, Nat.mul_add]
    · have e3 : dcQ q (rho k) R = q R := by unfold dcQ; rw [if_neg (fun e => c e.symm)]
      rw [wayP_rec q k R (by omega), cR_other rho c, e3, Nat.add_mul]
      congr 1
      split
      · rw [Nat.zero_mul]
      · rfl
theorem way_zero : ∀ (q : Nat → Option Nat) R, (∀ a, R ≤ a → q a = none) → wayP rho q 0 R = cN (fitQ rho q 0) 1
  | q, R, hq => by
    have key : ∀ R', R' ≤ R → (wayP rho q 0 R' = 1 ∧ ∀ a, a < R' → ∀ m, q a = some m → m = 0) ∨ (wayP rho q 0 R' = 0 ∧ ∃ a m, q a = some (m + 1)) := by
      intro R'
      induction R' with
      | zero => intro _; exact .inl ⟨rfl, fun a ha => absurd ha (Nat.not_lt_zero _)⟩
      | succ b ih =>
        intro hb
        rcases ih (by omega) with ⟨h1, h2⟩ | ⟨h1, h2⟩
        · cases e : q b with
          | none =>
            refine .inl ⟨?_, fun a ha m hm => ?_⟩
            · show wayP rho q 0 b * way1 (q b) 0 = 1
              rw [h1, e]; rfl
            · by_cases c : a = b
              · rw [c, e] at hm; cases hm
              · exact h2 a (by omega) m hm
          | some m =>
            cases m with
            | zero =>
              refine .inl ⟨?_, fun a ha m hm => ?_⟩
              · show wayP rho q 0 b * way1 (q b) 0 = 1
                rw [h1, e]; rfl
              · by_cases c : a = b
                · rw [c, e] at hm; exact (Option.some.inj hm).symm
                · exact h2 a (by omega) m hm
            | succ m =>
              refine .inr ⟨?_, b, m, e⟩
              show wayP rho q 0 b * way1 (q b) 0 = 0
              rw [e]; rfl
        · refine .inr ⟨?_, h2⟩
          show wayP rho q 0 b * _ = 0
          rw [h1, Nat.zero_mul]
    show _ = 0 + cI (fitQ rho q 0 0)
    rcases key R (Nat.le_refl _) with ⟨h1, h2⟩ | ⟨h1, a, m, h2⟩
    · rw [h1, cI_pos]
      intro a m hm
      by_cases c : a < R
      · rw [h2 a c m hm]; rfl
      · rw [hq a (by omega)] at hm; cases hm
    · rw [h1, cI_neg]
      intro h
      have := h a _ h2
      cases this
theorem way_count : ∀ k (q : Nat → Option Nat) R, (∀ s, s < k → rho s < R) → (∀ a, R ≤ a → q a = none) → wayP rho q k R = cN (fitQ rho q k) (2 ^ k)
  | 0, q, R, _, hq => way_zero rho q R hq
  | k + 1, q, R, hr, hq => by
    rw [wayP_rec rho q k R (hr k (by omega)), Nat.pow_succ, Nat.mul_two, cN_add]
    congr 1
    · split
      · rename_i h
        exact (cN_false _ (fun x hx hf => ((fit_there rho hx).mp hf).1 h)).symm
      · rename_i h
        rw [way_count k (dcQ q (rho k)) R (fun s hs => hr s (by omega)) (fun a ha => ?_)]
        · exact (cN_congr _ (fun x hx => ⟨fun hf => ((fit_there rho hx).mp hf).2, fun hf => (fit_there rho hx).mpr ⟨h, hf⟩⟩)).symm
        · have := hr k (by omega)
          unfold dcQ
          rw [if_neg (by omega)]
          exact hq a ha
    · rw [way_count k q R (fun s hs => hr s (by omega)) hq]
      exact (cN_congr _ (fun x hx => fit_missing rho hx)).symm
end MISS3
