/-! ===== WHO IS MISSING: in every set ===== -/
section MISS7
variable (rho : Nat → Nat)
theorem prs_pos {x : Nat} : ∀ k s, s < k → x / 2 ^ s % 2 = 0 → 1 ≤ prs rho (rho s) x k
  | 0, _, h, _ => absurd h (Nat.not_lt_zero _)
  | k + 1, s, h, hb => by
    show 1 ≤ prs rho (rho s) x k + (if rho k = rho s ∧ x / 2 ^ k % 2 = 0 then 1 else 0)
    by_cases e : s = k
    · rw [e] at hb ⊢
      rw [if_pos ⟨rfl, hb⟩]
      omega
    · have := prs_pos k s (by omega) hb
      omega
theorem cR_pos : ∀ k s, s < k → 1 ≤ cR rho (rho s) k
  | 0, _, h => absurd h (Nat.not_lt_zero _)
  | k + 1, s, h => by
    show 1 ≤ cR rho (rho s) k + (if rho k = rho s then 1 else 0)
    by_cases e : s = k
    · rw [e, if_pos rfl]; omega
    · have := cR_pos k s (by omega)
      omega
theorem all_miss {q : Nat → Option Nat} {k s x : Nat} (hs : s < k) (h0 : q (rho s) = some 0) (hf : fitQ rho q k x) : x / 2 ^ s % 2 = 1 := by
  have h := hf _ _ h0
  have hb := Nat.mod_lt (x / 2 ^ s) (show 0 < 2 by decide)
  apply Classical.byContradiction
  intro hc
  have hz : x / 2 ^ s % 2 = 0 := by
    generalize x / 2 ^ s % 2 = z at hb hc ⊢
    omega
  have := prs_pos rho k s hs hz
  omega
theorem some_there : ∀ k q s, srv rho q k → s < k → ¬ q (rho s) = some 0 → ∃ x, x < 2 ^ k ∧ fitQ rho q k x ∧ x / 2 ^ s % 2 = 0
  | 0, _, _, _, h, _ => absurd h (Nat.not_lt_zero _)
  | k + 1, q, s, hv, hs, h0 => by
    have pw : 2 ^ (k + 1) = 2 ^ k + 2 ^ k := by rw [Nat.pow_succ]; omega
    -- he is there
    have there : ¬ q (rho k) = some 0 → (s = k ∨ ¬ dcQ q (rho k) (rho s) = some 0) → ∃ x, x < 2 ^ (k + 1) ∧ fitQ rho q (k + 1) x ∧ x / 2 ^ s % 2 = 0 := by
      intro c hd
      by_cases e : s = k
      · refine ⟨lwQ rho k (dcQ q (rho k)), ?_, (fit_there rho (lwQ_lt rho k _)).mpr ⟨c, lwQ_fit rho k _ (srv_dc rho hv c)⟩, ?_⟩
        · have := lwQ_lt rho k (dcQ q (rho k)); omega
        · rw [e]; exact (bit_top (lwQ_lt rho k _)).2
      · obtain ⟨x, x1, x2, x3⟩ := some_there k (dcQ q (rho k)) s (srv_dc rho hv c) (by omega) (by rcases hd with h | h; exact absurd h e; exact h)
        exact ⟨x, by omega, (fit_there rho x1).mpr ⟨c, x2⟩, x3⟩
    have missing : srv rho q k → ¬ s = k → ∃ x, x < 2 ^ (k + 1) ∧ fitQ rho q (k + 1) x ∧ x / 2 ^ s % 2 = 0 := by
      intro hv2 e
      obtain ⟨x, x1, x2, x3⟩ := some_there k q s hv2 (by omega) h0
      exact ⟨2 ^ k + x, by omega, (fit_missing rho x1).mpr x2, by rw [bit_hi x1 (by omega)]; exact x3⟩
    by_cases e : s = k
    · exact there (by rw [← e]; exact h0) (.inl e)
    · by_cases er : rho k = rho s
      · have c : ¬ q (rho k) = some 0 := by rw [er]; exact h0
        cases hq : q (rho k) with
        | none =>
          refine there c (.inr ?_)
          unfold dcQ
          rw [if_pos er.symm, hq]
          exact fun h => by cases h
        | some m =>
          cases m with
          | zero => exact absurd hq c
          | succ m =>
            have h1 := hv _ _ hq
            rw [cR_mine] at h1
            by_cases h2 : m + 1 ≤ cR rho (rho k) k
            · refine missing (fun a m' e2 => ?_) e
              by_cases c2 : rho k = a
              · subst c2
                rw [hq] at e2
                have : m + 1 = m' := Option.some.inj e2
                omega
              · have := hv a m' e2
                rw [cR_other rho c2] at this
                exact this
            · refine there c (.inr ?_)
              have h3 := cR_pos rho k s (by omega)
              rw [← er] at h3
              unfold dcQ
              rw [if_pos er.symm, hq]
              intro h4
              have : m = 0 := Option.some.inj h4
              omega
      · by_cases c : q (rho k) = some 0
        · exact missing (srv_ms rho hv c) e
        · refine there c (.inr ?_)
          unfold dcQ
          rw [if_neg (fun e2 => er e2.symm)]
          exact h0
end MISS7
