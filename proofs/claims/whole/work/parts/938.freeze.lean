/-! ===== THE BEGINNING: the pool as the law goes on with it ===== -/
theorem zGo_at : ∃ T, zGo = some T ∧ zCk1 T = true ∧ zCk2 T = true ∧ zCk3 T = true := by
  have h1 := zGo_ck1
  have h2 := zGo_ck2
  have h3 := zGo_ck3
  cases hz : zGo with
  | none => rw [hz] at h1; cases h1
  | some T => rw [hz] at h1 h2 h3; exact ⟨T, rfl, h1, h2, h3⟩
/-- the world after both were made -/
def wBeg (L : Nat) (xs : Nat → Int32) (z : zP) : mW := (mI (dX L xs z), mL (dX L xs z), lkp none 21 5 z.2.2.2.2.2, lkp none 21 0 z.2.2.2.2.2, z.1, z.2.1, L)
section FREEZE
variable {L : Nat} {xs : Nat → Int32} {T : zT}
theorem z1_facts (h : zCk1 T = true) : T.1 = 23 ∧ T.2.2.1 = [] ∧ mGet T.2.1 0 = some (.ref 2000000) ∧ mGet T.2.1 1 = some (.ref 0) ∧ mGet T.2.1 2 = some (.ref 80) ∧ mGet T.2.1 3 = some (.ref 116) ∧ mGet T.2.1 4 = some (.int 0) ∧ zN T.2.2.2 = 117 ∧ (∀ k, k < 117 → zSh T.2.2.2 k = nSh k) ∧ T.2.2.2.1 ≤ 1000 ∧ T.2.2.2.2.1 ≤ 100000 := by
  unfold zCk1 at h
  simp only [Bool.and_eq_true, decide_eq_true_eq] at h
  obtain ⟨⟨⟨⟨⟨⟨⟨⟨⟨⟨h1, h2⟩, h3⟩, h4⟩, h5⟩, h6⟩, h7⟩, h8⟩, h9⟩, h10⟩, h11⟩ := h
  have rf : ∀ (o : Option Value) (k : Nat), vRef o k = true → o = some (.ref k) := by
    intro o k h
    unfold vRef at h
    split at h
    · rw [of_decide_eq_true h]
    · cases h
  have nt : ∀ (o : Option Value) (k : Int32), vInt o k = true → o = some (.int k) := by
    intro o k h
    unfold vInt at h
    split at h
    · rw [of_decide_eq_true h]
    · cases h
  exact ⟨h1, List.isEmpty_iff.mp h2, rf _ _ h3, rf _ _ h4, rf _ _ h5, rf _ _ h6, nt _ _ h7, h8, fun k hk => of_decide_eq_true (List.all_eq_true.mp h9 k (List.mem_range.mpr hk)), h10, h11⟩
theorem z2_facts (h : zCk2 T = true) : ∀ k, k < 117 → ((nSh k).1 < 100 ∨ (nSh k).1 = 104) → ∀ j, j < (nSh k).2 → lkp none k j T.2.2.2.2.2.2.2.2 = nP (wBeg L xs T.2.2.2) k j := by
  intro k hk hc j hj
  unfold zCk2 at h
  have h1 := List.all_eq_true.mp h k (List.mem_range.mpr hk)
  rw [if_pos hc] at h1
  have h2 := List.all_eq_true.mp h1 j (List.mem_range.mpr hj)
  unfold nP
  by_cases e5 : k = 21 ∧ j = 5
  · rw [if_pos e5, e5.1, e5.2]
    rfl
  · rw [if_neg e5]
    by_cases e0 : k = 21 ∧ j = 0
    · rw [if_pos e0, e0.1, e0.2]
      rfl
    · rw [if_neg e0]
      rw [Bool.or_eq_true, decide_eq_true_eq, decide_eq_true_eq] at h2
      rcases h2 with h2 | h2
      · exact h2
      · exfalso
        rcases h2.2 with h | h
        · exact e0 ⟨h2.1, h⟩
        · exact e5 ⟨h2.1, h⟩
theorem beg_Inv (h : zCk3 T = true) : Inv (wBeg L xs T.2.2.2) := by
  unfold zCk3 at h
  rw [Bool.and_eq_true] at h
  have F : ∀ a j v, (a, j, v) ∈ zF → a < 1000000 → wI (wBeg L xs T.2.2.2) a j = v := by
    intro a j v hm ha
    have := of_decide_eq_true (List.all_eq_true.mp h.1 _ hm)
    show mI (dX L xs T.2.2.2) a j = v
    rw [dX_I ha]
    exact this
  have G : ∀ c, c < 40 → wI (wBeg L xs T.2.2.2) 81 c = nI 3 ∧ wI (wBeg L xs T.2.2.2) 82 c = nI 0 ∧ wI (wBeg L xs T.2.2.2) 25 c = nI 3 ∧ wI (wBeg L xs T.2.2.2) 26 c = nI 0 := by
    intro c hc
    have := List.all_eq_true.mp h.2 c (List.mem_range.mpr hc)
    simp only [Bool.and_eq_true, decide_eq_true_eq] at this
    obtain ⟨⟨⟨a, b⟩, c1⟩, d⟩ := this
    have W : ∀ a j, a < 1000000 → wI (wBeg L xs T.2.2.2) a j = lkp 0 a j T.2.2.2.2.2.2.1 := fun a j ha => by
      show mI (dX L xs T.2.2.2) a j = _
      rw [dX_I ha]
    rw [W _ _ (by decide), W _ _ (by decide), W _ _ (by decide), W _ _ (by decide)]
    exact ⟨a, b, c1, d⟩
  refine Inv_0 ⟨⟨?_, ?_, ?_, ?_, ?_, ?_, ?_, ?_, ?_, ?_, ?_, ?_, ?_, ?_, ?_, ?_, ?_, ?_, ?_⟩, G, ⟨?_, ?_, ?_, ?_, ?_, ?_, ?_, ?_, ?_, ?_, ?_, ?_, ?_, ?_, ?_⟩, ⟨?_, ?_, ?_, ?_⟩, ⟨?_, ?_, ?_, ?_, ?_, ?_, ?_, ?_, ?_, ?_, ?_⟩⟩
  all_goals exact F _ _ _ (by decide) (by decide)
end FREEZE
