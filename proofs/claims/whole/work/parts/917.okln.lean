/-! ===== LINES: all stays well made ===== -/
section OKLN
variable {bt : Nat → Nat} {n : Nat}
theorem ok_ln {σ σ' : lS} {s s' : Nat} (hσ : okS σ) (hs : s ≤ n) (h : lnP bt n σ s = .inr (σ', s')) : okS σ' ∧ s < s' ∧ s' ≤ n := by
  obtain ⟨g, tD, tG, on, r⟩ := σ
  obtain ⟨ho, hm, hl, hf, hr, hg1, hg2⟩ := hσ
  have ho : gOk g := ho
  have hm : gMi g = 0 := hm
  have hl : ∀ k, k < gLk g → 1 ≤ g 7 k := hl
  have hf : ∀ k, k < gCa g → g 4 (5 * k + 4) ≤ 1 := hf
  have hr : rOk r g := hr
  have hg1 : ∀ i, i < gGa g → ∃ l, r (2 + i) = some l := hg1
  have hg2 : ∀ i, 2 + gGa g ≤ i → r i = none := hg2
  unfold lnP at h
  cases hw : tW bt n s with
  | none => rw [hw] at h; cases h
  | some c =>
    have hK : tK bt n s ≠ 0 := by rw [(tW_lt hw).1]; decide
    have hc := (tW_lt hw).2.1
    have hlt := nx_of hK hs
    have hgt := nx_gt bt n hlt
    have hnx := nx_le bt n hs
    rw [hw] at h
    have h12 : c = 1 ∨ c = 2 ∨ c = 3 ∨ c = 4 ∨ c = 5 ∨ c = 6 ∨ c = 7 ∨ c = 8 ∨ c = 9 ∨ c = 10 ∨ c = 11 ∨ c = 0 ∨ 12 ≤ c := by omega
    rcases h12 with rfl | rfl | rfl | rfl | rfl | rfl | rfl | rfl | rfl | rfl | rfl | rfl | h12
    · obtain ⟨c, s1, h1, h⟩ := pThen_ok h
      obtain ⟨v, s2, h2, h⟩ := pThen_ok h
      cases h
      obtain ⟨a1, a2, a3, a4⟩ := spR_ok h1 hnx ho
      obtain ⟨b1, b2, b3, b4, b5⟩ := nmR_ok h2 a4
      exact ⟨⟨ok_deep ho b2, hm, hl, hf, hr, hg1, hg2⟩, by omega, b5⟩
    · obtain ⟨c, s1, h1, h⟩ := pThen_ok h
      obtain ⟨v, s2, h2, h⟩ := pThen_ok h
      cases h
      obtain ⟨a1, a2, a3, a4⟩ := spR_ok h1 hnx ho
      obtain ⟨b1, b2, b3, b4, b5⟩ := nmR_ok h2 a4
      exact ⟨⟨ok_glare ho b2, hm, hl, hf, hr, hg1, hg2⟩, by omega, b5⟩
    · obtain ⟨u, s0, h0, h⟩ := pThen_ok h
      obtain ⟨c, s1, h1, h⟩ := pThen_ok h
      obtain ⟨v, s2, h2, h⟩ := pThen_ok h
      cases h
      obtain ⟨z1, z2, z3⟩ := moR_ok h0 hs hK
      obtain ⟨a1, a2, a3, a4⟩ := spR_ok h1 z3 ho
      obtain ⟨b1, b2, b3, b4, b5⟩ := nmR_ok h2 a4
      exact ⟨⟨ok_sw ho z1 a1 b2, hm, hl, hf, hr, hg1, hg2⟩, by omega, b5⟩
    · obtain ⟨u, s0, h0, h⟩ := pThen_ok h
      obtain ⟨c, s1, h1, h⟩ := pThen_ok h
      cases h
      obtain ⟨z1, z2, z3⟩ := onR_ok h0 hs hK
      obtain ⟨a1, a2, a3, a4⟩ := spR_ok h1 z3 ho
      exact ⟨⟨ok_ch ho a1, hm, hl, hf, hr, hg1, hg2⟩, by omega, a4⟩
    · obtain ⟨u, s0, h0, h⟩ := pThen_ok h
      obtain ⟨c, s1, h1, h⟩ := pThen_ok h
      obtain ⟨v, s2, h2, h⟩ := pThen_ok h
      cases h
      obtain ⟨z1, z2, z3⟩ := moR_ok h0 hs hK
      obtain ⟨a1, a2, a3, a4⟩ := spR_ok h1 z3 ho
      obtain ⟨b1, b2, b3, b4, b5⟩ := nmR_ok h2 a4
      refine ⟨⟨ok_lk ho z1 a1 b2, hm, fun k hk => ?_, hf, hr, hg1, hg2⟩, by omega, b5⟩
      have hk : k < gLk g + 1 := hk
      show 1 ≤ gU g 7 (gLk g) v 7 k
      by_cases e : k = gLk g
      · rw [e, gU_s]; exact b1
      · rw [gU_j e]; exact hl k (by omega)
    · obtain ⟨u, s0, h0, h⟩ := pThen_ok h
      obtain ⟨v, s2, h2, h⟩ := pThen_ok h
      cases h
      obtain ⟨z1, z2, z3⟩ := onR_ok h0 hs hK
      obtain ⟨b1, b2, b3, b4, b5⟩ := nmR_ok h2 z3
      exact ⟨⟨ok_la ho ⟨b1, b2⟩, hm, hl, hf, hr, hg1, hg2⟩, by omega, b5⟩
    · obtain ⟨u, s0, h0, h⟩ := pThen_ok h
      obtain ⟨v, s2, h2, h⟩ := pThen_ok h
      cases h
      obtain ⟨z1, z2, z3⟩ := onR_ok h0 hs hK
      obtain ⟨b1, b2, b3, b4, b5⟩ := nmR_ok h2 z3
      exact ⟨⟨ok_ti ho ⟨b1, b2⟩, hm, hl, hf, hr, hg1, hg2⟩, by omega, b5⟩
    · obtain ⟨u, s0, h0, h⟩ := pThen_ok h
      obtain ⟨g', s1, h1, h⟩ := pThen_ok h
      cases h
      obtain ⟨z1, z2, z3⟩ := moR_ok h0 hs hK
      obtain ⟨a, t1, e1, h1⟩ := pThen_ok h1
      obtain ⟨b, t2, e2, h1⟩ := pThen_ok h1
      obtain ⟨c, t3, e3, h1⟩ := pThen_ok h1
      obtain ⟨d, t4, e4, h1⟩ := pThen_ok h1
      obtain ⟨a1, a2, a3, a4, a5⟩ := nmR_ok e1 z3
      obtain ⟨b1, b2, b3, b4, b5⟩ := nmR_ok e2 a5
      obtain ⟨c1, c2, c3, c4, c5⟩ := nmR_ok e3 b5
      obtain ⟨d1, d2, d3, d4, d5⟩ := nmR_ok e4 c5
      by_cases ct : isW bt n t4 10 ∨ isW bt n t4 12
      · rw [if_pos ct] at h1
        have h1 : (Sum.inr (gCs g a b c d (if isW bt n t4 10 then 1 else 0), nx bt n t4) : pRs gS) = .inr (g', s') := h1
        cases h1
        have hK4 : tK bt n t4 ≠ 0 := by rcases ct with h | h <;> exact isW_K h
        have := nx_gt bt n (nx_of hK4 d5)
        have he : (if isW bt n t4 10 then 1 else 0) ≤ 1 := by split <;> decide
        refine ⟨⟨ok_ca ho z1 a2 b2 c2 d2 he, hm, hl, fun k hk => ?_, hr, hg1, hg2⟩, by omega, nx_le bt n d5⟩
        have hk : k < gCa g + 1 := hk
        show gCs g a b c d _ 4 (5 * k + 4) ≤ 1
        by_cases e : k = gCa g
        · rw [e, gCs_4]; exact he
        · rw [gCs_old (by omega)]; exact hf k (by omega)
      · rw [if_neg ct] at h1; cases h1
    · obtain ⟨u, s0, h0, h⟩ := pThen_ok h
      obtain ⟨l, s2, h2, h⟩ := pThen_ok h
      cases h
      obtain ⟨z1, z2, z3⟩ := onR_ok h0 hs hK
      obtain ⟨b1, b2, b3, b4⟩ := exR_ok h2 z3
      refine ⟨⟨ho, hm, hl, hf, ⟨fun l' e => ?_, hr.2.1, fun i l' hi e => hr.2.2 i l' hi ?_⟩, fun i hi => ?_, fun i hi => ?_⟩, by omega, b3⟩
      · have e : some l = some l' := e
        cases e; exact b4
      · have e : (if 2 + i = 0 then some l else r (2 + i)) = some l' := e
        rw [if_neg (by omega)] at e; exact e
      · show ∃ l', (if 2 + i = 0 then some l else r (2 + i)) = some l'
        rw [if_neg (by omega)]; exact hg1 i hi
      · show (if i = 0 then some l else r i) = none
        have hi : 2 + gGa g ≤ i := hi
        rw [if_neg (by omega)]; exact hg2 i hi
    · obtain ⟨u, s0, h0, h⟩ := pThen_ok h
      obtain ⟨l, s2, h2, h⟩ := pThen_ok h
      cases h
      obtain ⟨z1, z2, z3⟩ := onR_ok h0 hs hK
      obtain ⟨b1, b2, b3, b4⟩ := exR_ok h2 z3
      refine ⟨⟨ho, hm, hl, hf, ⟨hr.1, fun l' e => ?_, fun i l' hi e => hr.2.2 i l' hi ?_⟩, fun i hi => ?_, fun i hi => ?_⟩, by omega, b3⟩
      · have e : some l = some l' := e
        cases e; exact b4
      · have e : (if 2 + i = 1 then some l else r (2 + i)) = some l' := e
        rw [if_neg (by omega)] at e; exact e
      · show ∃ l', (if 2 + i = 1 then some l else r (2 + i)) = some l'
        rw [if_neg (by omega)]; exact hg1 i hi
      · show (if i = 1 then some l else r i) = none
        have hi : 2 + gGa g ≤ i := hi
        rw [if_neg (by omega)]; exact hg2 i hi
    · obtain ⟨u, s0, h0, h⟩ := pThen_ok h
      obtain ⟨l, s2, h2, h⟩ := pThen_ok h
      cases h
      obtain ⟨z1, z2, z3⟩ := moR_ok h0 hs hK
      obtain ⟨b1, b2, b3, b4⟩ := exR_ok h2 z3
      refine ⟨⟨ok_ga ho z1, hm, hl, hf, ⟨fun l' e => hr.1 l' ?_, fun l' e => hr.2.1 l' ?_, fun i l' hi e => ?_⟩, fun i hi => ?_, fun i hi => ?_⟩, by omega, b3⟩
      · have e : (if 0 = 2 + gGa g then some l else r 0) = some l' := e
        rw [if_neg (by omega)] at e; exact e
      · have e : (if 1 = 2 + gGa g then some l else r 1) = some l' := e
        rw [if_neg (by omega)] at e; exact e
      · have hi : i < gGa g + 1 := hi
        have e : (if 2 + i = 2 + gGa g then some l else r (2 + i)) = some l' := e
        by_cases c : i = gGa g
        · rw [if_pos (by omega)] at e; cases e; exact b4
        · rw [if_neg (by omega)] at e; exact hr.2.2 i l' (by omega) e
      · have hi : i < gGa g + 1 := hi
        show ∃ l', (if 2 + i = 2 + gGa g then some l else r (2 + i)) = some l'
        by_cases c : i = gGa g
        · rw [if_pos (by omega)]; exact ⟨l, rfl⟩
        · rw [if_neg (by omega)]; exact hg1 i (by omega)
      · have hi : 2 + (gGa g + 1) ≤ i := hi
        show (if i = 2 + gGa g then some l else r i) = none
        rw [if_neg (by omega)]; exact hg2 i (by omega)
    · cases h
    · have : lnP bt n (g, tD, tG, on, r) s = .inl (1, s) := by
        unfold lnP
        rw [hw]
        have t : c = 12 ∨ c = 13 ∨ c = 14 ∨ c = 15 ∨ c = 16 ∨ c = 17 ∨ c = 18 ∨ c = 19 ∨ c = 20 ∨ c = 21 ∨ c = 22 ∨ c = 23 ∨ c = 24 := by omega
        rcases t with rfl | rfl | rfl | rfl | rfl | rfl | rfl | rfl | rfl | rfl | rfl | rfl | rfl <;> rfl
      unfold lnP at this
      rw [hw] at this
      rw [this] at h
      cases h
theorem ok_lnS {σ σ' : lS} {s s' : Nat} (hσ : okS σ) (hs : s ≤ n) (h : lnS bt n σ s = .inr (σ', s')) : okS σ' ∧ s < s' ∧ s' ≤ n := by
  obtain ⟨σ1, s1, h1, h2⟩ := pThen_ok h
  obtain ⟨a1, a2, a3⟩ := ok_ln hσ hs h1
  unfold seR at h2
  by_cases c : isS bt n s1 59
  · rw [if_pos c] at h2
    have e : (σ1, nx bt n s1) = (σ', s') := Sum.inr.inj h2
    cases e
    have := nx_ge bt n s1
    exact ⟨a1, by omega, nx_le bt n a3⟩
  · rw [if_neg c] at h2; cases h2
end OKLN
