/-! ===== LINES: what they are, without the machine ===== -/
abbrev pRs (α : Type) : Type := (Nat × Nat) ⊕ (α × Nat)
def pThen {α β : Type} (r : pRs α) (k : α → Nat → pRs β) : pRs β := match r with
  | .inl f => .inl f
  | .inr x => k x.1 x.2
def gU (g : gS) (a j v : Nat) : gS := fun x y => if x = a ∧ y = j then v else g x y
def rUp (r : gR) (i : Nat) (l : List gO) : gR := fun j => if j = i then some l else r j
/-- the pool, what was told of deep and of glare, what was told once (0 chair, 1 last, 2 tire, 3 needs, 4 trouble), the rules -/
abbrev lS : Type := gS × (Nat → Bool) × (Nat → Bool) × (Nat → Bool) × gR
section LINE
variable (bt : Nat → Nat) (n : Nat)
def nmR (s a b : Nat) : pRs Nat := if tK bt n s = 2 then (if nmOk bt n s a b then .inr (dv bt s (tE bt n s - s), nx bt n s) else .inl (2, s)) else .inl (1, s)
def spR (g : gS) (told : Nat → Bool) (s : Nat) : pRs Nat := pThen (nmR bt n s 0 (gW g - 1)) fun x s1 => pThen (nmR bt n s1 0 (gH g - 1)) fun y s2 => if told (gW g * y + x) = true then .inl (4, s1) else .inr (gW g * y + x, s2)
/-- told once? -/
def onR (on : Nat → Bool) (i s : Nat) : pRs (Nat → Bool) := if on i = true then .inl (5, s) else .inr (tUp on i true, nx bt n s)
/-- one more? -/
def moR (have9 most s : Nat) : pRs Unit := if have9 < most then .inr ((), nx bt n s) else .inl (2, s)
def exR (lo hi s : Nat) : pRs (List gO) := eEx bt n lo hi 8 0 s
def noT : Nat → Bool := fun _ => false
def caR (g : gS) (s : Nat) : pRs gS := pThen (nmR bt n s 0 9) fun a s1 => pThen (nmR bt n s1 0 9) fun b s2 => pThen (nmR bt n s2 0 9) fun c s3 => pThen (nmR bt n s3 0 9) fun d s4 =>
  if isW bt n s4 10 ∨ isW bt n s4 12 then .inr (gU (gU (gU (gU (gU (gU g 4 (5 * gCa g) a) 4 (5 * gCa g + 1) b) 4 (5 * gCa g + 2) c) 4 (5 * gCa g + 3) d) 4 (5 * gCa g + 4) (if isW bt n s4 10 then 1 else 0)) 0 7 (gCa g + 1), nx bt n s4) else .inl (1, s4)
def lnP (σ : lS) (s : Nat) : pRs lS := match tW bt n s with
  | some 1 => pThen (spR bt n σ.1 σ.2.1 (nx bt n s)) fun c s2 => pThen (nmR bt n s2 1 9) fun v s3 => .inr ((gU σ.1 1 c v, tUp σ.2.1 c true, σ.2.2.1, σ.2.2.2.1, σ.2.2.2.2), s3)
  | some 2 => pThen (spR bt n σ.1 σ.2.2.1 (nx bt n s)) fun c s2 => pThen (nmR bt n s2 0 9) fun v s3 => .inr ((gU σ.1 2 c v, σ.2.1, tUp σ.2.2.1 c true, σ.2.2.2.1, σ.2.2.2.2), s3)
  | some 3 => pThen (moR bt n (gSw σ.1) 12 s) fun _ s1 => pThen (spR bt n σ.1 noT s1) fun c s2 => pThen (nmR bt n s2 0 9) fun v s3 => .inr ((gU (gU (gU σ.1 5 (gSw σ.1) c) 3 (gSw σ.1) v) 0 2 (gSw σ.1 + 1), σ.2), s3)
  | some 4 => pThen (onR bt n σ.2.2.2.1 0 s) fun on s1 => pThen (spR bt n σ.1 noT s1) fun c s2 => .inr ((gU σ.1 0 8 c, σ.2.1, σ.2.2.1, on, σ.2.2.2.2), s2)
  | some 5 => pThen (moR bt n (gLk σ.1) 12 s) fun _ s1 => pThen (spR bt n σ.1 noT s1) fun c s2 => pThen (nmR bt n s2 1 9) fun v s3 => .inr ((gU (gU (gU σ.1 6 (gLk σ.1) c) 7 (gLk σ.1) v) 0 3 (gLk σ.1 + 1), σ.2), s3)
  | some 6 => pThen (onR bt n σ.2.2.2.1 1 s) fun on s1 => pThen (nmR bt n s1 1 300) fun v s2 => .inr ((gU σ.1 0 4 v, σ.2.1, σ.2.2.1, on, σ.2.2.2.2), s2)
  | some 7 => pThen (onR bt n σ.2.2.2.1 2 s) fun on s1 => pThen (nmR bt n s1 1 99) fun v s2 => .inr ((gU σ.1 0 5 v, σ.2.1, σ.2.2.1, on, σ.2.2.2.2), s2)
  | some 8 => pThen (moR bt n (gCa σ.1) 10 s) fun _ s1 => pThen (caR bt n σ.1 s1) fun g s2 => .inr ((g, σ.2), s2)
  | some 9 => pThen (onR bt n σ.2.2.2.1 3 s) fun on s1 => pThen (exR bt n 0 4 s1) fun l s2 => .inr ((σ.1, σ.2.1, σ.2.2.1, on, rUp σ.2.2.2.2 0 l), s2)
  | some 10 => pThen (onR bt n σ.2.2.2.1 4 s) fun on s1 => pThen (exR bt n 1 5 s1) fun l s2 => .inr ((σ.1, σ.2.1, σ.2.2.1, on, rUp σ.2.2.2.2 1 l), s2)
  | some 11 => pThen (moR bt n (gGa σ.1) 4 s) fun _ s1 => pThen (exR bt n 6 9 s1) fun l s2 => .inr ((gU σ.1 0 6 (gGa σ.1 + 1), σ.2.1, σ.2.2.1, σ.2.2.2.1, rUp σ.2.2.2.2 (2 + gGa σ.1) l), s2)
  | _ => .inl (1, s)
/-- a line and its end -/
def seR {α : Type} (x : α) (s : Nat) : pRs α := if isS bt n s 59 then .inr (x, nx bt n s) else .inl (1, s)
def lnS (σ : lS) (s : Nat) : pRs lS := pThen (lnP bt n σ s) fun σ' s' => seR bt n σ' s'
def lnL : Nat → lS → Nat → pRs lS
  | 0, σ, s => .inr (σ, s)
  | k + 1, σ, s => if tK bt n s = 0 then .inr (σ, s) else pThen (lnS bt n σ s) fun σ' s' => lnL k σ' s'
/-- an empty text -/
def g00 : gS := fun a j => if a = 0 then (if j = 0 then 8 else if j = 1 then 5 else if j = 4 then 60 else if j = 5 then 20 else 0) else if a = 1 then 3 else 0
def σ00 : lS := (g00, noT, noT, noT, fun _ => none)
def szR (s : Nat) : pRs gS := pThen (nmR bt n (nx bt n s) 1 8) fun a s1 => pThen (nmR bt n s1 1 5) fun b s2 => seR bt n (gU (gU g00 0 0 a) 0 1 b) s2
def txR (s : Nat) : pRs lS := if isW bt n s 0 then pThen (szR bt n s) fun g s1 => lnL bt n 700 (g, noT, noT, noT, fun _ => none) s1 else lnL bt n 700 σ00 s
end LINE
/-! what every line keeps -/
def okS (σ : lS) : Prop := gOk σ.1 ∧ gMi σ.1 = 0 ∧ (∀ k, k < gLk σ.1 → 1 ≤ σ.1 7 k) ∧ (∀ k, k < gCa σ.1 → σ.1 4 (5 * k + 4) ≤ 1) ∧ rOk σ.2.2.2.2 σ.1 ∧ (∀ i, i < gGa σ.1 → ∃ l, σ.2.2.2.2 (2 + i) = some l) ∧ (∀ i, 2 + gGa σ.1 ≤ i → σ.2.2.2.2 i = none)
section LINE2
variable {bt : Nat → Nat} {n : Nat}
theorem pThen_ok {α β : Type} {r : pRs α} {k : α → Nat → pRs β} {x : β} {s : Nat} (h : pThen r k = .inr (x, s)) : ∃ y s1, r = .inr (y, s1) ∧ k y s1 = .inr (x, s) := by
  cases r with
  | inl f => cases h
  | inr z => exact ⟨z.1, z.2, rfl, h⟩
theorem nmR_ok {s a b v s' : Nat} (h : nmR bt n s a b = .inr (v, s')) (hs : s ≤ n) : a ≤ v ∧ v ≤ b ∧ v ≤ 9999 ∧ s < s' ∧ s' ≤ n := by
  unfold nmR at h
  by_cases c1 : tK bt n s = 2
  · rw [if_pos c1] at h
    by_cases c2 : nmOk bt n s a b
    · rw [if_pos c2] at h
      have e : (dv bt s (tE bt n s - s), nx bt n s) = (v, s') := Sum.inr.inj h
      cases e
      have hlt := nx_of (bt := bt) (s := s) (by rw [c1]; decide) hs
      exact ⟨c2.2.1, c2.2.2, tV_lt c1 hs c2.1, nx_gt bt n hlt, nx_le bt n hs⟩
    · rw [if_neg c2] at h; cases h
  · rw [if_neg c1] at h; cases h
theorem spR_ok {g : gS} {told : Nat → Bool} {s c s' : Nat} (h : spR bt n g told s = .inr (c, s')) (hs : s ≤ n) (ho : gOk g) : c < gW g * gH g ∧ told c = false ∧ s < s' ∧ s' ≤ n := by
  obtain ⟨x, s1, h1, h2⟩ := pThen_ok h
  obtain ⟨y, s2, h3, h4⟩ := pThen_ok h2
  obtain ⟨a1, a2, a3, a4, a5⟩ := nmR_ok h1 hs
  obtain ⟨b1, b2, b3, b4, b5⟩ := nmR_ok h3 a5
  by_cases c1 : told (gW g * y + x) = true
  · rw [if_pos c1] at h4; cases h4
  · rw [if_neg c1] at h4
    have e : (gW g * y + x, s2) = (c, s') := Sum.inr.inj h4
    cases e
    have hw := gOk_wd ho
    have hh := gOk_hi ho
    refine ⟨?_, (Bool.not_eq_true _).mp c1, by omega, b5⟩
    have : gW g * (y + 1) ≤ gW g * gH g := Nat.mul_le_mul_left _ (by omega)
    rw [Nat.mul_succ] at this
    omega
theorem onR_ok {on on' : Nat → Bool} {i s s' : Nat} (h : onR bt n on i s = .inr (on', s')) (hs : s ≤ n) (hk : tK bt n s ≠ 0) : on' = tUp on i true ∧ s < s' ∧ s' ≤ n := by
  unfold onR at h
  by_cases c1 : on i = true
  · rw [if_pos c1] at h; cases h
  · rw [if_neg c1] at h
    have e : (tUp on i true, nx bt n s) = (on', s') := Sum.inr.inj h
    cases e
    exact ⟨rfl, nx_gt bt n (nx_of hk hs), nx_le bt n hs⟩
theorem moR_ok {a b s s' : Nat} {u : Unit} (h : moR bt n a b s = .inr (u, s')) (hs : s ≤ n) (hk : tK bt n s ≠ 0) : a < b ∧ s < s' ∧ s' ≤ n := by
  unfold moR at h
  by_cases c1 : a < b
  · rw [if_pos c1] at h
    have e : ((), nx bt n s) = (u, s') := Sum.inr.inj h
    cases e
    exact ⟨c1, nx_gt bt n (nx_of hk hs), nx_le bt n hs⟩
  · rw [if_neg c1] at h; cases h
theorem exR_ok {lo hi s s' : Nat} {l : List gO} (h : exR bt n lo hi s = .inr (l, s')) (hs : s ≤ n) : s + l.length ≤ s' ∧ s < s' ∧ s' ≤ n ∧ oDep lo hi 0 l := by
  obtain ⟨a, b, c, d⟩ := eEx_ok (bt := bt) (n := n) (lo := lo) (hi := hi) 8 0 (by decide) s l s' hs h
  refine ⟨a, b, c, ?_⟩
  have := d 0 [] (by decide) rfl
  rw [List.append_nil] at this
  exact this
end LINE2
