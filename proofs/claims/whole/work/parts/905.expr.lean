/-! ===== EXPRESSIONS: what they are (as the class reads them, without the machine) ===== -/
abbrev eR : Type := (Nat × Nat) ⊕ (List gO × Nat)
section EXPR
variable (bt : Nat → Nat) (n : Nat)
abbrev isS (s b : Nat) : Prop := tK bt n s = 3 ∧ bt s = b
abbrev isW (s c : Nat) : Prop := tW bt n s = some c
def eThen (r : eR) (k : List gO → Nat → eR) : eR := match r with
  | .inl f => .inl f
  | .inr x => k x.1 x.2
def ePart (lo hi : Nat) (sub : Nat → eR) (s : Nat) : eR :=
  if tK bt n s = 2 then (if tE bt n s - s ≤ 4 then .inr ([(1, dv bt s (tE bt n s - s))], nx bt n s) else .inl (2, s))
  else if tK bt n s = 1 then (match tW bt n s with
    | some c => if lo ≤ rfI.getD c 0 ∧ rfI.getD c 0 ≤ hi then .inr ([(2, rfI.getD c 0)], nx bt n s) else .inl (3, s)
    | none => .inl (3, s))
  else if isS bt n s 40 then eThen (sub (nx bt n s)) fun l s' => if isS bt n s' 41 then .inr (l, nx bt n s') else .inl (1, s')
  else .inl (1, s)
/-- one more and one more -/
def eLp (op : Nat → Option Nat) (sub : Nat → eR) : Nat → List gO → Nat → eR
  | 0, l, s => .inr (l, s)
  | k + 1, l, s => match op s with
    | none => .inr (l, s)
    | some a => eThen (sub (nx bt n s)) fun l2 s2 => eLp op sub k (l ++ l2 ++ [(a, 0)]) s2
def eBin (op : Nat → Option Nat) (sub : Nat → eR) (s : Nat) : eR := eThen (sub s) fun l s1 => eLp bt n op sub 700 l s1
def opPr (s : Nat) : Option Nat := if isS bt n s 42 then some 10 else if isS bt n s 47 then some 11 else none
def opSu (s : Nat) : Option Nat := if isS bt n s 43 then some 8 else if isS bt n s 45 then some 9 else none
def opTe (s : Nat) : Option Nat := if isS bt n s 60 then some 6 else if isS bt n s 61 then some 7 else none
def opAn (s : Nat) : Option Nat := if isW bt n s 14 then some 4 else none
def opOr (s : Nat) : Option Nat := if isW bt n s 13 then some 5 else none
def eTest (sub : Nat → eR) (s : Nat) : eR := eThen (sub s) fun l s1 => match opTe bt n s1 with
  | none => .inr (l, s1)
  | some a => eThen (sub (nx bt n s1)) fun l2 s2 => .inr (l ++ l2 ++ [(a, 0)], s2)
def eNo (c : Nat) (r : eR) : eR := eThen r fun l s => .inr (l ++ List.replicate c (3, 0), s)
def eNs (sub : Nat → eR) : Nat → Nat → Nat → eR
  | 0, c, s => if isW bt n s 15 then .inl (2, s) else eNo c (sub s)
  | k + 1, c, s => if isW bt n s 15 then eNs sub k (c + 1) (nx bt n s) else eNo c (sub s)
def eProd (lo hi : Nat) (sub : Nat → eR) : Nat → eR := eBin bt n (opPr bt n) (ePart bt n lo hi sub)
def eSum (lo hi : Nat) (sub : Nat → eR) : Nat → eR := eBin bt n (opSu bt n) (eProd bt n lo hi sub)
def eNot (lo hi : Nat) (sub : Nat → eR) : Nat → eR := fun s => eNs bt n (eTest bt n (eSum bt n lo hi sub)) 6 0 s
def eAnd (lo hi : Nat) (sub : Nat → eR) : Nat → eR := eBin bt n (opAn bt n) (eNot bt n lo hi sub)
def eOrs (lo hi : Nat) (sub : Nat → eR) : Nat → eR := eBin bt n (opOr bt n) (eAnd bt n lo hi sub)
abbrev mayB (s : Nat) : Prop := tK bt n s = 1 ∨ tK bt n s = 2 ∨ isS bt n s 40
/-- an expression within wi others -/
def eEx (lo hi : Nat) : Nat → Nat → Nat → eR
  | 0, _, _ => .inl (0, 0)
  | d + 1, wi, s => if wi < 6 then eOrs bt n lo hi (eEx lo hi d (wi + 1)) s else .inl (if mayB bt n s then 2 else 1, s)
/-! each piece goes on, and its code is well made -/
def oUp (lo hi h : Nat) (l : List gO) : Prop := ∀ d t, d + h ≤ 60 → oDep lo hi (d + 1) t → oDep lo hi d (l ++ t)
def eOk (lo hi h : Nat) (e : Nat → eR) : Prop := ∀ s l s', s ≤ n → e s = .inr (l, s') → s + l.length ≤ s' ∧ s < s' ∧ s' ≤ n ∧ oUp lo hi h l
end EXPR
section EXPR2
variable {bt : Nat → Nat} {n : Nat} {lo hi : Nat}
theorem eThen_ok {r : eR} {k : List gO → Nat → eR} {l : List gO} {s : Nat} (h : eThen r k = .inr (l, s)) : ∃ l1 s1, r = .inr (l1, s1) ∧ k l1 s1 = .inr (l, s) := by
  cases r with
  | inl f => cases h
  | inr x => exact ⟨x.1, x.2, rfl, h⟩
theorem oUp_le {h h' : Nat} {l : List gO} (hu : oUp lo hi h l) (hl : h ≤ h') : oUp lo hi h' l := fun d t hd ht => hu d t (by omega) ht
theorem oUp_bin {h a : Nat} {l l2 : List gO} (h1 : oUp lo hi (h + 1) l) (h2 : oUp lo hi h l2) (ha : 4 ≤ a ∧ a ≤ 11) : oUp lo hi (h + 1) (l ++ l2 ++ [(a, 0)]) := by
  intro d t hd ht
  rw [List.append_assoc, List.append_assoc]
  refine h1 d _ hd (h2 (d + 1) _ (by omega) ?_)
  exact .inr (.inr (.inr ⟨ha.1, ha.2, by omega, ht⟩))
theorem oUp_nots {h : Nat} {l : List gO} (h1 : oUp lo hi h l) : ∀ c, oUp lo hi h (l ++ List.replicate c (3, 0)) := by
  intro c d t hd ht
  rw [List.append_assoc]
  refine h1 d _ hd ?_
  have : ∀ c, oDep lo hi (d + 1) (List.replicate c (3, 0) ++ t) := by
    intro c
    induction c with
    | zero => exact ht
    | succ c ih => exact .inr (.inr (.inl ⟨rfl, by omega, ih⟩))
  exact this c
theorem nx_of {s : Nat} (h : tK bt n s ≠ 0) (hs : s ≤ n) : s < n := by
  apply Classical.byContradiction
  intro hc
  exact h ((tK_0 bt n s).2 (by omega))
theorem isS_K {s b : Nat} (h : isS bt n s b) : tK bt n s ≠ 0 := by rw [h.1]; decide
theorem isW_K {s c : Nat} (h : isW bt n s c) : tK bt n s ≠ 0 := by rw [(tW_lt h).1]; decide
theorem eLp_ok {h : Nat} {op : Nat → Option Nat} {sub : Nat → eR} (hs : eOk n lo hi h sub) (hop : ∀ s a, op s = some a → 4 ≤ a ∧ a ≤ 11 ∧ tK bt n s ≠ 0) :
    ∀ k l s, s ≤ n → ∀ l' s', eLp bt n op sub k l s = .inr (l', s') → oUp lo hi (h + 1) l → s + l'.length ≤ s' + l.length ∧ s ≤ s' ∧ s' ≤ n ∧ oUp lo hi (h + 1) l'
  | 0, l, s, hsn, l', s', e, hu => by
    have e1 : (l, s) = (l', s') := Sum.inr.inj e
    cases e1
    exact ⟨Nat.le_refl _, Nat.le_refl _, hsn, hu⟩
  | k + 1, l, s, hsn, l', s', e, hu => by
    unfold eLp at e
    cases ho : op s with
    | none =>
      rw [ho] at e
      have e1 : (l, s) = (l', s') := Sum.inr.inj e
      cases e1
      exact ⟨Nat.le_refl _, Nat.le_refl _, hsn, hu⟩
    | some a =>
      rw [ho] at e
      obtain ⟨a1, a2, a3⟩ := hop s a ho
      have hlt := nx_of a3 hsn
      have hnx := nx_le bt n hsn
      have hgt := nx_gt bt n hlt
      obtain ⟨l1, s1, e1, e2⟩ := eThen_ok e
      obtain ⟨b1, b2, b3, b4⟩ := hs _ _ _ hnx e1
      obtain ⟨c1, c2, c3, c4⟩ := eLp_ok hs hop k _ s1 b3 l' s' e2 (oUp_bin hu b4 ⟨a1, a2⟩)
      rw [List.length_append, List.length_append] at c1
      have : ([(a, 0)] : List gO).length = 1 := rfl
      exact ⟨by omega, by omega, c3, c4⟩
theorem eBin_ok {h : Nat} {op : Nat → Option Nat} {sub : Nat → eR} (hs : eOk n lo hi h sub) (hop : ∀ s a, op s = some a → 4 ≤ a ∧ a ≤ 11 ∧ tK bt n s ≠ 0) : eOk n lo hi (h + 1) (eBin bt n op sub) := by
  intro s l s' hsn e
  obtain ⟨l1, s1, e1, e2⟩ := eThen_ok e
  obtain ⟨b1, b2, b3, b4⟩ := hs _ _ _ hsn e1
  obtain ⟨c1, c2, c3, c4⟩ := eLp_ok hs hop 700 l1 s1 b3 l s' e2 (oUp_le b4 (by omega))
  exact ⟨by omega, by omega, c3, c4⟩
theorem opPr_K {s a : Nat} (h : opPr bt n s = some a) : (a = 10 ∧ isS bt n s 42) ∨ (a = 11 ∧ isS bt n s 47) := by
  unfold opPr at h
  by_cases c1 : isS bt n s 42
  · rw [if_pos c1] at h; exact .inl ⟨(Option.some.inj h).symm, c1⟩
  · rw [if_neg c1] at h
    by_cases c2 : isS bt n s 47
    · rw [if_pos c2] at h; exact .inr ⟨(Option.some.inj h).symm, c2⟩
    · rw [if_neg c2] at h; cases h
theorem opSu_K {s a : Nat} (h : opSu bt n s = some a) : (a = 8 ∧ isS bt n s 43) ∨ (a = 9 ∧ isS bt n s 45) := by
  unfold opSu at h
  by_cases c1 : isS bt n s 43
  · rw [if_pos c1] at h; exact .inl ⟨(Option.some.inj h).symm, c1⟩
  · rw [if_neg c1] at h
    by_cases c2 : isS bt n s 45
    · rw [if_pos c2] at h; exact .inr ⟨(Option.some.inj h).symm, c2⟩
    · rw [if_neg c2] at h; cases h
theorem opTe_K {s a : Nat} (h : opTe bt n s = some a) : (a = 6 ∧ isS bt n s 60) ∨ (a = 7 ∧ isS bt n s 61) := by
  unfold opTe at h
  by_cases c1 : isS bt n s 60
  · rw [if_pos c1] at h; exact .inl ⟨(Option.some.inj h).symm, c1⟩
  · rw [if_neg c1] at h
    by_cases c2 : isS bt n s 61
    · rw [if_pos c2] at h; exact .inr ⟨(Option.some.inj h).symm, c2⟩
    · rw [if_neg c2] at h; cases h
theorem opAn_K {s a : Nat} (h : opAn bt n s = some a) : a = 4 ∧ isW bt n s 14 := by
  unfold opAn at h
  by_cases c1 : isW bt n s 14
  · rw [if_pos c1] at h; exact ⟨(Option.some.inj h).symm, c1⟩
  · rw [if_neg c1] at h; cases h
theorem opOr_K {s a : Nat} (h : opOr bt n s = some a) : a = 5 ∧ isW bt n s 13 := by
  unfold opOr at h
  by_cases c1 : isW bt n s 13
  · rw [if_pos c1] at h; exact ⟨(Option.some.inj h).symm, c1⟩
  · rw [if_neg c1] at h; cases h
theorem ePart_ok {h : Nat} {sub : Nat → eR} (h1 : 1 ≤ h) (hs : eOk n lo hi h sub) : eOk n lo hi h (ePart bt n lo hi sub) := by
  intro s l s' hsn e
  unfold ePart at e
  by_cases c1 : tK bt n s = 2
  · have hlt := nx_of (bt := bt) (s := s) (by rw [c1]; decide) hsn
    rw [if_pos c1] at e
    by_cases c2 : tE bt n s - s ≤ 4
    · rw [if_pos c2] at e
      have e1 : ([(1, dv bt s (tE bt n s - s))], nx bt n s) = (l, s') := Sum.inr.inj e
      cases e1
      have hgt := nx_gt bt n hlt
      refine ⟨hgt, hgt, nx_le bt n hsn, fun d t hd ht => .inl ⟨rfl, ?_, by omega, ht⟩⟩
      have hdi : bDi (bt s) = true := by
        unfold tK at c1
        rw [if_neg (by omega)] at c1
        split at c1
        · cases c1
        · split at c1
          · rename_i hd; exact hd
          · split at c1 <;> cases c1
      have nL : ¬ bLe (bt s) = true := by
        intro hb
        unfold tK at c1
        rw [if_neg (by omega), if_pos hb] at c1
        cases c1
      have eE : tE bt n s = rnE bDi bt n s := by unfold tE; rw [if_neg (by omega), if_neg nL, if_pos hdi]
      have key : ∀ k, k ≤ tE bt n s - s → dv bt s k < 10 ^ k := by
        intro k
        induction k with
        | zero => intro _; exact Nat.zero_lt_one
        | succ k ihk =>
          intro hk
          have a1 := ihk (by omega)
          have a2 : 48 ≤ bt (s + k) ∧ bt (s + k) ≤ 57 := of_decide_eq_true (rnE_in (P := bDi) (bt := bt) (n := n) (p := s) (j := s + k) (by omega) (by omega))
          show 10 * dv bt s k + (bt (s + k) - 48) < 10 ^ (k + 1)
          rw [Nat.pow_succ]
          omega
      have k1 := key _ (Nat.le_refl _)
      have k2 : 10 ^ (tE bt n s - s) ≤ 10 ^ 4 := Nat.pow_le_pow_right (by decide) c2
      show dv bt s (tE bt n s - s) ≤ 9999
      omega
    · rw [if_neg c2] at e; cases e
  · rw [if_neg c1] at e
    by_cases c2 : tK bt n s = 1
    · have hlt := nx_of (bt := bt) (s := s) (by rw [c2]; decide) hsn
      have hgt := nx_gt bt n hlt
      rw [if_pos c2] at e
      cases hw : tW bt n s with
      | none => rw [hw] at e; cases e
      | some c =>
        rw [hw] at e
        dsimp only at e
        by_cases c3 : lo ≤ rfI.getD c 0 ∧ rfI.getD c 0 ≤ hi
        · rw [if_pos c3] at e
          have e1 : ([(2, rfI.getD c 0)], nx bt n s) = (l, s') := Sum.inr.inj e
          cases e1
          exact ⟨hgt, hgt, nx_le bt n hsn, fun d t hd ht => .inr (.inl ⟨rfl, c3.1, c3.2, by omega, ht⟩)⟩
        · rw [if_neg c3] at e; cases e
    · rw [if_neg c2] at e
      by_cases c3 : isS bt n s 40
      · have hlt := nx_of (isS_K c3) hsn
        have hgt := nx_gt bt n hlt
        rw [if_pos c3] at e
        obtain ⟨l1, s1, e1, e2⟩ := eThen_ok e
        obtain ⟨b1, b2, b3, b4⟩ := hs _ _ _ (nx_le bt n hsn) e1
        by_cases c4 : isS bt n s1 41
        · rw [if_pos c4] at e2
          have e3 : (l1, nx bt n s1) = (l, s') := Sum.inr.inj e2
          cases e3
          have := nx_ge bt n s1
          exact ⟨by omega, by omega, nx_le bt n b3, b4⟩
        · rw [if_neg c4] at e2; cases e2
      · rw [if_neg c3] at e; cases e
theorem eTest_ok {h : Nat} {sub : Nat → eR} (hs : eOk n lo hi h sub) : eOk n lo hi (h + 1) (eTest bt n sub) := by
  intro s l s' hsn e
  obtain ⟨l1, s1, e1, e2⟩ := eThen_ok e
  obtain ⟨b1, b2, b3, b4⟩ := hs _ _ _ hsn e1
  cases ho : opTe bt n s1 with
  | none =>
    rw [ho] at e2
    have e3 : (l1, s1) = (l, s') := Sum.inr.inj e2
    cases e3
    exact ⟨b1, b2, b3, oUp_le b4 (by omega)⟩
  | some a =>
    rw [ho] at e2
    obtain ⟨l2, s2, e3, e4⟩ := eThen_ok e2
    have e5 : (l1 ++ l2 ++ [(a, 0)], s2) = (l, s') := Sum.inr.inj e4
    cases e5
    have hK : tK bt n s1 ≠ 0 := by rcases opTe_K ho with h | h <;> exact isS_K h.2
    have ha : 4 ≤ a ∧ a ≤ 11 := by rcases opTe_K ho with h | h <;> omega
    have hlt := nx_of hK b3
    have hgt := nx_gt bt n hlt
    obtain ⟨d1, d2, d3, d4⟩ := hs _ _ _ (nx_le bt n b3) e3
    refine ⟨?_, by omega, d3, oUp_bin (oUp_le b4 (by omega)) d4 ha⟩
    rw [List.length_append, List.length_append]
    have : ([(a, 0)] : List gO).length = 1 := rfl
    omega
theorem eNs_ok {h : Nat} {sub : Nat → eR} (hs : eOk n lo hi h sub) : ∀ k c s l s', s ≤ n → eNs bt n sub k c s = .inr (l, s') → s + l.length ≤ s' + c ∧ s < s' ∧ s' ≤ n ∧ oUp lo hi h l := by
  have base : ∀ c s l s', s ≤ n → eNo c (sub s) = .inr (l, s') → s + l.length ≤ s' + c ∧ s < s' ∧ s' ≤ n ∧ oUp lo hi h l := by
    intro c s l s' hsn e
    obtain ⟨l1, s1, e1, e2⟩ := eThen_ok e
    obtain ⟨b1, b2, b3, b4⟩ := hs _ _ _ hsn e1
    have e3 : (l1 ++ List.replicate c (3, 0), s1) = (l, s') := Sum.inr.inj e2
    cases e3
    rw [List.length_append, List.length_replicate]
    exact ⟨by omega, b2, b3, oUp_nots b4 c⟩
  intro k
  induction k with
  | zero =>
    intro c s l s' hsn e
    unfold eNs at e
    by_cases c1 : isW bt n s 15
    · rw [if_pos c1] at e; cases e
    · rw [if_neg c1] at e; exact base c s l s' hsn e
  | succ k ih =>
    intro c s l s' hsn e
    unfold eNs at e
    by_cases c1 : isW bt n s 15
    · rw [if_pos c1] at e
      have hlt := nx_of (isW_K c1) hsn
      have hgt := nx_gt bt n hlt
      obtain ⟨d1, d2, d3, d4⟩ := ih (c + 1) _ l s' (nx_le bt n hsn) e
      exact ⟨by omega, by omega, d3, d4⟩
    · rw [if_neg c1] at e; exact base c s l s' hsn e
theorem eNot_ok {h : Nat} {sub : Nat → eR} (hs : eOk n lo hi h sub) : eOk n lo hi h (fun s => eNs bt n sub 6 0 s) := by
  intro s l s' hsn e
  have := eNs_ok hs 6 0 s l s' hsn e
  exact ⟨by omega, this.2⟩
theorem eOrs_ok {h : Nat} {sub : Nat → eR} (h1 : 1 ≤ h) (hs : eOk n lo hi h sub) : eOk n lo hi (h + 5) (eOrs bt n lo hi sub) := by
  have p := ePart_ok (bt := bt) h1 hs
  have p1 := eBin_ok (bt := bt) (op := opPr bt n) p (fun s a ho => by rcases opPr_K ho with x | x <;> exact ⟨by omega, by omega, isS_K x.2⟩)
  have p2 := eBin_ok (bt := bt) (op := opSu bt n) p1 (fun s a ho => by rcases opSu_K ho with x | x <;> exact ⟨by omega, by omega, isS_K x.2⟩)
  have p3 := eNot_ok (bt := bt) (eTest_ok (bt := bt) p2)
  have p4 := eBin_ok (bt := bt) (op := opAn bt n) p3 (fun s a ho => by have x := opAn_K ho; exact ⟨by omega, by omega, isW_K x.2⟩)
  exact eBin_ok (bt := bt) (op := opOr bt n) p4 (fun s a ho => by have x := opOr_K ho; exact ⟨by omega, by omega, isW_K x.2⟩)
theorem eEx_ok : ∀ d wi, wi ≤ 6 → eOk n lo hi (max 1 (31 - 5 * wi)) (eEx bt n lo hi d wi)
  | 0, _, _ => fun s l s' _ e => by cases e
  | d + 1, wi, hw => by
    intro s l s' hsn e
    unfold eEx at e
    by_cases c : wi < 6
    · rw [if_pos c] at e
      have := eOrs_ok (bt := bt) (sub := eEx bt n lo hi d (wi + 1)) (by omega) (eEx_ok d (wi + 1) (by omega)) s l s' hsn e
      exact ⟨this.1, this.2.1, this.2.2.1, oUp_le this.2.2.2 (by omega)⟩
    · rw [if_neg c] at e; cases e
end EXPR2
