/-! ===== EXPRESSIONS: with a pile of waiting signs (as the reference reads them, without the machine) ===== -/
def str (a : Nat) : Nat := if a = 5 then 1 else if a = 4 then 2 else if a = 3 then 3 else if a = 6 then 4 else if a = 7 then 4 else if a = 8 then 5 else if a = 9 then 5 else 6
def drW (k : Nat) : List Nat → List Nat
  | [] => []
  | a :: t => if a < 14 ∧ k ≤ str a then drW k t else a :: t
def drO (k : Nat) : List Nat → List Nat
  | [] => []
  | a :: t => if a < 14 ∧ k ≤ str a then a :: drO k t else []
def cell1 (o : gO) : List Nat := if o.1 ≤ 2 then [o.1, o.2] else [o.1]
def cells : List gO → List Nat
  | [] => []
  | o :: t => cell1 o ++ cells t
theorem cells_app : ∀ l l', cells (l ++ l') = cells l ++ cells l'
  | [], _ => rfl
  | o :: t, l' => by
    show cell1 o ++ cells (t ++ l') = (cell1 o ++ cells t) ++ cells l'
    rw [cells_app t l', List.append_assoc]
def tUp (T : Nat → Bool) (d : Nat) (b : Bool) : Nat → Bool := fun j => if j = d then b else T j
/-- how it stands: (at an operand: may 'not' stand here, how many did) or after one; where; the pile; how deep; tested; the code -/
abbrev aS : Type := Option (Bool × Nat) × Nat × List Nat × Nat × (Nat → Bool) × List Nat
abbrev aR : Type := (Nat × Nat) ⊕ (Nat × List Nat)
section AUTO
variable (bt : Nat → Nat) (n lo hi : Nat)
def stpO (mn : Bool) (c s : Nat) (W : List Nat) (dep : Nat) (T : Nat → Bool) (C : List Nat) : aS ⊕ aR :=
  if mn = true ∧ isW bt n s 15 then (if c = 6 then .inr (.inl (2, s)) else .inl (some (mn, c + 1), nx bt n s, 3 :: W, dep, T, C))
  else if isS bt n s 40 then (if dep < 6 then .inl (some (true, 0), nx bt n s, 14 :: W, dep + 1, tUp T (dep + 1) false, C) else .inr (.inl (if mayB bt n (nx bt n s) then 2 else 1, nx bt n s)))
  else match ePart bt n lo hi (fun _ => .inl (0, 0)) s with
    | .inl f => .inr (.inl f)
    | .inr x => .inl (none, x.2, W, dep, T, C ++ cells x.1)
def stpB (mn : Bool) (a k s : Nat) (W : List Nat) (dep : Nat) (T : Nat → Bool) (C : List Nat) : aS ⊕ aR := .inl (some (mn, 0), nx bt n s, a :: drW k W, dep, T, C ++ drO k W)
def stpA (s : Nat) (W : List Nat) (dep : Nat) (T : Nat → Bool) (C : List Nat) : aS ⊕ aR :=
  if isW bt n s 14 then stpB bt n true 4 2 s W dep (tUp T dep false) C
  else if isW bt n s 13 then stpB bt n true 5 1 s W dep (tUp T dep false) C
  else if isS bt n s 60 ∧ T dep = false then stpB bt n false 6 4 s W dep (tUp T dep true) C
  else if isS bt n s 61 ∧ T dep = false then stpB bt n false 7 4 s W dep (tUp T dep true) C
  else if isS bt n s 43 then stpB bt n false 8 5 s W dep T C
  else if isS bt n s 45 then stpB bt n false 9 5 s W dep T C
  else if isS bt n s 42 then stpB bt n false 10 6 s W dep T C
  else if isS bt n s 47 then stpB bt n false 11 6 s W dep T C
  else if isS bt n s 41 ∧ (W.any fun a => decide (14 ≤ a)) = true then .inl (none, nx bt n s, (drW 0 W).tail, dep - 1, T, C ++ drO 0 W)
  else if 1 < dep then .inr (.inl (1, s)) else .inr (.inr (s, C ++ drO 0 W ++ [0]))
def stp (x : aS) : aS ⊕ aR := match x with
  | (some (mn, c), s, W, dep, T, C) => stpO bt n lo hi mn c s W dep T C
  | (none, s, W, dep, T, C) => stpA bt n s W dep T C
def gox : Nat → aS → Option aR
  | 0, _ => none
  | k + 1, x => match stp bt n lo hi x with
    | .inl y => gox k y
    | .inr r => some r
def Go (x : aS) (r : aR) : Prop := ∃ k, gox bt n lo hi k x = some r
end AUTO
section AUTO2
variable {bt : Nat → Nat} {n lo hi : Nat}
theorem gox_more : ∀ k x r, gox bt n lo hi k x = some r → ∀ m, k ≤ m → gox bt n lo hi m x = some r
  | 0, _, _, h, _, _ => by cases h
  | k + 1, x, r, h, m, hm => by
    cases m with
    | zero => omega
    | succ m =>
      unfold gox at h ⊢
      cases hs : stp bt n lo hi x with
      | inl y =>
        rw [hs] at h
        exact gox_more k y r h m (by omega)
      | inr q =>
        rw [hs] at h
        exact h
theorem Go_det {x : aS} {r r' : aR} (h : Go bt n lo hi x r) (h' : Go bt n lo hi x r') : r = r' := by
  obtain ⟨k, hk⟩ := h
  obtain ⟨m, hm⟩ := h'
  have a := gox_more k x r hk (k + m) (by omega)
  have b := gox_more m x r' hm (k + m) (by omega)
  rw [a] at b
  exact Option.some.inj b
theorem Go_next {x y : aS} {r : aR} (h : stp bt n lo hi x = .inl y) (hg : Go bt n lo hi y r) : Go bt n lo hi x r := by
  obtain ⟨k, hk⟩ := hg
  refine ⟨k + 1, ?_⟩
  unfold gox
  rw [h]
  exact hk
theorem Go_end {x : aS} {r : aR} (h : stp bt n lo hi x = .inr r) : Go bt n lo hi x r := by
  refine ⟨1, ?_⟩
  unfold gox
  rw [h]
theorem str_le (a : Nat) : 1 ≤ str a ∧ str a ≤ 6 := by
  unfold str
  repeat' split
  all_goals omega
def cap (k : Nat) (W : List Nat) : Prop := drW k W = W ∧ drO k W = []
def pend (k : Nat) (W' C' W C : List Nat) : Prop := ∃ P, W' = P ++ W ∧ (∀ a ∈ P, a < 14 ∧ k ≤ str a) ∧ C' ++ P = C
theorem dr_app {k : Nat} {W : List Nat} : ∀ P : List Nat, (∀ a ∈ P, a < 14 ∧ k ≤ str a) → drW k (P ++ W) = drW k W ∧ drO k (P ++ W) = P ++ drO k W
  | [], _ => ⟨rfl, rfl⟩
  | a :: t, h => by
    have ha := h a (List.mem_cons_self ..)
    have ih := dr_app (W := W) t (fun b hb => h b (List.mem_cons_of_mem _ hb))
    constructor
    · show (if a < 14 ∧ k ≤ str a then drW k (t ++ W) else a :: (t ++ W)) = _
      rw [if_pos ha]; exact ih.1
    · show (if a < 14 ∧ k ≤ str a then a :: drO k (t ++ W) else []) = _
      rw [if_pos ha, ih.2]; rfl
theorem pend_dr {k j : Nat} {W' C' W C : List Nat} (h : pend k W' C' W C) (hj : j ≤ k) : drW j W' = drW j W ∧ C' ++ drO j W' = C ++ drO j W := by
  obtain ⟨P, rfl, h2, rfl⟩ := h
  have := dr_app (k := j) (W := W) P (fun a ha => ⟨(h2 a ha).1, by have := (h2 a ha).2; omega⟩)
  exact ⟨this.1, by rw [this.2, List.append_assoc]⟩
theorem pend_low {k j : Nat} {W' C' W C : List Nat} (h : pend k W' C' W C) (hj : j ≤ k) : pend j W' C' W C := by
  obtain ⟨P, h1, h2, h3⟩ := h
  exact ⟨P, h1, fun a ha => ⟨(h2 a ha).1, by have := (h2 a ha).2; omega⟩, h3⟩
theorem pend_op {k j a : Nat} {W' C' W C : List Nat} (h : pend j W' C' (a :: W) C) (hj : k ≤ j) (ha : a < 14 ∧ k ≤ str a) : pend k W' C' W (C ++ [a]) := by
  obtain ⟨P, rfl, h2, rfl⟩ := h
  refine ⟨P ++ [a], by rw [List.append_assoc]; rfl, fun b hb => ?_, by rw [List.append_assoc]⟩
  rcases List.mem_append.mp hb with hb | hb
  · exact ⟨(h2 b hb).1, by have := (h2 b hb).2; omega⟩
  · have : b = a := List.mem_singleton.mp hb
    rw [this]
    exact ha
theorem cap_cons {k a : Nat} {W : List Nat} (h : ¬ (a < 14 ∧ k ≤ str a)) : cap k (a :: W) := by
  constructor
  · show (if a < 14 ∧ k ≤ str a then drW k W else a :: W) = _
    rw [if_neg h]
  · show (if a < 14 ∧ k ≤ str a then a :: drO k W else []) = _
    rw [if_neg h]
theorem cap_up {k j : Nat} {W : List Nat} (h : cap k W) (hj : k ≤ j) : cap j W := by
  cases W with
  | nil => exact ⟨rfl, rfl⟩
  | cons a t =>
    refine cap_cons (fun hc => ?_)
    have h2 := h.2
    have e : drO k (a :: t) = a :: drO k t := by
      show (if a < 14 ∧ k ≤ str a then a :: drO k t else []) = _
      rw [if_pos ⟨hc.1, by omega⟩]
    rw [e] at h2
    cases h2
variable (bt n lo hi)
def noOp (k s : Nat) (t : Bool) : Prop := (k ≤ 6 → opPr bt n s = none) ∧ (k ≤ 5 → opSu bt n s = none) ∧ (k ≤ 4 → opTe bt n s = none ∨ t = true) ∧ (k ≤ 2 → opAn bt n s = none) ∧ (k ≤ 1 → opOr bt n s = none)
/-- the pile does as the levels do -/
def LvK (k dep : Nat) (T : Nat → Bool) (W C : List Nat) (l : List gO) (s' : Nat) (r : aR) : Prop := ∀ W' C' T', pend k W' C' W (C ++ cells l) → (∀ j, j < dep → T' j = T j) → (5 ≤ k → T' dep = T dep) → noOp bt n k s' (T' dep) → Go bt n lo hi (none, s', W', dep, T', C') r
def Lv (k : Nat) (e : Nat → eR) (dep : Nat) : Prop :=
  ∀ mn c s W T C, s ≤ n → cap k W → (k ≤ 3 → mn = true ∧ c = 0) → (4 ≤ k → ¬ (mn = true ∧ isW bt n s 15)) → (k ≤ 4 → T dep = false) →
    (∀ f, e s = .inl f → Go bt n lo hi (some (mn, c), s, W, dep, T, C) (.inl f)) ∧
    (∀ l s', e s = .inr (l, s') → ∀ r, LvK bt n lo hi k dep T W C l s' r → Go bt n lo hi (some (mn, c), s, W, dep, T, C) r)
variable {bt n lo hi}
theorem eThen_bad {r : eR} {k : List gO → Nat → eR} {f : Nat × Nat} (h : eThen r k = .inl f) : r = .inl f ∨ ∃ l1 s1, r = .inr (l1, s1) ∧ k l1 s1 = .inl f := by
  cases r with
  | inl g => exact .inl h
  | inr x => exact .inr ⟨x.1, x.2, rfl, h⟩
theorem Lv_bin {k dep : Nat} {op : Nat → Option Nat} {sub : Nat → eR} (hk : k ≤ 6) (hL : Lv bt n lo hi (k + 1) sub dep) (hn7 : n ≤ 700)
    (hpos : ∀ s l s', s ≤ n → sub s = .inr (l, s') → s < s' ∧ s' ≤ n)
    (hop : ∀ s a, op s = some a → tK bt n s ≠ 0)
    (hst : ∀ s a W C T, op s = some a → noOp bt n (k + 1) s (T dep) → ∃ mn T2, stp bt n lo hi (none, s, W, dep, T, C) = .inl (some (mn, 0), nx bt n s, a :: drW k W, dep, T2, C ++ drO k W) ∧ str a = k ∧ 3 ≤ a ∧ a < 14 ∧ (∀ j, j < dep → T2 j = T j) ∧ (5 ≤ k → T2 dep = T dep) ∧ (k + 1 ≤ 4 → T2 dep = false) ∧ (k + 1 ≤ 3 → mn = true) ∧ (4 ≤ k + 1 → mn = false))
    (hno : ∀ s t, op s = none → noOp bt n (k + 1) s t → noOp bt n k s t) (hk4 : ¬ k = 4) (hk3 : ¬ k = 3) : Lv bt n lo hi k (eBin bt n op sub) dep := by
  intro mn c s W T C hs hcap hm hnW hT
  have loop : ∀ fuel l s1 W' C' T', n < fuel + s1 → s1 ≤ n → pend k W' C' W (C ++ cells l) → (∀ j, j < dep → T' j = T j) → (5 ≤ k → T' dep = T dep) → noOp bt n (k + 1) s1 (T' dep) →
      (∀ f, eLp bt n op sub fuel l s1 = .inl f → Go bt n lo hi (none, s1, W', dep, T', C') (.inl f)) ∧ (∀ l' s', eLp bt n op sub fuel l s1 = .inr (l', s') → ∀ r, LvK bt n lo hi k dep T W C l' s' r → Go bt n lo hi (none, s1, W', dep, T', C') r) := by
    intro fuel
    induction fuel with
    | zero => intro l s1 W' C' T' h1 h2; omega
    | succ fuel ih =>
      intro l s1 W' C' T' hf hs1 hp hT1 hT5 hN
      unfold eLp
      cases ho : op s1 with
      | none =>
        refine ⟨fun f e => (by cases e), fun l' s' e r hK => ?_⟩
        have e1 : (l, s1) = (l', s') := Sum.inr.inj e
        cases e1
        exact hK W' C' T' hp hT1 hT5 (hno _ _ ho hN)
      | some a =>
        obtain ⟨mn2, T2, g1, g2, g3, g4, g5, g6, g7, g8, g9⟩ := hst s1 a W' C' T' ho hN
        have hlt := nx_of (hop s1 a ho) hs1
        have hgt := nx_gt bt n hlt
        have hnx := nx_le bt n hs1
        have pd := pend_dr hp (Nat.le_refl k)
        rw [pd.1, pd.2, hcap.1, hcap.2, List.append_nil] at g1
        have hc2 : cap (k + 1) (a :: W) := cap_cons (fun h => by omega)
        obtain ⟨i1, i2⟩ := hL mn2 0 (nx bt n s1) (a :: W) T2 (C ++ cells l) hnx hc2 (fun h => ⟨g8 h, rfl⟩) (fun h hh => by rw [g9 h] at hh; cases hh.1) g7
        have step : ∀ l2 s2, sub (nx bt n s1) = .inr (l2, s2) → ∀ r, (∀ W3 C3 T3, pend k W3 C3 W (C ++ cells (l ++ l2 ++ [(a, 0)])) → (∀ j, j < dep → T3 j = T j) → (5 ≤ k → T3 dep = T dep) → noOp bt n (k + 1) s2 (T3 dep) → Go bt n lo hi (none, s2, W3, dep, T3, C3) r) → Go bt n lo hi (none, s1, W', dep, T', C') r := by
          intro l2 s2 e r hr
          refine Go_next g1 (i2 l2 s2 e r (fun W3 C3 T3 p3 t3 t5 n3 => hr W3 C3 T3 ?_ (fun j hj => (t3 j hj).trans ((g5 j hj).trans (hT1 j hj))) (fun h5 => (t5 (by omega)).trans ((g6 h5).trans (hT5 h5))) n3))
          have := pend_op p3 (show k ≤ k + 1 by omega) (show a < 14 ∧ k ≤ str a from ⟨g4, by omega⟩)
          rw [cells_app, cells_app]
          have ec : cells [(a, 0)] = [a] := by
            show cell1 (a, 0) ++ [] = [a]
            unfold cell1
            rw [if_neg (by show ¬ a ≤ 2; omega)]
            rfl
          rw [ec]
          simp only [List.append_assoc] at this ⊢
          exact this
        constructor
        · intro f e
          rcases eThen_bad e with e1 | ⟨l1, s2, e1, e2⟩
          · exact Go_next g1 (i1 f e1)
          · obtain ⟨q1, q2⟩ := hpos _ _ _ hnx e1
            exact step l1 s2 e1 _ (fun W3 C3 T3 p3 t3 t5 n3 => (ih _ s2 W3 C3 T3 (by omega) q2 p3 t3 t5 n3).1 f e2)
        · intro l' s' e r hK
          obtain ⟨l1, s2, e1, e2⟩ := eThen_ok e
          obtain ⟨q1, q2⟩ := hpos _ _ _ hnx e1
          exact step l1 s2 e1 _ (fun W3 C3 T3 p3 t3 t5 n3 => (ih _ s2 W3 C3 T3 (by omega) q2 p3 t3 t5 n3).2 l' s' e2 r hK)
  obtain ⟨i1, i2⟩ := hL mn c s W T C hs (cap_up hcap (by omega)) (fun h => hm (by omega)) (fun h => hnW (by omega)) (fun h => hT (by omega))
  constructor
  · intro f e
    rcases eThen_bad e with e1 | ⟨l1, s1, e1, e2⟩
    · exact i1 f e1
    · obtain ⟨q1, q2⟩ := hpos _ _ _ hs e1
      refine i2 l1 s1 e1 _ (fun W3 C3 T3 p3 t3 t5 n3 => (loop 700 l1 s1 W3 C3 T3 (by omega) q2 (pend_low p3 (by omega)) t3 (fun h5 => t5 (by omega)) n3).1 f e2)
  · intro l s' e r hK
    obtain ⟨l1, s1, e1, e2⟩ := eThen_ok e
    obtain ⟨q1, q2⟩ := hpos _ _ _ hs e1
    exact i2 l1 s1 e1 _ (fun W3 C3 T3 p3 t3 t5 n3 => (loop 700 l1 s1 W3 C3 T3 (by omega) q2 (pend_low p3 (by omega)) t3 (fun h5 => t5 (by omega)) n3).2 l s' e2 r hK)
end AUTO2
