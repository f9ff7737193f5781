/-! ===== RULES: (1, n) a number, (2, k) a value, 3 not, 4 and, 5 or, 6 less, 7 same, 8 plus, 9 minus, 10 times, 11 by ===== -/
abbrev gO : Type := Nat × Nat
def oWk (a : Nat) (x y : Int32) : Int32 := if a = 4 then (if x = 0 then 0 else if y = 0 then 0 else 1) else if a = 5 then (if x = 0 then (if y = 0 then 0 else 1) else 1) else if a = 6 then (if x < y then 1 else 0) else if a = 7 then (if x = y then 1 else 0) else if a = 8 then x + y else if a = 9 then x - y else if a = 10 then x * y else if y = 0 then 0 else x / y
def oNot : List Int32 → List Int32
  | x :: t => (if x = 0 then 1 else 0) :: t
  | [] => []
def oBin (a : Nat) : List Int32 → List Int32
  | y :: x :: t => oWk a x y :: t
  | l => l
def oOne (V : Nat → Int32) (o : gO) (st : List Int32) : List Int32 := if o.1 = 1 then nI o.2 :: st else if o.1 = 2 then V o.2 :: st else if o.1 = 3 then oNot st else oBin o.1 st
def oEv (V : Nat → Int32) : List gO → List Int32 → List Int32
  | [], st => st
  | o :: t, st => oEv V t (oOne V o st)
/-- what a rule gives -/
def oVal9 (V : Nat → Int32) (l : List gO) : Int32 := (oEv V l []).headD 0
/-- well made: values lo to hi alone, no deeper than 60, one number left -/
def oDep (lo hi : Nat) : Nat → List gO → Prop
  | d, [] => d = 1
  | d, o :: t => (o.1 = 1 ∧ o.2 ≤ 9999 ∧ d < 60 ∧ oDep lo hi (d + 1) t) ∨ (o.1 = 2 ∧ lo ≤ o.2 ∧ o.2 ≤ hi ∧ d < 60 ∧ oDep lo hi (d + 1) t) ∨ (o.1 = 3 ∧ 1 ≤ d ∧ oDep lo hi d t) ∨ (4 ≤ o.1 ∧ o.1 ≤ 11 ∧ 2 ≤ d ∧ oDep lo hi (d - 1) t)
/-- the values that matter alone -/
theorem oEv_cg {V V' : Nat → Int32} {lo hi : Nat} (hv : ∀ k, lo ≤ k → k ≤ hi → V k = V' k) : ∀ (l : List gO) (d : Nat) (st : List Int32), oDep lo hi d l → oEv V l st = oEv V' l st
  | [], _, _, _ => rfl
  | o :: t, d, st, h => by
    show oEv V t (oOne V o st) = oEv V' t (oOne V' o st)
    have e : oOne V o st = oOne V' o st := by
      unfold oOne
      rcases h with h | h | h | h
      · simp [h.1]
      · simp [h.1, hv _ h.2.1 h.2.2.1]
      · simp [h.1]
      · have n1 : ¬ o.1 = 1 := by omega
        have n2 : ¬ o.1 = 2 := by omega
        have n3 : ¬ o.1 = 3 := by omega
        simp [n1, n2, n3]
    rw [e]
    rcases h with h | h | h | h
    · exact oEv_cg hv t _ _ h.2.2.2
    · exact oEv_cg hv t _ _ h.2.2.2.2
    · exact oEv_cg hv t _ _ h.2.2
    · exact oEv_cg hv t _ _ h.2.2.2
/-- the code of a rule, as the reference keeps it -/
def cdM (w : mW) : Nat → List gO → Prop
  | k, [] => k < 4000 ∧ wI w 86 k = nI 0
  | k, o :: t => (o.1 ≤ 2 ∧ k + 1 < 4000 ∧ wI w 86 k = nI o.1 ∧ wI w 86 (k + 1) = nI o.2 ∧ cdM w (k + 2) t) ∨ (2 < o.1 ∧ k < 4000 ∧ wI w 86 k = nI o.1 ∧ cdM w (k + 1) t)
theorem cdM_cg {w w' : mW} (h : ∀ j, wI w' 86 j = wI w 86 j) : ∀ (l : List gO) (k : Nat), cdM w k l → cdM w' k l
  | [], k, hc => ⟨hc.1, (h k).trans hc.2⟩
  | o :: t, k, hc => by
    rcases hc with ⟨h1, h2, h3, h4, h5⟩ | ⟨h1, h2, h3, h4⟩
    · exact .inl ⟨h1, h2, (h k).trans h3, (h _).trans h4, cdM_cg h t _ h5⟩
    · exact .inr ⟨h1, h2, (h k).trans h3, cdM_cg h t _ h4⟩
/-- a pile of numbers in row a, the top last -/
def pSt (a : Nat) (w : mW) : List Int32 → Prop
  | [] => True
  | x :: t => wI w a t.length = x ∧ pSt a w t
theorem pSt_up {a : Nat} {w : mW} {v : Int32} {j : Nat} : ∀ {l : List Int32}, l.length ≤ j → pSt a w l → pSt a (nS w a j v) l
  | [], _, _ => trivial
  | x :: t, h, hp => by
    have h2 : t.length + 1 ≤ j := h
    exact ⟨(rd_nSj (by omega)).trans hp.1, pSt_up (by omega) hp.2⟩
section M2
variable {w : mW} {Q : Int32 → mW → Prop}
theorem q_ite {c : Prop} [Decidable c] {a b : Int32} : (if c then Q a w else Q b w) = Q (if c then a else b) w := by split <;> rfl
theorem m_works {a : Nat} {x y : Int32} (h1 : 4 ≤ a) (h2 : a ≤ 11) (hq : Q (oWk a x y) w) : hP (f220 (nI a) x y w) Q := by
  have h : a = 4 ∨ a = 5 ∨ a = 6 ∨ a = 7 ∨ a = 8 ∨ a = 9 ∨ a = 10 ∨ a = 11 := by omega
  have e : ∀ m n : Nat, m < 2147483648 → n < 2147483648 → ((nI m = (OfNat.ofNat n : Int32)) = (m = n)) := fun m n hm hn => by rw [q_lit]; exact q_eq hm hn
  unfold f220
  unfold oWk at hq
  rcases h with rfl | rfl | rfl | rfl | rfl | rfl | rfl | rfl
  all_goals
    simp (disch := omega) only [e, reduceIte, Nat.reduceEqDiff] at hq ⊢
    simp only [hP_some, hP_gd, hP_if, q_ite]
  all_goals first
    | exact hq
    | skip
  refine ⟨by decide, ?_⟩
  by_cases c : y = 0
  · rw [if_pos c] at hq ⊢
    exact hq
  · rw [if_neg c] at hq ⊢
    exact ⟨by simpa using c, hq⟩
end M2
