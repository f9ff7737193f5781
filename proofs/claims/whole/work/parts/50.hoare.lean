/-! ===== WHAT A PURE PIECE COMES TO ===== -/
def hP {β : Type} (e : Option (β × mW)) (Q : β → mW → Prop) : Prop := ∃ v w, e = some (v, w) ∧ Q v w
section HP
variable {β γ : Type} {Q : β → mW → Prop}
theorem hP_some {v : β} {w : mW} : hP (some (v, w)) Q ↔ Q v w := ⟨fun ⟨_, _, h, hq⟩ => by cases h; exact hq, fun h => ⟨v, w, rfl, h⟩⟩
theorem hP_none : hP (none : Option (β × mW)) Q ↔ False := ⟨fun ⟨_, _, h, _⟩ => (by cases h), fun h => h.elim⟩
theorem hP_let {x : γ} {K : γ → Option (β × mW)} : hP (nLet x K) Q ↔ hP (K x) Q := Iff.rfl
theorem hP_gd {b : Bool} {e : Option (β × mW)} : hP (nGd b e) Q ↔ b = true ∧ hP e Q := by
  unfold nGd
  by_cases h : b = true
  · rw [if_pos h]
    exact ⟨fun x => ⟨h, x⟩, fun x => x.2⟩
  · rw [if_neg h]
    exact ⟨fun x => (hP_none.mp x).elim, fun x => absurd x.1 h⟩
theorem hP_B {f : Option (γ × mW)} {K : γ → mW → Option (β × mW)} : hP (nB f K) Q ↔ hP f (fun v w => hP (K v w) Q) := by
  unfold nB
  constructor
  · rintro ⟨v, w, h, hq⟩
    cases hf : f with
    | none => rw [hf] at h; cases h
    | some z =>
      rw [hf] at h
      exact ⟨z.1, z.2, rfl, v, w, h, hq⟩
  · rintro ⟨v, w, h, v2, w2, h2, hq⟩
    exact ⟨v2, w2, by rw [h]; exact h2, hq⟩
theorem hP_if {c : Prop} [Decidable c] {A B : Option (β × mW)} : hP (if c then A else B) Q ↔ if c then hP A Q else hP B Q := by
  by_cases h : c
  · rw [if_pos h, if_pos h]
  · rw [if_neg h, if_neg h]
theorem hP_ite {c : Prop} [Decidable c] {A B : Option (β × mW)} (h1 : c → hP A Q) (h2 : ¬ c → hP B Q) : hP (if c then A else B) Q := by
  by_cases h : c
  · rw [if_pos h]; exact h1 h
  · rw [if_neg h]; exact h2 h
theorem hP_mono {e : Option (β × mW)} {Q' : β → mW → Prop} (h : hP e Q') (hq : ∀ v w, Q' v w → Q v w) : hP e Q := by
  obtain ⟨v, w, h1, h2⟩ := h
  exact ⟨v, w, h1, hq v w h2⟩
theorem hP_opt {o : Option Nat} {A : Option (β × mW)} {B : Nat → Option (β × mW)} : hP (nOpt o A B) Q ↔ (match o with | none => hP A Q | some k => hP (B k) Q) := by
  cases o <;> exact Iff.rfl
/-- a loop: a measure that falls -/
theorem hP_loop {σ : Type} {body : (σ → Option (β × mW)) → σ → Option (β × mW)} (I : Nat → σ → Prop)
    (h : ∀ (n : Nat) (s : σ) (rec : σ → Option (β × mW)), I n s → (∀ (m : Nat) (s' : σ), m < n → I m s' → hP (rec s') Q) → hP (body rec s) Q) :
    ∀ (F n : Nat) (s : σ), n < F → I n s → hP (mLoop body F s) Q
  | 0, _, _, hn, _ => absurd hn (Nat.not_lt_zero _)
  | F + 1, n, s, hn, hi => h n s (mLoop body F) hi (fun m s' hm hi' => hP_loop I h F m s' (by omega) hi')
theorem hP_loopF {σ : Type} {body : (σ → Option (β × mW)) → σ → Option (β × mW)} (I : Nat → σ → Prop) (n : Nat) {s : σ} (hn : n < 20000) (hi : I n s)
    (h : ∀ (n : Nat) (s : σ) (rec : σ → Option (β × mW)), I n s → (∀ (m : Nat) (s' : σ), m < n → I m s' → hP (rec s') Q) → hP (body rec s) Q) : hP (mLoop body nF s) Q := hP_loop I h nF n s hn hi
theorem hP_xb {f : Option ((γ ⊕ Nat) × mW)} {Q : (β ⊕ Nat) → mW → Prop} {K : γ → mW → Option ((β ⊕ Nat) × mW)} : hP (nXb f K) Q ↔ hP f (fun v w => match v with | .inl v => hP (K v w) Q | .inr x => Q (.inr x) w) := by
  unfold nXb
  constructor
  · rintro ⟨v, w, h, hq⟩
    cases hf : f with
    | none => rw [hf] at h; cases h
    | some z =>
      obtain ⟨z1, z2⟩ := z
      rw [hf] at h
      refine ⟨z1, z2, rfl, ?_⟩
      cases z1 with
      | inl a => exact ⟨v, w, h, hq⟩
      | inr x => cases h; exact hq
  · rintro ⟨v, w, h, h2⟩
    rw [h]
    cases v with
    | inl a => obtain ⟨v3, w3, h3, hq⟩ := h2; exact ⟨v3, w3, h3, hq⟩
    | inr x => exact ⟨_, _, rfl, h2⟩
theorem hP_xh {f : Option ((γ ⊕ Nat) × mW)} {K : γ → mW → Option (β × mW)} {H : Nat → mW → Option (β × mW)} : hP (nXh f K H) Q ↔ hP f (fun v w => match v with | .inl v => hP (K v w) Q | .inr x => hP (H x w) Q) := by
  unfold nXh
  constructor
  · rintro ⟨v, w, h, hq⟩
    cases hf : f with
    | none => rw [hf] at h; cases h
    | some z =>
      obtain ⟨z1, z2⟩ := z
      rw [hf] at h
      refine ⟨z1, z2, rfl, ?_⟩
      cases z1 with
      | inl a => exact ⟨v, w, h, hq⟩
      | inr x => exact ⟨v, w, h, hq⟩
  · rintro ⟨v, w, h, h2⟩
    rw [h]
    cases v with
    | inl a => obtain ⟨v3, w3, h3, hq⟩ := h2; exact ⟨v3, w3, h3, hq⟩
    | inr x => obtain ⟨v3, w3, h3, hq⟩ := h2; exact ⟨v3, w3, h3, hq⟩
end HP
/-! the ints as numbers -/
theorem q_lit (n : Nat) : (OfNat.ofNat n : Int32) = nI (OfNat.ofNat n) := Eq.trans rfl rfl
theorem q_lt {a b : Nat} (ha : a < 2147483648) (hb : b < 2147483648) : (nI a < nI b) = (a < b) := propext (nI_ltI ha hb)
theorem q_le {a b : Nat} (ha : a < 2147483648) (hb : b < 2147483648) : (nI a ≤ nI b) = (a ≤ b) := propext (nI_leI ha hb)
theorem q_eq {a b : Nat} (ha : a < 2147483648) (hb : b < 2147483648) : (nI a = nI b) = (a = b) := propext (nI_eq ha hb)
theorem q_cl {a : Nat} (ha : a < 2147483648) : (nI a).toNatClampNeg = a := nI_clamp ha
theorem q_sub {a b : Nat} (h : b ≤ a) : nI a - nI b = nI (a - b) := pk_sub h
theorem q_m1 {a : Nat} (h : 1 ≤ a) : nI a + -nI 1 = nI (a - 1) := by
  have : a = (a - 1) + 1 := by omega
  rw [this]
  exact pk_m1 (a - 1)
theorem q_m0 {a : Nat} (h : 1 ≤ a) : nI a + (-1) = nI (a - 1) := q_m1 h
theorem q_div {a b : Nat} (ha : a < 2147483648) (h0 : 0 < b) (hb : b < 2147483648) : nI a / nI b = nI (a / b) := pk_div ha h0 hb
theorem q_rm {a b : Nat} (ha : a < 2147483648) (h0 : 0 < b) (hb : b < 2147483648) : nRm (nI a) (nI b) = nI (a % b) := pk_rem ha h0 hb
theorem q_g {a n : Nat} (ha : a < 2147483648) : (nG (nI a) n = true) = (a < n) := by
  unfold nG
  rw [q_cl ha]
  have h1 : (nI a < 0) = False := eq_false (nI_pos ha)
  simp only [h1, decide_false, Bool.false_or, Bool.not_eq_true', decide_eq_false_iff_not, Nat.not_le]
theorem q_nz {a : Nat} (ha : a < 2147483648) : ((!decide (nI a = nI 0)) = true) = ¬ a = 0 := by
  simp only [q_eq ha (show 0 < 2147483648 by omega), Bool.not_eq_true', decide_eq_false_iff_not]
theorem q_b01 {a : Nat} (ha : a < 2147483648) : (nB01 (nI a) = true) = (a = 0 ∨ a = 1) := by
  unfold nB01
  simp only [q_lit, q_eq ha (show 0 < 2147483648 by omega), q_eq ha (show 1 < 2147483648 by omega), Bool.or_eq_true, decide_eq_true_eq]
theorem q_max {a b : Nat} (ha : a < 2147483648) (hb : b < 2147483648) : nMax (nI a) (nI b) = nI (max a b) := by
  unfold nMax
  simp only [q_lt ha hb]
  by_cases h : a < b
  · rw [if_pos h, Nat.max_eq_right (by omega)]
  · rw [if_neg h, Nat.max_eq_left (by omega)]
theorem q_min {a b : Nat} (ha : a < 2147483648) (hb : b < 2147483648) : nMin (nI a) (nI b) = nI (min a b) := by
  unfold nMin
  simp only [q_lt hb ha]
  by_cases h : b < a
  · rw [if_pos h, Nat.min_eq_right (by omega)]
  · rw [if_neg h, Nat.min_eq_left (by omega)]
theorem q_abs {a b : Nat} (ha : a < 1073741824) (hb : b < 1073741824) : nAbs (nI a - nI b) = nI ((a - b) + (b - a)) := by
  have h1 := pk_sub_toInt ha hb
  unfold nAbs
  by_cases h : b ≤ a
  · rw [if_pos (by rw [Int32.le_iff_toInt_le, h1]; show (0 : Int) ≤ _; omega), pk_sub h]
    congr 1
    omega
  · rw [if_neg (by rw [Int32.le_iff_toInt_le, h1]; show ¬ (0 : Int) ≤ _; omega)]
    have e : (0 : Int32) - (nI a - nI b) = nI b - nI a := by
      rw [← Int32.toInt_inj, Int32.toInt_sub, h1, pk_sub_toInt hb ha]
      show ((0 : Int) - _).bmod _ = _
      rw [Int.bmod_eq_of_le (by omega) (by omega)]
      omega
    rw [e, pk_sub (by omega)]
    congr 1
    omega
theorem q_neq {a : Nat} (ha : a < 2147483648) : (nI a = -nI 1) = False := by
  apply eq_false
  intro h
  have h2 := congrArg Int32.toInt h
  rw [nI_toInt ha] at h2
  have h3 : (-nI 1).toInt = -1 := by decide
  omega
theorem q_nlt {a : Nat} (ha : a < 2147483648) : (nI a < -nI 1) = False := by
  apply eq_false
  rw [Int32.lt_iff_toInt_lt, nI_toInt ha]
  have h3 : (-nI 1).toInt = -1 := by decide
  omega
theorem q_ngt {a : Nat} (ha : a < 2147483648) : (-nI 1 < nI a) = True := by
  apply eq_true
  rw [Int32.lt_iff_toInt_lt, nI_toInt ha]
  have h3 : (-nI 1).toInt = -1 := by decide
  omega
/-- any int, as a number or below 0 -/
theorem q_any (x : Int32) : (x < 0) ∨ ∃ a : Nat, a < 2147483648 ∧ x = nI a := by
  by_cases h : x < 0
  · exact .inl h
  · obtain ⟨j, h1, h2⟩ := nI_of h
    exact .inr ⟨j, h1, h2⟩
/-! reading what was written -/
theorem rd_nS {w : mW} {a j : Nat} {v : Int32} : wI (nS w a j v) a j = v := by simp [wI, nS, mUp]
theorem rd_nSa {w : mW} {a j b k : Nat} {v : Int32} (h : ¬ b = a) : wI (nS w a j v) b k = wI w b k := by simp [wI, nS, mUp, h]
theorem rd_nSj {w : mW} {a j k : Nat} {v : Int32} (h : ¬ k = j) : wI (nS w a j v) a k = wI w a k := by simp [wI, nS, mUp, h]
theorem rd_nSi {w : mW} {a j k : Nat} {v : Int32} : wI (nS w a j v) a k = if k = j then v else wI w a k := by simp [wI, nS, mUp]
theorem rd_nS_J {w : mW} {a j b k : Nat} {v : Int32} : wJ (nS w a j v) b k = wJ w b k := rfl
theorem rd_nSJ_I {w : mW} {a j b k : Nat} {v : Int64} : wI (nSJ w a j v) b k = wI w b k := rfl
theorem rd_nSJ {w : mW} {a j : Nat} {v : Int64} : wJ (nSJ w a j v) a j = v := by simp [wJ, nSJ, mUp]
theorem rd_nSJa {w : mW} {a j b k : Nat} {v : Int64} (h : ¬ (b = a ∧ k = j)) : wJ (nSJ w a j v) b k = wJ w b k := by
  simp only [wJ, nSJ, mUp]
  by_cases e : b = a
  · subst e
    simp only [if_true]
    rw [if_neg (fun g => h ⟨rfl, g⟩)]
  · rw [if_neg e]
/-! a part of the world, anew: p tells where -/
abbrev fP : Type := List Nat × List (Nat × Nat)
def fR : List Nat → Nat → Bool
  | [], _ => false
  | b :: t, a => decide (b = a) || fR t a
def fC : List (Nat × Nat) → Nat → Nat → Bool
  | [], _, _ => false
  | q :: t, a, j => (decide (q.1 = a) && decide (q.2 = j)) || fC t a j
def fIn (p : fP) (a j : Nat) : Bool := fR p.1 a || fC p.2 a j
/-- the ints and longs of u where p says so, else those of w; the rest is w's -/
def ov (p : fP) (u w : mW) : mW := (fun a j => if fIn p a j = true then u.1 a j else w.1 a j, fun a j => if fIn p a j = true then u.2.1 a j else w.2.1 a j, w.2.2)
theorem rd_ovn {p : fP} {u w : mW} {a j : Nat} (h : fIn p a j = false) : wI (ov p u w) a j = wI w a j := by simp [wI, ov, h]
theorem rd_ovy {p : fP} {u w : mW} {a j : Nat} (h : fIn p a j = true) : wI (ov p u w) a j = wI u a j := by simp [wI, ov, h]
theorem rd_ovnJ {p : fP} {u w : mW} {a j : Nat} (h : fIn p a j = false) : wJ (ov p u w) a j = wJ w a j := by simp [wJ, ov, h]
theorem rd_ovyJ {p : fP} {u w : mW} {a j : Nat} (h : fIn p a j = true) : wJ (ov p u w) a j = wJ u a j := by simp [wJ, ov, h]
theorem ov_self (p : fP) (w : mW) : ov p w w = w := by
  simp only [ov, ite_self]
theorem mW_ext {w v : mW} (h1 : ∀ a j, wI w a j = wI v a j) (h2 : ∀ a j, wJ w a j = wJ v a j) (h3 : w.2.2 = v.2.2) : w = v := by
  obtain ⟨a, b, c⟩ := w
  obtain ⟨a', b', c'⟩ := v
  have e1 : a = a' := funext fun x => funext fun y => h1 x y
  have e2 : b = b' := funext fun x => funext fun y => h2 x y
  have e3 : c = c' := h3
  subst e1 e2 e3
  rfl
theorem ov_nS {p : fP} {u w : mW} {a j : Nat} {v : Int32} (h : fIn p a j = true) : nS (ov p u w) a j v = ov p (nS u a j v) w := by
  refine mW_ext (fun b k => ?_) (fun b k => rfl) rfl
  by_cases e : b = a ∧ k = j
  · obtain ⟨rfl, rfl⟩ := e
    rw [rd_nS, rd_ovy h, rd_nS]
  · have e2 : ∀ w : mW, wI (nS w a j v) b k = wI w b k := by
      intro w
      simp only [wI, nS, mUp]
      by_cases e1 : b = a
      · subst e1
        simp only [if_true]
        rw [if_neg (fun g => e ⟨rfl, g⟩)]
      · rw [if_neg e1]
    rw [e2]
    cases h3 : fIn p b k with
    | true => rw [rd_ovy h3, rd_ovy h3, e2]
    | false => rw [rd_ovn h3, rd_ovn h3]
/-- q lies within p -/
def fLe (q p : fP) : Bool := q.1.all (fun a => fR p.1 a) && q.2.all (fun x => fIn p x.1 x.2)
theorem fR_mem {l : List Nat} {a : Nat} : fR l a = true ↔ a ∈ l := by
  induction l with
  | nil => simp [fR]
  | cons b t ih =>
    simp only [fR, Bool.or_eq_true, decide_eq_true_eq, ih, List.mem_cons]
    exact ⟨fun h => h.imp Eq.symm id, fun h => h.imp Eq.symm id⟩
theorem fC_mem {l : List (Nat × Nat)} {a j : Nat} : fC l a j = true ↔ (a, j) ∈ l := by
  induction l with
  | nil => simp [fC]
  | cons b t ih =>
    obtain ⟨b1, b2⟩ := b
    simp only [fC, Bool.or_eq_true, Bool.and_eq_true, decide_eq_true_eq, ih, List.mem_cons, Prod.mk.injEq]
    exact ⟨fun h => h.imp (fun g => ⟨g.1.symm, g.2.symm⟩) id, fun h => h.imp (fun g => ⟨g.1.symm, g.2.symm⟩) id⟩
theorem fLe_use {q p : fP} (h : fLe q p = true) {a j : Nat} (hq : fIn q a j = true) : fIn p a j = true := by
  simp only [fLe, Bool.and_eq_true, List.all_eq_true] at h
  simp only [fIn, Bool.or_eq_true] at hq ⊢
  rcases hq with hq | hq
  · exact .inl (h.1 a (fR_mem.mp hq))
  · have := h.2 (a, j) (fC_mem.mp hq)
    simpa [fIn] using this
theorem ov_ov {q p : fP} {u v w : mW} (h : fLe q p = true) : ov q u (ov p v w) = ov p (ov q u v) w := by
  refine mW_ext (fun b k => ?_) (fun b k => ?_) rfl
  · cases h3 : fIn q b k with
    | true => rw [rd_ovy h3, rd_ovy (fLe_use h h3), rd_ovy h3]
    | false =>
      rw [rd_ovn h3]
      cases h4 : fIn p b k with
      | true => rw [rd_ovy h4, rd_ovy h4, rd_ovn h3]
      | false => rw [rd_ovn h4, rd_ovn h4]
  · cases h3 : fIn q b k with
    | true => rw [rd_ovyJ h3, rd_ovyJ (fLe_use h h3), rd_ovyJ h3]
    | false =>
      rw [rd_ovnJ h3]
      cases h4 : fIn p b k with
      | true => rw [rd_ovyJ h4, rd_ovyJ h4, rd_ovnJ h3]
      | false => rw [rd_ovnJ h4, rd_ovnJ h4]
theorem ov_up {q p : fP} {u w : mW} (h : fLe q p = true) : ov q u w = ov p (ov q u w) w := by
  have h2 := ov_ov (u := u) (v := w) (w := w) h
  rw [ov_self] at h2
  exact h2
theorem ov_get (p : fP) {w w' : mW} (h1 : ∀ a j, fIn p a j = false → wI w' a j = wI w a j) (h2 : ∀ a j, fIn p a j = false → wJ w' a j = wJ w a j) (h3 : w'.2.2 = w.2.2) : w' = ov p w' w := by
  refine mW_ext (fun b k => ?_) (fun b k => ?_) h3
  · cases h : fIn p b k with
    | true => rw [rd_ovy h]
    | false => rw [rd_ovn h, h1 b k h]
  · cases h : fIn p b k with
    | true => rw [rd_ovyJ h]
    | false => rw [rd_ovnJ h, h2 b k h]
/-! all but p stays -/
def fr (p : fP) (w w' : mW) : Prop := (∀ a j, fIn p a j = false → wI w' a j = wI w a j) ∧ (∀ a j, fIn p a j = false → wJ w' a j = wJ w a j) ∧ w'.2.2 = w.2.2
theorem fr_refl {p : fP} {w : mW} : fr p w w := ⟨fun _ _ _ => rfl, fun _ _ _ => rfl, rfl⟩
theorem fr_rd {p : fP} {w w' : mW} (h : fr p w w') {a j : Nat} (hp : fIn p a j = false) : wI w' a j = wI w a j := h.1 a j hp
theorem fr_rdJ {p : fP} {w w' : mW} (h : fr p w w') {a j : Nat} (hp : fIn p a j = false) : wJ w' a j = wJ w a j := h.2.1 a j hp
theorem fLe_no {q p : fP} (h : fLe q p = true) {a j : Nat} (hp : fIn p a j = false) : fIn q a j = false := by
  cases e : fIn q a j with
  | false => rfl
  | true => rw [fLe_use h e] at hp; cases hp
theorem fr_then {q p : fP} {w w1 w2 : mW} (h : fr p w w1) (hq : fr q w1 w2) (hl : fLe q p = true) : fr p w w2 :=
  ⟨fun a j hp => (hq.1 a j (fLe_no hl hp)).trans (h.1 a j hp), fun a j hp => (hq.2.1 a j (fLe_no hl hp)).trans (h.2.1 a j hp), hq.2.2.trans h.2.2⟩
theorem fr_up {q p : fP} {w w' : mW} (h : fr q w w') (hl : fLe q p = true) : fr p w w' := fr_then fr_refl h hl
theorem fr_nS {p : fP} {w w1 : mW} {a j : Nat} {v : Int32} (h : fr p w w1) (hp : fIn p a j = true) : fr p w (nS w1 a j v) := by
  refine ⟨fun b k hb => ?_, h.2.1, h.2.2⟩
  rw [← h.1 b k hb]
  simp only [wI, nS, mUp]
  by_cases e : b = a
  · subst e
    simp only [if_true]
    rw [if_neg (fun g => by subst g; rw [hp] at hb; cases hb)]
  · rw [if_neg e]
theorem fr_nSJ {p : fP} {w w1 : mW} {a j : Nat} {v : Int64} (h : fr p w w1) (hp : fIn p a j = true) : fr p w (nSJ w1 a j v) := by
  refine ⟨h.1, fun b k hb => ?_, h.2.2⟩
  rw [← h.2.1 b k hb]
  simp only [wJ, nSJ, mUp]
  by_cases e : b = a
  · subst e
    simp only [if_true]
    rw [if_neg (fun g => by subst g; rw [hp] at hb; cases hb)]
  · rw [if_neg e]
/-- p stays off the rows R and the cells of K -/
def fOff (R : List Nat) (K : List (Nat × Nat)) (p : fP) : Bool := R.all (fun a => !(fR p.1 a) && p.2.all (fun x => !(decide (x.1 = a)))) && K.all (fun x => !(fIn p x.1 x.2))
theorem fOff_row {R : List Nat} {K : List (Nat × Nat)} {p : fP} (h : fOff R K p = true) {a : Nat} (ha : a ∈ R) (j : Nat) : fIn p a j = false := by
  simp only [fOff, Bool.and_eq_true, List.all_eq_true] at h
  have h1 := h.1 a ha
  cases e : fIn p a j with
  | false => rfl
  | true =>
    simp only [fIn, Bool.or_eq_true] at e
    rcases e with e | e
    · rw [e] at h1; exact absurd h1.1 (by decide)
    · have := h1.2 (a, j) (fC_mem.mp e)
      simp at this
theorem fOff_cell {R : List Nat} {K : List (Nat × Nat)} {p : fP} (h : fOff R K p = true) {a j : Nat} (ha : (a, j) ∈ K) : fIn p a j = false := by
  simp only [fOff, Bool.and_eq_true, List.all_eq_true] at h
  have h1 := h.2 (a, j) ha
  simpa using h1
