/-! ===== THE REFERENCE: watching ===== -/
def wRun (b : Nat → Bool) : Nat → Nat
  | 0 => 0
  | k + 1 => if b k = true then min 30 (wRun b k + 1) else 0
theorem wRun_le (b : Nat → Bool) : ∀ k, wRun b k ≤ 30
  | 0 => Nat.zero_le _
  | k + 1 => by
    show (if b k = true then min 30 (wRun b k + 1) else 0) ≤ 30
    split <;> omega
theorem wRun_iff (b : Nat → Bool) : ∀ (K n : Nat), n ≤ 30 → n ≤ K → (n ≤ wRun b K ↔ dGd b n (K - n))
  | 0, n, _, h => by
    have : n = 0 := by omega
    subst this
    exact ⟨fun _ i hi => absurd hi (Nat.not_lt_zero _), fun _ => Nat.zero_le _⟩
  | K + 1, 0, _, _ => ⟨fun _ i hi => absurd hi (Nat.not_lt_zero _), fun _ => Nat.zero_le _⟩
  | K + 1, n + 1, h30, h => by
    have ih := wRun_iff b K n (by omega) (by omega)
    have e1 : K + 1 - (n + 1) = K - n := by omega
    rw [e1]
    show n + 1 ≤ (if b K = true then min 30 (wRun b K + 1) else 0) ↔ _
    cases hb : b K with
    | true =>
      rw [if_pos rfl]
      constructor
      · intro h1 i hi
        by_cases e : i = n
        · subst e
          rw [show K - i + i = K by omega]
          exact hb
        · exact ih.mp (by omega) i (by omega)
      · intro h1
        have := ih.mpr (fun i hi => h1 i (by omega))
        omega
    | false =>
      rw [if_neg (by decide)]
      constructor
      · intro h1; omega
      · intro h1
        have := h1 n (by omega)
        rw [show K - n + n = K by omega, hb] at this
        cases this
/-- the first place from s on, m far -/
def fst9 (E : Nat → Bool) : Nat → Nat → Option Nat
  | _, 0 => none
  | s, m + 1 => if E s = true then some s else fst9 E (s + 1) m
theorem fst9_dF {E b : Nat → Bool} {n : Nat} (hn : 1 ≤ n) : ∀ (m s : Nat), (∀ j, j < m → (E (s + n - 1 + j) = true ↔ dGd b n (s + j))) → fst9 E (s + n - 1) m = (dF b n s m).map (· + (s + n - 1))
  | 0, _, _ => rfl
  | m + 1, s, h => by
    have h0 := h 0 (by omega)
    rw [Nat.add_zero, Nat.add_zero] at h0
    show (if E (s + n - 1) = true then some (s + n - 1) else fst9 E (s + n - 1 + 1) m) = _
    by_cases c : E (s + n - 1) = true
    · rw [if_pos c, dF_y (h0.mp c)]
      simp
    · rw [if_neg c, dF_n (fun g => c (h0.mpr g))]
      have e := fst9_dF hn m (s + 1) (fun j hj => by
        have := h (j + 1) (by omega)
        rw [show s + 1 + n - 1 + j = s + n - 1 + (j + 1) by omega, show s + 1 + j = s + (j + 1) by omega]
        exact this)
      rw [show s + n - 1 + 1 = s + 1 + n - 1 by omega, e]
      cases dF b n (s + 1) m with
      | none => rfl
      | some k =>
        simp only [Option.map_some]
        congr 1
        omega
def bL (l : List Nat) (c i : Nat) : Bool := decide (l.getD (i % l.length) 0 = c)
theorem bL_per (l : List Nat) (c : Nat) : dPer (bL l c) l.length := fun i => by
  unfold bL
  rw [Nat.add_mod_right]
theorem mod_ne9 {i k T : Nat} (h : i < k) (h2 : k < i + T) : ¬ i % T = k % T := by
  intro g
  have := Nat.sub_mod_eq_zero_of_mod_eq g.symm
  rw [Nat.mod_eq_of_lt (by omega)] at this
  omega
theorem ex_win {T : Nat} (hT : 0 < T) (j : Nat) : ∃ K, 30 + T ≤ K ∧ K < 30 + 2 * T ∧ K % T = j % T := by
  have hm := Nat.mod_lt j hT
  refine ⟨j % T + (30 + T - j % T + T - 1) / T * T, ?_, ?_, ?_⟩
  · have := Nat.lt_div_mul_add (a := 30 + T - j % T + T - 1) hT
    omega
  · have := Nat.div_mul_le_self (30 + T - j % T + T - 1) T
    omega
  · rw [Nat.add_mul_mod_self_right, Nat.mod_mod]
theorem dPer.cong {b : Nat → Bool} {T n s t : Nat} (h : dPer b T) (e : s % T = t % T) : dGd b n s ↔ dGd b n t := by
  have h1 := Nat.mod_add_div s T
  have h2 := Nat.mod_add_div t T
  rw [Nat.mul_comm] at h1 h2
  rw [← h1, ← h2, h.goodk, h.goodk, e]
/-- what stands in seenIn -/
def rSn (w : mW) (b : Nat → Bool) (n T : Nat) : Prop := ∀ s, s < T → wI w 107 (s + n - 1) = (match dF b n s T with
  | none => nI 1000000
  | some j => nI (s + n - 1 + j))
def dn9 (n : Nat) : Int32 := if n = 0 then -nI 1 else nI (n - 1)
theorem dn9_s (k : Nat) : nI k + -nI 1 = dn9 k := by
  unfold dn9
  by_cases h : k = 0
  · subst h
    rw [if_pos rfl]
    decide
  · rw [if_neg h]
    exact q_m1 (by omega)
theorem q_ng0 : (-nI 1 < nI 0) = True := by decide
def eN (o : Option Nat) : Int32 := nI (oN 1000000 o)
section M5
variable {g : gS} {w : mW} {Q : Unit → mW → Prop}
abbrev pW : fP := ([106, 107], [])
theorem m_watch2 {l : List Nat} {n : Nat} {E : Nat → Bool} {w1 : mW} (hT : 0 < l.length) (hT2 : l.length ≤ 207) (hn : n ≤ 30) (hf : fr pW w w1) (hp : wI w 80 70 = nI l.length)
    (hE : ∀ j, j < 2 * l.length + 30 → ∃ v, v ≤ 30 ∧ wI w1 106 (j % l.length) = nI v ∧ (E j = true ↔ n ≤ v))
    (hq : ∀ w', fr pW w w' → (∀ j, j < 2 * l.length + 30 → wI w' 107 j = eN (fst9 E j (2 * l.length + 30 - j))) → Q () w') : hP (mLoop (f229_80_b88 (nI n)) nF (1000000, nI (2 * l.length + 29), w1)) Q := by
  refine hP_loopF (fun m s => ∃ w2, m ≤ 2 * l.length + 30 ∧ s = (eN (fst9 E m (2 * l.length + 30 - m)), dn9 m, w2) ∧ fr pW w w2 ∧ (∀ j, wI w2 106 j = wI w1 106 j) ∧ (∀ j, m ≤ j → j < 2 * l.length + 30 → wI w2 107 j = eN (fst9 E j (2 * l.length + 30 - j)))) (2 * l.length + 30) (by omega) ⟨w1, Nat.le_refl _, ?_, hf, fun _ => rfl, fun j h1 h2 => by omega⟩ ?_
  · rw [Nat.sub_self]
    unfold dn9
    rw [if_neg (by omega)]
    rfl
  rintro m s rec ⟨w2, hm, rfl, hf2, h106, h107⟩ ih
  simp only [f229_80_b88]
  cases m with
  | zero =>
    simp only [dn9, reduceIte, q_lit, q_ng0, hP_some, hP_if]
    exact hq w2 hf2 (fun j hj => h107 j (by omega) hj)
  | succ k =>
    have hd : dn9 (k + 1) = nI k := by unfold dn9; rw [if_neg (by omega)]; rfl
    have hmod : k % l.length < 207 := Nat.lt_of_lt_of_le (Nat.mod_lt _ hT) hT2
    obtain ⟨v, hv, h1, h2⟩ := hE k (by omega)
    have e1 : fst9 E k (2 * l.length + 30 - k) = if E k = true then some k else fst9 E (k + 1) (2 * l.length + 30 - (k + 1)) := by
      rw [show 2 * l.length + 30 - k = (2 * l.length + 30 - (k + 1)) + 1 by omega]
      rfl
    rw [hd]
    simp (disch := first | omega | (simp only [fIn, fR, fC, Nat.reduceEqDiff, decide_false, decide_true, Bool.false_or, Bool.or_false, Bool.false_and, Bool.and_false, Bool.or_self, Bool.true_and, Bool.true_or, Bool.and_true, Bool.or_true, Bool.and_self]; done) | fail) only [hP_some, hP_let, hP_gd, hP_B, hP_if, reduceIte, q_lit, nI_add, pk_mul, q_lt, q_le, q_eq, q_cl, q_g, Bool.not_eq_true', decide_eq_false_iff_not, decide_eq_true_eq, q_div, q_rm, q_sub, q_m1, Nat.zero_add, Nat.add_zero, fr_rd hf2, hp, h106, h1, Nat.not_lt_zero]
    refine ⟨by omega, by omega, ?_⟩
    by_cases c : v < n
    · have c2 : ¬ E k = true := fun e => by have := h2.mp e; omega
      rw [if_neg c2] at e1
      rw [if_pos c]
      refine ⟨by omega, ih k _ (by omega) ⟨nS w2 107 k (eN (fst9 E (k + 1) (2 * l.length + 30 - (k + 1)))), by omega, ?_, fr_nS hf2 rfl, fun j => (rd_nSa (by decide)).trans (h106 j), fun j j1 j2 => ?_⟩⟩
      · rw [dn9_s, e1]
      · by_cases e : j = k
        · subst e
          rw [rd_nS, e1]
        · rw [rd_nSj e]
          exact h107 j (by omega) j2
    · have c2 : E k = true := h2.mpr (by omega)
      rw [if_pos c2] at e1
      rw [if_neg c]
      refine ⟨by omega, ih k _ (by omega) ⟨nS w2 107 k (nI k), by omega, ?_, fr_nS hf2 rfl, fun j => (rd_nSa (by decide)).trans (h106 j), fun j j1 j2 => ?_⟩⟩
      · rw [dn9_s, e1]
        rfl
      · by_cases e : j = k
        · subst e
          rw [rd_nS, e1]
          rfl
        · rw [rd_nSj e]
          exact h107 j (by omega) j2
theorem m_watch {l : List Nat} {c n : Nat} (hT : 0 < l.length) (hT2 : l.length ≤ 207) (hm : ∀ c ∈ l, c < 40 ∨ c = 99) (hc : c < 40) (hn1 : 1 ≤ n) (hn : n ≤ 30) (hl : rLk w l)
    (hq : ∀ w', fr pW w w' → rSn w' (bL l c) n l.length → Q () w') : hP (f229_80 (nI c) (nI n) w) Q := by
  have hp := hl.1
  unfold f229_80
  refine hP_loopF (fun m s => ∃ k w1, k + m = 30 + 2 * l.length ∧ s = (nI (wRun (bL l c) k), nI k, w1) ∧ fr pW w w1 ∧ (∀ i, i < k → k ≤ i + l.length → wI w1 106 (i % l.length) = nI (wRun (bL l c) (i + 1)))) (30 + 2 * l.length) (by omega) ⟨0, w, by omega, rfl, fr_refl, fun i hi => absurd hi (Nat.not_lt_zero _)⟩ ?_
  rintro m s rec ⟨k, w1, hk, rfl, hf, h106⟩ ih
  have hr30 := wRun_le (bL l c) k
  have hmod : k % l.length < l.length := Nat.mod_lt _ hT
  simp only [f229_80_b5]
  by_cases c1 : k < 30 + 2 * l.length
  · have h105 := hl.2 (k % l.length) hmod
    have hx : l.getD (k % l.length) 0 ∈ l := by
      rw [List.getD_eq_getElem?_getD, List.getElem?_eq_getElem hmod]
      exact List.getElem_mem hmod
    have hcE : (cE (l.getD (k % l.length) 0) = nI c) = (bL l c k = true) := by
      unfold bL cE
      rw [decide_eq_true_eq]
      rcases hm _ hx with h | h
      · rw [if_neg (by omega)]
        exact q_eq (by omega) (by omega)
      · rw [h, if_pos rfl]
        have e1 : ¬ (99 : Nat) = c := by omega
        have e2 := q_neq (a := c) (by omega)
        simp only [e1]
        exact eq_false (fun g => by rw [← e2]; exact g.symm)
    have step : ∀ v : Nat, v = wRun (bL l c) (k + 1) → hP (rec (nI v, nI (k + 1), nS w1 106 (k % l.length) (nI v))) Q := by
      intro v hv
      refine ih (m - 1) _ (by omega) ⟨k + 1, nS w1 106 (k % l.length) (nI v), by omega, by rw [hv], fr_nS hf rfl, fun i i1 i2 => ?_⟩
      by_cases e : i = k
      · subst e
        rw [rd_nS, hv]
      · have e2 : ¬ i % l.length = k % l.length := by
          intro g
          exact mod_ne9 (by omega) (by omega) g
        rw [rd_nSj e2]
        exact h106 i (by omega) (by omega)
    have e9 : wRun (bL l c) (k + 1) = if bL l c k = true then min 30 (wRun (bL l c) k + 1) else 0 := rfl
    simp (disch := first | omega | (simp only [fIn, fR, fC, Nat.reduceEqDiff, decide_false, decide_true, Bool.false_or, Bool.or_false, Bool.false_and, Bool.and_false, Bool.or_self, Bool.true_and, Bool.true_or, Bool.and_true, Bool.or_true, Bool.and_self]; done) | fail) only [hP_some, hP_let, hP_gd, hP_B, hP_if, reduceIte, q_lit, nI_add, pk_mul, q_lt, q_le, q_eq, q_cl, q_g, Bool.not_eq_true', decide_eq_false_iff_not, decide_eq_true_eq, q_div, q_rm, q_sub, q_m1, Nat.zero_add, Nat.add_zero, fr_rd hf, hp, c1, h105, hcE]
    refine ⟨by omega, by omega, ?_⟩
    by_cases c2 : bL l c k = true
    · rw [if_pos c2] at e9 ⊢
      by_cases c3 : wRun (bL l c) k < 30
      · rw [if_pos c3]
        exact ⟨by omega, step _ (by omega)⟩
      · rw [if_neg c3]
        exact ⟨by omega, step _ (by omega)⟩
    · rw [if_neg c2] at e9 ⊢
      exact ⟨by omega, step _ (by omega)⟩
  · have e : k = 30 + 2 * l.length := by omega
    simp (disch := first | omega | (simp only [fIn, fR, fC, Nat.reduceEqDiff, decide_false, decide_true, Bool.false_or, Bool.or_false, Bool.false_and, Bool.and_false, Bool.or_self, Bool.true_and, Bool.true_or, Bool.and_true, Bool.or_true, Bool.and_self]; done) | fail) only [hP_some, hP_let, hP_gd, hP_B, hP_if, reduceIte, q_lit, nI_add, pk_mul, q_lt, q_le, q_eq, q_cl, q_g, Bool.not_eq_true', decide_eq_false_iff_not, decide_eq_true_eq, q_div, q_rm, q_sub, q_m1, Nat.zero_add, Nat.add_zero, fr_rd hf, hp, c1]
    have hper := bL_per l c
    refine m_watch2 (E := fun j => dGb (bL l c) n (j + 30 * l.length + 1 - n)) hT hT2 hn hf hp (fun j hj => ?_) (fun w2 hf2 h107 => hq w2 hf2 (fun s hs => ?_))
    · obtain ⟨K, k1, k2, k3⟩ := ex_win hT j
      refine ⟨wRun (bL l c) (K + 1), wRun_le _ _, ?_, ?_⟩
      · rw [← k3]
        exact h106 K (by omega) (by omega)
      · rw [dGb_iff, wRun_iff (bL l c) (K + 1) n hn (by omega)]
        have h1 := Nat.mod_add_div K l.length
        have h2 := Nat.mod_add_div j l.length
        rw [Nat.mul_comm] at h1 h2
        rw [← hper.goodk (K / l.length), ← hper.goodk (j / l.length + 30) (K + 1 - n)]
        have e3 : j + 30 * l.length + 1 - n + K / l.length * l.length = K + 1 - n + (j / l.length + 30) * l.length := by
          rw [Nat.add_mul]
          rw [k3] at h1
          generalize K / l.length * l.length = x1 at *
          generalize j / l.length * l.length = x2 at *
          omega
        rw [e3]
    · rw [h107 (s + n - 1) (by omega), fst9_dF (b := bL l c) hn1, dF_far hper hT (by omega)]
      · cases dF (bL l c) n s l.length with
        | none => rfl
        | some j =>
          show nI (j + (s + n - 1)) = nI (s + n - 1 + j)
          rw [Nat.add_comm]
      · intro j hj
        rw [dGb_iff, show s + n - 1 + j + 30 * l.length + 1 - n = s + j + 30 * l.length by omega]
        exact hper.goodk 30 (s + j)
end M5
