/-! ===== THE CLASS: rounds of looks ===== -/
def rRd (a a1 a2 : Nat) (w : mW) (L : List (Nat × Nat)) : Prop := wI w a 2 = nI L.length ∧ ∀ i, i < L.length → wI w a1 i = cE (L.getD i (0, 0)).1 ∧ wI w a2 i = nI (L.getD i (0, 0)).2
def lkOk (L : List (Nat × Nat)) : Prop := L.length ≤ 13 ∧ ∀ p ∈ L, (p.1 < 40 ∨ p.1 = 99) ∧ 1 ≤ p.2 ∧ p.2 ≤ 99
theorem rRd_fr {a a1 a2 : Nat} {p : fP} {w w' : mW} {L : List (Nat × Nat)} (h : rRd a a1 a2 w L) (hf : fr p w w') (h1 : fIn p a 2 = false) (h2 : ∀ j, fIn p a1 j = false) (h3 : ∀ j, fIn p a2 j = false) : rRd a a1 a2 w' L :=
  ⟨(fr_rd hf h1).trans h.1, fun i hi => ⟨(fr_rd hf (h2 i)).trans (h.2 i hi).1, (fr_rd hf (h3 i)).trans (h.2 i hi).2⟩⟩
def gWs1 (n : Nat) (E : List Nat) (c : Nat) : Option Nat := if E.length = 0 then none else dMx (bL E c) n E.length E.length
def eC (o : Option Nat) : Int32 := nI (oN 2147483647 o)
def scBd (K : Nat) (x : scT) : Prop := x.1 + x.2.1 ≤ K ∧ x.2.2.2 ≤ K ∧ ∀ f, x.2.2.1 = some f → f ≤ K
theorem scE_bd {n K : Nat} {x : scT} (h : scBd K x) : scBd K (scE n x) ∧ (scE n x).1 = 0 := by
  obtain ⟨s, gp, fg, lg⟩ := x
  obtain ⟨h1, h2, h3⟩ := h
  dsimp only at h1 h2 h3
  unfold scE
  dsimp only
  by_cases c : s < n
  · rw [if_pos c]
    exact ⟨⟨by dsimp only; omega, h2, h3⟩, rfl⟩
  · rw [if_neg c]
    cases fg with
    | none => exact ⟨⟨by dsimp only; omega, h2, fun f hf => by cases hf; omega⟩, rfl⟩
    | some f0 => exact ⟨⟨by dsimp only; omega, by dsimp only; omega, fun f hf => h3 f hf⟩, rfl⟩
theorem scB_bd {n K : Nat} {x : scT} (h : scBd K x) (v : Bool) : scBd (K + 1) (scB n x v) := by
  unfold scB
  cases v with
  | true =>
    rw [if_pos rfl]
    obtain ⟨h1, h2, h3⟩ := h
    exact ⟨by dsimp only; omega, by dsimp only; omega, fun f hf => by have := h3 f hf; omega⟩
  | false =>
    rw [if_neg (by decide)]
    obtain ⟨⟨h1, h2, h3⟩, h4⟩ := scE_bd (n := n) h
    exact ⟨by dsimp only; omega, by dsimp only; omega, fun f hf => by have := h3 f hf; omega⟩
theorem scF_bd {n : Nat} : ∀ (l : List Bool) (K : Nat) (x : scT), scBd K x → scBd (K + l.length) (l.foldl (scB n) x)
  | [], _, _, h => h
  | v :: t, K, x, h => by
    have := scF_bd (n := n) t (K + 1) _ (scB_bd (n := n) h v)
    rw [List.length_cons, show K + (t.length + 1) = K + 1 + t.length by omega]
    exact this
theorem scR_bd (n c : Nat) (L : List (Nat × Nat)) : scBd (exL L).length (scR n c L) := by
  have := scF_bd (n := n) ((exL L).map (fun x => decide (x = c))) 0 (0, 0, none, 0) ⟨by dsimp only; omega, by dsimp only; omega, fun f hf => by cases hf⟩
  rw [List.length_map, Nat.zero_add] at this
  exact this
theorem exL_len {L : List (Nat × Nat)} (h : ∀ p ∈ L, p.2 ≤ 99) : (exL L).length ≤ 99 * L.length := by
  induction L with
  | nil => simp [exL]
  | cons p t ih =>
    have h1 := ih (fun q hq => h q (List.mem_cons_of_mem _ hq))
    have h2 := h p List.mem_cons_self
    rw [exL_cons, List.length_append, List.length_replicate, List.length_cons]
    omega
theorem exL_all {L : List (Nat × Nat)} {c : Nat} (h : ∀ p ∈ L, p.1 = c) : ∀ x ∈ exL L, x = c := by
  intro x hx
  unfold exL at hx
  obtain ⟨p, hp, h2⟩ := List.mem_flatMap.mp hx
  rw [List.eq_of_mem_replicate h2]
  exact h p hp
theorem exL_pos {L : List (Nat × Nat)} (h : ∀ p ∈ L, 1 ≤ p.2) (hl : 0 < L.length) : 0 < (exL L).length := by
  cases L with
  | nil => cases hl
  | cons p t =>
    have h2 := h p List.mem_cons_self
    rw [exL_cons, List.length_append, List.length_replicate]
    omega
theorem getD_mem {α : Type} {L : List α} {i : Nat} {d : α} (h : i < L.length) : L.getD i d ∈ L := by
  rw [List.getD_eq_getElem?_getD, List.getElem?_eq_getElem h]
  exact List.getElem_mem h
theorem rot_get {α : Type} {L : List α} {r i : Nat} {d : α} (hr : r < L.length) (hi : i < L.length) : (L.drop r ++ L.take r).getD i d = L.getD (if r + i < L.length then r + i else r + i - L.length) d := by
  simp only [List.getD_eq_getElem?_getD]
  by_cases c : r + i < L.length
  · rw [if_pos c, List.getElem?_append_left (by rw [List.length_drop]; omega), List.getElem?_drop]
  · rw [if_neg c, List.getElem?_append_right (by rw [List.length_drop]; omega), List.length_drop, List.getElem?_take_of_lt (by omega), show i - (L.length - r) = r + i - L.length by omega]
theorem take_s {α : Type} {L : List α} {i : Nat} {d : α} (h : i < L.length) : L.take (i + 1) = L.take i ++ [L.getD i d] := by
  rw [List.take_add_one, List.getD_eq_getElem?_getD, List.getElem?_eq_getElem h]
  rfl
def fgE (o : Option Nat) : Int32 := match o with
  | none => -nI 1
  | some f => nI f
section CR42
variable {w : mW}
theorem c_empty42 {Q : Unit → mW → Prop} (hq : ∀ w', fr ([43, 44], [(42, 2)]) w w' → rRd 42 43 44 w' [] → Q () w') : hP (f52_42 w) Q := by
  unfold f52_42
  simp only [hP_let, hP_some]
  exact hq _ (fr_nS fr_refl rfl) ⟨rd_nS, fun i hi => absurd hi (Nat.not_lt_zero _)⟩
theorem c_add42 {Q : Unit → mW → Prop} {L : List (Nat × Nat)} {c s : Nat} (hl : rRd 42 43 44 w L) (hL : L.length < 13) (hs : s ≤ 99) (hq : ∀ w', fr ([43, 44], [(42, 2)]) w w' → rRd 42 43 44 w' (L ++ (if s = 0 then [] else [(c, s)])) → Q () w') : hP (f53_42 (cE c) (nI s) w) Q := by
  unfold f53_42
  simp (disch := first | omega | (simp only [fIn, fR, fC, Nat.reduceEqDiff, decide_false, decide_true, Bool.false_or, Bool.or_false, Bool.false_and, Bool.and_false, Bool.or_self, Bool.true_and, Bool.true_or, Bool.and_true, Bool.or_true, Bool.and_self]; done) | fail) only [hP_some, hP_let, hP_gd, hP_B, hP_if, reduceIte, q_lit, nI_add, pk_mul, q_lt, q_le, q_eq, q_cl, q_g, Bool.not_eq_true', decide_eq_false_iff_not, decide_eq_true_eq, q_div, q_rm, q_sub, q_m1, Nat.zero_add, Nat.add_zero, hl.1]
  by_cases c0 : s = 0
  · subst c0
    simp only [Nat.lt_irrefl, reduceIte, List.append_nil] at hq ⊢
    exact hq w fr_refl hl
  · simp (disch := first | omega | (simp only [fIn, fR, fC, Nat.reduceEqDiff, decide_false, decide_true, Bool.false_or, Bool.or_false, Bool.false_and, Bool.and_false, Bool.or_self, Bool.true_and, Bool.true_or, Bool.and_true, Bool.or_true, Bool.and_self]; done) | fail) only [show 0 < s by omega, hL, c0, reduceIte, rd_nS, rd_nSa, rd_nSj, rd_ovn, rd_ovy, q_lit, nI_add, pk_mul, q_lt, q_le, q_eq, q_cl, q_g, Bool.not_eq_true', decide_eq_false_iff_not, decide_eq_true_eq, q_div, q_rm, q_sub, q_m1, Nat.zero_add, Nat.add_zero, hl.1, true_and] at hq ⊢
    refine hq _ (fr_nS (fr_nS (fr_nS fr_refl rfl) rfl) rfl) ⟨?_, fun i hi => ?_⟩
    · rw [rd_nS, List.length_append]
      rfl
    · rw [List.length_append, List.length_singleton] at hi
      simp only [List.getD_eq_getElem?_getD]
      by_cases e : i = L.length
      · subst e
        rw [List.getElem?_append_right (Nat.le_refl _), Nat.sub_self]
        simp (disch := first | omega | (simp only [fIn, fR, fC, Nat.reduceEqDiff, decide_false, decide_true, Bool.false_or, Bool.or_false, Bool.false_and, Bool.and_false, Bool.or_self, Bool.true_and, Bool.true_or, Bool.and_true, Bool.or_true, Bool.and_self]; done) | fail) only [rd_nS, rd_nSa, rd_nSj, rd_ovn, rd_ovy]
        exact ⟨rfl, rfl⟩
      · have hi2 : i < L.length := by omega
        rw [List.getElem?_append_left hi2]
        have h9 := hl.2 i hi2
        simp only [List.getD_eq_getElem?_getD] at h9
        simp (disch := first | omega | (simp only [fIn, fR, fC, Nat.reduceEqDiff, decide_false, decide_true, Bool.false_or, Bool.or_false, Bool.false_and, Bool.and_false, Bool.or_self, Bool.true_and, Bool.true_or, Bool.and_true, Bool.or_true, Bool.and_self]; done) | fail) only [rd_nS, rd_nSa, rd_nSj, rd_ovn, rd_ovy]
        exact h9
theorem c_else42 {Q : Int32 → mW → Prop} {L : List (Nat × Nat)} {c : Nat} (hL : lkOk L) (hl : rRd 42 43 44 w L) (hc : c < 40) (h1 : (∀ p ∈ L, p.1 = c) → Q (-nI 1) w) (h2 : ∀ r, r < L.length → ¬ (L.getD r (0, 0)).1 = c → Q (nI r) w) : hP (f55_42 (nI c) w) Q := by
  have hlen := hL.1
  unfold f55_42
  refine hP_loopF (fun n s => ∃ k, k + n = L.length ∧ s = (nI k, w) ∧ ∀ i, i < k → (L.getD i (0, 0)).1 = c) L.length (by omega) ⟨0, by omega, rfl, fun i hi => absurd hi (Nat.not_lt_zero _)⟩ ?_
  rintro n s rec ⟨k, hk, rfl, hall⟩ ih
  simp only [f55_42_b2]
  by_cases c1 : k < L.length
  · have h9 := (hl.2 k c1).1
    have hm := (hL.2 _ (getD_mem (d := (0, 0)) c1)).1
    have hcE : (cE (L.getD k (0, 0)).1 = nI c) = ((L.getD k (0, 0)).1 = c) := by
      unfold cE
      rcases hm with h | h
      · rw [if_neg (by omega)]
        exact q_eq (by omega) (by omega)
      · rw [h, if_pos rfl]
        have e1 : ¬ (99 : Nat) = c := by omega
        have e2 := q_neq (a := c) (by omega)
        simp only [e1]
        exact eq_false (fun g => by rw [← e2]; exact g.symm)
    simp (disch := first | omega | (simp only [fIn, fR, fC, Nat.reduceEqDiff, decide_false, decide_true, Bool.false_or, Bool.or_false, Bool.false_and, Bool.and_false, Bool.or_self, Bool.true_and, Bool.true_or, Bool.and_true, Bool.or_true, Bool.and_self]; done) | fail) only [hP_some, hP_let, hP_gd, hP_B, hP_if, reduceIte, q_lit, nI_add, pk_mul, q_lt, q_le, q_eq, q_cl, q_g, Bool.not_eq_true', decide_eq_false_iff_not, decide_eq_true_eq, q_div, q_rm, q_sub, q_m1, Nat.zero_add, Nat.add_zero, hl.1, c1, h9, hcE]
    refine ⟨by omega, ?_⟩
    by_cases c2 : (L.getD k (0, 0)).1 = c
    · rw [if_pos c2]
      refine ih (n - 1) _ (by omega) ⟨k + 1, by omega, rfl, fun i hi => ?_⟩
      by_cases e : i = k
      · rw [e]; exact c2
      · exact hall i (by omega)
    · rw [if_neg c2]
      exact h2 k c1 c2
  · simp (disch := first | omega | (simp only [fIn, fR, fC, Nat.reduceEqDiff, decide_false, decide_true, Bool.false_or, Bool.or_false, Bool.false_and, Bool.and_false, Bool.or_self, Bool.true_and, Bool.true_or, Bool.and_true, Bool.or_true, Bool.and_self]; done) | fail) only [hP_some, hP_let, hP_gd, hP_B, hP_if, reduceIte, q_lit, nI_add, pk_mul, q_lt, q_le, q_eq, q_cl, q_g, Bool.not_eq_true', decide_eq_false_iff_not, decide_eq_true_eq, q_div, q_rm, q_sub, q_m1, Nat.zero_add, Nat.add_zero, hl.1, c1]
    refine h1 (fun p hp => ?_)
    obtain ⟨i, hi, rfl⟩ := List.getElem_of_mem hp
    have := hall i (by omega)
    rw [List.getD_eq_getElem?_getD, List.getElem?_eq_getElem hi] at this
    exact this
/-- the scan's numbers stand in the round -/
def rSc42 (w : mW) (y : Nat × Option Nat × Nat) : Prop := wI w 42 4 = nI y.1 ∧ wI w 42 5 = fgE y.2.1 ∧ wI w 42 6 = nI y.2.2
abbrev pS42 : fP := ([], [(42, 4), (42, 5), (42, 6)])
theorem c_end42 {Q : Unit → mW → Prop} {w1 : mW} {x : scT} {n K : Nat} (hb : scBd K x) (hK : K < 2000) (hn : n ≤ 30) (hf : fr pS42 w w1) (hs : rSc42 w1 x.2) (hq : ∀ w', fr pS42 w w' → rSc42 w' (scE n x).2 → Q () w') : hP (f56_42 (nI x.1) (nI n) w1) Q := by
  obtain ⟨st, gp, fg, lg⟩ := x
  obtain ⟨b1, b2, b3⟩ := hb
  obtain ⟨s4, s5, s6⟩ := hs
  dsimp only at b1 b2 b3 s4 s5 s6 ⊢
  unfold scE at hq
  dsimp only at hq
  unfold f56_42
  simp (disch := first | omega | (simp only [fIn, fR, fC, Nat.reduceEqDiff, decide_false, decide_true, Bool.false_or, Bool.or_false, Bool.false_and, Bool.and_false, Bool.or_self, Bool.true_and, Bool.true_or, Bool.and_true, Bool.or_true, Bool.and_self]; done) | fail) only [hP_some, hP_let, hP_gd, hP_B, hP_if, reduceIte, q_lit, nI_add, pk_mul, q_lt, q_le, q_eq, q_cl, q_g, Bool.not_eq_true', decide_eq_false_iff_not, decide_eq_true_eq, q_div, q_rm, q_sub, q_m1, Nat.zero_add, Nat.add_zero, rd_nS, rd_nSa, rd_nSj, rd_ovn, rd_ovy, s4, s6]
  by_cases c : st < n
  · rw [if_pos c] at hq ⊢
    refine hq _ (fr_nS hf rfl) ⟨rd_nS, ?_, ?_⟩
    · simp (disch := first | omega | (simp only [fIn, fR, fC, Nat.reduceEqDiff, decide_false, decide_true, Bool.false_or, Bool.or_false, Bool.false_and, Bool.and_false, Bool.or_self, Bool.true_and, Bool.true_or, Bool.and_true, Bool.or_true, Bool.and_self]; done) | fail) only [rd_nS, rd_nSa, rd_nSj, rd_ovn, rd_ovy]; exact s5
    · simp (disch := first | omega | (simp only [fIn, fR, fC, Nat.reduceEqDiff, decide_false, decide_true, Bool.false_or, Bool.or_false, Bool.false_and, Bool.and_false, Bool.or_self, Bool.true_and, Bool.true_or, Bool.and_true, Bool.or_true, Bool.and_self]; done) | fail) only [rd_nS, rd_nSa, rd_nSj, rd_ovn, rd_ovy]; exact s6
  · rw [if_neg c] at hq ⊢
    cases fg with
    | none =>
      have s5 : wI w1 42 5 = -nI 1 := s5
      simp only [s5, reduceIte]
      refine hq _ (fr_nS (fr_nS hf rfl) rfl) ⟨?_, ?_, ?_⟩
      · simp (disch := first | omega | (simp only [fIn, fR, fC, Nat.reduceEqDiff, decide_false, decide_true, Bool.false_or, Bool.or_false, Bool.false_and, Bool.and_false, Bool.or_self, Bool.true_and, Bool.true_or, Bool.and_true, Bool.or_true, Bool.and_self]; done) | fail) only [rd_nS, rd_nSa, rd_nSj, rd_ovn, rd_ovy]
      · simp (disch := first | omega | (simp only [fIn, fR, fC, Nat.reduceEqDiff, decide_false, decide_true, Bool.false_or, Bool.or_false, Bool.false_and, Bool.and_false, Bool.or_self, Bool.true_and, Bool.true_or, Bool.and_true, Bool.or_true, Bool.and_self]; done) | fail) only [rd_nS, rd_nSa, rd_nSj, rd_ovn, rd_ovy]; rfl
      · simp (disch := first | omega | (simp only [fIn, fR, fC, Nat.reduceEqDiff, decide_false, decide_true, Bool.false_or, Bool.or_false, Bool.false_and, Bool.and_false, Bool.or_self, Bool.true_and, Bool.true_or, Bool.and_true, Bool.or_true, Bool.and_self]; done) | fail) only [rd_nS, rd_nSa, rd_nSj, rd_ovn, rd_ovy]; exact s6
    | some f =>
      have s5 : wI w1 42 5 = nI f := s5
      have hf9 := b3 f rfl
      simp (disch := first | omega | (simp only [fIn, fR, fC, Nat.reduceEqDiff, decide_false, decide_true, Bool.false_or, Bool.or_false, Bool.false_and, Bool.and_false, Bool.or_self, Bool.true_and, Bool.true_or, Bool.and_true, Bool.or_true, Bool.and_self]; done) | fail) only [s5, q_neq, reduceIte, q_max]
      refine hq _ (fr_nS (fr_nS hf rfl) rfl) ⟨?_, ?_, ?_⟩
      · simp (disch := first | omega | (simp only [fIn, fR, fC, Nat.reduceEqDiff, decide_false, decide_true, Bool.false_or, Bool.or_false, Bool.false_and, Bool.and_false, Bool.or_self, Bool.true_and, Bool.true_or, Bool.and_true, Bool.or_true, Bool.and_self]; done) | fail) only [rd_nS, rd_nSa, rd_nSj, rd_ovn, rd_ovy]
      · simp (disch := first | omega | (simp only [fIn, fR, fC, Nat.reduceEqDiff, decide_false, decide_true, Bool.false_or, Bool.or_false, Bool.false_and, Bool.and_false, Bool.or_self, Bool.true_and, Bool.true_or, Bool.and_true, Bool.or_true, Bool.and_self]; done) | fail) only [rd_nS, rd_nSa, rd_nSj, rd_ovn, rd_ovy]; exact s5
      · simp (disch := first | omega | (simp only [fIn, fR, fC, Nat.reduceEqDiff, decide_false, decide_true, Bool.false_or, Bool.or_false, Bool.false_and, Bool.and_false, Bool.or_self, Bool.true_and, Bool.true_or, Bool.and_true, Bool.or_true, Bool.and_self]; done) | fail) only [rd_nS, rd_nSa, rd_nSj, rd_ovn, rd_ovy]
theorem c_longest42 {Q : Int32 → mW → Prop} {L : List (Nat × Nat)} {c n : Nat} (hL : lkOk L) (hl : rRd 42 43 44 w L) (hc : c < 40) (hn1 : 1 ≤ n) (hn : n ≤ 30) (hq : ∀ w', fr pS42 w w' → Q (eC (gWs1 n (exL L) c)) w') : hP (f54_42 (nI c) (nI n) w) Q := by
  have hlen := hL.1
  have hexl := exL_len (fun p hp => (hL.2 p hp).2.2)
  unfold f54_42
  simp only [hP_B]
  refine c_else42 hL hl hc (fun hall => ?_) (fun r hr hrc => ?_)
  · simp (disch := first | omega | (simp only [fIn, fR, fC, Nat.reduceEqDiff, decide_false, decide_true, Bool.false_or, Bool.or_false, Bool.false_and, Bool.and_false, Bool.or_self, Bool.true_and, Bool.true_or, Bool.and_true, Bool.or_true, Bool.and_self]; done) | fail) only [hP_some, hP_let, hP_gd, hP_B, hP_if, reduceIte, q_lit, nI_add, pk_mul, q_lt, q_le, q_eq, q_cl, q_g, Bool.not_eq_true', decide_eq_false_iff_not, decide_eq_true_eq, q_div, q_rm, q_sub, q_m1, Nat.zero_add, Nat.add_zero, hl.1]
    have h9 := hq w fr_refl
    unfold gWs1 at h9
    by_cases c0 : L.length = 0
    · have e0 : L = [] := List.length_eq_zero_iff.mp c0
      subst e0
      rw [if_pos (show (exL []).length = 0 from rfl)] at h9
      rw [if_pos c0]
      exact h9
    · rw [if_neg c0]
      have hp := exL_pos (fun p hp => (hL.2 p hp).2.1) (show 0 < L.length by omega)
      rw [if_neg (by omega), scR_all (exL_all hall) hp hn1] at h9
      exact h9
  · simp (disch := first | omega | (simp only [fIn, fR, fC, Nat.reduceEqDiff, decide_false, decide_true, Bool.false_or, Bool.or_false, Bool.false_and, Bool.and_false, Bool.or_self, Bool.true_and, Bool.true_or, Bool.and_true, Bool.or_true, Bool.and_self]; done) | fail) only [hP_some, hP_let, hP_gd, hP_B, hP_if, reduceIte, q_lit, nI_add, pk_mul, q_lt, q_le, q_eq, q_cl, q_g, Bool.not_eq_true', decide_eq_false_iff_not, decide_eq_true_eq, q_div, q_rm, q_sub, q_m1, Nat.zero_add, Nat.add_zero, q_neq]
    have hlR : (L.drop r ++ L.take r).length = L.length := by rw [List.length_append, List.length_drop, List.length_take]; omega
    have hmR : ∀ p ∈ L.drop r ++ L.take r, p ∈ L := by
      intro p hp
      rcases List.mem_append.mp hp with h | h
      · exact List.mem_of_mem_drop h
      · exact List.mem_of_mem_take h
    have hf0 : fr pS42 w (nS (nS (nS w 42 4 (nI 0)) 42 5 (-nI 1)) 42 6 (nI 0)) := fr_nS (fr_nS (fr_nS fr_refl rfl) rfl) rfl
    refine hP_loopF (fun m s => ∃ i w1, i + m = L.length ∧ s = (nI (scR n c ((L.drop r ++ L.take r).take i)).1, nI (if r + i < L.length then r + i else r + i - L.length), nI i, w1) ∧ fr pS42 w w1 ∧ rSc42 w1 (scR n c ((L.drop r ++ L.take r).take i)).2) L.length (by omega) ⟨0, _, by omega, ?_, hf0, ?_⟩ ?_
    · rw [Nat.add_zero, if_pos hr]
      rfl
    · refine ⟨?_, ?_, ?_⟩ <;> simp (disch := first | omega | (simp only [fIn, fR, fC, Nat.reduceEqDiff, decide_false, decide_true, Bool.false_or, Bool.or_false, Bool.false_and, Bool.and_false, Bool.or_self, Bool.true_and, Bool.true_or, Bool.and_true, Bool.or_true, Bool.and_self]; done) | fail) only [rd_nS, rd_nSa, rd_nSj, rd_ovn, rd_ovy] <;> rfl
    rintro m s rec ⟨i, w1, him, rfl, hf, hsc⟩ ih
    have hl1 : rRd 42 43 44 w1 L := rRd_fr hl hf rfl (fun _ => rfl) (fun _ => rfl)
    have hbd := scR_bd n c ((L.drop r ++ L.take r).take i)
    have hKl : (exL ((L.drop r ++ L.take r).take i)).length ≤ 99 * 13 := by
      have := exL_len (L := (L.drop r ++ L.take r).take i) (fun p hp => (hL.2 p (hmR p (List.mem_of_mem_take hp))).2.2)
      rw [List.length_take] at this
      omega
    simp only [f54_42_b49, f54_42_j110]
    by_cases c1 : i < L.length
    · have hj : (if r + i < L.length then r + i else r + i - L.length) < L.length := by split <;> omega
      have hg := rot_get (d := ((0, 0) : Nat × Nat)) hr c1
      have htk := take_s (d := ((0, 0) : Nat × Nat)) (show i < (L.drop r ++ L.take r).length by omega)
      rw [hg] at htk
      have hnext : ∀ j, j = (if r + i < L.length then r + i else r + i - L.length) → (if r + (i + 1) < L.length then r + (i + 1) else r + (i + 1) - L.length) = if j + 1 < L.length then j + 1 else 0 := by
        intro j hj2
        by_cases d1 : r + (i + 1) < L.length
        · rw [if_pos d1, if_pos (by rw [hj2, if_pos (by omega)]; omega), hj2, if_pos (by omega)]
          omega
        · rw [if_neg d1]
          by_cases d2 : r + i < L.length
          · rw [if_pos d2] at hj2
            rw [if_neg (by omega)]
            omega
          · rw [if_neg d2] at hj2
            rw [if_pos (by omega)]
            omega
      have hnx := hnext _ rfl
      generalize (if r + i < L.length then r + i else r + i - L.length) = j at hj hg htk hnx
      obtain ⟨h9, h10⟩ := hl1.2 j hj
      have hm := hL.2 _ (getD_mem (d := ((0, 0) : Nat × Nat)) hj)
      have hcE : (cE (L.getD j (0, 0)).1 = nI c) = ((L.getD j (0, 0)).1 = c) := by
        unfold cE
        rcases hm.1 with h | h
        · rw [if_neg (by omega)]
          exact q_eq (by omega) (by omega)
        · rw [h, if_pos rfl]
          have e1 : ¬ (99 : Nat) = c := by omega
          have e2 := q_neq (a := c) (by omega)
          simp only [e1]
          exact eq_false (fun g => by rw [← e2]; exact g.symm)
      have hpush := scR_push (c := c) hn1 ((L.drop r ++ L.take r).take i) (L.getD j (0, 0)).1 (L.getD j (0, 0)).2 hm.2.1
      rw [show [((L.getD j (0, 0)).1, (L.getD j (0, 0)).2)] = [L.getD j (0, 0)] from rfl, ← htk] at hpush
      have b1 := hbd.1
      have go : ∀ (st : Nat) (w2 : mW), fr pS42 w w2 → st = (scR n c ((L.drop r ++ L.take r).take (i + 1))).1 → rSc42 w2 (scR n c ((L.drop r ++ L.take r).take (i + 1))).2 → (if j + 1 < L.length then hP (rec (nI st, nI (j + 1), nI (i + 1), w2)) Q else hP (rec (nI st, nI 0, nI (i + 1), w2)) Q) := by
        intro st w2 hf2 hst hs2
        have k9 := ih (m - 1) (nI (scR n c ((L.drop r ++ L.take r).take (i + 1))).1, nI (if r + (i + 1) < L.length then r + (i + 1) else r + (i + 1) - L.length), nI (i + 1), w2) (by omega) ⟨i + 1, w2, by omega, rfl, hf2, hs2⟩
        rw [hnx, ← hst] at k9
        by_cases d : j + 1 < L.length
        · rw [if_pos d] at k9 ⊢
          exact k9
        · rw [if_neg d] at k9 ⊢
          exact k9
      simp (disch := first | omega | (simp only [fIn, fR, fC, Nat.reduceEqDiff, decide_false, decide_true, Bool.false_or, Bool.or_false, Bool.false_and, Bool.and_false, Bool.or_self, Bool.true_and, Bool.true_or, Bool.and_true, Bool.or_true, Bool.and_self]; done) | fail) only [hP_some, hP_let, hP_gd, hP_B, hP_if, reduceIte, q_lit, nI_add, pk_mul, q_lt, q_le, q_eq, q_cl, q_g, Bool.not_eq_true', decide_eq_false_iff_not, decide_eq_true_eq, q_div, q_rm, q_sub, q_m1, Nat.zero_add, Nat.add_zero, hl1.1, c1, h9, h10, hcE]
      refine ⟨by omega, ?_⟩
      by_cases c2 : (L.getD j (0, 0)).1 = c
      · rw [if_pos c2] at hpush ⊢
        refine ⟨by omega, go _ w1 hf (by rw [hpush]) (by rw [hpush]; exact hsc)⟩
      · rw [if_neg c2] at hpush ⊢
        refine c_end42 hbd (by omega) hn hf hsc (fun w2 hf2 hs2 => ?_)
        have hl2 : rRd 42 43 44 w2 L := rRd_fr hl hf2 rfl (fun _ => rfl) (fun _ => rfl)
        obtain ⟨s4, s5, s6⟩ := hs2
        simp (disch := first | omega | (simp only [fIn, fR, fC, Nat.reduceEqDiff, decide_false, decide_true, Bool.false_or, Bool.or_false, Bool.false_and, Bool.and_false, Bool.or_self, Bool.true_and, Bool.true_or, Bool.and_true, Bool.or_true, Bool.and_self]; done) | fail) only [hP_some, hP_let, hP_gd, hP_B, hP_if, reduceIte, q_lit, nI_add, pk_mul, q_lt, q_le, q_eq, q_cl, q_g, Bool.not_eq_true', decide_eq_false_iff_not, decide_eq_true_eq, q_div, q_rm, q_sub, q_m1, Nat.zero_add, Nat.add_zero, rd_nS, rd_nSa, rd_nSj, rd_ovn, rd_ovy, (hl2.2 j hj).2, hl2.1, s4]
        refine ⟨by omega, go 0 _ (fr_nS hf2 rfl) (by rw [hpush]) ?_⟩
        rw [hpush]
        refine ⟨rd_nS, ?_, ?_⟩
        · simp (disch := first | omega | (simp only [fIn, fR, fC, Nat.reduceEqDiff, decide_false, decide_true, Bool.false_or, Bool.or_false, Bool.false_and, Bool.and_false, Bool.or_self, Bool.true_and, Bool.true_or, Bool.and_true, Bool.or_true, Bool.and_self]; done) | fail) only [rd_nS, rd_nSa, rd_nSj, rd_ovn, rd_ovy]; exact s5
        · simp (disch := first | omega | (simp only [fIn, fR, fC, Nat.reduceEqDiff, decide_false, decide_true, Bool.false_or, Bool.or_false, Bool.false_and, Bool.and_false, Bool.or_self, Bool.true_and, Bool.true_or, Bool.and_true, Bool.or_true, Bool.and_self]; done) | fail) only [rd_nS, rd_nSa, rd_nSj, rd_ovn, rd_ovy]; exact s6
    · have e : i = L.length := by omega
      simp (disch := first | omega | (simp only [fIn, fR, fC, Nat.reduceEqDiff, decide_false, decide_true, Bool.false_or, Bool.or_false, Bool.false_and, Bool.and_false, Bool.or_self, Bool.true_and, Bool.true_or, Bool.and_true, Bool.or_true, Bool.and_self]; done) | fail) only [hP_some, hP_let, hP_gd, hP_B, hP_if, reduceIte, q_lit, nI_add, pk_mul, q_lt, q_le, q_eq, q_cl, q_g, Bool.not_eq_true', decide_eq_false_iff_not, decide_eq_true_eq, q_div, q_rm, q_sub, q_m1, Nat.zero_add, Nat.add_zero, hl1.1, c1]
      refine c_end42 hbd (by omega) hn hf hsc (fun w2 hf2 hs2 => ?_)
      obtain ⟨s4, s5, s6⟩ := hs2
      obtain ⟨⟨b1, b2, b3⟩, -⟩ := scE_bd (n := n) hbd
      rw [e, List.take_of_length_le (Nat.le_of_eq hlR)] at s4 s5 s6 b1 b2 b3
      have hfull : gWs1 n (exL L) c = scEnd n (scE n (scR n c (L.drop r ++ L.take r))) := by
        have hp := exL_pos (fun p hp => (hL.2 p hp).2.1) (show 0 < L.length by omega)
        unfold gWs1
        rw [if_neg (by omega)]
        have eL : exL L = exL (L.take r) ++ exL (L.drop r) := by rw [← exL_app, List.take_append_drop]
        have eR : exL (L.drop r ++ L.take r) = exL (L.drop r) ++ exL (L.take r) := exL_app _ _
        have h5 := dMx_rot (exL (L.take r)) (exL (L.drop r)) c n (by rw [← eL]; exact hp)
        rw [← eL, ← eR] at h5
        rw [← h5]
        have hdr : L.drop r ++ L.take r = L.getD r (0, 0) :: (L.drop (r + 1) ++ L.take r) := by
          rw [List.drop_eq_getElem_cons hr, List.getD_eq_getElem?_getD, List.getElem?_eq_getElem hr]
          rfl
        rw [hdr]
        exact scR_worst (L := L.drop (r + 1) ++ L.take r) (d := (L.getD r (0, 0)).1) (s := (L.getD r (0, 0)).2) hn1 hrc (hL.2 _ (getD_mem hr)).2.1
      have h9 := hq w2 hf2
      rw [hfull] at h9
      unfold scEnd at h9
      have hK2 : (exL (L.drop r ++ L.take r)).length ≤ 99 * 13 := by
        have := exL_len (L := L.drop r ++ L.take r) (fun p hp => (hL.2 p (hmR p hp)).2.2)
        omega
      cases hfg : (scE n (scR n c (L.drop r ++ L.take r))).2.2.1 with
      | none =>
        rw [hfg] at s5 h9
        have s5 : wI w2 42 5 = -nI 1 := s5
        simp only [s5, reduceIte]
        exact h9
      | some f =>
        rw [hfg] at s5 h9
        have s5 : wI w2 42 5 = nI f := s5
        have := b3 f hfg
        simp (disch := first | omega | (simp only [fIn, fR, fC, Nat.reduceEqDiff, decide_false, decide_true, Bool.false_or, Bool.or_false, Bool.false_and, Bool.and_false, Bool.or_self, Bool.true_and, Bool.true_or, Bool.and_true, Bool.or_true, Bool.and_self]; done) | fail) only [s5, s4, s6, q_neq, reduceIte, q_lit, nI_add, pk_mul, q_lt, q_le, q_eq, q_cl, q_g, Bool.not_eq_true', decide_eq_false_iff_not, decide_eq_true_eq, q_div, q_rm, q_sub, q_m1, Nat.zero_add, Nat.add_zero, q_max]
        exact h9
end CR42

section CR46
variable {w : mW}
theorem c_empty46 {Q : Unit → mW → Prop} (hq : ∀ w', fr ([47, 48], [(46, 2)]) w w' → rRd 46 47 48 w' [] → Q () w') : hP (f52_46 w) Q := by
  unfold f52_46
  simp only [hP_let, hP_some]
  exact hq _ (fr_nS fr_refl rfl) ⟨rd_nS, fun i hi => absurd hi (Nat.not_lt_zero _)⟩
theorem c_add46 {Q : Unit → mW → Prop} {L : List (Nat × Nat)} {c s : Nat} (hl : rRd 46 47 48 w L) (hL : L.length < 13) (hs : s ≤ 99) (hq : ∀ w', fr ([47, 48], [(46, 2)]) w w' → rRd 46 47 48 w' (L ++ (if s = 0 then [] else [(c, s)])) → Q () w') : hP (f53_46 (cE c) (nI s) w) Q := by
  unfold f53_46
  simp (disch := first | omega | (simp only [fIn, fR, fC, Nat.reduceEqDiff, decide_false, decide_true, Bool.false_or, Bool.or_false, Bool.false_and, Bool.and_false, Bool.or_self, Bool.true_and, Bool.true_or, Bool.and_true, Bool.or_true, Bool.and_self]; done) | fail) only [hP_some, hP_let, hP_gd, hP_B, hP_if, reduceIte, q_lit, nI_add, pk_mul, q_lt, q_le, q_eq, q_cl, q_g, Bool.not_eq_true', decide_eq_false_iff_not, decide_eq_true_eq, q_div, q_rm, q_sub, q_m1, Nat.zero_add, Nat.add_zero, hl.1]
  by_cases c0 : s = 0
  · subst c0
    simp only [Nat.lt_irrefl, reduceIte, List.append_nil] at hq ⊢
    exact hq w fr_refl hl
  · simp (disch := first | omega | (simp only [fIn, fR, fC, Nat.reduceEqDiff, decide_false, decide_true, Bool.false_or, Bool.or_false, Bool.false_and, Bool.and_false, Bool.or_self, Bool.true_and, Bool.true_or, Bool.and_true, Bool.or_true, Bool.and_self]; done) | fail) only [show 0 < s by omega, hL, c0, reduceIte, rd_nS, rd_nSa, rd_nSj, rd_ovn, rd_ovy, q_lit, nI_add, pk_mul, q_lt, q_le, q_eq, q_cl, q_g, Bool.not_eq_true', decide_eq_false_iff_not, decide_eq_true_eq, q_div, q_rm, q_sub, q_m1, Nat.zero_add, Nat.add_zero, hl.1, true_and] at hq ⊢
    refine hq _ (fr_nS (fr_nS (fr_nS fr_refl rfl) rfl) rfl) ⟨?_, fun i hi => ?_⟩
    · rw [rd_nS, List.length_append]
      rfl
    · rw [List.length_append, List.length_singleton] at hi
      simp only [List.getD_eq_getElem?_getD]
      by_cases e : i = L.length
      · subst e
        rw [List.getElem?_append_right (Nat.le_refl _), Nat.sub_self]
        simp (disch := first | omega | (simp only [fIn, fR, fC, Nat.reduceEqDiff, decide_false, decide_true, Bool.false_or, Bool.or_false, Bool.false_and, Bool.and_false, Bool.or_self, Bool.true_and, Bool.true_or, Bool.and_true, Bool.or_true, Bool.and_self]; done) | fail) only [rd_nS, rd_nSa, rd_nSj, rd_ovn, rd_ovy]
        exact ⟨rfl, rfl⟩
      · have hi2 : i < L.length := by omega
        rw [List.getElem?_append_left hi2]
        have h9 := hl.2 i hi2
        simp only [List.getD_eq_getElem?_getD] at h9
        simp (disch := first | omega | (simp only [fIn, fR, fC, Nat.reduceEqDiff, decide_false, decide_true, Bool.false_or, Bool.or_false, Bool.false_and, Bool.and_false, Bool.or_self, Bool.true_and, Bool.true_or, Bool.and_true, Bool.or_true, Bool.and_self]; done) | fail) only [rd_nS, rd_nSa, rd_nSj, rd_ovn, rd_ovy]
        exact h9
theorem c_else46 {Q : Int32 → mW → Prop} {L : List (Nat × Nat)} {c : Nat} (hL : lkOk L) (hl : rRd 46 47 48 w L) (hc : c < 40) (h1 : (∀ p ∈ L, p.1 = c) → Q (-nI 1) w) (h2 : ∀ r, r < L.length → ¬ (L.getD r (0, 0)).1 = c → Q (nI r) w) : hP (f55_46 (nI c) w) Q := by
  have hlen := hL.1
  unfold f55_46
  refine hP_loopF (fun n s => ∃ k, k + n = L.length ∧ s = (nI k, w) ∧ ∀ i, i < k → (L.getD i (0, 0)).1 = c) L.length (by omega) ⟨0, by omega, rfl, fun i hi => absurd hi (Nat.not_lt_zero _)⟩ ?_
  rintro n s rec ⟨k, hk, rfl, hall⟩ ih
  simp only [f55_46_b2]
  by_cases c1 : k < L.length
  · have h9 := (hl.2 k c1).1
    have hm := (hL.2 _ (getD_mem (d := (0, 0)) c1)).1
    have hcE : (cE (L.getD k (0, 0)).1 = nI c) = ((L.getD k (0, 0)).1 = c) := by
      unfold cE
      rcases hm with h | h
      · rw [if_neg (by omega)]
        exact q_eq (by omega) (by omega)
      · rw [h, if_pos rfl]
        have e1 : ¬ (99 : Nat) = c := by omega
        have e2 := q_neq (a := c) (by omega)
        simp only [e1]
        exact eq_false (fun g => by rw [← e2]; exact g.symm)
    simp (disch := first | omega | (simp only [fIn, fR, fC, Nat.reduceEqDiff, decide_false, decide_true, Bool.false_or, Bool.or_false, Bool.false_and, Bool.and_false, Bool.or_self, Bool.true_and, Bool.true_or, Bool.and_true, Bool.or_true, Bool.and_self]; done) | fail) only [hP_some, hP_let, hP_gd, hP_B, hP_if, reduceIte, q_lit, nI_add, pk_mul, q_lt, q_le, q_eq, q_cl, q_g, Bool.not_eq_true', decide_eq_false_iff_not, decide_eq_true_eq, q_div, q_rm, q_sub, q_m1, Nat.zero_add, Nat.add_zero, hl.1, c1, h9, hcE]
    refine ⟨by omega, ?_⟩
    by_cases c2 : (L.getD k (0, 0)).1 = c
    · rw [if_pos c2]
      refine ih (n - 1) _ (by omega) ⟨k + 1, by omega, rfl, fun i hi => ?_⟩
      by_cases e : i = k
      · rw [e]; exact c2
      · exact hall i (by omega)
    · rw [if_neg c2]
      exact h2 k c1 c2
  · simp (disch := first | omega | (simp only [fIn, fR, fC, Nat.reduceEqDiff, decide_false, decide_true, Bool.false_or, Bool.or_false, Bool.false_and, Bool.and_false, Bool.or_self, Bool.true_and, Bool.true_or, Bool.and_true, Bool.or_true, Bool.and_self]; done) | fail) only [hP_some, hP_let, hP_gd, hP_B, hP_if, reduceIte, q_lit, nI_add, pk_mul, q_lt, q_le, q_eq, q_cl, q_g, Bool.not_eq_true', decide_eq_false_iff_not, decide_eq_true_eq, q_div, q_rm, q_sub, q_m1, Nat.zero_add, Nat.add_zero, hl.1, c1]
    refine h1 (fun p hp => ?_)
    obtain ⟨i, hi, rfl⟩ := List.getElem_of_mem hp
    have := hall i (by omega)
    rw [List.getD_eq_getElem?_getD, List.getElem?_eq_getElem hi] at this
    exact this
/-- the scan's numbers stand in the round -/
def rSc46 (w : mW) (y : Nat × Option Nat × Nat) : Prop := wI w 46 4 = nI y.1 ∧ wI w 46 5 = fgE y.2.1 ∧ wI w 46 6 = nI y.2.2
abbrev pS46 : fP := ([], [(46, 4), (46, 5), (46, 6)])
theorem c_end46 {Q : Unit → mW → Prop} {w1 : mW} {x : scT} {n K : Nat} (hb : scBd K x) (hK : K < 2000) (hn : n ≤ 30) (hf : fr pS46 w w1) (hs : rSc46 w1 x.2) (hq : ∀ w', fr pS46 w w' → rSc46 w' (scE n x).2 → Q () w') : hP (f56_46 (nI x.1) (nI n) w1) Q := by
  obtain ⟨st, gp, fg, lg⟩ := x
  obtain ⟨b1, b2, b3⟩ := hb
  obtain ⟨s4, s5, s6⟩ := hs
  dsimp only at b1 b2 b3 s4 s5 s6 ⊢
  unfold scE at hq
  dsimp only at hq
  unfold f56_46
  simp (disch := first | omega | (simp only [fIn, fR, fC, Nat.reduceEqDiff, decide_false, decide_true, Bool.false_or, Bool.or_false, Bool.false_and, Bool.and_false, Bool.or_self, Bool.true_and, Bool.true_or, Bool.and_true, Bool.or_true, Bool.and_self]; done) | fail) only [hP_some, hP_let, hP_gd, hP_B, hP_if, reduceIte, q_lit, nI_add, pk_mul, q_lt, q_le, q_eq, q_cl, q_g, Bool.not_eq_true', decide_eq_false_iff_not, decide_eq_true_eq, q_div, q_rm, q_sub, q_m1, Nat.zero_add, Nat.add_zero, rd_nS, rd_nSa, rd_nSj, rd_ovn, rd_ovy, s4, s6]
  by_cases c : st < n
  · rw [if_pos c] at hq ⊢
    refine hq _ (fr_nS hf rfl) ⟨rd_nS, ?_, ?_⟩
    · simp (disch := first | omega | (simp only [fIn, fR, fC, Nat.reduceEqDiff, decide_false, decide_true, Bool.false_or, Bool.or_false, Bool.false_and, Bool.and_false, Bool.or_self, Bool.true_and, Bool.true_or, Bool.and_true, Bool.or_true, Bool.and_self]; done) | fail) only [rd_nS, rd_nSa, rd_nSj, rd_ovn, rd_ovy]; exact s5
    · simp (disch := first | omega | (simp only [fIn, fR, fC, Nat.reduceEqDiff, decide_false, decide_true, Bool.false_or, Bool.or_false, Bool.false_and, Bool.and_false, Bool.or_self, Bool.true_and, Bool.true_or, Bool.and_true, Bool.or_true, Bool.and_self]; done) | fail) only [rd_nS, rd_nSa, rd_nSj, rd_ovn, rd_ovy]; exact s6
  · rw [if_neg c] at hq ⊢
    cases fg with
    | none =>
      have s5 : wI w1 46 5 = -nI 1 := s5
      simp only [s5, reduceIte]
      refine hq _ (fr_nS (fr_nS hf rfl) rfl) ⟨?_, ?_, ?_⟩
      · simp (disch := first | omega | (simp only [fIn, fR, fC, Nat.reduceEqDiff, decide_false, decide_true, Bool.false_or, Bool.or_false, Bool.false_and, Bool.and_false, Bool.or_self, Bool.true_and, Bool.true_or, Bool.and_true, Bool.or_true, Bool.and_self]; done) | fail) only [rd_nS, rd_nSa, rd_nSj, rd_ovn, rd_ovy]
      · simp (disch := first | omega | (simp only [fIn, fR, fC, Nat.reduceEqDiff, decide_false, decide_true, Bool.false_or, Bool.or_false, Bool.false_and, Bool.and_false, Bool.or_self, Bool.true_and, Bool.true_or, Bool.and_true, Bool.or_true, Bool.and_self]; done) | fail) only [rd_nS, rd_nSa, rd_nSj, rd_ovn, rd_ovy]; rfl
      · simp (disch := first | omega | (simp only [fIn, fR, fC, Nat.reduceEqDiff, decide_false, decide_true, Bool.false_or, Bool.or_false, Bool.false_and, Bool.and_false, Bool.or_self, Bool.true_and, Bool.true_or, Bool.and_true, Bool.or_true, Bool.and_self]; done) | fail) only [rd_nS, rd_nSa, rd_nSj, rd_ovn, rd_ovy]; exact s6
    | some f =>
      have s5 : wI w1 46 5 = nI f := s5
      have hf9 := b3 f rfl
      simp (disch := first | omega | (simp only [fIn, fR, fC, Nat.reduceEqDiff, decide_false, decide_true, Bool.false_or, Bool.or_false, Bool.false_and, Bool.and_false, Bool.or_self, Bool.true_and, Bool.true_or, Bool.and_true, Bool.or_true, Bool.and_self]; done) | fail) only [s5, q_neq, reduceIte, q_max]
      refine hq _ (fr_nS (fr_nS hf rfl) rfl) ⟨?_, ?_, ?_⟩
      · simp (disch := first | omega | (simp only [fIn, fR, fC, Nat.reduceEqDiff, decide_false, decide_true, Bool.false_or, Bool.or_false, Bool.false_and, Bool.and_false, Bool.or_self, Bool.true_and, Bool.true_or, Bool.and_true, Bool.or_true, Bool.and_self]; done) | fail) only [rd_nS, rd_nSa, rd_nSj, rd_ovn, rd_ovy]
      · simp (disch := first | omega | (simp only [fIn, fR, fC, Nat.reduceEqDiff, decide_false, decide_true, Bool.false_or, Bool.or_false, Bool.false_and, Bool.and_false, Bool.or_self, Bool.true_and, Bool.true_or, Bool.and_true, Bool.or_true, Bool.and_self]; done) | fail) only [rd_nS, rd_nSa, rd_nSj, rd_ovn, rd_ovy]; exact s5
      · simp (disch := first | omega | (simp only [fIn, fR, fC, Nat.reduceEqDiff, decide_false, decide_true, Bool.false_or, Bool.or_false, Bool.false_and, Bool.and_false, Bool.or_self, Bool.true_and, Bool.true_or, Bool.and_true, Bool.or_true, Bool.and_self]; done) | fail) only [rd_nS, rd_nSa, rd_nSj, rd_ovn, rd_ovy]
theorem c_longest46 {Q : Int32 → mW → Prop} {L : List (Nat × Nat)} {c n : Nat} (hL : lkOk L) (hl : rRd 46 47 48 w L) (hc : c < 40) (hn1 : 1 ≤ n) (hn : n ≤ 30) (hq : ∀ w', fr pS46 w w' → Q (eC (gWs1 n (exL L) c)) w') : hP (f54_46 (nI c) (nI n) w) Q := by
  have hlen := hL.1
  have hexl := exL_len (fun p hp => (hL.2 p hp).2.2)
  unfold f54_46
  simp only [hP_B]
  refine c_else46 hL hl hc (fun hall => ?_) (fun r hr hrc => ?_)
  · simp (disch := first | omega | (simp only [fIn, fR, fC, Nat.reduceEqDiff, decide_false, decide_true, Bool.false_or, Bool.or_false, Bool.false_and, Bool.and_false, Bool.or_self, Bool.true_and, Bool.true_or, Bool.and_true, Bool.or_true, Bool.and_self]; done) | fail) only [hP_some, hP_let, hP_gd, hP_B, hP_if, reduceIte, q_lit, nI_add, pk_mul, q_lt, q_le, q_eq, q_cl, q_g, Bool.not_eq_true', decide_eq_false_iff_not, decide_eq_true_eq, q_div, q_rm, q_sub, q_m1, Nat.zero_add, Nat.add_zero, hl.1]
    have h9 := hq w fr_refl
    unfold gWs1 at h9
    by_cases c0 : L.length = 0
    · have e0 : L = [] := List.length_eq_zero_iff.mp c0
      subst e0
      rw [if_pos (show (exL []).length = 0 from rfl)] at h9
      rw [if_pos c0]
      exact h9
    · rw [if_neg c0]
      have hp := exL_pos (fun p hp => (hL.2 p hp).2.1) (show 0 < L.length by omega)
      rw [if_neg (by omega), scR_all (exL_all hall) hp hn1] at h9
      exact h9
  · simp (disch := first | omega | (simp only [fIn, fR, fC, Nat.reduceEqDiff, decide_false, decide_true, Bool.false_or, Bool.or_false, Bool.false_and, Bool.and_false, Bool.or_self, Bool.true_and, Bool.true_or, Bool.and_true, Bool.or_true, Bool.and_self]; done) | fail) only [hP_some, hP_let, hP_gd, hP_B, hP_if, reduceIte, q_lit, nI_add, pk_mul, q_lt, q_le, q_eq, q_cl, q_g, Bool.not_eq_true', decide_eq_false_iff_not, decide_eq_true_eq, q_div, q_rm, q_sub, q_m1, Nat.zero_add, Nat.add_zero, q_neq]
    have hlR : (L.drop r ++ L.take r).length = L.length := by rw [List.length_append, List.length_drop, List.length_take]; omega
    have hmR : ∀ p ∈ L.drop r ++ L.take r, p ∈ L := by
      intro p hp
      rcases List.mem_append.mp hp with h | h
      · exact List.mem_of_mem_drop h
      · exact List.mem_of_mem_take h
    have hf0 : fr pS46 w (nS (nS (nS w 46 4 (nI 0)) 46 5 (-nI 1)) 46 6 (nI 0)) := fr_nS (fr_nS (fr_nS fr_refl rfl) rfl) rfl
    refine hP_loopF (fun m s => ∃ i w1, i + m = L.length ∧ s = (nI (scR n c ((L.drop r ++ L.take r).take i)).1, nI (if r + i < L.length then r + i else r + i - L.length), nI i, w1) ∧ fr pS46 w w1 ∧ rSc46 w1 (scR n c ((L.drop r ++ L.take r).take i)).2) L.length (by omega) ⟨0, _, by omega, ?_, hf0, ?_⟩ ?_
    · rw [Nat.add_zero, if_pos hr]
      rfl
    · refine ⟨?_, ?_, ?_⟩ <;> simp (disch := first | omega | (simp only [fIn, fR, fC, Nat.reduceEqDiff, decide_false, decide_true, Bool.false_or, Bool.or_false, Bool.false_and, Bool.and_false, Bool.or_self, Bool.true_and, Bool.true_or, Bool.and_true, Bool.or_true, Bool.and_self]; done) | fail) only [rd_nS, rd_nSa, rd_nSj, rd_ovn, rd_ovy] <;> rfl
    rintro m s rec ⟨i, w1, him, rfl, hf, hsc⟩ ih
    have hl1 : rRd 46 47 48 w1 L := rRd_fr hl hf rfl (fun _ => rfl) (fun _ => rfl)
    have hbd := scR_bd n c ((L.drop r ++ L.take r).take i)
    have hKl : (exL ((L.drop r ++ L.take r).take i)).length ≤ 99 * 13 := by
      have := exL_len (L := (L.drop r ++ L.take r).take i) (fun p hp => (hL.2 p (hmR p (List.mem_of_mem_take hp))).2.2)
      rw [List.length_take] at this
      omega
    simp only [f54_46_b49, f54_46_j110]
    by_cases c1 : i < L.length
    · have hj : (if r + i < L.length then r + i else r + i - L.length) < L.length := by split <;> omega
      have hg := rot_get (d := ((0, 0) : Nat × Nat)) hr c1
      have htk := take_s (d := ((0, 0) : Nat × Nat)) (show i < (L.drop r ++ L.take r).length by omega)
      rw [hg] at htk
      have hnext : ∀ j, j = (if r + i < L.length then r + i else r + i - L.length) → (if r + (i + 1) < L.length then r + (i + 1) else r + (i + 1) - L.length) = if j + 1 < L.length then j + 1 else 0 := by
        intro j hj2
        by_cases d1 : r + (i + 1) < L.length
        · rw [if_pos d1, if_pos (by rw [hj2, if_pos (by omega)]; omega), hj2, if_pos (by omega)]
          omega
        · rw [if_neg d1]
          by_cases d2 : r + i < L.length
          · rw [if_pos d2] at hj2
            rw [if_neg (by omega)]
            omega
          · rw [if_neg d2] at hj2
            rw [if_pos (by omega)]
            omega
      have hnx := hnext _ rfl
      generalize (if r + i < L.length then r + i else r + i - L.length) = j at hj hg htk hnx
      obtain ⟨h9, h10⟩ := hl1.2 j hj
      have hm := hL.2 _ (getD_mem (d := ((0, 0) : Nat × Nat)) hj)
      have hcE : (cE (L.getD j (0, 0)).1 = nI c) = ((L.getD j (0, 0)).1 = c) := by
        unfold cE
        rcases hm.1 with h | h
        · rw [if_neg (by omega)]
          exact q_eq (by omega) (by omega)
        · rw [h, if_pos rfl]
          have e1 : ¬ (99 : Nat) = c := by omega
          have e2 := q_neq (a := c) (by omega)
          simp only [e1]
          exact eq_false (fun g => by rw [← e2]; exact g.symm)
      have hpush := scR_push (c := c) hn1 ((L.drop r ++ L.take r).take i) (L.getD j (0, 0)).1 (L.getD j (0, 0)).2 hm.2.1
      rw [show [((L.getD j (0, 0)).1, (L.getD j (0, 0)).2)] = [L.getD j (0, 0)] from rfl, ← htk] at hpush
      have b1 := hbd.1
      have go : ∀ (st : Nat) (w2 : mW), fr pS46 w w2 → st = (scR n c ((L.drop r ++ L.take r).take (i + 1))).1 → rSc46 w2 (scR n c ((L.drop r ++ L.take r).take (i + 1))).2 → (if j + 1 < L.length then hP (rec (nI st, nI (j + 1), nI (i + 1), w2)) Q else hP (rec (nI st, nI 0, nI (i + 1), w2)) Q) := by
        intro st w2 hf2 hst hs2
        have k9 := ih (m - 1) (nI (scR n c ((L.drop r ++ L.take r).take (i + 1))).1, nI (if r + (i + 1) < L.length then r + (i + 1) else r + (i + 1) - L.length), nI (i + 1), w2) (by omega) ⟨i + 1, w2, by omega, rfl, hf2, hs2⟩
        rw [hnx, ← hst] at k9
        by_cases d : j + 1 < L.length
        · rw [if_pos d] at k9 ⊢
          exact k9
        · rw [if_neg d] at k9 ⊢
          exact k9
      simp (disch := first | omega | (simp only [fIn, fR, fC, Nat.reduceEqDiff, decide_false, decide_true, Bool.false_or, Bool.or_false, Bool.false_and, Bool.and_false, Bool.or_self, Bool.true_and, Bool.true_or, Bool.and_true, Bool.or_true, Bool.and_self]; done) | fail) only [hP_some, hP_let, hP_gd, hP_B, hP_if, reduceIte, q_lit, nI_add, pk_mul, q_lt, q_le, q_eq, q_cl, q_g, Bool.not_eq_true', decide_eq_false_iff_not, decide_eq_true_eq, q_div, q_rm, q_sub, q_m1, Nat.zero_add, Nat.add_zero, hl1.1, c1, h9, h10, hcE]
      refine ⟨by omega, ?_⟩
      by_cases c2 : (L.getD j (0, 0)).1 = c
      · rw [if_pos c2] at hpush ⊢
        refine ⟨by omega, go _ w1 hf (by rw [hpush]) (by rw [hpush]; exact hsc)⟩
      · rw [if_neg c2] at hpush ⊢
        refine c_end46 hbd (by omega) hn hf hsc (fun w2 hf2 hs2 => ?_)
        have hl2 : rRd 46 47 48 w2 L := rRd_fr hl hf2 rfl (fun _ => rfl) (fun _ => rfl)
        obtain ⟨s4, s5, s6⟩ := hs2
        simp (disch := first | omega | (simp only [fIn, fR, fC, Nat.reduceEqDiff, decide_false, decide_true, Bool.false_or, Bool.or_false, Bool.false_and, Bool.and_false, Bool.or_self, Bool.true_and, Bool.true_or, Bool.and_true, Bool.or_true, Bool.and_self]; done) | fail) only [hP_some, hP_let, hP_gd, hP_B, hP_if, reduceIte, q_lit, nI_add, pk_mul, q_lt, q_le, q_eq, q_cl, q_g, Bool.not_eq_true', decide_eq_false_iff_not, decide_eq_true_eq, q_div, q_rm, q_sub, q_m1, Nat.zero_add, Nat.add_zero, rd_nS, rd_nSa, rd_nSj, rd_ovn, rd_ovy, (hl2.2 j hj).2, hl2.1, s4]
        refine ⟨by omega, go 0 _ (fr_nS hf2 rfl) (by rw [hpush]) ?_⟩
        rw [hpush]
        refine ⟨rd_nS, ?_, ?_⟩
        · simp (disch := first | omega | (simp only [fIn, fR, fC, Nat.reduceEqDiff, decide_false, decide_true, Bool.false_or, Bool.or_false, Bool.false_and, Bool.and_false, Bool.or_self, Bool.true_and, Bool.true_or, Bool.and_true, Bool.or_true, Bool.and_self]; done) | fail) only [rd_nS, rd_nSa, rd_nSj, rd_ovn, rd_ovy]; exact s5
        · simp (disch := first | omega | (simp only [fIn, fR, fC, Nat.reduceEqDiff, decide_false, decide_true, Bool.false_or, Bool.or_false, Bool.false_and, Bool.and_false, Bool.or_self, Bool.true_and, Bool.true_or, Bool.and_true, Bool.or_true, Bool.and_self]; done) | fail) only [rd_nS, rd_nSa, rd_nSj, rd_ovn, rd_ovy]; exact s6
    · have e : i = L.length := by omega
      simp (disch := first | omega | (simp only [fIn, fR, fC, Nat.reduceEqDiff, decide_false, decide_true, Bool.false_or, Bool.or_false, Bool.false_and, Bool.and_false, Bool.or_self, Bool.true_and, Bool.true_or, Bool.and_true, Bool.or_true, Bool.and_self]; done) | fail) only [hP_some, hP_let, hP_gd, hP_B, hP_if, reduceIte, q_lit, nI_add, pk_mul, q_lt, q_le, q_eq, q_cl, q_g, Bool.not_eq_true', decide_eq_false_iff_not, decide_eq_true_eq, q_div, q_rm, q_sub, q_m1, Nat.zero_add, Nat.add_zero, hl1.1, c1]
      refine c_end46 hbd (by omega) hn hf hsc (fun w2 hf2 hs2 => ?_)
      obtain ⟨s4, s5, s6⟩ := hs2
      obtain ⟨⟨b1, b2, b3⟩, -⟩ := scE_bd (n := n) hbd
      rw [e, List.take_of_length_le (Nat.le_of_eq hlR)] at s4 s5 s6 b1 b2 b3
      have hfull : gWs1 n (exL L) c = scEnd n (scE n (scR n c (L.drop r ++ L.take r))) := by
        have hp := exL_pos (fun p hp => (hL.2 p hp).2.1) (show 0 < L.length by omega)
        unfold gWs1
        rw [if_neg (by omega)]
        have eL : exL L = exL (L.take r) ++ exL (L.drop r) := by rw [← exL_app, List.take_append_drop]
        have eR : exL (L.drop r ++ L.take r) = exL (L.drop r) ++ exL (L.take r) := exL_app _ _
        have h5 := dMx_rot (exL (L.take r)) (exL (L.drop r)) c n (by rw [← eL]; exact hp)
        rw [← eL, ← eR] at h5
        rw [← h5]
        have hdr : L.drop r ++ L.take r = L.getD r (0, 0) :: (L.drop (r + 1) ++ L.take r) := by
          rw [List.drop_eq_getElem_cons hr, List.getD_eq_getElem?_getD, List.getElem?_eq_getElem hr]
          rfl
        rw [hdr]
        exact scR_worst (L := L.drop (r + 1) ++ L.take r) (d := (L.getD r (0, 0)).1) (s := (L.getD r (0, 0)).2) hn1 hrc (hL.2 _ (getD_mem hr)).2.1
      have h9 := hq w2 hf2
      rw [hfull] at h9
      unfold scEnd at h9
      have hK2 : (exL (L.drop r ++ L.take r)).length ≤ 99 * 13 := by
        have := exL_len (L := L.drop r ++ L.take r) (fun p hp => (hL.2 p (hmR p hp)).2.2)
        omega
      cases hfg : (scE n (scR n c (L.drop r ++ L.take r))).2.2.1 with
      | none =>
        rw [hfg] at s5 h9
        have s5 : wI w2 46 5 = -nI 1 := s5
        simp only [s5, reduceIte]
        exact h9
      | some f =>
        rw [hfg] at s5 h9
        have s5 : wI w2 46 5 = nI f := s5
        have := b3 f hfg
        simp (disch := first | omega | (simp only [fIn, fR, fC, Nat.reduceEqDiff, decide_false, decide_true, Bool.false_or, Bool.or_false, Bool.false_and, Bool.and_false, Bool.or_self, Bool.true_and, Bool.true_or, Bool.and_true, Bool.or_true, Bool.and_self]; done) | fail) only [s5, s4, s6, q_neq, reduceIte, q_lit, nI_add, pk_mul, q_lt, q_le, q_eq, q_cl, q_g, Bool.not_eq_true', decide_eq_false_iff_not, decide_eq_true_eq, q_div, q_rm, q_sub, q_m1, Nat.zero_add, Nat.add_zero, q_max]
        exact h9
end CR46

