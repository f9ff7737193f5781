/-! ===== THE CLASS: delays of single seconds ===== -/
/-- going back from N, j seconds are left -/
def bkS (b : Nat → Bool) (N : Nat) : Nat → Nat
  | 0 => 0
  | m + 1 => if b (N - 1 - m) = true then bkS b N m + 1 else 0
def bkD (b : Nat → Bool) (n N : Nat) : Nat → Option Nat
  | 0 => none
  | m + 1 => if n ≤ bkS b N (m + 1) then some n else (bkD b n N m).map (· + 1)
theorem bkS_iff (b : Nat → Bool) (N : Nat) : ∀ (m k : Nat), m ≤ N → (k ≤ bkS b N m ↔ k ≤ m ∧ dGd b k (N - m))
  | 0, k, _ => by
    show k ≤ 0 ↔ _
    constructor
    · intro h
      have : k = 0 := by omega
      subst this
      exact ⟨Nat.le_refl _, fun i hi => absurd hi (Nat.not_lt_zero _)⟩
    · intro h; exact h.1
  | m + 1, 0, _ => ⟨fun _ => ⟨Nat.zero_le _, fun i hi => absurd hi (Nat.not_lt_zero _)⟩, fun _ => Nat.zero_le _⟩
  | m + 1, k + 1, h => by
    have ih := bkS_iff b N m k (by omega)
    have e : N - 1 - m = N - (m + 1) := by omega
    show k + 1 ≤ (if b (N - 1 - m) = true then bkS b N m + 1 else 0) ↔ _
    rw [e]
    cases hb : b (N - (m + 1)) with
    | true =>
      rw [if_pos rfl]
      constructor
      · intro h1
        have h2 := ih.mp (by omega)
        refine ⟨by omega, fun i hi => ?_⟩
        by_cases e2 : i = 0
        · subst e2
          exact hb
        · have := h2.2 (i - 1) (by omega)
          rw [show N - m + (i - 1) = N - (m + 1) + i by omega] at this
          exact this
      · intro h1
        have := ih.mpr ⟨by omega, fun i hi => by
          have := h1.2 (i + 1) (by omega)
          rw [show N - (m + 1) + (i + 1) = N - m + i by omega] at this
          exact this⟩
        omega
    | false =>
      rw [if_neg (by decide)]
      constructor
      · intro h1; omega
      · intro h1
        have := h1.2 0 (by omega)
        rw [Nat.add_zero, hb] at this
        cases this
theorem bkD_eq {b : Nat → Bool} {n N : Nat} (hn : 1 ≤ n) : ∀ m, m ≤ N → bkD b n N m = (dF b n (N - m) (m + 1 - n)).map (· + n)
  | 0, _ => by
    rw [show 0 + 1 - n = 0 by omega]
    unfold dF
    rfl
  | m + 1, h => by
    have ih := bkD_eq (b := b) (N := N) hn m (by omega)
    have hi := bkS_iff b N (m + 1) n h
    show (if n ≤ bkS b N (m + 1) then some n else (bkD b n N m).map (· + 1)) = _
    by_cases c : n ≤ m + 1
    · rw [show m + 1 + 1 - n = (m + 1 - n) + 1 by omega]
      by_cases c2 : dGd b n (N - (m + 1))
      · rw [if_pos (hi.mpr ⟨c, c2⟩), dF_y c2]
        simp
      · rw [if_neg (fun g => c2 (hi.mp g).2), dF_n c2, ih, show N - (m + 1) + 1 = N - m by omega]
        cases dF b n (N - m) (m + 1 - n) with
        | none => rfl
        | some k =>
          simp only [Option.map_some]
          congr 1
          omega
    · rw [if_neg (fun g => by have := (hi.mp g).1; omega), ih, show m + 1 - n = 0 by omega, show m + 1 + 1 - n = 0 by omega]
      unfold dF
      rfl
theorem bkD_dl {b : Nat → Bool} {n T s : Nat} (hn : 1 ≤ n) (hn2 : n ≤ 30) (hp : dPer b T) (hs : s < T) : bkD b n (2 * T + 31) (2 * T + 31 - s) = dl b n T s := by
  rw [bkD_eq hn _ (by omega), show 2 * T + 31 - (2 * T + 31 - s) = s by omega]
  unfold dl
  rw [dF_far hp (by omega) (by omega)]
theorem bkD_le {b : Nat → Bool} {n N : Nat} : ∀ m d, bkD b n N m = some d → d ≤ n + m
  | 0, d, h => by cases h
  | m + 1, d, h => by
    have h2 : (if n ≤ bkS b N (m + 1) then some n else (bkD b n N m).map (· + 1)) = some d := h
    by_cases c : n ≤ bkS b N (m + 1)
    · rw [if_pos c] at h2
      cases h2
      omega
    · rw [if_neg c] at h2
      cases e : bkD b n N m with
      | none => rw [e] at h2; cases h2
      | some k =>
        rw [e] at h2
        cases h2
        have := bkD_le m k e
        show k + 1 ≤ _
        omega
theorem bkS_le (b : Nat → Bool) (N : Nat) : ∀ m, bkS b N m ≤ m
  | 0 => Nat.le_refl _
  | m + 1 => by
    have := bkS_le b N m
    show (if b (N - 1 - m) = true then bkS b N m + 1 else 0) ≤ m + 1
    split <;> omega
theorem getD_snoc_e {α : Type} {l : List α} {x d : α} : (l ++ [x]).getD l.length d = x := by
  rw [List.getD_eq_getElem?_getD, List.getElem?_append_right (Nat.le_refl _), Nat.sub_self]
  rfl
theorem getD_snoc_l {α : Type} {l : List α} {x d : α} {i : Nat} (h : i < l.length) : (l ++ [x]).getD i d = l.getD i d := by
  rw [List.getD_eq_getElem?_getD, List.getElem?_append_left h, ← List.getD_eq_getElem?_getD]
def rCs (w : mW) (E : List Nat) : Prop := ∀ i, i < E.length → wI w 45 i = cE (E.getD i 0)
section C7
variable {g : gS} {r : gR} {w : mW}
theorem c_spread {Q : Int32 → mW → Prop} {L : List (Nat × Nat)} (hL : lkOk L) (hT : (exL L).length ≤ 108) (hl : rRd 42 43 44 w L) (hq : ∀ w', fr ([45], []) w w' → rCs w' (exL L) → Q (nI (exL L).length) w') : hP (f58_42 w) Q := by
  have hlen := hL.1
  have hpre : ∀ k, (exL (L.take k)).length ≤ (exL L).length := by
    intro k
    have := exL_app (L.take k) (L.drop k)
    rw [List.take_append_drop] at this
    rw [this, List.length_append]
    omega
  unfold f58_42
  refine hP_loopF (fun n s => ∃ k w1, k + n = L.length ∧ s = (nI (exL (L.take k)).length, nI k, w1) ∧ fr ([45], []) w w1 ∧ rCs w1 (exL (L.take k))) L.length (by omega) ⟨0, w, by omega, rfl, fr_refl, fun i hi => absurd hi (Nat.not_lt_zero _)⟩ ?_
  rintro n s rec ⟨k, w1, hkn, rfl, hf, hc⟩ ih
  have hl1 := rRd_fr hl hf rfl (fun _ => rfl) (fun _ => rfl)
  simp only [f58_42_b4]
  have hpk := hpre k
  by_cases h : k < L.length
  · have hm := hL.2 _ (getD_mem (d := ((0, 0) : Nat × Nat)) h)
    have hpk1 := hpre (k + 1)
    have htk := take_s (d := ((0, 0) : Nat × Nat)) h
    have hex : exL (L.take (k + 1)) = exL (L.take k) ++ List.replicate (L.getD k (0, 0)).2 (L.getD k (0, 0)).1 := by
      rw [htk, exL_app]
      simp [exL]
    rw [hex, List.length_append, List.length_replicate] at hpk1
    simp (disch := first | omega | (simp only [fIn, fR, fC, Nat.reduceEqDiff, decide_false, decide_true, Bool.false_or, Bool.or_false, Bool.false_and, Bool.and_false, Bool.or_self, Bool.true_and, Bool.true_or, Bool.and_true, Bool.or_true, Bool.and_self]; done) | fail) only [hP_some, hP_let, hP_gd, hP_B, hP_if, reduceIte, q_lit, nI_add, pk_mul, q_lt, q_le, q_eq, q_cl, q_g, Bool.not_eq_true', decide_eq_false_iff_not, decide_eq_true_eq, q_div, q_rm, q_sub, q_m1, Nat.zero_add, Nat.add_zero, hl1.1, h]
    refine hP_loopF (fun n2 s => ∃ j w2, j + n2 = (L.getD k (0, 0)).2 ∧ s = (nI ((exL (L.take k)).length + j), nI j, w2) ∧ fr ([45], []) w w2 ∧ rCs w2 (exL (L.take k) ++ List.replicate j (L.getD k (0, 0)).1)) (L.getD k (0, 0)).2 (by omega) ⟨0, w1, by omega, rfl, hf, by simpa using hc⟩ ?_
    rintro n2 s rec2 ⟨j, w2, hj, rfl, hf2, hc2⟩ ih2
    have hl2 := rRd_fr hl hf2 rfl (fun _ => rfl) (fun _ => rfl)
    obtain ⟨h43, h44⟩ := hl2.2 k h
    simp only [f58_42_b14]
    by_cases c1 : j < (L.getD k (0, 0)).2
    · simp (disch := first | omega | (simp only [fIn, fR, fC, Nat.reduceEqDiff, decide_false, decide_true, Bool.false_or, Bool.or_false, Bool.false_and, Bool.and_false, Bool.or_self, Bool.true_and, Bool.true_or, Bool.and_true, Bool.or_true, Bool.and_self]; done) | fail) only [hP_some, hP_let, hP_gd, hP_B, hP_if, reduceIte, q_lit, nI_add, pk_mul, q_lt, q_le, q_eq, q_cl, q_g, Bool.not_eq_true', decide_eq_false_iff_not, decide_eq_true_eq, q_div, q_rm, q_sub, q_m1, Nat.zero_add, Nat.add_zero, h43, h44, c1, show (exL (L.take k)).length + j < 108 by omega, true_and]
      refine ⟨by omega, by omega, ih2 (n2 - 1) _ (by omega) ⟨j + 1, _, by omega, rfl, fr_nS hf2 rfl, fun i hi => ?_⟩⟩
      rw [List.replicate_succ', ← List.append_assoc] at hi ⊢
      rw [List.length_append, List.length_append, List.length_replicate, List.length_singleton] at hi
      by_cases e : i = (exL (L.take k)).length + j
      · subst e
        have h9 := getD_snoc_e (l := exL (L.take k) ++ List.replicate j (L.getD k (0, 0)).1) (x := (L.getD k (0, 0)).1) (d := 0)
        rw [List.length_append, List.length_replicate] at h9
        rw [rd_nS, h9]
      · rw [rd_nSj e, hc2 i (by rw [List.length_append, List.length_replicate]; omega), getD_snoc_l (by rw [List.length_append, List.length_replicate]; omega)]
    · have e : j = (L.getD k (0, 0)).2 := by omega
      simp (disch := first | omega | (simp only [fIn, fR, fC, Nat.reduceEqDiff, decide_false, decide_true, Bool.false_or, Bool.or_false, Bool.false_and, Bool.and_false, Bool.or_self, Bool.true_and, Bool.true_or, Bool.and_true, Bool.or_true, Bool.and_self]; done) | fail) only [hP_some, hP_let, hP_gd, hP_B, hP_if, reduceIte, q_lit, nI_add, pk_mul, q_lt, q_le, q_eq, q_cl, q_g, Bool.not_eq_true', decide_eq_false_iff_not, decide_eq_true_eq, q_div, q_rm, q_sub, q_m1, Nat.zero_add, Nat.add_zero, h43, h44, c1]
      refine ⟨by omega, ih (n - 1) _ (by omega) ⟨k + 1, w2, by omega, ?_, hf2, ?_⟩⟩
      · rw [hex, List.length_append, List.length_replicate, e]
      · rw [hex, ← e]
        exact hc2
  · have e : k = L.length := by omega
    simp (disch := first | omega | (simp only [fIn, fR, fC, Nat.reduceEqDiff, decide_false, decide_true, Bool.false_or, Bool.or_false, Bool.false_and, Bool.and_false, Bool.or_self, Bool.true_and, Bool.true_or, Bool.and_true, Bool.or_true, Bool.and_self]; done) | fail) only [hP_some, hP_let, hP_gd, hP_B, hP_if, reduceIte, q_lit, nI_add, pk_mul, q_lt, q_le, q_eq, q_cl, q_g, Bool.not_eq_true', decide_eq_false_iff_not, decide_eq_true_eq, q_div, q_rm, q_sub, q_m1, Nat.zero_add, Nat.add_zero, hl1.1, h]
    rw [e, List.take_of_length_le (Nat.le_refl _)] at hc ⊢
    exact hq w1 hf hc
abbrev pF : fP := ([45, 53, 65, 66, 67, 68, 69, 70, 71, 72, 73, 74, 75, 76], [])
def x3Ok (x3 : Nat) : Prop := x3 = 53 ∨ (65 ≤ x3 ∧ x3 < 77)
theorem x3_in {x3 : Nat} (h : x3Ok x3) (j : Nat) : fIn pF x3 j = true := by
  have : x3 = 53 ∨ x3 = 65 ∨ x3 = 66 ∨ x3 = 67 ∨ x3 = 68 ∨ x3 = 69 ∨ x3 = 70 ∨ x3 = 71 ∨ x3 = 72 ∨ x3 = 73 ∨ x3 = 74 ∨ x3 = 75 ∨ x3 = 76 := by
    unfold x3Ok at h
    omega
  rcases this with rfl | rfl | rfl | rfl | rfl | rfl | rfl | rfl | rfl | rfl | rfl | rfl | rfl <;> rfl
theorem c_fill {Q : Unit → mW → Prop} {L : List (Nat × Nat)} {c n x3 : Nat} (hL : lkOk L) (hT : (exL L).length ≤ 108) (hl : rRd 42 43 44 w L) (hc : c < 40) (hn1 : 1 ≤ n) (hn : n ≤ 30) (hx : x3Ok x3) (hq : ∀ w', fr pF w w' → (∀ a j, ¬ a = 45 → ¬ a = x3 → wI w' a j = wI w a j) → (∀ s, s < (exL L).length → wI w' x3 s = eC (dl (bL (exL L) c) n (exL L).length s)) → Q () w') : hP (f57_42 (nI c) (nI n) x3 w) Q := by
  unfold f57_42
  simp only [hP_B]
  refine c_spread hL hT hl (fun w1 hf1 hcs => ?_)
  have hmem : ∀ c ∈ exL L, c < 40 ∨ c = 99 := by
    intro x hx
    obtain ⟨p, hp, h2⟩ := List.mem_flatMap.mp hx
    rw [List.eq_of_mem_replicate h2]
    exact (hL.2 p hp).1
  generalize exL L = E at *
  have hper := bL_per E c
  have n45 : ¬ x3 = 45 := by unfold x3Ok at hx; omega
  simp (disch := first | omega | (simp only [fIn, fR, fC, Nat.reduceEqDiff, decide_false, decide_true, Bool.false_or, Bool.or_false, Bool.false_and, Bool.and_false, Bool.or_self, Bool.true_and, Bool.true_or, Bool.and_true, Bool.or_true, Bool.and_self]; done) | fail) only [hP_some, hP_let, hP_gd, hP_B, hP_if, reduceIte, q_lit, nI_add, pk_mul, q_lt, q_le, q_eq, q_cl, q_g, Bool.not_eq_true', decide_eq_false_iff_not, decide_eq_true_eq, q_div, q_rm, q_sub, q_m1, Nat.zero_add, Nat.add_zero]
  by_cases c0 : E.length = 0
  · rw [if_pos c0]
    exact hq w1 (fr_up hf1 (by decide)) (fun a j h1 _ => fr_rd hf1 (by simp [fIn, fR, fC]; omega)) (fun s hs => by omega)
  · rw [if_neg c0]
    refine hP_loopF (fun j s => ∃ w2, j ≤ 2 * E.length + 31 ∧ s = (nI (bkS (bL E c) (2 * E.length + 31) (2 * E.length + 31 - j)), eC (bkD (bL E c) n (2 * E.length + 31) (2 * E.length + 31 - j)), dn9 j, w2) ∧ fr pF w w2 ∧ (∀ a j, ¬ a = x3 → wI w2 a j = wI w1 a j) ∧ (∀ s, s < E.length → j ≤ s → wI w2 x3 s = eC (dl (bL E c) n E.length s))) (2 * E.length + 31) (by omega) ⟨w1, Nat.le_refl _, ?_, fr_up hf1 (by decide), fun _ _ _ => rfl, fun s h1 h2 => by omega⟩ ?_
    · rw [Nat.sub_self]
      unfold dn9
      rw [if_neg (by omega), show 2 * E.length + 31 - 1 = 2 * E.length + 30 by omega]
      rfl
    rintro j s rec ⟨w2, hj, rfl, hf2, hoth, hdone⟩ ih
    simp only [f57_42_b28]
    cases j with
    | zero =>
      simp only [dn9, reduceIte, q_lit, q_ng0, hP_some, hP_if]
      refine hq w2 hf2 (fun a j h1 h2 => ?_) (fun s hs => hdone s hs (Nat.zero_le _))
      rw [hoth a j h2, fr_rd hf1 (by simp [fIn, fR, fC]; omega)]
    | succ i =>
      have hd : dn9 (i + 1) = nI i := by unfold dn9; rw [if_neg (by omega)]; rfl
      have hmod : i % E.length < E.length := Nat.mod_lt _ (by omega)
      have h45 : wI w2 45 (i % E.length) = cE (E.getD (i % E.length) 0) := by
        rw [hoth 45 _ (fun e => n45 e.symm)]
        exact hcs _ hmod
      have hcE : (cE (E.getD (i % E.length) 0) = nI c) = (bL E c i = true) := by
        unfold bL cE
        rw [decide_eq_true_eq]
        rcases hmem _ (getD_mem (d := 0) hmod) with h | h
        · rw [if_neg (by omega)]
          exact q_eq (by omega) (by omega)
        · rw [h, if_pos rfl]
          have e1 : ¬ (99 : Nat) = c := by omega
          have e2 := q_neq (a := c) (by omega)
          simp only [e1]
          exact eq_false (fun g => by rw [← e2]; exact g.symm)
      have em : 2 * E.length + 31 - i = (2 * E.length + 31 - (i + 1)) + 1 := by omega
      have eS : bkS (bL E c) (2 * E.length + 31) (2 * E.length + 31 - i) = if bL E c i = true then bkS (bL E c) (2 * E.length + 31) (2 * E.length + 31 - (i + 1)) + 1 else 0 := by
        rw [em]
        show (if bL E c (2 * E.length + 31 - 1 - (2 * E.length + 31 - (i + 1))) = true then _ else 0) = _
        rw [show 2 * E.length + 31 - 1 - (2 * E.length + 31 - (i + 1)) = i by omega]
      have eD : bkD (bL E c) n (2 * E.length + 31) (2 * E.length + 31 - i) = if n ≤ bkS (bL E c) (2 * E.length + 31) (2 * E.length + 31 - i) then some n else (bkD (bL E c) n (2 * E.length + 31) (2 * E.length + 31 - (i + 1))).map (· + 1) := by
        rw [em]
        rfl
      have hSle := bkS_le (bL E c) (2 * E.length + 31) (2 * E.length + 31 - (i + 1))
      have hDle := bkD_le (b := bL E c) (n := n) (N := 2 * E.length + 31) (2 * E.length + 31 - (i + 1))
      -- behind the new stretch and delay
      have go : ∀ (st : Nat) (dy : Int32), st = bkS (bL E c) (2 * E.length + 31) (2 * E.length + 31 - i) → dy = eC (bkD (bL E c) n (2 * E.length + 31) (2 * E.length + 31 - i)) → hP (f57_42_j79 (nI c) (nI n) x3 (nI E.length) (nI st) dy (nI i) rec w2) Q := by
        intro st dy hst hdy
        unfold f57_42_j79
        simp (disch := first | omega | (simp only [fIn, fR, fC, Nat.reduceEqDiff, decide_false, decide_true, Bool.false_or, Bool.or_false, Bool.false_and, Bool.and_false, Bool.or_self, Bool.true_and, Bool.true_or, Bool.and_true, Bool.or_true, Bool.and_self]; done) | fail) only [hP_some, hP_let, hP_gd, hP_B, hP_if, reduceIte, q_lit, nI_add, pk_mul, q_lt, q_le, q_eq, q_cl, q_g, Bool.not_eq_true', decide_eq_false_iff_not, decide_eq_true_eq, q_div, q_rm, q_sub, q_m1, Nat.zero_add, Nat.add_zero]
        by_cases c1 : i < E.length
        · rw [if_pos c1, if_pos (by omega)]
          refine ⟨by omega, ih i _ (by omega) ⟨nS w2 x3 i dy, by omega, ?_, fr_nS hf2 (x3_in hx i), fun a j ha => (rd_nSa ha).trans (hoth a j ha), fun s h1 h2 => ?_⟩⟩
          · rw [dn9_s, hst, hdy]
          · by_cases e : s = i
            · subst e
              rw [rd_nS, hdy, bkD_dl hn1 hn hper c1]
            · rw [rd_nSj e]
              exact hdone s h1 (by omega)
        · rw [if_neg c1]
          refine ih i _ (by omega) ⟨w2, by omega, ?_, hf2, hoth, fun s h1 h2 => hdone s h1 (by omega)⟩
          rw [hst, hdy]
          unfold dn9
          rw [if_neg (show ¬ i = 0 by omega)]
      have eCn : ∀ o : Option Nat, (∀ d, o = some d → d < 2000) → (if eC o = nI 2147483647 then eC o else eC o + nI 1) = eC (o.map (· + 1)) := by
        intro o ho
        cases o with
        | none => rw [if_pos (show eC none = nI 2147483647 from rfl)]; rfl
        | some d =>
          have := ho d rfl
          show (if nI d = nI 2147483647 then nI d else nI d + nI 1) = nI (d + 1)
          rw [if_neg (by rw [q_eq (by omega) (by omega)]; omega), nI_add]
      have hDn := eCn (bkD (bL E c) n (2 * E.length + 31) (2 * E.length + 31 - (i + 1))) (fun d hd => by have := hDle d hd; omega)
      rw [hd]
      simp (disch := first | omega | (simp only [fIn, fR, fC, Nat.reduceEqDiff, decide_false, decide_true, Bool.false_or, Bool.or_false, Bool.false_and, Bool.and_false, Bool.or_self, Bool.true_and, Bool.true_or, Bool.and_true, Bool.or_true, Bool.and_self]; done) | fail) only [hP_some, hP_let, hP_gd, hP_B, hP_if, reduceIte, q_lit, nI_add, pk_mul, q_lt, q_le, q_eq, q_cl, q_g, Bool.not_eq_true', decide_eq_false_iff_not, decide_eq_true_eq, q_div, q_rm, q_sub, q_m1, Nat.zero_add, Nat.add_zero, Nat.not_lt_zero, h45, hcE]
      refine ⟨c0, by omega, ?_⟩
      by_cases c1 : bL E c i = true
      · rw [if_pos c1] at eS ⊢
        by_cases c2 : bkS (bL E c) (2 * E.length + 31) (2 * E.length + 31 - (i + 1)) + 1 < n
        · rw [if_neg (by omega)] at eD
          rw [if_pos c2]
          by_cases c3 : eC (bkD (bL E c) n (2 * E.length + 31) (2 * E.length + 31 - (i + 1))) = nI 2147483647
          · rw [if_pos c3] at hDn ⊢
            exact go _ _ eS.symm (by rw [eD, hDn])
          · rw [if_neg c3] at hDn ⊢
            exact go _ _ eS.symm (by rw [eD, hDn])
        · rw [if_pos (by omega)] at eD
          rw [if_neg c2]
          exact go _ _ eS.symm (by rw [eD]; rfl)
      · rw [if_neg c1] at eS ⊢
        rw [if_neg (by omega)] at eD
        rw [if_pos (by omega)]
        by_cases c3 : eC (bkD (bL E c) n (2 * E.length + 31) (2 * E.length + 31 - (i + 1))) = nI 2147483647
        · rw [if_pos c3] at hDn ⊢
          exact go _ _ eS.symm (by rw [eD, hDn])
        · rw [if_neg c3] at hDn ⊢
          exact go _ _ eS.symm (by rw [eD, hDn])
end C7
