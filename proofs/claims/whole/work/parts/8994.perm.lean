/-! ===== ORDERS: the next one ===== -/
def gd (l : List Nat) (i : Nat) : Nat := l.getD i 0
def pv (l : List Nat) : Nat → Nat
  | 0 => 0
  | k + 1 => if gd l (k + 2) < gd l (k + 1) then pv l k else k + 1
def qj (l : List Nat) (i : Nat) : Nat → Nat
  | 0 => 0
  | j + 1 => if gd l (j + 1) < gd l i then qj l i j else j + 1
def swL (l : List Nat) (a b : Nat) : List Nat := (l.set a (gd l b)).set b (gd l a)
def rvL : Nat → List Nat → Nat → Nat → List Nat
  | 0, l, _, _ => l
  | f + 1, l, a, b => if a < b then rvL f (swL l a b) (a + 1) (b - 1) else l
def nxL (l : List Nat) : Option (List Nat) := if pv l (l.length - 2) = 0 then none else some (rvL 12 (swL l (pv l (l.length - 2)) (qj l (pv l (l.length - 2)) (l.length - 1))) (pv l (l.length - 2) + 1) (l.length - 1))
def ckL (n : Nat) : Nat → List Nat → Bool
  | 0, _ => false
  | f + 1, l => decide (l.length = n) && (l.all (fun x => decide (x < n)) && (match nxL l with
    | none => true
    | some l' => ckL n f l'))
theorem ck_all : ∀ n : Fin 8, ckL n.1 720 (List.range n.1) = true := by decide +kernel
theorem ck_zero {n : Nat} {l : List Nat} (h : ckL n 0 l = true) : False := by cases h
theorem ck_len {n f : Nat} {l : List Nat} (h : ckL n (f + 1) l = true) : l.length = n := by
  unfold ckL at h
  simp only [Bool.and_eq_true, decide_eq_true_eq] at h
  exact h.1
theorem ck_lt {n f : Nat} {l : List Nat} (h : ckL n (f + 1) l = true) {i : Nat} (hi : i < n) : gd l i < n := by
  have hl := ck_len h
  unfold ckL at h
  simp only [Bool.and_eq_true, decide_eq_true_eq, List.all_eq_true] at h
  unfold gd
  rw [List.getD_eq_getElem?_getD, List.getElem?_eq_getElem (by omega)]
  exact h.2.1 _ (List.getElem_mem _)
theorem ck_next {n f : Nat} {l l' : List Nat} (h : ckL n (f + 1) l = true) (h2 : nxL l = some l') : ckL n f l' = true := by
  unfold ckL at h
  rw [h2] at h
  simp only [Bool.and_eq_true] at h
  exact h.2.2
theorem swL_len (l : List Nat) (a b : Nat) : (swL l a b).length = l.length := by unfold swL; rw [List.length_set, List.length_set]
theorem gd_set (l : List Nat) (a v i : Nat) (h : a < l.length) : gd (l.set a v) i = if i = a then v else gd l i := by
  unfold gd
  rw [List.getD_eq_getElem?_getD, List.getElem?_set, List.getD_eq_getElem?_getD]
  by_cases e : i = a
  · subst e
    rw [if_pos rfl, if_pos rfl, if_pos h]
    rfl
  · rw [if_neg (fun e2 => e e2.symm), if_neg e]
theorem gd_sw (l : List Nat) {a b : Nat} (ha : a < l.length) (hb : b < l.length) (i : Nat) : gd (swL l a b) i = if i = b then gd l a else if i = a then gd l b else gd l i := by
  unfold swL
  rw [gd_set _ _ _ _ (by rw [List.length_set]; exact hb), gd_set _ _ _ _ ha]
theorem rvL_len : ∀ f l a b, (rvL f l a b).length = l.length
  | 0, _, _, _ => rfl
  | f + 1, l, a, b => by
    unfold rvL
    split
    · rw [rvL_len f, swL_len]
    · rfl
theorem pv_le (l : List Nat) : ∀ k, pv l k ≤ k
  | 0 => Nat.le_refl _
  | k + 1 => by
    have := pv_le l k
    unfold pv
    split <;> omega
theorem qj_le (l : List Nat) (i : Nat) : ∀ j, qj l i j ≤ j
  | 0 => Nat.le_refl _
  | j + 1 => by
    have := qj_le l i j
    unfold qj
    split <;> omega
theorem qj_self (l : List Nat) {i : Nat} (hi : 1 ≤ i) : qj l i i = i := by
  obtain ⟨k, rfl⟩ : ∃ k, i = k + 1 := ⟨i - 1, by omega⟩
  show (if gd l (k + 1) < gd l (k + 1) then qj l (k + 1) k else k + 1) = k + 1
  rw [if_neg (Nat.lt_irrefl _)]
/-- a list of numbers in row a -/
def rL (a : Nat) (w : mW) (l : List Nat) : Prop := ∀ i, i < l.length → wI w a i = nI (gd l i)
theorem rL_fr {a : Nat} {p : fP} {w w' : mW} {l : List Nat} (h : rL a w l) (hf : fr p w w') (hp : ∀ j, fIn p a j = false) : rL a w' l := fun i hi => (fr_rd hf (hp i)).trans (h i hi)
theorem c_swapT {l : List Nat} {a b : Nat} {w : mW} {Q : Unit → mW → Prop} (h : rL 54 w l) (hl : l.length ≤ 12) (ha : a < l.length) (hb : b < l.length) (hq : ∀ w', fr ([54], []) w w' → rL 54 w' (swL l a b) → Q () w') : hP (f107_23 (nI a) (nI b) w) Q := by
  unfold f107_23
  simp (disch := first | omega | (simp only [fIn, fR, fC, Nat.reduceEqDiff, decide_false, decide_true, Bool.false_or, Bool.or_false, Bool.false_and, Bool.and_false, Bool.or_self, Bool.true_and, Bool.true_or, Bool.and_true, Bool.or_true, Bool.and_self]; done) | fail) only [hP_some, hP_let, hP_gd, hP_B, hP_if, reduceIte, q_lit, nI_add, pk_mul, q_lt, q_le, q_eq, q_cl, q_g, Bool.not_eq_true', decide_eq_false_iff_not, decide_eq_true_eq, q_div, q_rm, q_sub, q_m1, Nat.zero_add, Nat.add_zero]
  refine ⟨by omega, by omega, by omega, by omega, hq _ (fr_nS (fr_nS fr_refl rfl) rfl) (fun i hi => ?_)⟩
  rw [swL_len] at hi
  rw [gd_sw l ha hb, rd_nSi, rd_nSi, h a ha, h b hb, h i hi]
  split
  · rfl
  · split <;> rfl
theorem m_swapT {l : List Nat} {a b : Nat} {w : mW} {Q : Unit → mW → Prop} (h : rL 109 w l) (hl : l.length ≤ 12) (ha : a < l.length) (hb : b < l.length) (hq : ∀ w', fr ([109], []) w w' → rL 109 w' (swL l a b) → Q () w') : hP (f257_80 (nI a) (nI b) w) Q := by
  unfold f257_80
  simp (disch := first | omega | (simp only [fIn, fR, fC, Nat.reduceEqDiff, decide_false, decide_true, Bool.false_or, Bool.or_false, Bool.false_and, Bool.and_false, Bool.or_self, Bool.true_and, Bool.true_or, Bool.and_true, Bool.or_true, Bool.and_self]; done) | fail) only [hP_some, hP_let, hP_gd, hP_B, hP_if, reduceIte, q_lit, nI_add, pk_mul, q_lt, q_le, q_eq, q_cl, q_g, Bool.not_eq_true', decide_eq_false_iff_not, decide_eq_true_eq, q_div, q_rm, q_sub, q_m1, Nat.zero_add, Nat.add_zero]
  refine ⟨by omega, by omega, by omega, by omega, hq _ (fr_nS (fr_nS fr_refl rfl) rfl) (fun i hi => ?_)⟩
  rw [swL_len] at hi
  rw [gd_sw l ha hb, rd_nSi, rd_nSi, h a ha, h b hb, h i hi]
  split
  · rfl
  · split <;> rfl
theorem rvL_fuel : ∀ f l a b, b ≤ a + f → rvL (f + 1) l a b = rvL f l a b
  | 0, l, a, b, h => by
    show (if a < b then rvL 0 (swL l a b) (a + 1) (b - 1) else l) = l
    rw [if_neg (by omega)]
  | f + 1, l, a, b, h => by
    show (if a < b then rvL (f + 1) (swL l a b) (a + 1) (b - 1) else l) = (if a < b then rvL f (swL l a b) (a + 1) (b - 1) else l)
    split
    · exact rvL_fuel f _ _ _ (by omega)
    · rfl
theorem c_rev {f : Nat} {w : mW} {Q : Int32 → mW → Prop} : ∀ (l : List Nat) (a b : Nat) (w0 : mW), fr ([54], []) w w0 → rL 54 w0 l → l.length ≤ 12 → b < l.length → a ≤ 12 → b ≤ a + f → f ≤ 12 → (∀ w', fr ([54], []) w w' → rL 54 w' (rvL f l a b) → Q (nI 1) w') → hP (mLoop f106_23_b91 nF (nI a, nI b, w0)) Q := by
  intro l a b w0 hf hr hl hb ha hfb hf12 hq
  refine hP_loopF (fun n s => ∃ l a b w1, n ≤ 12 ∧ s = (nI a, nI b, w1) ∧ fr ([54], []) w w1 ∧ rL 54 w1 l ∧ l.length ≤ 12 ∧ b < l.length ∧ a ≤ 24 ∧ b ≤ a + n ∧ (∀ w', fr ([54], []) w w' → rL 54 w' (rvL n l a b) → Q (nI 1) w')) f (by omega) ⟨l, a, b, w0, hf12, rfl, hf, hr, hl, hb, by omega, hfb, hq⟩ ?_
  rintro n s rec ⟨l, a, b, w1, hn, rfl, hf, hr, hl, hb, ha, hfb, hq⟩ ih
  simp only [f106_23_b91]
  by_cases c : a < b
  · simp (disch := first | omega | (simp only [fIn, fR, fC, Nat.reduceEqDiff, decide_false, decide_true, Bool.false_or, Bool.or_false, Bool.false_and, Bool.and_false, Bool.or_self, Bool.true_and, Bool.true_or, Bool.and_true, Bool.or_true, Bool.and_self]; done) | fail) only [hP_some, hP_let, hP_gd, hP_B, hP_if, reduceIte, q_lit, nI_add, pk_mul, q_lt, q_le, q_eq, q_cl, q_g, Bool.not_eq_true', decide_eq_false_iff_not, decide_eq_true_eq, q_div, q_rm, q_sub, q_m1, Nat.zero_add, Nat.add_zero, c]
    refine c_swapT hr hl (by omega) hb (fun w2 hf2 hr2 => ?_)
    cases n with
    | zero => omega
    | succ n =>
      have hq2 : ∀ w', fr ([54], []) w w' → rL 54 w' (rvL n (swL l a b) (a + 1) (b - 1)) → Q (nI 1) w' := fun w' x y => hq w' x (by unfold rvL; rw [if_pos c]; exact y)
      refine ih n _ (by omega) ⟨swL l a b, a + 1, b - 1, w2, by omega, ?_, fr_then hf hf2 (by decide), hr2, by rw [swL_len]; exact hl, by rw [swL_len]; omega, by omega, by omega, hq2⟩
      rfl
  · simp (disch := first | omega | (simp only [fIn, fR, fC, Nat.reduceEqDiff, decide_false, decide_true, Bool.false_or, Bool.or_false, Bool.false_and, Bool.and_false, Bool.or_self, Bool.true_and, Bool.true_or, Bool.and_true, Bool.or_true, Bool.and_self]; done) | fail) only [hP_some, hP_let, hP_gd, hP_B, hP_if, reduceIte, q_lit, nI_add, pk_mul, q_lt, q_le, q_eq, q_cl, q_g, Bool.not_eq_true', decide_eq_false_iff_not, decide_eq_true_eq, q_div, q_rm, q_sub, q_m1, Nat.zero_add, Nat.add_zero, c]
    refine hq w1 hf ?_
    have : rvL n l a b = l := by
      cases n with
      | zero => rfl
      | succ n => unfold rvL; rw [if_neg c]
    rw [this]
    exact hr
