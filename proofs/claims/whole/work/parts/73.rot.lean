/-! ===== a round turned; looks and their seconds ===== -/
theorem dMx_use {b : Nat → Bool} {n T : Nat} : ∀ {k M : Nat}, dMx b n T k = some M → (∀ s, s < k → ∃ j, j ≤ M ∧ dl b n T s = some j) ∧ (M = 0 ∨ ∃ s, s < k ∧ dl b n T s = some M)
  | 0, M, h => by cases h; exact ⟨fun s hs => absurd hs (Nat.not_lt_zero _), .inl rfl⟩
  | k + 1, M, h => by
    have h2 : oMax (dMx b n T k) (dl b n T k) = some M := h
    cases e1 : dMx b n T k with
    | none => rw [e1] at h2; cases h2
    | some a =>
      cases e2 : dl b n T k with
      | none => rw [e1, e2] at h2; cases h2
      | some c =>
        rw [e1, e2] at h2
        cases h2
        obtain ⟨i1, i2⟩ := dMx_use e1
        refine ⟨fun s hs => ?_, ?_⟩
        · by_cases e : s = k
          · subst e; exact ⟨c, by omega, e2⟩
          · obtain ⟨j, j1, j2⟩ := i1 s (by omega)
            exact ⟨j, by omega, j2⟩
        · by_cases c1 : a < c
          · exact .inr ⟨k, by omega, by rw [e2]; congr 1; omega⟩
          · rcases i2 with i2 | ⟨s, s1, s2⟩
            · left; omega
            · exact .inr ⟨s, by omega, by rw [s2]; congr 1; omega⟩
theorem dMx_use0 {b : Nat → Bool} {n T : Nat} : ∀ {k : Nat}, dMx b n T k = none → ∃ s, s < k ∧ dl b n T s = none
  | 0, h => by cases h
  | k + 1, h => by
    have h2 : oMax (dMx b n T k) (dl b n T k) = none := h
    cases e1 : dMx b n T k with
    | none =>
      obtain ⟨s, s1, s2⟩ := dMx_use0 e1
      exact ⟨s, by omega, s2⟩
    | some a =>
      cases e2 : dl b n T k with
      | none => exact ⟨k, by omega, e2⟩
      | some c => rw [e1, e2] at h2; cases h2
theorem dF_sh {b : Nat → Bool} {n k : Nat} : ∀ (m s : Nat), dF (fun i => b (i + k)) n s m = dF b n (s + k) m
  | 0, _ => by unfold dF; rfl
  | m + 1, s => by
    have e : dGd (fun i => b (i + k)) n s ↔ dGd b n (s + k) := by
      unfold dGd
      constructor <;> intro h i hi
      · have := h i hi
        rw [show s + k + i = s + i + k by omega]
        exact this
      · show b (s + i + k) = true
        rw [show s + i + k = s + k + i by omega]
        exact h i hi
    by_cases c : dGd b n (s + k)
    · rw [dF_y c, dF_y (e.mpr c)]
    · rw [dF_n c, dF_n (fun g => c (e.mp g)), dF_sh m (s + 1), show s + 1 + k = s + k + 1 by omega]
theorem dF_mod {b : Nat → Bool} {T n s m : Nat} (h : dPer b T) : dF b n s m = dF b n (s % T) m := by
  have h1 := Nat.mod_add_div s T
  have h2 : ∀ q t, dF b n (t + q * T) m = dF b n t m := by
    intro q
    induction q with
    | zero => intro t; rw [Nat.zero_mul, Nat.add_zero]
    | succ q ih => intro t; rw [Nat.add_mul, Nat.one_mul, ← Nat.add_assoc, dF_per h, ih]
  rw [Nat.mul_comm] at h1
  have := h2 (s / T) (s % T)
  rw [h1] at this
  exact this
theorem dMx_shift {b : Nat → Bool} {T n k : Nat} (h : dPer b T) (hT : 0 < T) : dMx (fun i => b (i + k)) n T T = dMx b n T T := by
  have e : ∀ s, dl (fun i => b (i + k)) n T s = dl b n T ((s + k) % T) := by
    intro s
    unfold dl
    rw [dF_sh, dF_mod h]
  have back : ∀ s, s < T → ∃ t, t < T ∧ (t + k) % T = s := by
    intro s hs
    have hk := Nat.mod_lt k hT
    refine ⟨(s + (T - k % T)) % T, Nat.mod_lt _ hT, ?_⟩
    rw [Nat.mod_add_mod]
    have h1 := Nat.mod_add_div k T
    have e2 : s + (T - k % T) + k = s + (k / T + 1) * T := by
      rw [Nat.add_mul, Nat.one_mul, Nat.mul_comm]
      omega
    rw [e2, Nat.add_mul_mod_self_right, Nat.mod_eq_of_lt hs]
  cases e1 : dMx b n T T with
  | none =>
    obtain ⟨s, s1, s2⟩ := dMx_use0 e1
    obtain ⟨t, t1, t2⟩ := back s s1
    refine dMx_none t1 ?_
    rw [e, t2]
    exact s2
  | some M =>
    obtain ⟨i1, i2⟩ := dMx_use e1
    refine dMx_some (fun s hs => ?_) ?_
    · rw [e]
      exact i1 _ (Nat.mod_lt _ hT)
    · rcases i2 with i2 | ⟨s, s1, s2⟩
      · exact .inl i2
      · obtain ⟨t, t1, t2⟩ := back s s1
        refine .inr ⟨t, t1, ?_⟩
        rw [e, t2]
        exact s2
/-! looks, each a cell and seconds -/
def exL (L : List (Nat × Nat)) : List Nat := L.flatMap (fun p => List.replicate p.2 p.1)
theorem exL_app (A B : List (Nat × Nat)) : exL (A ++ B) = exL A ++ exL B := by simp [exL]
theorem exL_cons (p : Nat × Nat) (B : List (Nat × Nat)) : exL (p :: B) = List.replicate p.2 p.1 ++ exL B := by simp [exL]
theorem bL_rot (A B : List Nat) (c i : Nat) : bL (B ++ A) c i = bL (A ++ B) c (i + A.length) := by
  unfold bL
  rw [List.length_append, List.length_append, Nat.add_comm B.length A.length]
  by_cases hT : A.length + B.length = 0
  · have hA : A = [] := List.length_eq_zero_iff.mp (by omega)
    have hB : B = [] := List.length_eq_zero_iff.mp (by omega)
    subst hA hB
    rfl
  · have hm := Nat.mod_lt i (show 0 < A.length + B.length by omega)
    rw [← Nat.mod_add_mod]
    generalize i % (A.length + B.length) = x at *
    congr 2
    simp only [List.getD_eq_getElem?_getD]
    by_cases c1 : x < B.length
    · rw [Nat.mod_eq_of_lt (by omega), List.getElem?_append_left c1, List.getElem?_append_right (by omega), show x + A.length - A.length = x by omega]
    · have e : (x + A.length) % (A.length + B.length) = x - B.length := by
        rw [show x + A.length = (x - B.length) + (A.length + B.length) by omega, Nat.add_mod_right, Nat.mod_eq_of_lt (by omega)]
      rw [e, List.getElem?_append_right (by omega), List.getElem?_append_left (by omega)]
theorem dMx_rot (A B : List Nat) (c n : Nat) (hT : 0 < (A ++ B).length) : dMx (bL (B ++ A) c) n (B ++ A).length (B ++ A).length = dMx (bL (A ++ B) c) n (A ++ B).length (A ++ B).length := by
  have e : (B ++ A).length = (A ++ B).length := by simp [Nat.add_comm]
  rw [e]
  have e2 : bL (B ++ A) c = fun i => bL (A ++ B) c (i + A.length) := funext fun i => bL_rot A B c i
  rw [e2]
  exact dMx_shift (bL_per (A ++ B) c) hT
/-! the scan of a list -/
theorem scS_list (b : Nat → Bool) (n : Nat) : ∀ k, scS b n k = ((List.range k).map b).foldl (scB n) (0, 0, none, 0)
  | 0 => rfl
  | k + 1 => by
    rw [List.range_succ, List.map_append, List.foldl_append, ← scS_list b n k]
    rfl
theorem bL_list (E : List Nat) (c : Nat) : (List.range E.length).map (bL E c) = E.map (fun x => decide (x = c)) := by
  apply List.ext_getElem
  · simp
  · intro i h1 h2
    simp only [List.length_map, List.length_range] at h1
    simp only [List.getElem_map, List.getElem_range]
    unfold bL
    rw [Nat.mod_eq_of_lt h1, List.getD_eq_getElem?_getD, List.getElem?_eq_getElem h1]
    rfl
def scR (n c : Nat) (L : List (Nat × Nat)) : scT := ((exL L).map (fun x => decide (x = c))).foldl (scB n) (0, 0, none, 0)
theorem scF_true (n : Nat) : ∀ (s : Nat) (x : scT), (List.replicate s true).foldl (scB n) x = (x.1 + s, x.2)
  | 0, _ => rfl
  | s + 1, x => by
    rw [List.replicate_succ, List.foldl_cons, scF_true n s]
    show ((x.1 + 1) + s, x.2) = _
    rw [show x.1 + 1 + s = x.1 + (s + 1) by omega]
theorem scF_false {n : Nat} (hn : 1 ≤ n) : ∀ (s : Nat) (x : scT), (List.replicate (s + 1) false).foldl (scB n) x = (0, (scE n x).2.1 + (s + 1), (scE n x).2.2)
  | 0, x => rfl
  | s + 1, x => by
    rw [List.replicate_succ', List.foldl_append, scF_false hn s x]
    show (0, (scE n (0, (scE n x).2.1 + (s + 1), (scE n x).2.2)).2.1 + 1, (scE n (0, (scE n x).2.1 + (s + 1), (scE n x).2.2)).2.2) = _
    have e : ∀ y : Nat × Option Nat × Nat, scE n (0, y) = (0, y) := by
      intro y
      unfold scE
      rw [if_pos (by show 0 < n; omega)]
      rfl
    rw [e]
    rfl
theorem scR_push {n c : Nat} (hn : 1 ≤ n) (L : List (Nat × Nat)) (d s : Nat) (hs : 1 ≤ s) : scR n c (L ++ [(d, s)]) = if d = c then ((scR n c L).1 + s, (scR n c L).2) else (0, (scE n (scR n c L)).2.1 + s, (scE n (scR n c L)).2.2) := by
  unfold scR
  rw [exL_app, List.map_append, List.foldl_append]
  have e : exL [(d, s)] = List.replicate s d := by simp [exL]
  rw [e, List.map_replicate]
  by_cases h : d = c
  · rw [if_pos h, decide_eq_true h, scF_true]
  · rw [if_neg h, decide_eq_false h]
    rw [show s = (s - 1) + 1 by omega, scF_false hn]
/-- the worst out of the scan of a round that begins elsewhere -/
theorem scR_worst {n c d s : Nat} {L : List (Nat × Nat)} (hn : 1 ≤ n) (hd : ¬ d = c) (hs : 1 ≤ s) : dMx (bL (exL ((d, s) :: L)) c) n (exL ((d, s) :: L)).length (exL ((d, s) :: L)).length = scEnd n (scE n (scR n c ((d, s) :: L))) := by
  have hlen : 0 < (exL ((d, s) :: L)).length := by
    rw [exL_cons, List.length_append, List.length_replicate]
    show 0 < s + _
    omega
  have h0 : bL (exL ((d, s) :: L)) c 0 = false := by
    unfold bL
    rw [Nat.zero_mod, decide_eq_false]
    rw [exL_cons, show s = (s - 1) + 1 by omega, List.replicate_succ]
    exact hd
  rw [scS_end hn h0 (bL_per _ c) hlen, scS_list, bL_list]
  rfl
theorem scR_all {n c : Nat} {E : List Nat} (hE : ∀ x ∈ E, x = c) (hT : 0 < E.length) (hn : 1 ≤ n) : dMx (bL E c) n E.length E.length = some n := by
  have hb : ∀ i, bL E c i = true := by
    intro i
    unfold bL
    have hm := Nat.mod_lt i hT
    rw [List.getD_eq_getElem?_getD, List.getElem?_eq_getElem hm]
    exact decide_eq_true (hE _ (List.getElem_mem hm))
  have hd : ∀ s, dl (bL E c) n E.length s = some n := by
    intro s
    unfold dl
    rw [show E.length = (E.length - 1) + 1 by omega, dF_y (fun i _ => hb _)]
    simp
  exact dMx_some (fun s _ => ⟨n, Nat.le_refl _, hd s⟩) (.inr ⟨0, hT, hd 0⟩)
