/-! ===== THE CLASS: rules, needs, weights ===== -/
theorem cvx_lt {k : Nat} (h : k < 10) : cvx k < 10 := by
  unfold cvx
  split
  · decide
  · split <;> omega
theorem oNg_b {a : Nat} (h1 : 4 ≤ a) (h2 : a ≤ 11) : 1 ≤ oNg a ∧ oNg a ≤ 9 ∧ ¬ oNg a = 3 := by
  unfold oNg
  split
  · omega
  · split
    · omega
    · split <;> omega
section C2
variable {g : gS} {r : gR} {w : mW} {Q : Int32 → mW → Prop}
theorem c_gives {V : Nat → Int32} {lo hi i : Nat} {l : List gO} (hi6 : i < 6) (hc : rAtC w i (some l)) (hd : oDep lo hi 0 l) (hhi : hi < 10) (hv : ∀ k, lo ≤ k → k ≤ hi → wI w 50 (cvx k) = V k) (hq : ∀ w', fr ([33], []) w w' → Q (oVal9 V l) w') : hP (f66_29_50 (nI i) w) Q := by
  obtain ⟨a, b, h31, h32, ha, hb, rfl, hcd⟩ := hc
  unfold f66_29_50
  simp (disch := first | omega | (simp only [fIn, fR, fC, Nat.reduceEqDiff, decide_false, decide_true, Bool.false_or, Bool.or_false, Bool.false_and, Bool.and_false, Bool.or_self, Bool.true_and, Bool.true_or, Bool.and_true, Bool.or_true, Bool.and_self]; done) | fail) only [hP_some, hP_let, hP_gd, hP_B, hP_if, reduceIte, q_lit, nI_add, pk_mul, q_lt, q_le, q_eq, q_cl, q_g, Bool.not_eq_true', decide_eq_false_iff_not, decide_eq_true_eq, q_div, q_rm, q_sub, q_m1, Nat.zero_add, Nat.add_zero, h31]
  refine ⟨hi6, ?_⟩
  refine hP_loopF (fun n s => ∃ k l2 st w1, n = l2.length ∧ k + l2.length = a + l.length ∧ s = (nI st.length, nI k, w1) ∧ fr ([33], []) w w1 ∧ cdC w k l2 ∧ oDep lo hi st.length l2 ∧ pSt 33 w1 st ∧ oEv V l2 st = oEv V l [] ∧ st.length ≤ 60) l.length (by omega) ⟨a, l, [], w, rfl, rfl, rfl, fr_refl, hcd, hd, trivial, rfl, by decide⟩ ?_
  rintro n s rec ⟨k, l2, st, w1, rfl, hkl, rfl, hf, hc, hd, hp, he, h60⟩ ih
  cases l2 with
  | nil =>
    match st, hd, hp, he, h60 with
    | [x], hd, hp, he, h60 =>
      have hkl : k = a + l.length := hkl
      have n1 : ¬ k < a + l.length := by omega
      have n2 : ¬ ([x] : List Int32).length < 1 := by simp
      have e3 : wI w1 33 0 = x := hp.1
      simp only [f66_29_50_b10, List.length_singleton]
      simp (disch := first | omega | (simp only [fIn, fR, fC, Nat.reduceEqDiff, decide_false, decide_true, Bool.false_or, Bool.or_false, Bool.false_and, Bool.and_false, Bool.or_self, Bool.true_and, Bool.true_or, Bool.and_true, Bool.or_true, Bool.and_self]; done) | fail) only [hP_some, hP_let, hP_gd, hP_B, hP_if, reduceIte, q_lit, nI_add, pk_mul, q_lt, q_le, q_eq, q_cl, q_g, Bool.not_eq_true', decide_eq_false_iff_not, decide_eq_true_eq, q_div, q_rm, q_sub, q_m1, Nat.zero_add, Nat.add_zero, fr_rd hf, h32, n1, Nat.lt_irrefl, Nat.sub_self, e3]
      refine ⟨hi6, by omega, ?_⟩
      have e2 : oVal9 V l = x := by
        unfold oVal9
        rw [← he]
        rfl
      rw [← e2]
      exact hq w1 hf
  | cons o t =>
    have hkl : k + (t.length + 1) = a + l.length := hkl
    obtain ⟨op, v⟩ := o
    obtain ⟨c1, c2, c3⟩ := hc
    have nlt : k < a + l.length := by omega
    rcases hd with ⟨h1, h2, h3, h4⟩ | ⟨h1, h2, h3, h4, h5⟩ | ⟨h1, h2, h3⟩ | ⟨h1, h2, h3, h4⟩
    · dsimp only at h1 h2
      subst h1
      have c2 : wI w 30 k = nI v := c2
      simp only [f66_29_50_b10, f66_29_50_j42]
      simp (disch := first | omega | (simp only [fIn, fR, fC, Nat.reduceEqDiff, decide_false, decide_true, Bool.false_or, Bool.or_false, Bool.false_and, Bool.and_false, Bool.or_self, Bool.true_and, Bool.true_or, Bool.and_true, Bool.or_true, Bool.and_self]; done) | fail) only [hP_some, hP_let, hP_gd, hP_B, hP_if, reduceIte, q_lit, nI_add, pk_mul, q_lt, q_le, q_eq, q_cl, q_g, Bool.not_eq_true', decide_eq_false_iff_not, decide_eq_true_eq, q_div, q_rm, q_sub, q_m1, Nat.zero_add, Nat.add_zero, fr_rd hf, h32, nlt, c2, Nat.not_lt_zero, show st.length < 64 by omega, true_and]
      refine ⟨hi6, by omega, ih t.length _ (Nat.lt_succ_self _) ⟨k + 1, t, nI v :: st, _, rfl, by omega, rfl, fr_nS hf rfl, c3, h4, ⟨rd_nS, pSt_up (Nat.le_refl _) hp⟩, he, by show st.length + 1 ≤ 60; omega⟩⟩
    · dsimp only at h1 h2 h3
      subst h1
      have c2 : wI w 30 k = -nI (20 + cvx v) := c2
      have hcv := cvx_lt (k := v) (by omega)
      simp only [f66_29_50_b10, f66_29_50_j42]
      simp (disch := first | omega | (simp only [fIn, fR, fC, Nat.reduceEqDiff, decide_false, decide_true, Bool.false_or, Bool.or_false, Bool.false_and, Bool.and_false, Bool.or_self, Bool.true_and, Bool.true_or, Bool.and_true, Bool.or_true, Bool.and_self]; done) | fail) only [hP_some, hP_let, hP_gd, hP_B, hP_if, reduceIte, q_lit, nI_add, pk_mul, q_lt, q_le, q_eq, q_cl, q_g, Bool.not_eq_true', decide_eq_false_iff_not, decide_eq_true_eq, q_div, q_rm, q_sub, q_m1, Nat.zero_add, Nat.add_zero, fr_rd hf, h32, nlt, c2, q_mp_lt, q_mm_lt, q_mm_sub, show st.length < 64 by omega, show 0 < 20 + cvx v by omega, true_and, show ¬ 20 + cvx v < 20 by omega, Nat.add_sub_cancel_left, hv v h2 h3]
      refine ⟨hi6, by omega, by omega, ih t.length _ (Nat.lt_succ_self _) ⟨k + 1, t, V v :: st, _, rfl, by omega, rfl, fr_nS hf rfl, c3, h5, ⟨rd_nS, pSt_up (Nat.le_refl _) hp⟩, he, by show st.length + 1 ≤ 60; omega⟩⟩
    · dsimp only at h1 h2
      subst h1
      have c2 : wI w 30 k = -nI 3 := c2
      match st, h2, h3, hp, he, h60 with
      | x :: st, h2, h3, hp, he, h60 =>
        have h5 : st.length + 1 ≤ 60 := h60
        have e3 : wI w1 33 st.length = x := hp.1
        simp only [f66_29_50_b10, List.length_cons]
        simp (disch := first | omega | (simp only [fIn, fR, fC, Nat.reduceEqDiff, decide_false, decide_true, Bool.false_or, Bool.or_false, Bool.false_and, Bool.and_false, Bool.or_self, Bool.true_and, Bool.true_or, Bool.and_true, Bool.or_true, Bool.and_self]; done) | fail) only [hP_some, hP_let, hP_gd, hP_B, hP_if, reduceIte, q_lit, nI_add, pk_mul, q_lt, q_le, q_eq, q_cl, q_g, Bool.not_eq_true', decide_eq_false_iff_not, decide_eq_true_eq, q_div, q_rm, q_sub, q_m1, Nat.zero_add, Nat.add_zero, fr_rd hf, h32, nlt, c2, q_mp_lt, q_mm_lt, q_mm_eq, Nat.reduceAdd, Nat.reduceLT, show ¬ st.length + 1 < 1 by omega, Nat.add_sub_cancel]
        refine ⟨hi6, by omega, by omega, ?_⟩
        rw [e3]
        by_cases c : x = nI 0
        · rw [if_pos c]
          refine ⟨by omega, ih t.length _ (Nat.lt_succ_self _) ⟨k + 1, t, nI 1 :: st, _, rfl, by omega, rfl, fr_nS hf rfl, c3, h3, ⟨rd_nS, pSt_up (Nat.le_refl _) hp.2⟩, ?_, h60⟩⟩
          rw [← he]
          show _ = oEv V t ((if x = 0 then 1 else 0) :: st)
          rw [if_pos (show x = 0 from c)]
          rfl
        · rw [if_neg c]
          refine ⟨by omega, ih t.length _ (Nat.lt_succ_self _) ⟨k + 1, t, nI 0 :: st, _, rfl, by omega, rfl, fr_nS hf rfl, c3, h3, ⟨rd_nS, pSt_up (Nat.le_refl _) hp.2⟩, ?_, h60⟩⟩
          rw [← he]
          show _ = oEv V t ((if x = 0 then 1 else 0) :: st)
          rw [if_neg (show ¬ x = 0 from c)]
          rfl
    · dsimp only at h1 h2
      have n1 : ¬ op = 1 := by omega
      have n2 : ¬ op = 2 := by omega
      have n3 : ¬ op = 3 := by omega
      have c2 : wI w 30 k = -nI (oNg op) := by
        rw [c2]
        unfold cO
        rw [if_neg n1, if_neg n2]
      obtain ⟨b1, b2, b3⟩ := oNg_b h1 h2
      match st, h3, h4, hp, he, h60 with
      | y :: x :: st, h3, h4, hp, he, h60 =>
        have h5 : st.length + 1 + 1 ≤ 60 := h60
        have e3 : wI w1 33 (st.length + 1) = y := hp.1
        have e4 : wI w1 33 st.length = x := hp.2.1
        simp only [f66_29_50_b10, List.length_cons]
        simp (disch := first | omega | (simp only [fIn, fR, fC, Nat.reduceEqDiff, decide_false, decide_true, Bool.false_or, Bool.or_false, Bool.false_and, Bool.and_false, Bool.or_self, Bool.true_and, Bool.true_or, Bool.and_true, Bool.or_true, Bool.and_self]; done) | fail) only [hP_some, hP_let, hP_gd, hP_B, hP_if, reduceIte, q_lit, nI_add, pk_mul, q_lt, q_le, q_eq, q_cl, q_g, Bool.not_eq_true', decide_eq_false_iff_not, decide_eq_true_eq, q_div, q_rm, q_sub, q_m1, Nat.zero_add, Nat.add_zero, fr_rd hf, h32, nlt, c2, q_mp_lt, q_mm_lt, q_mm_eq, show 0 < oNg op by omega, show oNg op < 20 by omega, b3, show ¬ st.length + 1 + 1 < 2 by omega, Nat.add_sub_cancel, show st.length + 1 + 1 - 2 = st.length by omega]
        refine ⟨hi6, by omega, by omega, by omega, ?_⟩
        rw [e3, e4]
        refine c_joined h1 h2 ?_
        refine ⟨by omega, ih t.length _ (Nat.lt_succ_self _) ⟨k + 1, t, oWk op x y :: st, _, rfl, by omega, rfl, fr_nS hf rfl, c3, h4, ⟨rd_nS, pSt_up (Nat.le_refl _) hp.2.2⟩, ?_, by show st.length + 1 ≤ 60; omega⟩⟩
        rw [← he]
        show _ = oEv V t (oOne V (op, v) (y :: x :: st))
        unfold oOne
        rw [if_neg n1, if_neg n2, if_neg n3]
        rfl
end C2
