/-! ===== THE REFERENCE: rules, needs, troubles ===== -/
theorem cdM_len {w : mW} : ∀ (l : List gO) (k : Nat), cdM w k l → k + l.length < 4000
  | [], k, h => h.1
  | o :: t, k, h => by
    show k + (t.length + 1) < 4000
    rcases h with h | h
    · have := cdM_len t _ h.2.2.2.2
      omega
    · have := cdM_len t _ h.2.2.2
      omega
section M2
variable {g : gS} {w : mW} {Q : Int32 → mW → Prop}
theorem m_reck {V : Nat → Int32} {lo hi k : Nat} {l : List gO} (hc : cdM w k l) (hd : oDep lo hi 0 l) (hhi : hi < 10) (hv : ∀ i, lo ≤ i → i ≤ hi → wI w 103 i = V i) (hq : ∀ w', fr ([104], []) w w' → Q (oVal9 V l) w') : hP (f221_80 (nI k) w) Q := by
  have hlen := cdM_len l k hc
  unfold f221_80
  refine hP_loopF (fun n s => ∃ k l2 st w1, n = l2.length ∧ s = (nI st.length, nI k, w1) ∧ fr ([104], []) w w1 ∧ cdM w k l2 ∧ oDep lo hi st.length l2 ∧ pSt 104 w1 st ∧ oEv V l2 st = oEv V l [] ∧ st.length ≤ 60) l.length (by omega) ⟨k, l, [], w, rfl, rfl, fr_refl, hc, hd, trivial, rfl, by decide⟩ ?_
  rintro n s rec ⟨k, l2, st, w1, rfl, rfl, hf, hc, hd, hp, he, h60⟩ ih
  cases l2 with
  | nil =>
    obtain ⟨h1, h2⟩ := hc
    match st, hd, hp, he with
    | [x], hd, hp, he =>
      simp only [f221_80_b4]
      simp (disch := first | omega | (simp only [fIn, fR, fC, Nat.reduceEqDiff, decide_false, decide_true, Bool.false_or, Bool.or_false, Bool.false_and, Bool.and_false, Bool.or_self, Bool.true_and, Bool.true_or, Bool.and_true, Bool.or_true, Bool.and_self]; done) | fail) only [hP_some, hP_let, hP_gd, hP_B, hP_if, reduceIte, q_lit, nI_add, pk_mul, q_lt, q_le, q_eq, q_cl, q_g, Bool.not_eq_true', decide_eq_false_iff_not, decide_eq_true_eq, q_div, q_rm, q_sub, q_m1, Nat.zero_add, Nat.add_zero, fr_rd hf, h2]
      refine ⟨h1, ?_⟩
      have e2 : oVal9 V l = x := by
        unfold oVal9
        rw [← he]
        rfl
      have e3 : wI w1 104 0 = x := hp.1
      rw [e3, ← e2]
      exact hq w1 hf
  | cons o t =>
    obtain ⟨a, v⟩ := o
    rcases hd with ⟨h1, h2, h3, h4⟩ | ⟨h1, h2, h3, h4, h5⟩ | ⟨h1, h2, h3⟩ | ⟨h1, h2, h3, h4⟩
    · dsimp only at h1 h2
      subst h1
      rcases hc with ⟨c1, c2, c3, c4, c5⟩ | ⟨c1, -⟩
      · dsimp only at c3 c4
        simp only [f221_80_b4, f221_80_j36]
        simp (disch := first | omega | (simp only [fIn, fR, fC, Nat.reduceEqDiff, decide_false, decide_true, Bool.false_or, Bool.or_false, Bool.false_and, Bool.and_false, Bool.or_self, Bool.true_and, Bool.true_or, Bool.and_true, Bool.or_true, Bool.and_self]; done) | fail) only [hP_some, hP_let, hP_gd, hP_B, hP_if, reduceIte, q_lit, nI_add, pk_mul, q_lt, q_le, q_eq, q_cl, q_g, Bool.not_eq_true', decide_eq_false_iff_not, decide_eq_true_eq, q_div, q_rm, q_sub, q_m1, Nat.zero_add, Nat.add_zero, fr_rd hf, c3, c4, Nat.reduceEqDiff]
        refine ⟨by omega, by omega, by omega, by omega, ih t.length _ (Nat.lt_succ_self _) ⟨k + 2, t, nI v :: st, _, rfl, rfl, fr_nS hf rfl, c5, h4, ⟨rd_nS, pSt_up (Nat.le_refl _) hp⟩, he, by show st.length + 1 ≤ 60; omega⟩⟩
      · exact absurd c1 (by dsimp only; omega)
    · dsimp only at h1 h2 h3
      subst h1
      rcases hc with ⟨c1, c2, c3, c4, c5⟩ | ⟨c1, -⟩
      · dsimp only at c3 c4
        simp only [f221_80_b4, f221_80_j36]
        simp (disch := first | omega | (simp only [fIn, fR, fC, Nat.reduceEqDiff, decide_false, decide_true, Bool.false_or, Bool.or_false, Bool.false_and, Bool.and_false, Bool.or_self, Bool.true_and, Bool.true_or, Bool.and_true, Bool.or_true, Bool.and_self]; done) | fail) only [hP_some, hP_let, hP_gd, hP_B, hP_if, reduceIte, q_lit, nI_add, pk_mul, q_lt, q_le, q_eq, q_cl, q_g, Bool.not_eq_true', decide_eq_false_iff_not, decide_eq_true_eq, q_div, q_rm, q_sub, q_m1, Nat.zero_add, Nat.add_zero, fr_rd hf, c3, c4, Nat.reduceEqDiff]
        refine ⟨by omega, by omega, by omega, by omega, by omega, ?_⟩
        rw [hv v h2 h3]
        exact ih t.length _ (Nat.lt_succ_self _) ⟨k + 2, t, V v :: st, _, rfl, rfl, fr_nS hf rfl, c5, h5, ⟨rd_nS, pSt_up (Nat.le_refl _) hp⟩, he, by show st.length + 1 ≤ 60; omega⟩
      · exact absurd c1 (by dsimp only; omega)
    · dsimp only at h1 h2
      subst h1
      rcases hc with ⟨c1, -⟩ | ⟨c1, c2, c3, c4⟩
      · exact absurd c1 (by dsimp only; omega)
      · dsimp only at c3
        have hlen := cdM_len t _ c4
        match st, h2, h3, hp, he, h60 with
        | x :: st, h2, h3, hp, he, h60 =>
          have h5 : st.length + 1 ≤ 60 := h60
          have e3 : wI w1 104 st.length = x := hp.1
          simp only [f221_80_b4, List.length_cons]
          simp (disch := first | omega | (simp only [fIn, fR, fC, Nat.reduceEqDiff, decide_false, decide_true, Bool.false_or, Bool.or_false, Bool.false_and, Bool.and_false, Bool.or_self, Bool.true_and, Bool.true_or, Bool.and_true, Bool.or_true, Bool.and_self]; done) | fail) only [hP_some, hP_let, hP_gd, hP_B, hP_if, reduceIte, q_lit, nI_add, pk_mul, q_lt, q_le, q_eq, q_cl, q_g, Bool.not_eq_true', decide_eq_false_iff_not, decide_eq_true_eq, q_div, q_rm, q_sub, q_m1, Nat.zero_add, Nat.add_zero, fr_rd hf, c3, Nat.reduceEqDiff, Nat.add_sub_cancel]
          refine ⟨by omega, by omega, by omega, ?_⟩
          rw [e3]
          by_cases c : x = nI 0
          · rw [if_pos c]
            refine ⟨by omega, ih t.length _ (Nat.lt_succ_self _) ⟨k + 1, t, nI 1 :: st, _, rfl, rfl, fr_nS hf rfl, c4, h3, ⟨rd_nS, pSt_up (Nat.le_refl _) hp.2⟩, ?_, h60⟩⟩
            rw [← he]
            show _ = oEv V t ((if x = 0 then 1 else 0) :: st)
            rw [if_pos (show x = 0 from c)]
            rfl
          · rw [if_neg c]
            refine ⟨by omega, ih t.length _ (Nat.lt_succ_self _) ⟨k + 1, t, nI 0 :: st, _, rfl, rfl, fr_nS hf rfl, c4, h3, ⟨rd_nS, pSt_up (Nat.le_refl _) hp.2⟩, ?_, h60⟩⟩
            rw [← he]
            show _ = oEv V t ((if x = 0 then 1 else 0) :: st)
            rw [if_neg (show ¬ x = 0 from c)]
            rfl
    · dsimp only at h1 h2
      rcases hc with ⟨c1, -⟩ | ⟨c1, c2, c3, c4⟩
      · exact absurd c1 (by dsimp only; omega)
      · dsimp only at c3
        have hlen := cdM_len t _ c4
        match st, h3, h4, hp, he, h60 with
        | y :: x :: st, h3, h4, hp, he, h60 =>
          have h5 : st.length + 1 + 1 ≤ 60 := h60
          have e3 : wI w1 104 (st.length + 1) = y := hp.1
          have e4 : wI w1 104 st.length = x := hp.2.1
          have n0 : ¬ a = 0 := by omega
          have n1 : ¬ a = 1 := by omega
          have n2 : ¬ a = 2 := by omega
          have n3 : ¬ a = 3 := by omega
          simp only [f221_80_b4, List.length_cons]
          simp (disch := first | omega | (simp only [fIn, fR, fC, Nat.reduceEqDiff, decide_false, decide_true, Bool.false_or, Bool.or_false, Bool.false_and, Bool.and_false, Bool.or_self, Bool.true_and, Bool.true_or, Bool.and_true, Bool.or_true, Bool.and_self]; done) | fail) only [hP_some, hP_let, hP_gd, hP_B, hP_if, reduceIte, q_lit, nI_add, pk_mul, q_lt, q_le, q_eq, q_cl, q_g, Bool.not_eq_true', decide_eq_false_iff_not, decide_eq_true_eq, q_div, q_rm, q_sub, q_m1, Nat.zero_add, Nat.add_zero, fr_rd hf, c3, n0, n1, n2, n3, Nat.add_sub_cancel]
          refine ⟨by omega, by omega, by omega, by omega, ?_⟩
          rw [e3, e4]
          refine m_works h1 h2 ?_
          refine ⟨by omega, ih t.length _ (Nat.lt_succ_self _) ⟨k + 1, t, oWk a x y :: st, _, rfl, rfl, fr_nS hf rfl, c4, h4, ⟨rd_nS, pSt_up (Nat.le_refl _) hp.2.2⟩, ?_, by show st.length + 1 ≤ 60; omega⟩⟩
          rw [← he]
          show _ = oEv V t (oOne V (a, v) (y :: x :: st))
          unfold oOne
          rw [if_neg n1, if_neg n2, if_neg n3]
          rfl
end M2
