/-! ===== THE REFERENCE: the round, second by second ===== -/
/-- a cell, or 99: nowhere -/
def cE (c : Nat) : Int32 := if c = 99 then -nI 1 else nI c
def gLay (g : gS) (fm to bh aw : Nat) : Nat → List Nat
  | 0 => []
  | k + 1 => gLay g fm to bh aw k ++ (List.replicate (if fm ≤ g 6 k % gW g ∧ g 6 k % gW g < to then g 7 k else 0) (g 6 k) ++ List.replicate (if k = bh then aw else 0) 99)
theorem gLay_len {g : gS} (ho : gOk g) (fm to bh aw : Nat) : ∀ k, k ≤ gLk g → (gLay g fm to bh aw k).length ≤ 9 * k + (if bh < k then aw else 0)
  | 0, _ => by simp [gLay]
  | k + 1, h => by
    have h1 := gLay_len ho fm to bh aw k (by omega)
    have h2 := gOk_las ho k (by omega)
    simp only [gLay, List.length_append, List.length_replicate]
    by_cases c1 : fm ≤ g 6 k % gW g ∧ g 6 k % gW g < to
    · simp only [c1, and_self, reduceIte]
      split <;> split at h1 <;> split <;> omega
    · simp only [c1, reduceIte]
      split <;> split at h1 <;> split <;> omega
theorem gLay_mem {g : gS} (ho : gOk g) (fm to bh aw : Nat) : ∀ k, k ≤ gLk g → ∀ c ∈ gLay g fm to bh aw k, c < 40 ∨ c = 99
  | 0, _, c, hc => by simp [gLay] at hc
  | k + 1, h, c, hc => by
    simp only [gLay, List.mem_append] at hc
    rcases hc with hc | hc | hc
    · exact gLay_mem ho fm to bh aw k (by omega) c hc
    · have := List.eq_of_mem_replicate hc
      have h2 := gOk_lat ho k (by omega)
      have h3 := gOk_n ho
      omega
    · exact .inr (List.eq_of_mem_replicate hc)
def rLk (w : mW) (l : List Nat) : Prop := wI w 80 70 = nI l.length ∧ ∀ i, i < l.length → wI w 105 i = cE (l.getD i 0)
theorem rLk_fr {p : fP} {w w' : mW} {l : List Nat} (h : rLk w l) (hf : fr p w w') (h1 : fIn p 80 70 = false) (h2 : ∀ j, fIn p 105 j = false) : rLk w' l :=
  ⟨(fr_rd hf h1).trans h.1, fun i hi => (fr_rd hf (h2 i)).trans (h.2 i hi)⟩
theorem rLk_push {w : mW} {l : List Nat} {c : Nat} (h : rLk w l) : rLk (nS (nS w 105 l.length (cE c)) 80 70 (nI (l.length + 1))) (l ++ [c]) := by
  refine ⟨by rw [rd_nS, List.length_append]; rfl, fun i hi => ?_⟩
  rw [rd_nSa (by decide)]
  rw [List.length_append] at hi
  by_cases e : i = l.length
  · subst e
    rw [rd_nS]
    simp
  · rw [rd_nSj e]
    have hi2 : i < l.length := by simp at hi; omega
    rw [h.2 i hi2]
    simp [List.getD_eq_getElem?_getD, List.getElem?_append_left hi2]
section M4
variable {g : gS} {w : mW} {Q : Unit → mW → Prop}
abbrev pL : fP := ([105], [(80, 70)])
theorem m_lays99 {x1 x2 x3 : Int32} {bh aw k : Nat} {l : List Nat} {w1 : mW} {rec8 : Int32 × mW → Option (Unit × mW)} (hk : k < 12) (haw : aw ≤ 99) (hb : (nI k = x3) = (k = bh)) (hll : k = bh → l.length ≤ 108) (hf : fr pL w w1) (hl : rLk w1 l)
    (hrec : ∀ w2, fr pL w w2 → rLk w2 (l ++ List.replicate (if k = bh then aw else 0) 99) → hP (rec8 (nI (k + 1), w2)) Q) : hP (mLoop (f227_80_b99 x1 x2 x3 (nI aw) (nI k) rec8) nF (0, w1)) Q := by
  refine hP_loopF (fun n s => ∃ j w2, j + n = aw ∧ s = (nI j, w2) ∧ fr pL w w2 ∧ rLk w2 (l ++ List.replicate (if k = bh then j else 0) 99)) aw (by omega) ⟨0, w1, by omega, rfl, hf, by simpa using hl⟩ ?_
  rintro n s rec ⟨j, w2, hj, rfl, hf2, hl2⟩ ih
  simp only [f227_80_b99]
  by_cases c1 : j < aw
  · by_cases c2 : k = bh
    · have hll := hll c2
      simp only [c2, reduceIte] at hl2 hb
      have hlen := hl2.1
      rw [List.length_append, List.length_replicate] at hlen
      subst c2
      simp (disch := first | omega | (simp only [fIn, fR, fC, Nat.reduceEqDiff, decide_false, decide_true, Bool.false_or, Bool.or_false, Bool.false_and, Bool.and_false, Bool.or_self, Bool.true_and, Bool.true_or, Bool.and_true, Bool.or_true, Bool.and_self]; done) | fail) only [hP_some, hP_let, hP_gd, hP_B, hP_if, reduceIte, q_lit, nI_add, pk_mul, q_lt, q_le, q_eq, q_cl, q_g, Bool.not_eq_true', decide_eq_false_iff_not, decide_eq_true_eq, q_div, q_rm, q_sub, q_m1, Nat.zero_add, Nat.add_zero, c1, hb, hlen]
      refine ⟨by omega, ih (n - 1) _ (by omega) ⟨j + 1, _, by omega, rfl, fr_nS (fr_nS hf2 rfl) rfl, ?_⟩⟩
      have h9 := rLk_push (c := 99) hl2
      rw [List.length_append, List.length_replicate] at h9
      simp (disch := first | omega | (simp only [fIn, fR, fC, Nat.reduceEqDiff, decide_false, decide_true, Bool.false_or, Bool.or_false, Bool.false_and, Bool.and_false, Bool.or_self, Bool.true_and, Bool.true_or, Bool.and_true, Bool.or_true, Bool.and_self]; done) | fail) only [rd_nS, rd_nSa, rd_nSj, rd_ovn, rd_ovy, hlen, q_lit, nI_add, pk_mul, q_lt, q_le, q_eq, q_cl, q_g, Bool.not_eq_true', decide_eq_false_iff_not, decide_eq_true_eq, q_div, q_rm, q_sub, q_m1, Nat.zero_add, Nat.add_zero, reduceIte]
      rw [List.replicate_succ', ← List.append_assoc]
      exact h9
    · simp (disch := first | omega | (simp only [fIn, fR, fC, Nat.reduceEqDiff, decide_false, decide_true, Bool.false_or, Bool.or_false, Bool.false_and, Bool.and_false, Bool.or_self, Bool.true_and, Bool.true_or, Bool.and_true, Bool.or_true, Bool.and_self]; done) | fail) only [hP_some, hP_let, hP_gd, hP_B, hP_if, reduceIte, q_lit, nI_add, pk_mul, q_lt, q_le, q_eq, q_cl, q_g, Bool.not_eq_true', decide_eq_false_iff_not, decide_eq_true_eq, q_div, q_rm, q_sub, q_m1, Nat.zero_add, Nat.add_zero, c1, hb, c2]
      refine hrec w2 hf2 ?_
      simpa [c2] using hl2
  · have e : j = aw := by omega
    subst e
    simp (disch := first | omega | (simp only [fIn, fR, fC, Nat.reduceEqDiff, decide_false, decide_true, Bool.false_or, Bool.or_false, Bool.false_and, Bool.and_false, Bool.or_self, Bool.true_and, Bool.true_or, Bool.and_true, Bool.or_true, Bool.and_self]; done) | fail) only [hP_some, hP_let, hP_gd, hP_B, hP_if, reduceIte, q_lit, nI_add, pk_mul, q_lt, q_le, q_eq, q_cl, q_g, Bool.not_eq_true', decide_eq_false_iff_not, decide_eq_true_eq, q_div, q_rm, q_sub, q_m1, Nat.zero_add, Nat.add_zero, c1]
    exact hrec w2 hf2 hl2
theorem m_lays54 {x1 x2 x3 : Int32} {bh aw k c : Nat} {l : List Nat} {w1 : mW} {rec8 : Int32 × mW → Option (Unit × mW)} (hr : rM g w) (ho : gOk g) (hkl : k < gLk g) (hc : c < 40) (haw : aw ≤ 99) (hb : (nI k = x3) = (k = bh)) (hll : l.length ≤ 198) (hl0 : k = bh → l.length ≤ 99) (hf : fr pL w w1) (hl : rLk w1 l)
    (hrec : ∀ w2, fr pL w w2 → rLk w2 (l ++ (List.replicate (g 7 k) c ++ List.replicate (if k = bh then aw else 0) 99)) → hP (rec8 (nI (k + 1), w2)) Q) : hP (mLoop (f227_80_b54 x1 x2 x3 (nI aw) (nI k) (nI c) rec8) nF (0, w1)) Q := by
  have h1 := gOk_las ho k hkl
  have h2 := gOk_lk ho
  have hcE : cE c = nI c := if_neg (by omega)
  refine hP_loopF (fun n s => ∃ j w2, j + n = g 7 k ∧ s = (nI j, w2) ∧ fr pL w w2 ∧ rLk w2 (l ++ List.replicate j c)) (g 7 k) (by omega) ⟨0, w1, by omega, rfl, hf, by simpa using hl⟩ ?_
  rintro n s rec ⟨j, w2, hj, rfl, hf2, hl2⟩ ih
  simp only [f227_80_b54]
  by_cases c1 : j < g 7 k
  · have hlen := hl2.1
    rw [List.length_append, List.length_replicate] at hlen
    simp (disch := first | omega | (simp only [fIn, fR, fC, Nat.reduceEqDiff, decide_false, decide_true, Bool.false_or, Bool.or_false, Bool.false_and, Bool.and_false, Bool.or_self, Bool.true_and, Bool.true_or, Bool.and_true, Bool.or_true, Bool.and_self]; done) | fail) only [hP_some, hP_let, hP_gd, hP_B, hP_if, reduceIte, q_lit, nI_add, pk_mul, q_lt, q_le, q_eq, q_cl, q_g, Bool.not_eq_true', decide_eq_false_iff_not, decide_eq_true_eq, q_div, q_rm, q_sub, q_m1, Nat.zero_add, Nat.add_zero, fr_rd hf2, rM_wd hr, rM_hi hr, rM_sw hr, rM_lk hr, rM_la hr, rM_ti hr, rM_ga hr, rM_ca hr, rM_ch hr, rM_mi hr, rM_deep hr, rM_glare hr, rM_skill hr, rM_case hr, rM_at hr, rM_lat hr, rM_las hr, c1, hlen]
    refine ⟨by omega, by omega, ih (n - 1) _ (by omega) ⟨j + 1, _, by omega, rfl, fr_nS (fr_nS hf2 rfl) rfl, ?_⟩⟩
    have h9 := rLk_push (c := c) hl2
    rw [List.length_append, List.length_replicate, hcE] at h9
    simp (disch := first | omega | (simp only [fIn, fR, fC, Nat.reduceEqDiff, decide_false, decide_true, Bool.false_or, Bool.or_false, Bool.false_and, Bool.and_false, Bool.or_self, Bool.true_and, Bool.true_or, Bool.and_true, Bool.or_true, Bool.and_self]; done) | fail) only [rd_nS, rd_nSa, rd_nSj, rd_ovn, rd_ovy, hlen, q_lit, nI_add, pk_mul, q_lt, q_le, q_eq, q_cl, q_g, Bool.not_eq_true', decide_eq_false_iff_not, decide_eq_true_eq, q_div, q_rm, q_sub, q_m1, Nat.zero_add, Nat.add_zero]
    rw [List.replicate_succ', ← List.append_assoc]
    exact h9
  · have e : j = g 7 k := by omega
    subst e
    simp (disch := first | omega | (simp only [fIn, fR, fC, Nat.reduceEqDiff, decide_false, decide_true, Bool.false_or, Bool.or_false, Bool.false_and, Bool.and_false, Bool.or_self, Bool.true_and, Bool.true_or, Bool.and_true, Bool.or_true, Bool.and_self]; done) | fail) only [hP_some, hP_let, hP_gd, hP_B, hP_if, reduceIte, q_lit, nI_add, pk_mul, q_lt, q_le, q_eq, q_cl, q_g, Bool.not_eq_true', decide_eq_false_iff_not, decide_eq_true_eq, q_div, q_rm, q_sub, q_m1, Nat.zero_add, Nat.add_zero, fr_rd hf2, rM_wd hr, rM_hi hr, rM_sw hr, rM_lk hr, rM_la hr, rM_ti hr, rM_ga hr, rM_ca hr, rM_ch hr, rM_mi hr, rM_deep hr, rM_glare hr, rM_skill hr, rM_case hr, rM_at hr, rM_lat hr, rM_las hr, c1]
    refine ⟨by omega, ?_⟩
    refine m_lays99 (by omega) haw hb (fun e => by have := hl0 e; simp; omega) hf2 hl2 (fun w3 hf3 hl3 => hrec w3 hf3 ?_)
    rw [← List.append_assoc]
    exact hl3
theorem m_lays {x3 : Int32} {fm to bh aw : Nat} (hr : rM g w) (ho : gOk g) (hfm : fm ≤ 40) (hto : to ≤ 40) (haw : aw ≤ 99) (hb : ∀ k, k < 12 → (nI k = x3) = (k = bh)) (hq : ∀ w', fr pL w w' → rLk w' (gLay g fm to bh aw (gLk g)) → Q () w') : hP (f227_80 (nI fm) (nI to) x3 (nI aw) w) Q := by
  have h2 := gOk_lk ho
  have hwd := gOk_wd ho
  have hn := gOk_n ho
  unfold f227_80
  simp only [hP_let]
  refine hP_loopF (fun n s => ∃ k w1, k + n = gLk g ∧ s = (nI k, w1) ∧ fr pL w w1 ∧ rLk w1 (gLay g fm to bh aw k) ∧ (bh < k → k = gLk g ∨ True)) (gLk g) (by omega) ⟨0, nS w 80 70 0, by omega, rfl, fr_nS fr_refl rfl, ⟨by rw [rd_nS]; rfl, fun i hi => absurd hi (Nat.not_lt_zero _)⟩, fun _ => .inr trivial⟩ ?_
  rintro n s rec ⟨k, w1, hk, rfl, hf, hl, -⟩ ih
  simp only [f227_80_b8]
  by_cases c1 : k < gLk g
  · have hc := gOk_lat ho k c1
    have hm : g 6 k % gW g < 40 := Nat.lt_of_le_of_lt (Nat.mod_le _ _) (by omega)
    have hlen := gLay_len ho fm to bh aw k (by omega)
    have next : ∀ w2, fr pL w w2 → rLk w2 (gLay g fm to bh aw (k + 1)) → hP (rec (nI (k + 1), w2)) Q := fun w2 hf2 hl2 => ih (n - 1) _ (by omega) ⟨k + 1, w2, by omega, rfl, hf2, hl2, fun _ => .inr trivial⟩
    simp (disch := first | omega | (simp only [fIn, fR, fC, Nat.reduceEqDiff, decide_false, decide_true, Bool.false_or, Bool.or_false, Bool.false_and, Bool.and_false, Bool.or_self, Bool.true_and, Bool.true_or, Bool.and_true, Bool.or_true, Bool.and_self]; done) | fail) only [hP_some, hP_let, hP_gd, hP_B, hP_if, reduceIte, q_lit, nI_add, pk_mul, q_lt, q_le, q_eq, q_cl, q_g, Bool.not_eq_true', decide_eq_false_iff_not, decide_eq_true_eq, q_div, q_rm, q_sub, q_m1, Nat.zero_add, Nat.add_zero, fr_rd hf, rM_wd hr, rM_hi hr, rM_sw hr, rM_lk hr, rM_la hr, rM_ti hr, rM_ga hr, rM_ca hr, rM_ch hr, rM_mi hr, rM_deep hr, rM_glare hr, rM_skill hr, rM_case hr, rM_at hr, rM_lat hr, rM_las hr, c1]
    refine ⟨by omega, by omega, ?_⟩
    have hl0 : k = bh → (gLay g fm to bh aw k).length ≤ 99 := fun e => by
      rw [if_neg (by omega)] at hlen
      omega
    have hl1 : (gLay g fm to bh aw k).length ≤ 198 := by
      split at hlen <;> omega
    have no : ¬ (fm ≤ g 6 k % gW g ∧ g 6 k % gW g < to) → hP (mLoop (f227_80_b99 (nI fm) (nI to) x3 (nI aw) (nI k) rec) nF (0, w1)) Q := by
      intro c2
      refine m_lays99 (bh := bh) (by omega) haw (hb k (by omega)) (fun e => by have := hl0 e; omega) hf hl (fun w2 hf2 hl2 => next w2 hf2 ?_)
      simp only [gLay, c2, reduceIte, List.replicate_zero, List.nil_append]
      exact hl2
    by_cases c2 : g 6 k % gW g < fm
    · rw [if_pos c2]
      exact no (by omega)
    · rw [if_neg c2]
      refine ⟨by omega, ?_⟩
      by_cases c3 : g 6 k % gW g < to
      · rw [if_pos c3]
        refine m_lays54 (bh := bh) hr ho c1 (by omega) haw (hb k (by omega)) hl1 hl0 hf hl (fun w2 hf2 hl2 => next w2 hf2 ?_)
        have c4 : fm ≤ g 6 k % gW g ∧ g 6 k % gW g < to := ⟨by omega, c3⟩
        simp only [gLay, c4, and_self, reduceIte]
        exact hl2
      · rw [if_neg c3]
        exact no (by omega)
  · have e : k = gLk g := by omega
    subst e
    simp (disch := first | omega | (simp only [fIn, fR, fC, Nat.reduceEqDiff, decide_false, decide_true, Bool.false_or, Bool.or_false, Bool.false_and, Bool.and_false, Bool.or_self, Bool.true_and, Bool.true_or, Bool.and_true, Bool.or_true, Bool.and_self]; done) | fail) only [hP_some, hP_let, hP_gd, hP_B, hP_if, reduceIte, q_lit, nI_add, pk_mul, q_lt, q_le, q_eq, q_cl, q_g, Bool.not_eq_true', decide_eq_false_iff_not, decide_eq_true_eq, q_div, q_rm, q_sub, q_m1, Nat.zero_add, Nat.add_zero, fr_rd hf, rM_wd hr, rM_hi hr, rM_sw hr, rM_lk hr, rM_la hr, rM_ti hr, rM_ga hr, rM_ca hr, rM_ch hr, rM_mi hr, rM_deep hr, rM_glare hr, rM_skill hr, rM_case hr, rM_at hr, rM_lat hr, rM_las hr, c1]
    exact hq w1 hf hl
theorem m_laysAll (hr : rM g w) (ho : gOk g) (hq : ∀ w', fr pL w w' → rLk w' (gLay g 0 (gW g) 99 0 (gLk g)) → Q () w') : hP (f228_80 w) Q := by
  have hwd := gOk_wd ho
  unfold f228_80
  simp (disch := first | omega | (simp only [fIn, fR, fC, Nat.reduceEqDiff, decide_false, decide_true, Bool.false_or, Bool.or_false, Bool.false_and, Bool.and_false, Bool.or_self, Bool.true_and, Bool.true_or, Bool.and_true, Bool.or_true, Bool.and_self]; done) | fail) only [hP_some, hP_let, hP_gd, hP_B, hP_if, reduceIte, rM_wd hr, rM_hi hr, rM_sw hr, rM_lk hr, rM_la hr, rM_ti hr, rM_ga hr, rM_ca hr, rM_ch hr, rM_mi hr, rM_deep hr, rM_glare hr, rM_skill hr, rM_case hr, rM_at hr, rM_lat hr, rM_las hr]
  refine m_lays (fm := 0) (aw := 0) (bh := 99) hr ho (by omega) (by omega) (by omega) (fun k hk => ?_) (fun w1 hf hl => hq w1 hf hl)
  have e1 : ¬ k = 99 := by omega
  have e2 := q_neq (a := k) (by omega)
  simp only [e1]
  exact e2
end M4
