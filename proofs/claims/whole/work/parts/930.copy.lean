/-! ===== THE TEXT: what was read becomes the pool ===== -/
section COPY
variable {w : mW}
/-- the class's pool, copied -/
def cpP (L : Nat) (w w' : mW) : Prop := (wI w' 24 0 = wI w 3 0 ∧ wI w' 24 1 = wI w 3 1 ∧ wI w' 24 4 = wI w 3 4 ∧ wI w' 24 6 = wI w 3 6 ∧ wI w' 24 7 = wI w 3 7 ∧ wI w' 24 8 = wI w 3 8 ∧ wI w' 24 9 = wI w 3 9 ∧ wI w' 24 10 = wI w 3 10 ∧ wI w' 24 12 = wI w 3 12 ∧ wI w' 29 5 = wI w 8 5) ∧ (∀ i, i < 40 → wI w' 25 i = wI w 4 i) ∧ (∀ i, i < 40 → wI w' 26 i = wI w 5 i) ∧ (∀ i, i < 12 → wI w' 27 i = wI w 6 i) ∧ (∀ i, i < 40 → wI w' 28 i = wI w 7 i) ∧ (∀ i, i < L → wI w' 30 i = wI w 9 i) ∧ (∀ i, i < 6 → wI w' 31 i = wI w 10 i) ∧ (∀ i, i < 6 → wI w' 32 i = wI w 11 i)
theorem c_newP {Q : Unit → mW → Prop} {L t : Nat} (hL : wI w 8 1 = nI L) (h7 : L ≤ 700) (h8 : wI w 8 5 = nI t) (ht : t ≤ 1) (hq : ∀ w', fr ([25, 26, 27, 28, 30, 31, 32], [(24, 0), (24, 1), (24, 4), (24, 6), (24, 7), (24, 8), (24, 9), (24, 10), (24, 12), (29, 1), (29, 5)]) w w' → cpP L w w' → Q () w') : hP (f44_24_3 w) Q := by
  unfold f44_24_3 f61_29_8
  simp only [hP_let, hP_some, hP_B, hP_gd]
  simp (disch := first | omega | (simp only [fIn, fR, fC, Nat.reduceEqDiff, decide_false, decide_true, Bool.false_or, Bool.or_false, Bool.false_and, Bool.and_false, Bool.or_self, Bool.true_and, Bool.true_or, Bool.and_true, Bool.or_true, Bool.and_self]; done) | fail) only [rd_cpya, rd_nSa, rd_nSj, rd_nS, hL, h8, q_cl]
  refine ⟨?_, ?_, ?_⟩
  · have : t = 0 ∨ t = 1 := by omega
    rcases this with rfl | rfl <;> decide
  · have key : nGc (nI L) 0 0 700 700 = true := by
      unfold nGc
      simp (disch := first | omega | (simp only [fIn, fR, fC, Nat.reduceEqDiff, decide_false, decide_true, Bool.false_or, Bool.or_false, Bool.false_and, Bool.and_false, Bool.or_self, Bool.true_and, Bool.true_or, Bool.and_true, Bool.or_true, Bool.and_self]; done) | fail) only [q_lit, nI_add, pk_mul, q_lt, q_le, q_eq, q_cl, q_g, Bool.not_eq_true', decide_eq_false_iff_not, decide_eq_true_eq, q_div, q_rm, q_sub, q_m1, Nat.zero_add, Nat.add_zero]
      simp
      omega
    exact key
  · refine hq _ (fr_cpy (fr_cpy (fr_cpy (fr_nS (fr_nS (fr_nS (fr_cpy (fr_nS (fr_nS (fr_nS (fr_nS (fr_nS (fr_cpy (fr_nS (fr_cpy (fr_cpy (fr_nS (fr_nS fr_refl rfl) rfl) rfl) rfl) rfl) rfl) rfl) rfl) rfl) rfl) rfl) rfl) rfl) rfl) rfl) rfl) rfl) rfl) ?_
    refine ⟨⟨?_, ?_, ?_, ?_, ?_, ?_, ?_, ?_, ?_, ?_⟩, fun i hi => ?_, fun i hi => ?_, fun i hi => ?_, fun i hi => ?_, fun i hi => ?_, fun i hi => ?_, fun i hi => ?_⟩ <;> simp (disch := first | omega | (simp only [fIn, fR, fC, Nat.reduceEqDiff, decide_false, decide_true, Bool.false_or, Bool.or_false, Bool.false_and, Bool.and_false, Bool.or_self, Bool.true_and, Bool.true_or, Bool.and_true, Bool.or_true, Bool.and_self]; done) | fail) only [rd_cpya, rd_cpyy, rd_nSa, rd_nSj, rd_nS, h8]
theorem c_newL {Q : Unit → mW → Prop} (hq : ∀ w', fr ([35, 36, 37, 38, 39, 40, 41], [(34, 1), (34, 4), (34, 5), (34, 7), (34, 9)]) w w' → cpC w w' 34 35 36 37 38 39 40 41 13 14 15 16 17 18 19 20 → Q () w') : hP (f2_34_13 w) Q := by
  unfold f2_34_13
  simp only [hP_let, hP_some]
  refine hq _ (fr_cpy (fr_cpy (fr_nS (fr_cpy (fr_nS (fr_cpy (fr_nS (fr_nS (fr_cpy (fr_cpy (fr_nS (fr_cpy fr_refl rfl) rfl) rfl) rfl) rfl) rfl) rfl) rfl) rfl) rfl) rfl) rfl) ?_
  refine ⟨fun i hi => ?_, fun i hi => ?_, fun i hi => ?_, fun i hi => ?_, fun i hi => ?_, fun i hi => ?_, fun i hi => ?_, ?_, ?_, ?_, ?_, ?_⟩ <;> simp (disch := first | omega | (simp only [fIn, fR, fC, Nat.reduceEqDiff, decide_false, decide_true, Bool.false_or, Bool.or_false, Bool.false_and, Bool.and_false, Bool.or_self, Bool.true_and, Bool.true_or, Bool.and_true, Bool.or_true, Bool.and_self]; done) | fail) only [rd_cpya, rd_cpyy, rd_nSa, rd_nSj, rd_nS]
/-- the reference's pool, copied -/
def cpM (w w' : mW) : Prop := (wI w' 80 1 = wI w 80 30 ∧ wI w' 80 2 = wI w 80 31 ∧ wI w' 80 3 = wI w 80 32 ∧ wI w' 80 4 = wI w 80 33 ∧ wI w' 80 5 = wI w 80 34 ∧ wI w' 80 6 = wI w 80 35 ∧ wI w' 80 7 = wI w 80 36 ∧ wI w' 80 8 = wI w 80 37 ∧ wI w' 80 9 = wI w 80 38 ∧ wI w' 80 10 = wI w 80 39 ∧ wI w' 100 36 = wI w 80 40 ∧ wI w' 100 37 = nI 0 ∧ wI w' 80 63 = nI 0 ∧ wI w' 80 74 = nI 0 ∧ wI w' 80 75 = nI 0 ∧ wI w' 80 71 = -nI 1 ∧ wI w' 80 79 = nI 0) ∧ (∀ i, i < 40 → wI w' 81 i = wI w 89 i) ∧ (∀ i, i < 40 → wI w' 82 i = wI w 90 i) ∧ (∀ i, i < 12 → wI w' 83 i = wI w 91 i) ∧ (∀ i, i < 50 → wI w' 84 i = wI w 95 i) ∧ (∀ i, i < 4 → wI w' 85 i = wI w 96 i) ∧ (∀ i, i < 4000 → wI w' 86 i = wI w 97 i) ∧ (∀ k, k < 12 → wI w' 100 k = wI w 92 k ∧ wI w' 100 (12 + k) = wI w 93 k ∧ wI w' 100 (24 + k) = wI w 94 k)
abbrev pMc : fP := ([81, 82, 83, 84, 85, 86, 100], [(80, 1), (80, 2), (80, 3), (80, 4), (80, 5), (80, 6), (80, 7), (80, 8), (80, 9), (80, 10), (80, 63), (80, 71), (80, 74), (80, 75), (80, 79)])
theorem m_newP {Q : Int32 → mW → Prop} (hg : wI w 80 19 = nI 0) (hq : ∀ w', fr pMc w w' → cpM w w' → Q (nI 0) w') : hP (f213_80_j232 w) Q := by
  unfold f213_80_j232
  rw [hP_B]
  refine m_good1 hg ?_
  rw [if_neg (by decide), hP_let, hP_let, hP_let, hP_let, hP_let, hP_let, hP_let, hP_let, hP_let, hP_let]
  have st : ∀ (u : mW) (j k : Nat) (v : Int32), wI (nS u 80 j v) 80 k = if k = j then v else wI u 80 k := fun u j k v => by
    by_cases e : k = j
    · rw [if_pos e, e, rd_nS]
    · rw [if_neg e, rd_nSj e]
  generalize hw1 : nS (nS (nS (nS (nS (nS (nS (nS (nS (nS w 80 1 (wI w 80 30)) 80 2 _) 80 3 _) 80 4 _) 80 5 _) 80 6 _) 80 7 _) 80 8 _) 80 9 _) 80 10 _ = w1
  have f1 : fr ([], [(80, 1), (80, 2), (80, 3), (80, 4), (80, 5), (80, 6), (80, 7), (80, 8), (80, 9), (80, 10)]) w w1 := by
    rw [← hw1]
    exact fr_nS (fr_nS (fr_nS (fr_nS (fr_nS (fr_nS (fr_nS (fr_nS (fr_nS (fr_nS fr_refl rfl) rfl) rfl) rfl) rfl) rfl) rfl) rfl) rfl) rfl
  have s1 : wI w1 80 1 = wI w 80 30 ∧ wI w1 80 2 = wI w 80 31 ∧ wI w1 80 3 = wI w 80 32 ∧ wI w1 80 4 = wI w 80 33 ∧ wI w1 80 5 = wI w 80 34 ∧ wI w1 80 6 = wI w 80 35 ∧ wI w1 80 7 = wI w 80 36 ∧ wI w1 80 8 = wI w 80 37 ∧ wI w1 80 9 = wI w 80 38 ∧ wI w1 80 10 = wI w 80 39 := by
    rw [← hw1]
    refine ⟨?_, ?_, ?_, ?_, ?_, ?_, ?_, ?_, ?_, ?_⟩ <;> simp only [st, Nat.reduceEqDiff, if_true, if_false, reduceIte]
  clear hw1
  rw [hP_B]
  refine m_copies (L := 40) (fun _ _ _ => rfl) (by decide) (by decide) (fun w2 f2 x2 => ?_)
  rw [hP_B]
  refine m_copies (L := 40) (fun _ _ _ => rfl) (by decide) (by decide) (fun w3 f3 x3 => ?_)
  rw [hP_B]
  refine m_copies (L := 12) (fun _ _ _ => rfl) (by decide) (by decide) (fun w4 f4 x4 => ?_)
  rw [hP_B]
  refine m_copies (L := 50) (fun _ _ _ => rfl) (by decide) (by decide) (fun w5 f5 x5 => ?_)
  rw [hP_B]
  refine m_copies (L := 4) (fun _ _ _ => rfl) (by decide) (by decide) (fun w6 f6 x6 => ?_)
  rw [hP_B]
  refine m_copies (L := 4000) (fun _ _ _ => rfl) (by decide) (by decide) (fun w7 f7 x7 => ?_)
  have f27 : fr ([81, 82, 83, 84, 85, 86], []) w1 w7 := fr_then (fr_then (fr_then (fr_then (fr_then (fr_up f2 (by decide)) f3 (by decide)) f4 (by decide)) f5 (by decide)) f6 (by decide)) f7 (by decide)
  refine hP_loopF (fun m s => ∃ i w8, i + m = 12 ∧ s = (nI i, w8) ∧ fr ([100], []) w7 w8 ∧ ∀ k, k < i → wI w8 100 k = wI w7 92 k ∧ wI w8 100 (12 + k) = wI w7 93 k ∧ wI w8 100 (24 + k) = wI w7 94 k) 12 (by decide) ⟨0, w7, rfl, rfl, fr_refl, fun k hk => absurd hk (Nat.not_lt_zero _)⟩ ?_
  rintro m s rec ⟨i, w8, him, rfl, f8, h8⟩ ih
  simp only [f213_80_b408]
  by_cases c : i < 12
  · have e0 : 0 + nI i = nI i := by
      show nI 0 + nI i = _
      rw [nI_add, Nat.zero_add]
    have e12 : 12 + nI i = nI (12 + i) := by
      show nI 12 + nI i = _
      rw [nI_add]
    have e24 : 24 + nI i = nI (24 + i) := by
      show nI 24 + nI i = _
      rw [nI_add]
    have ei : nI i + 1 = nI (i + 1) := by rw [← nI_add]; rfl
    rw [if_pos (by rw [q_lit, q_lt (by omega) (by omega)]; exact c), e0, e12, e24, hP_gd, hP_gd, hP_let, hP_gd, hP_gd, hP_let, hP_gd, hP_gd, hP_let, q_cl (by omega), q_cl (by omega), q_cl (by omega), ei, rd_nSa (by decide), rd_nSa (by decide), rd_nSa (by decide), fr_rd f8 rfl, fr_rd f8 rfl, fr_rd f8 rfl]
    refine ⟨by rw [q_g (by omega)]; exact c, by rw [q_g (by omega)]; omega, by rw [q_g (by omega)]; exact c, by rw [q_g (by omega)]; omega, by rw [q_g (by omega)]; exact c, by rw [q_g (by omega)]; omega, ih (m - 1) _ (by omega) ⟨i + 1, _, by omega, rfl, fr_nS (fr_nS (fr_nS f8 rfl) rfl) rfl, fun k hk => ?_⟩⟩
    by_cases e : k = i
    · subst e
      refine ⟨?_, ?_, ?_⟩
      · rw [rd_nSj (by omega), rd_nSj (by omega), rd_nS]
      · rw [rd_nSj (by omega), rd_nS]
      · rw [rd_nS]
    · have := h8 k (by omega)
      refine ⟨?_, ?_, ?_⟩
      · rw [rd_nSj (by omega), rd_nSj (by omega), rd_nSj (by omega)]; exact this.1
      · rw [rd_nSj (by omega), rd_nSj (by omega), rd_nSj (by omega)]; exact this.2.1
      · rw [rd_nSj (by omega), rd_nSj (by omega), rd_nSj (by omega)]; exact this.2.2
  · have e12 : i = 12 := by omega
    subst e12
    rw [if_neg (by decide), hP_let, hP_let, hP_let, hP_let, hP_let, hP_let, hP_let, hP_some]
    have f9 : fr ([], [(100, 36), (100, 37), (80, 63), (80, 74), (80, 75), (80, 71), (80, 79)]) w8 (nS (nS (nS (nS (nS (nS (nS w8 100 36 (wI w8 80 40)) 100 37 0) 80 63 0) 80 74 0) 80 75 0) 80 71 (-1)) 80 79 0) := fr_nS (fr_nS (fr_nS (fr_nS (fr_nS (fr_nS (fr_nS fr_refl rfl) rfl) rfl) rfl) rfl) rfl) rfl
    have Q80 : ∀ {k : Nat}, fIn ([], [(100, 36), (100, 37), (80, 63), (80, 74), (80, 75), (80, 71), (80, 79)]) 80 k = false → wI (nS (nS (nS (nS (nS (nS (nS w8 100 36 (wI w8 80 40)) 100 37 0) 80 63 0) 80 74 0) 80 75 0) 80 71 (-1)) 80 79 0) 80 k = wI w1 80 k := fun h => (fr_rd f9 h).trans ((fr_rd f8 rfl).trans (fr_rd f27 rfl))
    have e40 : wI w8 80 40 = wI w 80 40 := (fr_rd f8 rfl).trans ((fr_rd f27 rfl).trans (fr_rd f1 rfl))
    have k100 : ∀ k, k < 36 → wI (nS (nS (nS (nS (nS (nS (nS w8 100 36 (wI w8 80 40)) 100 37 0) 80 63 0) 80 74 0) 80 75 0) 80 71 (-1)) 80 79 0) 100 k = wI w8 100 k := fun k hk => by
      rw [rd_nSa (by decide), rd_nSa (by decide), rd_nSa (by decide), rd_nSa (by decide), rd_nSa (by decide), rd_nSj (by omega), rd_nSj (by omega)]
    refine hq _ (fr_then (fr_then (fr_then (fr_up f1 (by decide)) f27 (by decide)) f8 (by decide)) f9 (by decide)) ⟨⟨?_, ?_, ?_, ?_, ?_, ?_, ?_, ?_, ?_, ?_, ?_, ?_, ?_, ?_, ?_, ?_, ?_⟩, fun i hi => ?_, fun i hi => ?_, fun i hi => ?_, fun i hi => ?_, fun i hi => ?_, fun i hi => ?_, fun k hk => ?_⟩
    · rw [Q80 rfl]; exact s1.1
    · rw [Q80 rfl]; exact s1.2.1
    · rw [Q80 rfl]; exact s1.2.2.1
    · rw [Q80 rfl]; exact s1.2.2.2.1
    · rw [Q80 rfl]; exact s1.2.2.2.2.1
    · rw [Q80 rfl]; exact s1.2.2.2.2.2.1
    · rw [Q80 rfl]; exact s1.2.2.2.2.2.2.1
    · rw [Q80 rfl]; exact s1.2.2.2.2.2.2.2.1
    · rw [Q80 rfl]; exact s1.2.2.2.2.2.2.2.2.1
    · rw [Q80 rfl]; exact s1.2.2.2.2.2.2.2.2.2
    · rw [rd_nSa (by decide), rd_nSa (by decide), rd_nSa (by decide), rd_nSa (by decide), rd_nSa (by decide), rd_nSj (by decide), rd_nS]; exact e40
    · rw [rd_nSa (by decide), rd_nSa (by decide), rd_nSa (by decide), rd_nSa (by decide), rd_nSa (by decide), rd_nS]; rfl
    · rw [rd_nSj (by decide), rd_nSj (by decide), rd_nSj (by decide), rd_nSj (by decide), rd_nS]; rfl
    · rw [rd_nSj (by decide), rd_nSj (by decide), rd_nSj (by decide), rd_nS]; rfl
    · rw [rd_nSj (by decide), rd_nSj (by decide), rd_nS]; rfl
    · rw [rd_nSj (by decide), rd_nS]; rfl
    · rw [rd_nS]; rfl
    · rw [fr_rd f9 rfl, fr_rd f8 rfl, fr_rd f7 rfl, fr_rd f6 rfl, fr_rd f5 rfl, fr_rd f4 rfl, fr_rd f3 rfl, x2 i hi]; exact fr_rd f1 rfl
    · rw [fr_rd f9 rfl, fr_rd f8 rfl, fr_rd f7 rfl, fr_rd f6 rfl, fr_rd f5 rfl, fr_rd f4 rfl, x3 i hi, fr_rd f2 rfl]; exact fr_rd f1 rfl
    · rw [fr_rd f9 rfl, fr_rd f8 rfl, fr_rd f7 rfl, fr_rd f6 rfl, fr_rd f5 rfl, x4 i hi, fr_rd f3 rfl, fr_rd f2 rfl]; exact fr_rd f1 rfl
    · rw [fr_rd f9 rfl, fr_rd f8 rfl, fr_rd f7 rfl, fr_rd f6 rfl, x5 i hi, fr_rd f4 rfl, fr_rd f3 rfl, fr_rd f2 rfl]; exact fr_rd f1 rfl
    · rw [fr_rd f9 rfl, fr_rd f8 rfl, fr_rd f7 rfl, x6 i hi, fr_rd f5 rfl, fr_rd f4 rfl, fr_rd f3 rfl, fr_rd f2 rfl]; exact fr_rd f1 rfl
    · rw [fr_rd f9 rfl, fr_rd f8 rfl, x7 i hi, fr_rd f6 rfl, fr_rd f5 rfl, fr_rd f4 rfl, fr_rd f3 rfl, fr_rd f2 rfl]; exact fr_rd f1 rfl
    · have := h8 k hk
      rw [k100 k (by omega), k100 (12 + k) (by omega), k100 (24 + k) (by omega), this.1, this.2.1, this.2.2, fr_rd f27 rfl, fr_rd f27 rfl, fr_rd f27 rfl, fr_rd f1 rfl, fr_rd f1 rfl, fr_rd f1 rfl]
      exact ⟨rfl, rfl, rfl⟩
end COPY
