/-! ===== LINES: what they keep ===== -/
section KEEP
variable {bt : Nat → Nat} {n : Nat}
theorem gU_s {g : gS} {a j v : Nat} : gU g a j v a j = v := if_pos ⟨rfl, rfl⟩
theorem gU_o {g : gS} {a j v x y : Nat} (h : ¬ (x = a ∧ y = j)) : gU g a j v x y = g x y := if_neg h
theorem gU_j {g : gS} {a j v y : Nat} (h : ¬ y = j) : gU g a j v a y = g a y := if_neg (fun c => h c.2)
theorem ok_deep {g : gS} {c v : Nat} (ho : gOk g) (hv : v ≤ 9) : gOk (gU g 1 c v) :=
  ⟨@gOk_wd g ho, @gOk_hi g ho, @gOk_sw g ho, @gOk_lk g ho, @gOk_la g ho, @gOk_ti g ho, @gOk_ga g ho, @gOk_ca g ho, @gOk_ch g ho, @gOk_mi g ho, @gOk_n g ho, fun c9 h9 => by
    by_cases e : c9 = c
    · rw [e, gU_s]; exact hv
    · rw [gU_j e]; exact gOk_deep ho c9 h9, @gOk_glare g ho, @gOk_skill g ho, @gOk_case g ho, @gOk_at g ho, @gOk_lat g ho, @gOk_las g ho⟩
theorem ok_glare {g : gS} {c v : Nat} (ho : gOk g) (hv : v ≤ 9) : gOk (gU g 2 c v) :=
  ⟨@gOk_wd g ho, @gOk_hi g ho, @gOk_sw g ho, @gOk_lk g ho, @gOk_la g ho, @gOk_ti g ho, @gOk_ga g ho, @gOk_ca g ho, @gOk_ch g ho, @gOk_mi g ho, @gOk_n g ho, @gOk_deep g ho, fun c9 h9 => by
    by_cases e : c9 = c
    · rw [e, gU_s]; exact hv
    · rw [gU_j e]; exact gOk_glare ho c9 h9, @gOk_skill g ho, @gOk_case g ho, @gOk_at g ho, @gOk_lat g ho, @gOk_las g ho⟩
theorem ok_sw {g : gS} {c v : Nat} (ho : gOk g) (h12 : gSw g < 12) (hc : c < gW g * gH g) (hv : v ≤ 9) : gOk (gU (gU (gU g 5 (gSw g) c) 3 (gSw g) v) 0 2 (gSw g + 1)) :=
  ⟨@gOk_wd g ho, @gOk_hi g ho, h12, @gOk_lk g ho, @gOk_la g ho, @gOk_ti g ho, @gOk_ga g ho, @gOk_ca g ho, @gOk_ch g ho, @gOk_mi g ho, @gOk_n g ho, @gOk_deep g ho, @gOk_glare g ho, fun s h9 => by
    have h9 : s < gSw g + 1 := h9
    show gU g 3 (gSw g) v 3 s ≤ 9
    by_cases e : s = gSw g
    · rw [e, gU_s]; exact hv
    · rw [gU_j e]; exact gOk_skill ho s (by omega), @gOk_case g ho, fun s h9 => by
    have h9 : s < gSw g + 1 := h9
    show gU g 5 (gSw g) c 5 s < gW g * gH g
    by_cases e : s = gSw g
    · rw [e, gU_s]; exact hc
    · rw [gU_j e]; exact gOk_at ho s (by omega), @gOk_lat g ho, @gOk_las g ho⟩
theorem ok_lk {g : gS} {c v : Nat} (ho : gOk g) (h12 : gLk g < 12) (hc : c < gW g * gH g) (hv : v ≤ 9) : gOk (gU (gU (gU g 6 (gLk g) c) 7 (gLk g) v) 0 3 (gLk g + 1)) :=
  ⟨@gOk_wd g ho, @gOk_hi g ho, @gOk_sw g ho, h12, @gOk_la g ho, @gOk_ti g ho, @gOk_ga g ho, @gOk_ca g ho, @gOk_ch g ho, @gOk_mi g ho, @gOk_n g ho, @gOk_deep g ho, @gOk_glare g ho, @gOk_skill g ho, @gOk_case g ho, @gOk_at g ho, fun s h9 => by
    have h9 : s < gLk g + 1 := h9
    show gU g 6 (gLk g) c 6 s < gW g * gH g
    by_cases e : s = gLk g
    · rw [e, gU_s]; exact hc
    · rw [gU_j e]; exact gOk_lat ho s (by omega), fun s h9 => by
    have h9 : s < gLk g + 1 := h9
    show gU g 7 (gLk g) v 7 s ≤ 9
    by_cases e : s = gLk g
    · rw [e, gU_s]; exact hv
    · rw [gU_j e]; exact gOk_las ho s (by omega)⟩
theorem ok_ch {g : gS} {c : Nat} (ho : gOk g) (hc : c < gW g * gH g) : gOk (gU g 0 8 c) :=
  ⟨@gOk_wd g ho, @gOk_hi g ho, @gOk_sw g ho, @gOk_lk g ho, @gOk_la g ho, @gOk_ti g ho, @gOk_ga g ho, @gOk_ca g ho, hc, @gOk_mi g ho, @gOk_n g ho, @gOk_deep g ho, @gOk_glare g ho, @gOk_skill g ho, @gOk_case g ho, @gOk_at g ho, @gOk_lat g ho, @gOk_las g ho⟩
theorem ok_la {g : gS} {v : Nat} (ho : gOk g) (hv : 1 ≤ v ∧ v ≤ 300) : gOk (gU g 0 4 v) :=
  ⟨@gOk_wd g ho, @gOk_hi g ho, @gOk_sw g ho, @gOk_lk g ho, hv, @gOk_ti g ho, @gOk_ga g ho, @gOk_ca g ho, @gOk_ch g ho, @gOk_mi g ho, @gOk_n g ho, @gOk_deep g ho, @gOk_glare g ho, @gOk_skill g ho, @gOk_case g ho, @gOk_at g ho, @gOk_lat g ho, @gOk_las g ho⟩
theorem ok_ti {g : gS} {v : Nat} (ho : gOk g) (hv : 1 ≤ v ∧ v ≤ 99) : gOk (gU g 0 5 v) :=
  ⟨@gOk_wd g ho, @gOk_hi g ho, @gOk_sw g ho, @gOk_lk g ho, @gOk_la g ho, hv, @gOk_ga g ho, @gOk_ca g ho, @gOk_ch g ho, @gOk_mi g ho, @gOk_n g ho, @gOk_deep g ho, @gOk_glare g ho, @gOk_skill g ho, @gOk_case g ho, @gOk_at g ho, @gOk_lat g ho, @gOk_las g ho⟩
theorem ok_ga {g : gS} (ho : gOk g) (hv : gGa g < 4) : gOk (gU g 0 6 (gGa g + 1)) :=
  ⟨@gOk_wd g ho, @gOk_hi g ho, @gOk_sw g ho, @gOk_lk g ho, @gOk_la g ho, @gOk_ti g ho, hv, @gOk_ca g ho, @gOk_ch g ho, @gOk_mi g ho, @gOk_n g ho, @gOk_deep g ho, @gOk_glare g ho, @gOk_skill g ho, @gOk_case g ho, @gOk_at g ho, @gOk_lat g ho, @gOk_las g ho⟩
def gCs (g : gS) (a b c d e : Nat) : gS := gU (gU (gU (gU (gU (gU g 4 (5 * gCa g) a) 4 (5 * gCa g + 1) b) 4 (5 * gCa g + 2) c) 4 (5 * gCa g + 3) d) 4 (5 * gCa g + 4) e) 0 7 (gCa g + 1)
theorem gCs_old {g : gS} {a b c d e i : Nat} (h : i < 5 * gCa g) : gCs g a b c d e 4 i = g 4 i := by
  show gU (gU (gU (gU (gU g 4 (5 * gCa g) a) 4 (5 * gCa g + 1) b) 4 (5 * gCa g + 2) c) 4 (5 * gCa g + 3) d) 4 (5 * gCa g + 4) e 4 i = _
  rw [gU_j (by omega), gU_j (by omega), gU_j (by omega), gU_j (by omega), gU_j (by omega)]
theorem gCs_0 {g : gS} {a b c d e : Nat} : gCs g a b c d e 4 (5 * gCa g) = a := by
  show gU (gU (gU (gU (gU g 4 (5 * gCa g) a) 4 (5 * gCa g + 1) b) 4 (5 * gCa g + 2) c) 4 (5 * gCa g + 3) d) 4 (5 * gCa g + 4) e 4 (5 * gCa g) = _
  rw [gU_j (by omega), gU_j (by omega), gU_j (by omega), gU_j (by omega), gU_s]
theorem gCs_1 {g : gS} {a b c d e : Nat} : gCs g a b c d e 4 (5 * gCa g + 1) = b := by
  show gU (gU (gU (gU (gU g 4 (5 * gCa g) a) 4 (5 * gCa g + 1) b) 4 (5 * gCa g + 2) c) 4 (5 * gCa g + 3) d) 4 (5 * gCa g + 4) e 4 (5 * gCa g + 1) = _
  rw [gU_j (by omega), gU_j (by omega), gU_j (by omega), gU_s]
theorem gCs_2 {g : gS} {a b c d e : Nat} : gCs g a b c d e 4 (5 * gCa g + 2) = c := by
  show gU (gU (gU (gU (gU g 4 (5 * gCa g) a) 4 (5 * gCa g + 1) b) 4 (5 * gCa g + 2) c) 4 (5 * gCa g + 3) d) 4 (5 * gCa g + 4) e 4 (5 * gCa g + 2) = _
  rw [gU_j (by omega), gU_j (by omega), gU_s]
theorem gCs_3 {g : gS} {a b c d e : Nat} : gCs g a b c d e 4 (5 * gCa g + 3) = d := by
  show gU (gU (gU (gU (gU g 4 (5 * gCa g) a) 4 (5 * gCa g + 1) b) 4 (5 * gCa g + 2) c) 4 (5 * gCa g + 3) d) 4 (5 * gCa g + 4) e 4 (5 * gCa g + 3) = _
  rw [gU_j (by omega), gU_s]
theorem gCs_4 {g : gS} {a b c d e : Nat} : gCs g a b c d e 4 (5 * gCa g + 4) = e := by
  show gU (gU (gU (gU (gU g 4 (5 * gCa g) a) 4 (5 * gCa g + 1) b) 4 (5 * gCa g + 2) c) 4 (5 * gCa g + 3) d) 4 (5 * gCa g + 4) e 4 (5 * gCa g + 4) = _
  rw [gU_s]
theorem ok_ca {g : gS} {a b c d e : Nat} (ho : gOk g) (h10 : gCa g < 10) (ha : a ≤ 9) (hb : b ≤ 9) (hc : c ≤ 9) (hd : d ≤ 9) (he : e ≤ 1) : gOk (gCs g a b c d e) :=
  ⟨@gOk_wd g ho, @gOk_hi g ho, @gOk_sw g ho, @gOk_lk g ho, @gOk_la g ho, @gOk_ti g ho, @gOk_ga g ho, h10, @gOk_ch g ho, @gOk_mi g ho, @gOk_n g ho, @gOk_deep g ho, @gOk_glare g ho, @gOk_skill g ho, fun i h9 => by
    have h9 : i < 5 * (gCa g + 1) := h9
    by_cases e : i < 5 * gCa g
    · rw [gCs_old e]; exact gOk_case ho i e
    · have : i = 5 * gCa g ∨ i = 5 * gCa g + 1 ∨ i = 5 * gCa g + 2 ∨ i = 5 * gCa g + 3 ∨ i = 5 * gCa g + 4 := by omega
      rcases this with rfl | rfl | rfl | rfl | rfl
      · rw [gCs_0]; exact ha
      · rw [gCs_1]; exact hb
      · rw [gCs_2]; exact hc
      · rw [gCs_3]; exact hd
      · rw [gCs_4]; omega, @gOk_at g ho, @gOk_lat g ho, @gOk_las g ho⟩
theorem ok_00 : gOk g00 := by
  refine ⟨by decide, by decide, by decide, by decide, by decide, by decide, by decide, by decide, by decide, by decide, by decide, fun c _ => ?_, fun c _ => ?_, fun s h => ?_, fun i h => ?_, fun s h => ?_, fun k h => ?_, fun k h => ?_⟩
  · show 3 ≤ 9; decide
  · show 0 ≤ 9; decide
  · exact absurd h (Nat.not_lt_zero _)
  · exact absurd h (Nat.not_lt_zero _)
  · exact absurd h (Nat.not_lt_zero _)
  · exact absurd h (Nat.not_lt_zero _)
  · exact absurd h (Nat.not_lt_zero _)
theorem ok_sz {a b : Nat} (ha : 1 ≤ a ∧ a ≤ 8) (hb : 1 ≤ b ∧ b ≤ 5) : gOk (gU (gU g00 0 0 a) 0 1 b) := by
  have h1 : a * b ≤ 8 * 5 := Nat.mul_le_mul ha.2 hb.2
  have h2 : 1 * 1 ≤ a * b := Nat.mul_le_mul ha.1 hb.1
  have ho := ok_00
  exact ⟨ha, hb, @gOk_sw g00 ho, @gOk_lk g00 ho, @gOk_la g00 ho, @gOk_ti g00 ho, @gOk_ga g00 ho, @gOk_ca g00 ho, by show 0 < a * b; omega, @gOk_mi g00 ho, h1, @gOk_deep g00 ho, @gOk_glare g00 ho, @gOk_skill g00 ho, @gOk_case g00 ho, fun s h => absurd h (Nat.not_lt_zero _), fun s h => absurd h (Nat.not_lt_zero _), @gOk_las g00 ho⟩
end KEEP
