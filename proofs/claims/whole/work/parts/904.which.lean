/-! ===== THE TEXT: words both know, signs, numbers ===== -/
theorem wd_ltr : ∀ k, k < 25 → ltr (wdB k) ∧ 0 < (wdB k).length ∧ (wdB k).length ≤ 7 := by
  have h : (List.range 25).all (fun k => (wdB k).all (fun b => decide (97 ≤ b ∧ b ≤ 122)) && decide (0 < (wdB k).length) && decide ((wdB k).length ≤ 7)) = true := by decide +kernel
  intro k hk
  have h1 := List.all_eq_true.mp h k (List.mem_range.mpr hk)
  simp only [Bool.and_eq_true, decide_eq_true_eq] at h1
  refine ⟨fun b hb => ?_, h1.1.2, h1.2⟩
  exact of_decide_eq_true (List.all_eq_true.mp h1.1.1 b hb)
theorem wd_one : ∀ k, k < 25 → ∀ j, j < 25 → wdB k = wdB j → k = j := by
  have h : (List.range 25).all (fun k => (List.range 25).all (fun j => decide (wdB k = wdB j → k = j))) = true := by decide +kernel
  intro k hk j hj
  exact of_decide_eq_true (List.all_eq_true.mp (List.all_eq_true.mp h k (List.mem_range.mpr hk)) j (List.mem_range.mpr hj))
theorem Lb_get {bt : Nat → Nat} {s k j : Nat} (h : j < (Lb bt s k).length) : (Lb bt s k)[j] = bt (s + j) := by simp [Lb]
theorem lgc_eq {x y : Int64} (h : lg_cmp x y = 0) : x = y := by
  unfold lg_cmp at h
  by_cases c1 : x > y
  · rw [if_pos c1] at h
    exact absurd h (by decide)
  · rw [if_neg c1] at h
    by_cases c2 : x = y
    · exact c2
    · rw [if_neg c2] at h
      exact absurd h (by decide)
section KNOWN
variable {bt : Nat → Nat} {n : Nat} {w : mW}
theorem spl_Lb {s k : Nat} : spl bt n s k = true ↔ wdB k = Lb bt s (tE bt n s - s) := by
  unfold spl
  rw [Bool.and_eq_true, decide_eq_true_eq, List.all_eq_true]
  constructor
  · rintro ⟨h1, h2⟩
    refine List.ext_getElem (by rw [h1, Lb_len]) (fun j a1 a2 => ?_)
    have := of_decide_eq_true (h2 j (List.mem_range.mpr a1))
    rw [List.getD_eq_getElem?_getD, List.getElem?_eq_getElem a1] at this
    rw [Lb_get]
    exact this.symm
  · intro h
    have hl : (wdB k).length = tE bt n s - s := by rw [h, Lb_len]
    refine ⟨hl, fun j hj => decide_eq_true ?_⟩
    have hj2 := List.mem_range.mp hj
    rw [List.getD_eq_getElem?_getD, List.getElem?_eq_getElem hj2]
    show _ = (wdB k)[j]
    have : ∀ (l : List Nat) (hl : j < l.length), l = Lb bt s (tE bt n s - s) → bt (s + j) = l[j] := by
      intro l hl e
      subst e
      rw [Lb_get]
    exact this _ hj2 h
theorem tW_lt {s c : Nat} (h : tW bt n s = some c) : tK bt n s = 1 ∧ c < 25 ∧ spl bt n s c = true := by
  unfold tW at h
  by_cases e : tK bt n s = 1
  · rw [if_pos e] at h
    exact ⟨e, fstU_is h⟩
  · rw [if_neg e] at h; cases h
theorem tW_of {s c : Nat} (hk : tK bt n s = 1) (hc : c < 25) (h : spl bt n s c = true) : tW bt n s = some c := by
  cases e : tW bt n s with
  | none =>
    unfold tW at e
    rw [if_pos hk] at e
    rw [fstU_none e c hc] at h
    cases h
  | some j =>
    obtain ⟨_, h2, h3⟩ := tW_lt e
    have := wd_one j h2 c hc ((spl_Lb.1 h3).trans (spl_Lb.1 h).symm)
    rw [this]
theorem m_known {Q : Int32 → mW → Prop} {s : Nat} (hk : tkM bt n s w) (h1 : ∀ c, c < 25 → tW bt n s = some c → Q (nI (rfI.getD c 0)) w) (h0 : tW bt n s = none → Q (-nI 1) w) : hP (f190_80 w) Q := by
  obtain ⟨hT, hs, k3, k4, k5, k6, k7, k8, k9⟩ := hk
  have hn := hT.2.1
  have hE := tE_le bt n hs
  have hG := tE_ge bt n s
  have hKl := tK_le bt n s
  unfold f190_80
  rw [k4]
  by_cases c1 : tK bt n s = 1
  · rw [if_pos (by rw [c1]; rfl), k6]
    have hlt : s < n := by
      apply Classical.byContradiction
      intro h
      have := (tK_0 bt n s).2 (by omega)
      omega
    have hL : ltr (Lb bt s (tE bt n s - s)) := by
      intro b hb
      unfold Lb at hb
      obtain ⟨j, hj, rfl⟩ := List.mem_map.mp hb
      have hj2 := List.mem_range.mp hj
      have hbl : bLe (bt s) = true := by
        cases hb : bLe (bt s) with
        | true => rfl
        | false =>
          unfold tK at c1
          rw [if_neg (by omega), if_neg (by rw [hb]; exact fun h => by cases h)] at c1
          split at c1
          · cases c1
          · split at c1 <;> cases c1
      have hE2 : tE bt n s = rnE bLe bt n s := by unfold tE; rw [if_neg (by omega), if_pos hbl]
      exact of_decide_eq_true (rnE_in (P := bLe) (bt := bt) (n := n) (p := s) (j := s + j) (by omega) (by omega))
    by_cases c2 : 7 < tE bt n s - s
    · rw [if_pos (by rw [q_lit, q_lt (by omega) (by omega)]; exact c2), hP_some]
      refine h0 ?_
      cases e : tW bt n s with
      | none => rfl
      | some c =>
        obtain ⟨_, a2, a3⟩ := tW_lt e
        have := spl_Lb.1 a3
        have b1 := (wd_ltr c a2).2.2
        rw [this, Lb_len] at b1
        omega
    · rw [if_neg (by rw [q_lit, q_lt (by omega) (by omega)]; exact c2)]
      have k9' := k9 c1
      rw [Nat.min_eq_right (by omega)] at k9'
      have hgt := tE_gt bt n hlt
      have key : ∀ i, i < 25 → (enL (wdB (rfL.getD i 0)) 0 = wJ w 80 29 ↔ spl bt n s (rfL.getD i 0) = true) := by
        intro i hi
        have hr := (rf_1 i hi).1
        have hw := wd_ltr _ hr
        rw [k9', spl_Lb]
        refine ⟨fun h => enL_inj hw.1 hL hw.2.2 (by rw [Lb_len]; omega) hw.2.1 (by rw [Lb_len]; omega) h, fun h => by rw [h]⟩
      refine hP_loopF (fun m st => ∃ i, i + m = 25 ∧ st = (nI i, w) ∧ ∀ j, j < i → spl bt n s (rfL.getD j 0) = false) 25 (by omega) ⟨0, by omega, rfl, fun j hj => absurd hj (Nat.not_lt_zero _)⟩ ?_
      rintro m st rec ⟨i, him, rfl, hall⟩ ih
      simp only [f190_80_b21]
      by_cases c3 : i < 25
      · rw [if_pos (by rw [q_lit, q_lt (by omega) (by omega)]; exact c3), hP_B, m_letters i c3 w, hP_some]
        have ei : nI i + 1 = nI (i + 1) := by rw [← nI_add]; rfl
        have hr := rf_1 i c3
        by_cases c4 : spl bt n s (rfL.getD i 0) = true
        · rw [if_pos (by rw [(key i c3).2 c4]; exact lgc_refl _), hP_some]
          have := h1 (rfL.getD i 0) hr.1 (tW_of c1 hr.1 c4)
          rw [hr.2] at this
          exact this
        · have hne : ¬ lg_cmp (enL (wdB (rfL.getD i 0)) 0) (wJ w 80 29) = 0 := by
            intro h
            exact c4 ((key i c3).1 (lgc_eq h))
          rw [if_neg hne, ei]
          refine ih (m - 1) _ (by omega) ⟨i + 1, by omega, rfl, fun j hj => ?_⟩
          by_cases e : j = i
          · rw [e]; exact (Bool.not_eq_true _).mp c4
          · exact hall j (by omega)
      · rw [if_neg (by rw [q_lit, q_lt (by omega) (by omega)]; exact c3), hP_some]
        refine h0 ?_
        cases e : tW bt n s with
        | none => rfl
        | some c =>
          obtain ⟨_, a2, a3⟩ := tW_lt e
          have b := rf_2 c a2
          have := hall (rfI.getD c 0) (by omega)
          rw [b.2, a3] at this
          cases this
  · rw [if_neg (by rw [q_lit, q_eq (by omega) (by omega)]; exact c1), hP_some]
    refine h0 ?_
    unfold tW
    rw [if_neg c1]
end KNOWN
