/-! ===== THE CLASS: the round taken, spots gathered, the worst ===== -/
def gRl (g : gS) (lf : Nat) : Nat → List (Nat × Nat)
  | 0 => []
  | k + 1 => gRl g lf k ++ (if k = lf ∨ g 7 k = 0 then [] else [(g 6 k, g 7 k)])
theorem gRl_len (g : gS) (lf : Nat) : ∀ k, (gRl g lf k).length ≤ k
  | 0 => Nat.le_refl _
  | k + 1 => by
    have := gRl_len g lf k
    simp only [gRl, List.length_append]
    split <;> simp <;> omega
theorem gRl_ok {g : gS} (ho : gOk g) (lf : Nat) : ∀ k, k ≤ gLk g → lkOk (gRl g lf k)
  | 0, _ => ⟨by simp [gRl], fun p hp => by simp [gRl] at hp⟩
  | k + 1, h => by
    have ih := gRl_ok ho lf k (by omega)
    have h1 := gRl_len g lf (k + 1)
    have h2 := gOk_lk ho
    refine ⟨by omega, fun p hp => ?_⟩
    simp only [gRl, List.mem_append] at hp
    rcases hp with hp | hp
    · exact ih.2 p hp
    · split at hp
      · cases hp
      · rename_i hne
        have e := List.mem_singleton.mp hp
        subst e
        have h3 := gOk_lat ho k (by omega)
        have h4 := gOk_las ho k (by omega)
        have h5 := gOk_n ho
        exact ⟨.inl (by show g 6 k < 40; omega), by show 1 ≤ g 7 k; omega, by show g 7 k ≤ 99; omega⟩
theorem gRl_lay {g : gS} (ho : gOk g) : ∀ k, exL (gRl g 99 k) = gLay g 0 (gW g) 99 0 k ∨ 99 < k
  | 0 => .inl rfl
  | k + 1 => by
    have hw := gOk_wd ho
    rcases gRl_lay ho k with ih | ih
    · by_cases hk : k = 99
      · right; omega
      · left
        have hm := Nat.mod_lt (g 6 k) (show 0 < gW g by omega)
        simp only [gRl, gLay, exL_app, ih, hk, false_or, Nat.zero_le, hm, and_self, reduceIte, List.replicate_zero, List.append_nil]
        congr 1
        by_cases h : g 7 k = 0
        · simp [h, exL]
        · simp [h, exL]
    · right; omega
def gSp (g : gS) : Nat → List Nat
  | 0 => []
  | k + 1 => if g 5 k ∈ gSp g k then gSp g k else gSp g k ++ [g 5 k]
theorem gSp_len (g : gS) : ∀ k, (gSp g k).length ≤ k
  | 0 => Nat.le_refl _
  | k + 1 => by
    have := gSp_len g k
    simp only [gSp]
    split <;> simp <;> omega
theorem gSp_mem (g : gS) (c : Nat) : ∀ k, c ∈ gSp g k ↔ 0 < gCnt g c k
  | 0 => by simp [gSp, gCnt]
  | k + 1 => by
    have ih := gSp_mem g c k
    simp only [gSp, gCnt]
    by_cases e : g 5 k = c
    · rw [if_pos e]
      by_cases h : g 5 k ∈ gSp g k
      · rw [if_pos h, e] at *
        exact ⟨fun _ => by omega, fun _ => h⟩
      · rw [if_neg h]
        simp [e]
    · rw [if_neg e, Nat.add_zero]
      by_cases h : g 5 k ∈ gSp g k
      · rw [if_pos h]; exact ih
      · rw [if_neg h, List.mem_append, List.mem_singleton]
        exact ⟨fun x => x.elim ih.mp (fun y => absurd y.symm e), fun x => .inl (ih.mpr x)⟩
theorem gSp_lt {g : gS} (ho : gOk g) : ∀ k, k ≤ gSw g → ∀ c ∈ gSp g k, c < gW g * gH g
  | 0, _, c, hc => by simp [gSp] at hc
  | k + 1, h, c, hc => by
    simp only [gSp] at hc
    split at hc
    · exact gSp_lt ho k (by omega) c hc
    · rcases List.mem_append.mp hc with hc | hc
      · exact gSp_lt ho k (by omega) c hc
      · rw [List.mem_singleton.mp hc]
        exact gOk_at ho k (by omega)
/-- spots and what they need -/
def rSp (w : mW) (S : List Nat) (N : Nat → Nat) : Prop := wI w 23 7 = nI S.length ∧ ∀ i, i < S.length → wI w 51 i = nI (S.getD i 0) ∧ wI w 52 i = nI (N (S.getD i 0))
theorem rSp_fr {p : fP} {w w' : mW} {S : List Nat} {N : Nat → Nat} (h : rSp w S N) (hf : fr p w w') (h1 : fIn p 23 7 = false) (h2 : ∀ j, fIn p 51 j = false) (h3 : ∀ j, fIn p 52 j = false) : rSp w' S N :=
  ⟨(fr_rd hf h1).trans h.1, fun i hi => ⟨(fr_rd hf (h2 i)).trans (h.2 i hi).1, (fr_rd hf (h3 i)).trans (h.2 i hi).2⟩⟩
section C6
variable {g : gS} {r : gR} {w : mW}
abbrev pR : fP := ([43, 44], [(42, 2)])
theorem c_rounds {Q : Int32 → mW → Prop} (hr : rC g w) (ho : gOk g) (hq : Q (nI (gRnd g (gLk g))) w) : hP (f80_23 w) Q := by
  have hlk := gOk_lk ho
  unfold f80_23
  refine hP_loopF (fun n s => ∃ k, k + n = gLk g ∧ s = (nI (gRnd g k), nI k, w)) (gLk g) (by omega) ⟨0, by omega, rfl⟩ ?_
  rintro n s rec ⟨k, hk, rfl⟩ ih
  simp only [f80_23_b4]
  have hb := gRnd_le ho k (by omega)
  by_cases h : k < gLk g
  · have h2 := gOk_las ho k h
    simp (disch := first | omega | (simp only [fIn, fR, fC, Nat.reduceEqDiff, decide_false, decide_true, Bool.false_or, Bool.or_false, Bool.false_and, Bool.and_false, Bool.or_self, Bool.true_and, Bool.true_or, Bool.and_true, Bool.or_true, Bool.and_self]; done) | fail) only [hP_some, hP_let, hP_gd, hP_B, hP_if, reduceIte, q_lit, nI_add, pk_mul, q_lt, q_le, q_eq, q_cl, q_g, Bool.not_eq_true', decide_eq_false_iff_not, decide_eq_true_eq, q_div, q_rm, q_sub, q_m1, Nat.zero_add, Nat.add_zero, rC_wd hr, rC_hi hr, rC_sw hr, rC_lk hr, rC_la hr, rC_ti hr, rC_ga hr, rC_ca hr, rC_ch hr, rC_mi hr, rC_deep hr, rC_glare hr, rC_skill hr, rC_case hr, rC_tro hr, rC_at hr, rC_lat hr, rC_las hr, h]
    exact ⟨by omega, ih (n - 1) _ (by omega) ⟨k + 1, by omega, rfl⟩⟩
  · have e : k = gLk g := by omega
    simp (disch := first | omega | (simp only [fIn, fR, fC, Nat.reduceEqDiff, decide_false, decide_true, Bool.false_or, Bool.or_false, Bool.false_and, Bool.and_false, Bool.or_self, Bool.true_and, Bool.true_or, Bool.and_true, Bool.or_true, Bool.and_self]; done) | fail) only [hP_some, hP_let, hP_gd, hP_B, hP_if, reduceIte, q_lit, nI_add, pk_mul, q_lt, q_le, q_eq, q_cl, q_g, Bool.not_eq_true', decide_eq_false_iff_not, decide_eq_true_eq, q_div, q_rm, q_sub, q_m1, Nat.zero_add, Nat.add_zero, rC_wd hr, rC_hi hr, rC_sw hr, rC_lk hr, rC_la hr, rC_ti hr, rC_ga hr, rC_ca hr, rC_ch hr, rC_mi hr, rC_deep hr, rC_glare hr, rC_skill hr, rC_case hr, rC_tro hr, rC_at hr, rC_lat hr, rC_las hr, h]
    rw [e]
    exact hq
theorem c_takeBut {Q : Unit → mW → Prop} {x : Int32} {lf : Nat} (hr : rC g w) (ho : gOk g) (hb : ∀ k, k < 12 → (nI k = x) = (k = lf)) (hq : ∀ w', fr pR w w' → rRd 42 43 44 w' (gRl g lf (gLk g)) → Q () w') : hP (f91_23 x w) Q := by
  have hlk := gOk_lk ho
  have hn := gOk_n ho
  unfold f91_23
  simp only [hP_B]
  refine c_empty42 (fun w0 hf0 hl0 => ?_)
  refine hP_loopF (fun n s => ∃ k w1, k + n = gLk g ∧ s = (nI k, w1) ∧ fr pR w w1 ∧ rRd 42 43 44 w1 (gRl g lf k)) (gLk g) (by omega) ⟨0, w0, by omega, rfl, hf0, hl0⟩ ?_
  rintro n s rec ⟨k, w1, hk, rfl, hf, hl⟩ ih
  simp only [f91_23_b9]
  by_cases h : k < gLk g
  · have h2 := gOk_las ho k h
    have h3 := gOk_lat ho k h
    have hlen := gRl_len g lf k
    have hbk := hb k (by omega)
    simp (disch := first | omega | (simp only [fIn, fR, fC, Nat.reduceEqDiff, decide_false, decide_true, Bool.false_or, Bool.or_false, Bool.false_and, Bool.and_false, Bool.or_self, Bool.true_and, Bool.true_or, Bool.and_true, Bool.or_true, Bool.and_self]; done) | fail) only [hP_some, hP_let, hP_gd, hP_B, hP_if, reduceIte, q_lit, nI_add, pk_mul, q_lt, q_le, q_eq, q_cl, q_g, Bool.not_eq_true', decide_eq_false_iff_not, decide_eq_true_eq, q_div, q_rm, q_sub, q_m1, Nat.zero_add, Nat.add_zero, fr_rd hf, rC_wd hr, rC_hi hr, rC_sw hr, rC_lk hr, rC_la hr, rC_ti hr, rC_ga hr, rC_ca hr, rC_ch hr, rC_mi hr, rC_deep hr, rC_glare hr, rC_skill hr, rC_case hr, rC_tro hr, rC_at hr, rC_lat hr, rC_las hr, h, hbk]
    by_cases c1 : k = lf
    · rw [if_pos c1]
      refine ih (n - 1) _ (by omega) ⟨k + 1, w1, by omega, rfl, hf, ?_⟩
      subst c1
      simp only [gRl, true_or, reduceIte, List.append_nil]
      exact hl
    · rw [if_neg c1]
      refine ⟨by omega, by omega, ?_⟩
      have e1 : nI (g 6 k) = cE (g 6 k) := (if_neg (by omega)).symm
      rw [e1]
      refine c_add42 hl (by omega) (by omega) (fun w2 hf2 hl2 => ?_)
      refine ih (n - 1) _ (by omega) ⟨k + 1, w2, by omega, rfl, fr_then hf hf2 (by decide), ?_⟩
      simp only [gRl, c1, false_or]
      exact hl2
  · have e : k = gLk g := by omega
    simp (disch := first | omega | (simp only [fIn, fR, fC, Nat.reduceEqDiff, decide_false, decide_true, Bool.false_or, Bool.or_false, Bool.false_and, Bool.and_false, Bool.or_self, Bool.true_and, Bool.true_or, Bool.and_true, Bool.or_true, Bool.and_self]; done) | fail) only [hP_some, hP_let, hP_gd, hP_B, hP_if, reduceIte, q_lit, nI_add, pk_mul, q_lt, q_le, q_eq, q_cl, q_g, Bool.not_eq_true', decide_eq_false_iff_not, decide_eq_true_eq, q_div, q_rm, q_sub, q_m1, Nat.zero_add, Nat.add_zero, fr_rd hf, rC_wd hr, rC_hi hr, rC_sw hr, rC_lk hr, rC_la hr, rC_ti hr, rC_ga hr, rC_ca hr, rC_ch hr, rC_mi hr, rC_deep hr, rC_glare hr, rC_skill hr, rC_case hr, rC_tro hr, rC_at hr, rC_lat hr, rC_las hr, h]
    rw [e] at hl
    exact hq w1 hf hl
theorem m1_no (k : Nat) (hk : k < 12) : (nI k = -1) = (k = 99) := by
  have e1 : ¬ k = 99 := by omega
  have e2 := q_neq (a := k) (by omega)
  simp only [e1]
  exact e2
theorem c_take {Q : Unit → mW → Prop} (hr : rC g w) (ho : gOk g) (hq : ∀ w', fr pR w w' → rRd 42 43 44 w' (gRl g 99 (gLk g)) → Q () w') : hP (f90_23 w) Q := by
  unfold f90_23
  simp only [hP_B, hP_some]
  exact c_takeBut hr ho m1_no (fun w1 hf hl => hq w1 hf hl)
abbrev pG : fP := ([33, 50, 51, 52], [(23, 7)])
theorem c_gather {Q : Unit → mW → Prop} {ch mi ex : Nat} (hr : rC g w) (hR : rCr r g w) (ho : gOk g) (hk : rOk r g) (hch : ch < 40) (hmi : mi ≤ 999) (hex : ex ≤ 40) (hq : ∀ w', fr pG w w' → rSp w' (gSp g (gSw g)) (gNd g r ch mi ex) → Q () w') : hP (f92_23 (nI ch) (nI mi) (nI ex) w) Q := by
  have hsw := gOk_sw ho
  have hn := gOk_n ho
  unfold f92_23
  simp only [hP_let]
  refine hP_loopF (fun n s => ∃ (k : Nat) (x : Int64) (w1 : mW), k + n = gSw g ∧ s = (x, nI k, w1) ∧ fr pG w w1 ∧ rSp w1 (gSp g k) (gNd g r ch mi ex) ∧ ∀ c, c < 40 → (b64 x c = false ↔ c ∉ gSp g k)) (gSw g) (by omega) ⟨0, 0, nS w 23 7 0, by omega, rfl, fr_nS fr_refl rfl, ⟨rd_nS, fun i hi => absurd hi (Nat.not_lt_zero _)⟩, fun c _ => by simp [b64_zero, gSp]⟩ ?_
  rintro n s rec ⟨k, x, w1, hkn, rfl, hf, hs, hx⟩ ih
  simp only [f92_23_b11]
  by_cases h : k < gSw g
  · have h2 := gOk_at ho k h
    have hlen := gSp_len g k
    have hxk := hx (g 5 k) (by omega)
    have hT := b64_test (x := x) (c := g 5 k) (by omega)
    simp only [hP_if]
    simp (disch := first | omega | (simp only [fIn, fR, fC, Nat.reduceEqDiff, decide_false, decide_true, Bool.false_or, Bool.or_false, Bool.false_and, Bool.and_false, Bool.or_self, Bool.true_and, Bool.true_or, Bool.and_true, Bool.or_true, Bool.and_self]; done) | fail) only [hP_some, hP_let, hP_gd, hP_B, hP_if, reduceIte, q_lit, nI_add, pk_mul, q_lt, q_le, q_eq, q_cl, q_g, Bool.not_eq_true', decide_eq_false_iff_not, decide_eq_true_eq, q_div, q_rm, q_sub, q_m1, Nat.zero_add, Nat.add_zero, fr_rd hf, rC_wd hr, rC_hi hr, rC_sw hr, rC_lk hr, rC_la hr, rC_ti hr, rC_ga hr, rC_ca hr, rC_ch hr, rC_mi hr, rC_deep hr, rC_glare hr, rC_skill hr, rC_case hr, rC_tro hr, rC_at hr, rC_lat hr, rC_las hr, h]
    refine ⟨by omega, ?_⟩
    have hT2 : (lg_cmp (nLus x (nI (g 5 k)) &&& 1) 0 = nI 0) = (b64 x (g 5 k) = false) := hT
    simp only [hT2]
    by_cases c1 : b64 x (g 5 k) = false
    · have c2 := hxk.mp c1
      have hlen2 : (gSp g k).length < 12 := by omega
      rw [if_pos c1]
      simp (disch := first | omega | (simp only [fIn, fR, fC, Nat.reduceEqDiff, decide_false, decide_true, Bool.false_or, Bool.or_false, Bool.false_and, Bool.and_false, Bool.or_self, Bool.true_and, Bool.true_or, Bool.and_true, Bool.or_true, Bool.and_self]; done) | fail) only [hP_some, hP_let, hP_gd, hP_B, hP_if, reduceIte, q_lit, nI_add, pk_mul, q_lt, q_le, q_eq, q_cl, q_g, Bool.not_eq_true', decide_eq_false_iff_not, decide_eq_true_eq, q_div, q_rm, q_sub, q_m1, Nat.zero_add, Nat.add_zero, hs.1]
      refine ⟨by omega, ?_⟩
      have hf1 : fr pG w (nS w1 51 (gSp g k).length (nI (g 5 k))) := fr_nS hf rfl
      have hcnt : 0 < gCnt g (g 5 k) (gSw g) := (gSp_mem g _ _).mp (by
        have h9 : ∀ m, k < m → g 5 k ∈ gSp g m := by
          intro m
          induction m with
          | zero => intro h; omega
          | succ m ihm =>
            intro hm
            simp only [gSp]
            by_cases e : k = m
            · subst e
              split
              · assumption
              · simp
            · have := ihm (by omega)
              split
              · exact this
              · exact List.mem_append_left _ this
        exact h9 _ h)
      refine c_need (rC_fr (by decide) hf1 hr) (rCr_fr (by decide) hf1 hR) ho hk (by omega) hch hmi hex (.inl hcnt) (fun w2 hf2 => ?_)
      have hf3 : fr pG w w2 := fr_then hf1 hf2 (by decide)
      have e7 : wI w2 23 7 = nI (gSp g k).length := by rw [fr_rd hf2 rfl, rd_nSa (by decide)]; exact hs.1
      simp (disch := first | omega | (simp only [fIn, fR, fC, Nat.reduceEqDiff, decide_false, decide_true, Bool.false_or, Bool.or_false, Bool.false_and, Bool.and_false, Bool.or_self, Bool.true_and, Bool.true_or, Bool.and_true, Bool.or_true, Bool.and_self]; done) | fail) only [hP_some, hP_let, hP_gd, hP_B, hP_if, reduceIte, q_lit, nI_add, pk_mul, q_lt, q_le, q_eq, q_cl, q_g, Bool.not_eq_true', decide_eq_false_iff_not, decide_eq_true_eq, q_div, q_rm, q_sub, q_m1, Nat.zero_add, Nat.add_zero, rd_nS, rd_nSa, rd_nSj, rd_ovn, rd_ovy, hs.1, e7]
      refine ⟨by omega, ih (n - 1) _ (by omega) ⟨k + 1, _, _, by omega, rfl, fr_nS (fr_nS hf3 rfl) rfl, ?_, ?_⟩⟩
      · simp only [gSp, c2, reduceIte]
        refine ⟨by rw [rd_nS, List.length_append]; rfl, fun i hi => ?_⟩
        rw [List.length_append, List.length_singleton] at hi
        simp only [List.getD_eq_getElem?_getD]
        by_cases e : i = (gSp g k).length
        · subst e
          rw [List.getElem?_append_right (Nat.le_refl _), Nat.sub_self]
          have e51 : wI w2 51 (gSp g k).length = nI (g 5 k) := by rw [fr_rd hf2 rfl, rd_nS]
          simp (disch := first | omega | (simp only [fIn, fR, fC, Nat.reduceEqDiff, decide_false, decide_true, Bool.false_or, Bool.or_false, Bool.false_and, Bool.and_false, Bool.or_self, Bool.true_and, Bool.true_or, Bool.and_true, Bool.or_true, Bool.and_self]; done) | fail) only [rd_nS, rd_nSa, rd_nSj, rd_ovn, rd_ovy, e51]
          exact ⟨rfl, rfl⟩
        · have hi2 : i < (gSp g k).length := by omega
          rw [List.getElem?_append_left hi2]
          have h9 := hs.2 i hi2
          simp only [List.getD_eq_getElem?_getD] at h9
          have e51 : wI w2 51 i = wI w1 51 i := by rw [fr_rd hf2 rfl, rd_nSj e]
          have e52 : wI w2 52 i = wI w1 52 i := by rw [fr_rd hf2 rfl, rd_nSa (by decide)]
          simp (disch := first | omega | (simp only [fIn, fR, fC, Nat.reduceEqDiff, decide_false, decide_true, Bool.false_or, Bool.or_false, Bool.false_and, Bool.and_false, Bool.or_self, Bool.true_and, Bool.true_or, Bool.and_true, Bool.or_true, Bool.and_self]; done) | fail) only [rd_nS, rd_nSa, rd_nSj, rd_ovn, rd_ovy, e51, e52]
          exact h9
      · intro c hc
        have e := b64_set (x := x) (c := c) (d := g 5 k) (by omega) (by omega)
        simp only [gSp, c2, reduceIte]
        rw [show nLsl 1 (nI (g 5 k)) = nLsl 1 (nI (g 5 k)) from rfl, e]
        simp only [Bool.or_eq_false_iff, decide_eq_false_iff_not, hx c hc, List.mem_append, List.mem_singleton, not_or]
    · rw [if_neg c1]
      have c2 : g 5 k ∈ gSp g k := by
        apply Classical.byContradiction
        intro c3
        exact c1 (hxk.mpr c3)
      refine ih (n - 1) _ (by omega) ⟨k + 1, x, w1, by omega, rfl, hf, ?_, ?_⟩
      · simp only [gSp, c2, reduceIte]
        exact hs
      · simp only [gSp, c2, reduceIte]
        exact hx
  · have e : k = gSw g := by omega
    simp (disch := first | omega | (simp only [fIn, fR, fC, Nat.reduceEqDiff, decide_false, decide_true, Bool.false_or, Bool.or_false, Bool.false_and, Bool.and_false, Bool.or_self, Bool.true_and, Bool.true_or, Bool.and_true, Bool.or_true, Bool.and_self]; done) | fail) only [hP_some, hP_let, hP_gd, hP_B, hP_if, reduceIte, q_lit, nI_add, pk_mul, q_lt, q_le, q_eq, q_cl, q_g, Bool.not_eq_true', decide_eq_false_iff_not, decide_eq_true_eq, q_div, q_rm, q_sub, q_m1, Nat.zero_add, Nat.add_zero, fr_rd hf, rC_wd hr, rC_hi hr, rC_sw hr, rC_lk hr, rC_la hr, rC_ti hr, rC_ga hr, rC_ca hr, rC_ch hr, rC_mi hr, rC_deep hr, rC_glare hr, rC_skill hr, rC_case hr, rC_tro hr, rC_at hr, rC_lat hr, rC_las hr, h]
    rw [e] at hs
    exact hq w1 hf hs
/-- the worst of the spots over the round -/
def gMx (N : Nat → Nat) (E S : List Nat) : Option Nat := oMx (S.map (gWst N E))
theorem c_worstR {Q : Int32 → mW → Prop} {L : List (Nat × Nat)} {S : List Nat} {N : Nat → Nat} (hL : lkOk L) (hT : (exL L).length ≤ 207) (hl : rRd 42 43 44 w L) (hs : rSp w S N) (hS : S.length ≤ 12) (hc : ∀ c ∈ S, c < 40) (hN : ∀ c, 1 ≤ N c ∧ N c ≤ 30) (hq : ∀ w', fr pS42 w w' → Q (eC (gMx N (exL L) S)) w') : hP (f93_23 w) Q := by
  unfold f93_23
  refine hP_loopF (fun n s => ∃ k w1, k + n = S.length ∧ s = (eC (gMx N (exL L) (S.take k)), nI k, w1) ∧ fr pS42 w w1) S.length (by omega) ⟨0, w, by omega, rfl, fr_refl⟩ ?_
  rintro n s rec ⟨k, w1, hkn, rfl, hf⟩ ih
  have hl1 := rRd_fr hl hf rfl (fun _ => rfl) (fun _ => rfl)
  have hs1 := rSp_fr hs hf rfl (fun _ => rfl) (fun _ => rfl)
  simp only [f93_23_b4]
  by_cases h : k < S.length
  · obtain ⟨h51, h52⟩ := hs1.2 k h
    have hm := getD_mem (d := 0) h
    have hb := hN (S.getD k 0)
    simp (disch := first | omega | (simp only [fIn, fR, fC, Nat.reduceEqDiff, decide_false, decide_true, Bool.false_or, Bool.or_false, Bool.false_and, Bool.and_false, Bool.or_self, Bool.true_and, Bool.true_or, Bool.and_true, Bool.or_true, Bool.and_self]; done) | fail) only [hP_some, hP_let, hP_gd, hP_B, hP_if, reduceIte, q_lit, nI_add, pk_mul, q_lt, q_le, q_eq, q_cl, q_g, Bool.not_eq_true', decide_eq_false_iff_not, decide_eq_true_eq, q_div, q_rm, q_sub, q_m1, Nat.zero_add, Nat.add_zero, hs1.1, h, h51, h52]
    refine ⟨by omega, by omega, c_longest42 hL hl1 (hc _ hm) hb.1 hb.2 (fun w2 hf2 => ?_)⟩
    have hB1 : oB (gMx N (exL L) (S.take k)) := oMx_B (fun x hx => by
      obtain ⟨c, -, rfl⟩ := List.mem_map.mp hx
      exact gWst_B hT (hN c).2)
    have hB2 : oB (gWst N (exL L) (S.getD k 0)) := gWst_B hT hb.2
    have e9 := eC_max hB1 hB2
    have e1 : gWs1 (N (S.getD k 0)) (exL L) (S.getD k 0) = gWst N (exL L) (S.getD k 0) := rfl
    rw [e1, e9]
    refine ih (n - 1) _ (by omega) ⟨k + 1, w2, by omega, ?_, fr_then hf hf2 (by decide)⟩
    unfold gMx
    rw [take_s (d := 0) h, List.map_append, List.map_cons, List.map_nil, oMx_snoc]
  · have e : k = S.length := by omega
    simp (disch := first | omega | (simp only [fIn, fR, fC, Nat.reduceEqDiff, decide_false, decide_true, Bool.false_or, Bool.or_false, Bool.false_and, Bool.and_false, Bool.or_self, Bool.true_and, Bool.true_or, Bool.and_true, Bool.or_true, Bool.and_self]; done) | fail) only [hP_some, hP_let, hP_gd, hP_B, hP_if, reduceIte, q_lit, nI_add, pk_mul, q_lt, q_le, q_eq, q_cl, q_g, Bool.not_eq_true', decide_eq_false_iff_not, decide_eq_true_eq, q_div, q_rm, q_sub, q_m1, Nat.zero_add, Nat.add_zero, hs1.1, h]
    have h9 := hq w1 hf
    rw [e, List.take_of_length_le (Nat.le_refl _)]
    exact h9
theorem gRl_T {g : gS} (ho : gOk g) (lf : Nat) : ∀ k, k ≤ gLk g → (exL (gRl g lf k)).length ≤ 9 * k
  | 0, _ => by simp [gRl, exL]
  | k + 1, h => by
    have ih := gRl_T ho lf k (by omega)
    have h4 := gOk_las ho k (by omega)
    simp only [gRl, exL_app, List.length_append]
    have e1 : (exL [(g 6 k, g 7 k)]).length = g 7 k := by simp [exL]
    have e0 : (exL ([] : List (Nat × Nat))).length = 0 := rfl
    split
    · rw [e0]; omega
    · rw [e1]; omega
/-- what the class tells of the worst, with this chair, these minutes, so many more, but for one look -/
def gWall (g : gS) (r : gR) (ch mi ex lf : Nat) : Option Nat := gMx (gNd g r ch mi ex) (exL (gRl g lf (gLk g))) (gSp g (gSw g))
abbrev pA : fP := ([33, 50, 51, 52, 43, 44], [(23, 7), (42, 2), (42, 4), (42, 5), (42, 6)])
theorem c_worstB {Q : Int32 → mW → Prop} {S : List Nat} {N : Nat → Nat} {lf : Nat} (ho : gOk g) (hl : rRd 42 43 44 w (gRl g lf (gLk g))) (hs : rSp w (gSp g (gSw g)) N) (hN : ∀ c, 1 ≤ N c ∧ N c ≤ 30) (hq : ∀ w', fr pS42 w w' → Q (eC (gMx N (exL (gRl g lf (gLk g))) (gSp g (gSw g)))) w') : hP (f93_23 w) Q := by
  have h1 := gSp_len g (gSw g)
  have h2 := gOk_sw ho
  have h3 := gOk_n ho
  have h4 := gRl_T ho lf (gLk g) (Nat.le_refl _)
  have h5 := gOk_lk ho
  exact c_worstR (gRl_ok ho lf _ (Nat.le_refl _)) (by omega) hl hs (by omega) (fun c hc => by have := gSp_lt ho _ (Nat.le_refl _) c hc; omega) hN hq
theorem c_worstNow {Q : Int32 → mW → Prop} (hr : rC g w) (hR : rCr r g w) (ho : gOk g) (hk : rOk r g) (hq : ∀ w', fr pA w w' → rRd 42 43 44 w' (gRl g 99 (gLk g)) → rSp w' (gSp g (gSw g)) (gN1 g r 0) → Q (eC (gWall g r (gCh g) (gMi g) 0 99)) w') : hP (f94_23 w) Q := by
  have h3 := gOk_n ho
  have h4 := gOk_ch ho
  have h5 := gOk_mi ho
  unfold f94_23
  simp (disch := first | omega | (simp only [fIn, fR, fC, Nat.reduceEqDiff, decide_false, decide_true, Bool.false_or, Bool.or_false, Bool.false_and, Bool.and_false, Bool.or_self, Bool.true_and, Bool.true_or, Bool.and_true, Bool.or_true, Bool.and_self]; done) | fail) only [hP_some, hP_let, hP_gd, hP_B, hP_if, reduceIte, q_lit, nI_add, pk_mul, q_lt, q_le, q_eq, q_cl, q_g, Bool.not_eq_true', decide_eq_false_iff_not, decide_eq_true_eq, q_div, q_rm, q_sub, q_m1, Nat.zero_add, Nat.add_zero, rC_wd hr, rC_hi hr, rC_sw hr, rC_lk hr, rC_la hr, rC_ti hr, rC_ga hr, rC_ca hr, rC_ch hr, rC_mi hr, rC_deep hr, rC_glare hr, rC_skill hr, rC_case hr, rC_tro hr, rC_at hr, rC_lat hr, rC_las hr]
  refine c_gather (ex := 0) hr hR ho hk (by omega) (by omega) (by omega) (fun w1 hf1 hs1 => ?_)
  refine c_take (rC_fr (by decide) hf1 hr) ho (fun w2 hf2 hl2 => ?_)
  have hs2 := rSp_fr hs1 hf2 rfl (fun _ => rfl) (fun _ => rfl)
  refine c_worstB (S := []) ho hl2 hs2 (fun c => gNd_b g r _ _ _ c) (fun w3 hf3 => ?_)
  exact hq w3 (fr_then (fr_then (fr_up hf1 (by decide)) hf2 (by decide)) hf3 (by decide)) (rRd_fr hl2 hf3 rfl (fun _ => rfl) (fun _ => rfl)) (rSp_fr hs2 hf3 rfl (fun _ => rfl) (fun _ => rfl))
end C6
