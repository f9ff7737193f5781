/-! ===== THE CLASS: numbers below 0, rules, needs ===== -/
theorem nm_toInt {a : Nat} (h : a < 2147483648) : (-nI a).toInt = -(a : Int) := by
  rw [Int32.toInt_neg, nI_toInt h]
  exact Int.bmod_eq_of_le (by omega) (by omega)
theorem q_mm_eq {a b : Nat} (ha : a < 2147483648) (hb : b < 2147483648) : (-nI a = -nI b) = (a = b) := by
  rw [← Int32.toInt_inj, nm_toInt ha, nm_toInt hb]
  exact propext ⟨fun h => by omega, fun h => by omega⟩
theorem q_mm_lt {a b : Nat} (ha : a < 2147483648) (hb : b < 2147483648) : (-nI a < -nI b) = (b < a) := by
  rw [Int32.lt_iff_toInt_lt, nm_toInt ha, nm_toInt hb]
  exact propext ⟨fun h => by omega, fun h => by omega⟩
theorem q_mp_lt {a b : Nat} (ha : a < 2147483648) (hb : b < 2147483648) : (-nI a < nI b) = (0 < a + b) := by
  rw [Int32.lt_iff_toInt_lt, nm_toInt ha, nI_toInt hb]
  exact propext ⟨fun h => by omega, fun h => by omega⟩
theorem q_pm_lt {a b : Nat} (ha : a < 2147483648) (hb : b < 2147483648) : (nI a < -nI b) = False := by
  rw [Int32.lt_iff_toInt_lt, nm_toInt hb, nI_toInt ha]
  exact eq_false (fun h => by omega)
theorem q_pm_eq {a b : Nat} (ha : a < 2147483648) (hb : b < 2147483648) : (nI a = -nI b) = (a = 0 ∧ b = 0) := by
  rw [← Int32.toInt_inj, nm_toInt hb, nI_toInt ha]
  exact propext ⟨fun h => by omega, fun h => by omega⟩
theorem q_mp_eq {a b : Nat} (ha : a < 2147483648) (hb : b < 2147483648) : (-nI a = nI b) = (a = 0 ∧ b = 0) := by
  rw [← Int32.toInt_inj, nm_toInt ha, nI_toInt hb]
  exact propext ⟨fun h => by omega, fun h => by omega⟩
theorem q_mm_sub {a b : Nat} (h : a ≤ b) : -nI a - -nI b = nI (b - a) := by
  have e : ∀ x y : Int32, -x - -y = y - x := by
    intro x y
    rw [← Int32.toBitVec_inj]
    show -x.toBitVec - -y.toBitVec = y.toBitVec - x.toBitVec
    rw [BitVec.sub_eq_add_neg, BitVec.neg_neg, BitVec.add_comm, ← BitVec.sub_eq_add_neg]
  rw [e]
  exact pk_sub h
/-! bits -/
def bc9 (x0 : Int32) : Int32 := nLet (x0 - ((nUsr x0 1) &&& 1431655765)) fun v1 => nLet ((v1 &&& 858993459) + ((nUsr v1 2) &&& 858993459)) fun v2 => nLet ((v2 + (nUsr v2 4)) &&& 252645135) fun v3 => nLet (v3 + (nUsr v3 8)) fun v4 => nLet (v4 + (nUsr v4 16)) fun v5 => v5 &&& 63
theorem bc9_ok : ∀ v, v < 4096 → bc9 (nI v) = nI (nBts v 12) := by
  have h : (List.range 4096).all (fun v => decide (bc9 (nI v) = nI (nBts v 12))) = true := by decide +kernel
  intro v hv
  have := List.all_eq_true.mp h v (List.mem_range.mpr hv)
  simpa using this
/-! the code of a rule, as the class keeps it -/
def oNg (a : Nat) : Nat := if a = 3 then 3 else if a = 4 then 2 else if a = 5 then 1 else a - 2
def cvx (k : Nat) : Nat := if k = 0 then 4 else if k ≤ 4 then k - 1 else k
def cO (o : gO) : Int32 := if o.1 = 1 then nI o.2 else if o.1 = 2 then -nI (20 + cvx o.2) else -nI (oNg o.1)
def cdC (w : mW) : Nat → List gO → Prop
  | _, [] => True
  | k, o :: t => k < 700 ∧ wI w 30 k = cO o ∧ cdC w (k + 1) t
theorem cdC_cg {w w' : mW} (h : ∀ j, wI w' 30 j = wI w 30 j) : ∀ (l : List gO) (k : Nat), cdC w k l → cdC w' k l
  | [], _, _ => trivial
  | o :: t, k, hc => ⟨hc.1, (h k).trans hc.2.1, cdC_cg h t _ hc.2.2⟩
def rAtC (w : mW) (i : Nat) (o : Option (List gO)) : Prop := ∃ a b, wI w 31 i = nI a ∧ wI w 32 i = nI b ∧ a ≤ 700 ∧ b ≤ 700 ∧ (match o with
  | none => b ≤ a
  | some l => b = a + l.length ∧ cdC w a l)
def rCr (r : gR) (g : gS) (w : mW) : Prop := rAtC w 0 (r 0) ∧ rAtC w 1 (r 1) ∧ ∀ i, i < gGa g → ∃ l, r (2 + i) = some l ∧ rAtC w (2 + i) (r (2 + i))
theorem rAtC_cg {w w' : mW} {i : Nat} {o : Option (List gO)} (h : ∀ a, a = 30 ∨ a = 31 ∨ a = 32 → ∀ j, wI w' a j = wI w a j) (hr : rAtC w i o) : rAtC w' i o := by
  obtain ⟨a, b, h1, h2, h3, h4, h5⟩ := hr
  refine ⟨a, b, (h 31 (by omega) i).trans h1, (h 32 (by omega) i).trans h2, h3, h4, ?_⟩
  cases o with
  | none => exact h5
  | some l => exact ⟨h5.1, cdC_cg (h 30 (by omega)) l a h5.2⟩
theorem rCr_fr {r : gR} {g : gS} {p : fP} {w w' : mW} (hd : fOff rCR rCK p = true) (hf : fr p w w') (h : rCr r g w) : rCr r g w' := by
  have hx : ∀ a, a = 30 ∨ a = 31 ∨ a = 32 → ∀ j, wI w' a j = wI w a j := by
    intro a ha j
    refine fr_rd hf (fOff_row hd ?_ j)
    rcases ha with rfl | rfl | rfl <;> decide
  obtain ⟨h1, h2, h3⟩ := h
  exact ⟨rAtC_cg hx h1, rAtC_cg hx h2, fun i hi => (h3 i hi).imp fun l hl => ⟨hl.1, rAtC_cg hx hl.2⟩⟩
section C1
variable {g : gS} {r : gR} {w : mW} {Q : Int32 → mW → Prop}
theorem c_bits {v : Nat} (hv : v < 4096) (hq : Q (nI (nBts v 12)) w) : hP (f292 (nI v) w) Q := by
  have e : f292 (nI v) w = some (bc9 (nI v), w) := rfl
  rw [e, bc9_ok v hv, hP_some]
  exact hq
theorem c_between {a b : Nat} (hr : rC g w) (ho : gOk g) (ha : a < 40) (hb : b < 40) (hq : Q (nI (gFar g b a)) w) : hP (f50_24 (nI a) (nI b) w) Q := by
  have h1 := gOk_wd ho
  have a1 : a % gW g < 40 := Nat.lt_of_le_of_lt (Nat.mod_le _ _) ha
  have a2 : b % gW g < 40 := Nat.lt_of_le_of_lt (Nat.mod_le _ _) hb
  have a3 : a / gW g < 40 := Nat.lt_of_le_of_lt (Nat.div_le_self _ _) ha
  have a4 : b / gW g < 40 := Nat.lt_of_le_of_lt (Nat.div_le_self _ _) hb
  have n1 : ¬ gW g < 1 := by omega
  have n2 : ¬ gW g = 0 := by omega
  unfold f50_24 f48_24 f49_24
  simp (disch := first | omega | (simp only [fIn, fR, fC, Nat.reduceEqDiff, decide_false, decide_true, Bool.false_or, Bool.or_false, Bool.false_and, Bool.and_false, Bool.or_self, Bool.true_and, Bool.true_or, Bool.and_true, Bool.or_true, Bool.and_self]; done) | fail) only [hP_some, hP_let, hP_gd, hP_B, hP_if, reduceIte, q_lit, nI_add, pk_mul, q_lt, q_le, q_eq, q_cl, q_g, Bool.not_eq_true', decide_eq_false_iff_not, decide_eq_true_eq, q_div, q_rm, q_sub, q_m1, Nat.zero_add, Nat.add_zero, rC_wd hr, rC_hi hr, rC_sw hr, rC_lk hr, rC_la hr, rC_ti hr, rC_ga hr, rC_ca hr, rC_ch hr, rC_mi hr, rC_deep hr, rC_glare hr, rC_skill hr, rC_case hr, rC_tro hr, rC_at hr, rC_lat hr, rC_las hr, n1, n2, q_abs, not_false_eq_true, true_and]
  exact hq
theorem c_who {c : Nat} (hr : rC g w) (ho : gOk g) (hc : c < 40) (hq : Q (nI (gWho g c (gSw g))) w) : hP (f82_23 (nI c) w) Q := by
  have h1 := gOk_sw ho
  have h3 := gOk_n ho
  unfold f82_23
  refine hP_loopF (fun n s => ∃ k, k + n = gSw g ∧ s = (nI (gWho g c k), nI k, w)) (gSw g) (by omega) ⟨0, by omega, rfl⟩ ?_
  rintro n s rec ⟨k, hk, rfl⟩ ih
  simp only [f82_23_b4]
  by_cases h : k < gSw g
  · have h2 := gOk_at ho k h
    have hk12 : 2 ^ k ≤ 2 ^ 12 := Nat.pow_le_pow_right (by decide) (by omega)
    simp (disch := first | omega | (simp only [fIn, fR, fC, Nat.reduceEqDiff, decide_false, decide_true, Bool.false_or, Bool.or_false, Bool.false_and, Bool.and_false, Bool.or_self, Bool.true_and, Bool.true_or, Bool.and_true, Bool.or_true, Bool.and_self]; done) | fail) only [hP_some, hP_let, hP_gd, hP_B, hP_if, reduceIte, q_lit, nI_add, pk_mul, q_lt, q_le, q_eq, q_cl, q_g, Bool.not_eq_true', decide_eq_false_iff_not, decide_eq_true_eq, q_div, q_rm, q_sub, q_m1, Nat.zero_add, Nat.add_zero, rC_wd hr, rC_hi hr, rC_sw hr, rC_lk hr, rC_la hr, rC_ti hr, rC_ga hr, rC_ca hr, rC_ch hr, rC_mi hr, rC_deep hr, rC_glare hr, rC_skill hr, rC_case hr, rC_tro hr, rC_at hr, rC_lat hr, rC_las hr, h]
    refine ⟨by omega, ?_⟩
    by_cases e : g 5 k = c
    · have e2 : gWho g c (k + 1) = gWho g c k + 2 ^ k := by show _ + _ = _; rw [if_pos e]
      simp only [e, reduceIte]
      rw [q_shl (by omega) (by omega), Nat.one_mul, q_or (gWho_lt g c k), ← e2]
      exact ih (n - 1) _ (by omega) ⟨k + 1, by omega, rfl⟩
    · have e2 : gWho g c (k + 1) = gWho g c k := by show _ + _ = _; rw [if_neg e]; rfl
      simp only [e, reduceIte]
      exact ih (n - 1) _ (by omega) ⟨k + 1, by omega, by rw [e2]⟩
  · have e : k = gSw g := by omega
    simp (disch := first | omega | (simp only [fIn, fR, fC, Nat.reduceEqDiff, decide_false, decide_true, Bool.false_or, Bool.or_false, Bool.false_and, Bool.and_false, Bool.or_self, Bool.true_and, Bool.true_or, Bool.and_true, Bool.or_true, Bool.and_self]; done) | fail) only [hP_some, hP_let, hP_gd, hP_B, hP_if, reduceIte, q_lit, nI_add, pk_mul, q_lt, q_le, q_eq, q_cl, q_g, Bool.not_eq_true', decide_eq_false_iff_not, decide_eq_true_eq, q_div, q_rm, q_sub, q_m1, Nat.zero_add, Nat.add_zero, rC_wd hr, rC_hi hr, rC_sw hr, rC_lk hr, rC_la hr, rC_ti hr, rC_ga hr, rC_ca hr, rC_ch hr, rC_mi hr, rC_deep hr, rC_glare hr, rC_skill hr, rC_case hr, rC_tro hr, rC_at hr, rC_lat hr, rC_las hr, h]
    rw [e]
    exact hq
theorem c_joined {a : Nat} {x y : Int32} (h1 : 4 ≤ a) (h2 : a ≤ 11) (hq : Q (oWk a x y) w) : hP (f67 (-nI (oNg a)) x y w) Q := by
  have h : a = 4 ∨ a = 5 ∨ a = 6 ∨ a = 7 ∨ a = 8 ∨ a = 9 ∨ a = 10 ∨ a = 11 := by omega
  have e : ∀ m n : Nat, m < 2147483648 → n < 2147483648 → ((-nI m = -(OfNat.ofNat n : Int32)) = (m = n)) := fun m n hm hn => by rw [q_lit]; exact q_mm_eq hm hn
  unfold f67
  unfold oWk at hq
  rcases h with rfl | rfl | rfl | rfl | rfl | rfl | rfl | rfl
  all_goals
    simp (disch := omega) only [oNg, e, reduceIte, Nat.reduceEqDiff, Nat.reduceSub] at hq ⊢
    simp only [hP_some, hP_gd, hP_if, q_ite]
  all_goals first
    | exact hq
    | skip
  refine ⟨by decide, ?_⟩
  by_cases c : y = 0
  · rw [if_pos c] at hq ⊢
    exact hq
  · rw [if_neg c] at hq ⊢
    exact ⟨by simpa using c, hq⟩
theorem c_kept {v : Int32} {lo hi : Nat} (hlh : lo ≤ hi) (hh : hi < 2147483648) (hq : Q (nI (nCl lo hi v)) w) : hP (f174 v (nI lo) (nI hi) w) Q := by
  unfold f174
  rw [hP_some]
  have e : nMax (nI lo) (nMin (nI hi) v) = nI (nCl lo hi v) := by
    have h9 := nCl_eq (lo := lo) (hi := hi) (v := v) (R := fun x => nMax (nI lo) (nMin (nI hi) v) = x) (by omega)
    rw [← h9]
    unfold nMin nMax
    by_cases c1 : v < nI lo
    · rw [if_pos c1]
      have c2 : v < nI hi := by
        rw [Int32.lt_iff_toInt_lt, nI_toInt (by omega)] at c1 ⊢
        omega
      rw [if_pos c2]
      rw [if_neg]
      rw [Int32.lt_iff_toInt_lt] at c1 ⊢
      omega
    · rw [if_neg c1]
      by_cases c2 : nI hi < v
      · rw [if_pos c2]
        have c3 : ¬ v < nI hi := by rw [Int32.lt_iff_toInt_lt] at c2 ⊢; omega
        rw [if_neg c3]
        simp only [q_lt (show lo < 2147483648 by omega) hh]
        by_cases c4 : lo < hi
        · rw [if_pos c4]
        · rw [if_neg c4, show lo = hi by omega]
      · rw [if_neg c2]
        by_cases c3 : v < nI hi
        · rw [if_pos c3]
          by_cases c4 : nI lo < v
          · rw [if_pos c4]
          · rw [if_neg c4, ← Int32.toInt_inj]
            rw [Int32.lt_iff_toInt_lt] at c1 c4
            omega
        · rw [if_neg c3]
          have e9 : v = nI hi := by
            rw [← Int32.toInt_inj]
            rw [Int32.lt_iff_toInt_lt] at c2 c3
            omega
          rw [e9]
          simp only [q_lt (show lo < 2147483648 by omega) hh]
          by_cases c4 : lo < hi
          · rw [if_pos c4]
          · rw [if_neg c4, show lo = hi by omega]
  rw [e]
  exact hq
end C1
