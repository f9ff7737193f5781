/-! ===== OPERATIONS: count ===== -/
def nLn64 (x : Int64) : Nat := x.toBitVec.toNat
theorem n64_and (x y : Int64) : nLn64 (x &&& y) = nLn64 x &&& nLn64 y := BitVec.toNat_and ..
theorem n64_us (x : Int64) {c : Nat} (h : c < 64) : nLn64 (nLus x (nI c)) = nLn64 x / 2 ^ c := by
  unfold nLn64
  rw [nLus_bv h, BitVec.toNat_ushiftRight, Nat.shiftRight_eq_div_pow]
theorem n64_add {x y : Int64} (h : nLn64 x + nLn64 y < 18446744073709551616) : nLn64 (x + y) = nLn64 x + nLn64 y := by
  unfold nLn64 at *
  show (x.toBitVec + y.toBitVec).toNat = _
  rw [BitVec.toNat_add, Nat.mod_eq_of_lt h]
theorem n64_sub {x y : Int64} (h : nLn64 y ≤ nLn64 x) : nLn64 (x - y) = nLn64 x - nLn64 y := by
  unfold nLn64 at *
  show (x.toBitVec - y.toBitVec).toNat = _
  exact BitVec.toNat_sub_of_le h
theorem n64_lt (x : Int64) : nLn64 x < 18446744073709551616 := x.toBitVec.isLt
theorem n64_127 (x : Int64) : (x.toInt32 &&& 127) = nI (nLn64 x % 128) := by
  apply Int32.toBitVec_inj.mp
  apply BitVec.eq_of_toNat_eq
  show (x.toInt32.toBitVec &&& 127#32).toNat = (BitVec.ofNat 32 (nLn64 x % 128)).toNat
  have e : x.toInt32.toBitVec = x.toBitVec.setWidth 32 := by
    show BitVec.signExtend 32 x.toBitVec = _
    exact BitVec.signExtend_eq_setWidth_of_le _ (by decide)
  rw [e, BitVec.toNat_and, BitVec.toNat_setWidth]
  show (x.toBitVec.toNat % 2 ^ 32 &&& 127) = (x.toBitVec.toNat % 128) % 2 ^ 32
  have h7 : (x.toBitVec.toNat % 2 ^ 32 &&& 127) = x.toBitVec.toNat % 2 ^ 32 % 128 := Nat.and_two_pow_sub_one_eq_mod _ 7
  rw [h7]
  omega
theorem c_pop64 {x : Int64} {w : mW} {Q : Int32 → mW → Prop} (hq : Q (nI (pop (nLn64 x) 64)) w) : hP (f293 x w) Q := by
  unfold f293
  simp only [hP_let, hP_some]
  have hX := n64_lt x
  have M5 : nLn64 6148914691236517205 = mk8 8 0x55 := by decide
  have M3 : nLn64 3689348814741910323 = mk8 8 0x33 := by decide
  have Mf : nLn64 1085102592571150095 = mk8 8 0x0f := by decide
  have m3 : mk8 8 0x33 = 3689348814741910323 := by decide
  have mf : mk8 8 0x0f = 1085102592571150095 := by decide
  generalize h1 : x - ((nLus x 1) &&& 6148914691236517205) = v1
  have n1 : nLn64 v1 = S1 8 (nLn64 x) := by
    have e : nLn64 ((nLus x 1) &&& 6148914691236517205) = nLn64 x / 2 &&& mk8 8 0x55 := by rw [n64_and, M5]; congr 1
    have hl : nLn64 x / 2 &&& mk8 8 0x55 ≤ nLn64 x / 2 := Nat.and_le_left
    rw [← h1, n64_sub (by rw [e]; omega), e]
    rfl
  generalize h2 : (v1 &&& 3689348814741910323) + ((nLus v1 2) &&& 3689348814741910323) = v2
  have n2 : nLn64 v2 = W8 8 (nLn64 x) := by
    have ea : nLn64 (v1 &&& 3689348814741910323) = nLn64 v1 &&& mk8 8 0x33 := by rw [n64_and, M3]
    have eb : nLn64 ((nLus v1 2) &&& 3689348814741910323) = nLn64 v1 / 4 &&& mk8 8 0x33 := by rw [n64_and, M3]; congr 1; exact n64_us v1 (c := 2) (by decide)
    have la : nLn64 v1 &&& mk8 8 0x33 ≤ mk8 8 0x33 := Nat.and_le_right
    have lb : nLn64 v1 / 4 &&& mk8 8 0x33 ≤ mk8 8 0x33 := Nat.and_le_right
    rw [← h2, n64_add (by rw [ea, eb]; omega), ea, eb, n1]
    rfl
  have l2 : nLn64 v2 ≤ 7378697629483820646 := by
    rw [n2]
    unfold W8 S2
    have la : S1 8 (nLn64 x) &&& mk8 8 0x33 ≤ mk8 8 0x33 := Nat.and_le_right
    have lb : S1 8 (nLn64 x) / 4 &&& mk8 8 0x33 ≤ mk8 8 0x33 := Nat.and_le_right
    omega
  generalize h3 : (v2 + (nLus v2 4)) &&& 1085102592571150095 = v3
  have n3 : nLn64 v3 = T8 8 (nLn64 x) := by
    have ea : nLn64 (nLus v2 4) = nLn64 v2 / 16 := n64_us v2 (c := 4) (by decide)
    rw [← h3, n64_and, Mf, n64_add (by rw [ea]; omega), ea, n2]
    rfl
  have l3 : nLn64 v3 ≤ 1085102592571150095 := by
    rw [n3]
    unfold T8 S3
    have la : (W8 8 (nLn64 x) + W8 8 (nLn64 x) / 16) &&& mk8 8 0x0f ≤ mk8 8 0x0f := Nat.and_le_right
    omega
  generalize h4 : v3 + (nLus v3 8) = v4
  have n4 : nLn64 v4 = nLn64 v3 + nLn64 v3 / 256 := by
    have ea : nLn64 (nLus v3 8) = nLn64 v3 / 256 := n64_us v3 (c := 8) (by decide)
    rw [← h4, n64_add (by rw [ea]; omega), ea]
  generalize h5 : v4 + (nLus v4 16) = v5
  have n5 : nLn64 v5 = nLn64 v4 + nLn64 v4 / 65536 := by
    have ea : nLn64 (nLus v4 16) = nLn64 v4 / 65536 := n64_us v4 (c := 16) (by decide)
    rw [← h5, n64_add (by rw [ea]; omega), ea]
  generalize h6 : v5 + (nLus v5 32) = v6
  have n6 : nLn64 v6 = nLn64 v5 + nLn64 v5 / 4294967296 := by
    have ea : nLn64 (nLus v5 32) = nLn64 v5 / 4294967296 := n64_us v5 (c := 32) (by decide)
    rw [← h6, n64_add (by rw [ea]; omega), ea]
  rw [n64_127]
  have fin : nLn64 v6 % 128 = pop (nLn64 x) 64 := by
    rw [show (64 : Nat) = 8 * 8 from rfl, pop_bs]
    have hp : ∀ y, p8 (y % 256) ≤ 8 := fun y => (k3 ⟨y % 256, Nat.mod_lt _ (by decide)⟩).2.2.2.2
    have t0 : ∀ y, T8 0 y = 0 := fun y => by unfold T8 S3; show _ &&& 0 = 0; rw [Nat.and_zero]
    simp only [T8_step, t0] at n3
    simp only [bs8]
    have b0 := hp (nLn64 x)
    have b1 := hp (nLn64 x / 256)
    have b2 := hp (nLn64 x / 256 / 256)
    have b3 := hp (nLn64 x / 256 / 256 / 256)
    have b4 := hp (nLn64 x / 256 / 256 / 256 / 256)
    have b5 := hp (nLn64 x / 256 / 256 / 256 / 256 / 256)
    have b6 := hp (nLn64 x / 256 / 256 / 256 / 256 / 256 / 256)
    have b7 := hp (nLn64 x / 256 / 256 / 256 / 256 / 256 / 256 / 256)
    generalize p8 (nLn64 x % 256) = c0 at *
    generalize p8 (nLn64 x / 256 % 256) = c1 at *
    generalize p8 (nLn64 x / 256 / 256 % 256) = c2 at *
    generalize p8 (nLn64 x / 256 / 256 / 256 % 256) = c3 at *
    generalize p8 (nLn64 x / 256 / 256 / 256 / 256 % 256) = c4 at *
    generalize p8 (nLn64 x / 256 / 256 / 256 / 256 / 256 % 256) = c5 at *
    generalize p8 (nLn64 x / 256 / 256 / 256 / 256 / 256 / 256 % 256) = c6 at *
    generalize p8 (nLn64 x / 256 / 256 / 256 / 256 / 256 / 256 / 256 % 256) = c7 at *
    clear h1 h2 h3 h4 h5 h6 hq hX n1 n2 l2 l3 hp t0 M5 M3 Mf m3 mf
    generalize nLn64 v3 = y3 at *
    generalize nLn64 v4 = y4 at *
    generalize nLn64 v5 = y5 at *
    generalize nLn64 v6 = y6 at *
    have e4 : y4 = (c0 + c1) + 256 * ((c1 + c2) + 256 * ((c2 + c3) + 256 * ((c3 + c4) + 256 * ((c4 + c5) + 256 * ((c5 + c6) + 256 * ((c6 + c7) + 256 * c7)))))) := by omega
    have e5 : y5 = (c0 + c1 + c2 + c3) + 256 * ((c1 + c2 + c3 + c4) + 256 * ((c2 + c3 + c4 + c5) + 256 * ((c3 + c4 + c5 + c6) + 256 * ((c4 + c5 + c6 + c7) + 256 * ((c5 + c6 + c7) + 256 * ((c6 + c7) + 256 * c7)))))) := by omega
    clear n3 n4 n5 e4
    have e6 : y5 % 128 = (c0 + c1 + c2 + c3) % 128 := by omega
    have e8 : y5 = ((c0 + c1 + c2 + c3) + 256 * ((c1 + c2 + c3 + c4) + 256 * ((c2 + c3 + c4 + c5) + 256 * (c3 + c4 + c5 + c6)))) + 4294967296 * ((c4 + c5 + c6 + c7) + 256 * ((c5 + c6 + c7) + 256 * ((c6 + c7) + 256 * c7))) := by omega
    have e9 : (c0 + c1 + c2 + c3) + 256 * ((c1 + c2 + c3 + c4) + 256 * ((c2 + c3 + c4 + c5) + 256 * (c3 + c4 + c5 + c6))) < 4294967296 := by omega
    generalize (c0 + c1 + c2 + c3) + 256 * ((c1 + c2 + c3 + c4) + 256 * ((c2 + c3 + c4 + c5) + 256 * (c3 + c4 + c5 + c6))) = lo at e8 e9
    have e10 : y5 / 4294967296 = (c4 + c5 + c6 + c7) + 256 * ((c5 + c6 + c7) + 256 * ((c6 + c7) + 256 * c7)) := by
      generalize (c4 + c5 + c6 + c7) + 256 * ((c5 + c6 + c7) + 256 * ((c6 + c7) + 256 * c7)) = hi at e8
      clear e5 e6
      omega
    have e7 : y5 / 4294967296 % 128 = (c4 + c5 + c6 + c7) % 128 := by rw [e10]; clear e5 e6 e8 e9 e10 n6; omega
    clear e5 e8 e9 e10
    omega
  rw [fin]
  exact hq

def lkM (g : gS) : Nat → Int64
  | 0 => 0
  | k + 1 => lkM g k ||| nLsl 1 (nI (g 6 k))
def lkIn (g : gS) (c : Nat) : Nat → Bool
  | 0 => false
  | k + 1 => lkIn g c k || decide (g 6 k = c)
def lkC (g : gS) : Nat → Nat
  | 0 => 0
  | c + 1 => lkC g c + (if lkIn g c (gLk g) = true then 1 else 0)
theorem lkC_le (g : gS) : ∀ c, lkC g c ≤ c
  | 0 => Nat.le_refl _
  | c + 1 => by
    have := lkC_le g c
    show lkC g c + _ ≤ _
    split <;> omega
theorem lkM_bit {g : gS} (ho : gOk g) {c : Nat} (hc : c < 64) : ∀ k, k ≤ gLk g → b64 (lkM g k) c = lkIn g c k
  | 0, _ => by
    show (0#64).getLsbD c = false
    exact BitVec.getLsbD_zero
  | k + 1, h => by
    have h1 := gOk_lat ho k (by omega)
    have h2 := gOk_n ho
    show b64 (lkM g k ||| nLsl 1 (nI (g 6 k))) c = (lkIn g c k || decide (g 6 k = c))
    rw [b64_set hc (by omega), lkM_bit ho hc k (by omega)]
    congr 1
    exact decide_eq_decide.mpr ⟨fun e => e.symm, fun e => e.symm⟩
theorem lkIn_big {g : gS} (ho : gOk g) {c : Nat} (hc : gW g * gH g ≤ c) : ∀ k, k ≤ gLk g → lkIn g c k = false
  | 0, _ => rfl
  | k + 1, h => by
    have h1 := gOk_lat ho k (by omega)
    show (lkIn g c k || decide (g 6 k = c)) = false
    rw [lkIn_big ho hc k (by omega), decide_eq_false (by omega)]
    rfl
theorem pop_lk {g : gS} (ho : gOk g) : ∀ c, c ≤ 64 → pop (nLn64 (lkM g (gLk g))) c = lkC g c
  | 0, _ => rfl
  | c + 1, h => by
    have hb := lkM_bit ho (show c < 64 by omega) (gLk g) (Nat.le_refl _)
    have hb2 : nLn64 (lkM g (gLk g)) / 2 ^ c % 2 = if lkIn g c (gLk g) = true then 1 else 0 := by
      rw [← hb]
      have : b64 (lkM g (gLk g)) c = decide (nLn64 (lkM g (gLk g)) / 2 ^ c % 2 = 1) := Nat.testBit_eq_decide_div_mod_eq
      rw [this]
      have h2 := Nat.mod_lt (nLn64 (lkM g (gLk g)) / 2 ^ c) (show 0 < 2 by decide)
      generalize nLn64 (lkM g (gLk g)) / 2 ^ c % 2 = z at h2 ⊢
      by_cases e : z = 1
      · subst e; rfl
      · rw [if_neg (by rw [decide_eq_true_eq]; exact e)]; omega
    show pop _ c + nLn64 (lkM g (gLk g)) / 2 ^ c % 2 = lkC g c + _
    rw [pop_lk ho c (by omega), hb2]
theorem lkC_big {g : gS} (ho : gOk g) : ∀ m, lkC g (gW g * gH g + m) = lkC g (gW g * gH g)
  | 0 => rfl
  | m + 1 => by
    show lkC g (gW g * gH g + m) + (if lkIn g (gW g * gH g + m) (gLk g) = true then 1 else 0) = _
    rw [lkC_big ho m, lkIn_big ho (by omega) (gLk g) (Nat.le_refl _)]
    rfl
section CNT
variable {g : gS} {r : gR} {w : mW} {Q : Int32 → mW → Prop}
theorem c_looked (hr : rC g w) (ho : gOk g) (hq : Q (nI (lkC g (gW g * gH g))) w) : hP (f81_23 w) Q := by
  have hlk := gOk_lk ho
  have hn := gOk_n ho
  unfold f81_23
  refine hP_loopF (fun n s => ∃ k, k + n = gLk g ∧ s = (lkM g k, nI k, w)) (gLk g) (by omega) ⟨0, by omega, rfl⟩ ?_
  rintro n s rec ⟨k, hkn, rfl⟩ ih
  simp only [f81_23_b4]
  by_cases c1 : k < gLk g
  · simp (disch := first | omega | (simp only [fIn, fR, fC, Nat.reduceEqDiff, decide_false, decide_true, Bool.false_or, Bool.or_false, Bool.false_and, Bool.and_false, Bool.or_self, Bool.true_and, Bool.true_or, Bool.and_true, Bool.or_true, Bool.and_self]; done) | fail) only [hP_some, hP_let, hP_gd, hP_B, hP_if, reduceIte, q_lit, nI_add, pk_mul, q_lt, q_le, q_eq, q_cl, q_g, Bool.not_eq_true', decide_eq_false_iff_not, decide_eq_true_eq, q_div, q_rm, q_sub, q_m1, Nat.zero_add, Nat.add_zero, rC_lk hr, c1, rC_lat hr]
    exact ⟨by omega, ih (n - 1) _ (by omega) ⟨k + 1, by omega, rfl⟩⟩
  · have e : k = gLk g := by omega
    simp (disch := first | omega | (simp only [fIn, fR, fC, Nat.reduceEqDiff, decide_false, decide_true, Bool.false_or, Bool.or_false, Bool.false_and, Bool.and_false, Bool.or_self, Bool.true_and, Bool.true_or, Bool.and_true, Bool.or_true, Bool.and_self]; done) | fail) only [hP_some, hP_let, hP_gd, hP_B, hP_if, reduceIte, q_lit, nI_add, pk_mul, q_lt, q_le, q_eq, q_cl, q_g, Bool.not_eq_true', decide_eq_false_iff_not, decide_eq_true_eq, q_div, q_rm, q_sub, q_m1, Nat.zero_add, Nat.add_zero, rC_lk hr, c1]
    subst e
    refine c_pop64 ?_
    rw [pop_lk ho 64 (Nat.le_refl _), show 64 = gW g * gH g + (64 - gW g * gH g) by omega, lkC_big ho]
    exact hq
theorem m_looked (hr : rM g w) (ho : gOk g) (hq : Q (nI (lkC g (gW g * gH g))) w) : hP (f236_80 w) Q := by
  have hlk := gOk_lk ho
  have hn := gOk_n ho
  unfold f236_80
  refine hP_loopF (fun n s => ∃ c, c + n = gW g * gH g ∧ s = (nI (lkC g c), nI c, w)) (gW g * gH g) (by omega) ⟨0, by omega, rfl⟩ ?_
  rintro n s rec ⟨c, hcn, rfl⟩ ih
  simp only [f236_80_b4, f218_80]
  by_cases c1 : c < gW g * gH g
  · simp (disch := first | omega | (simp only [fIn, fR, fC, Nat.reduceEqDiff, decide_false, decide_true, Bool.false_or, Bool.or_false, Bool.false_and, Bool.and_false, Bool.or_self, Bool.true_and, Bool.true_or, Bool.and_true, Bool.or_true, Bool.and_self]; done) | fail) only [hP_some, hP_let, hP_gd, hP_B, hP_if, reduceIte, q_lit, nI_add, pk_mul, q_lt, q_le, q_eq, q_cl, q_g, Bool.not_eq_true', decide_eq_false_iff_not, decide_eq_true_eq, q_div, q_rm, q_sub, q_m1, Nat.zero_add, Nat.add_zero, rM_wd hr, rM_hi hr, c1]
    have hC := lkC_le g c
    refine hP_loopF (fun m s => ∃ k, k + m = gLk g ∧ s = ((if lkIn g c k = true then nI 1 else nI 0), nI k, w)) (gLk g) (by omega) ⟨0, by omega, rfl⟩ ?_
    rintro m s rec2 ⟨k, hkm, rfl⟩ ih2
    simp only [f236_80_b17]
    by_cases c2 : k < gLk g
    · have h6 := gOk_lat ho k c2
      have e0 : lkIn g c (k + 1) = (lkIn g c k || decide (g 6 k = c)) := rfl
      by_cases c3 : lkIn g c k = true
      · rw [c3] at e0
        simp (disch := first | omega | (simp only [fIn, fR, fC, Nat.reduceEqDiff, decide_false, decide_true, Bool.false_or, Bool.or_false, Bool.false_and, Bool.and_false, Bool.or_self, Bool.true_and, Bool.true_or, Bool.and_true, Bool.or_true, Bool.and_self]; done) | fail) only [c3, hP_some, hP_let, hP_gd, hP_B, hP_if, reduceIte, q_lit, nI_add, pk_mul, q_lt, q_le, q_eq, q_cl, q_g, Bool.not_eq_true', decide_eq_false_iff_not, decide_eq_true_eq, q_div, q_rm, q_sub, q_m1, Nat.zero_add, Nat.add_zero, rM_lk hr, c2, Nat.reduceEqDiff]
        refine ih2 (m - 1) _ (by omega) ⟨k + 1, by omega, ?_⟩
        rw [e0]; rfl
      · have c3' : lkIn g c k = false := Bool.not_eq_true _ ▸ c3
        rw [c3'] at e0
        simp (disch := first | omega | (simp only [fIn, fR, fC, Nat.reduceEqDiff, decide_false, decide_true, Bool.false_or, Bool.or_false, Bool.false_and, Bool.and_false, Bool.or_self, Bool.true_and, Bool.true_or, Bool.and_true, Bool.or_true, Bool.and_self]; done) | fail) only [c3', hP_some, hP_let, hP_gd, hP_B, hP_if, reduceIte, q_lit, nI_add, pk_mul, q_lt, q_le, q_eq, q_cl, q_g, Bool.not_eq_true', decide_eq_false_iff_not, decide_eq_true_eq, q_div, q_rm, q_sub, q_m1, Nat.zero_add, Nat.add_zero, rM_lk hr, c2, Bool.false_eq_true, rM_lat hr]
        refine ⟨by omega, ?_⟩
        by_cases c4 : g 6 k = c
        · rw [if_pos c4]
          refine ih2 (m - 1) _ (by omega) ⟨k + 1, by omega, ?_⟩
          rw [e0, decide_eq_true c4]; rfl
        · rw [if_neg c4]
          refine ih2 (m - 1) _ (by omega) ⟨k + 1, by omega, ?_⟩
          rw [e0, decide_eq_false c4]; rfl
    · have e : k = gLk g := by omega
      subst e
      have e1 : lkC g (c + 1) = lkC g c + (if lkIn g c (gLk g) = true then 1 else 0) := rfl
      by_cases c3 : lkIn g c (gLk g) = true
      · rw [if_pos c3] at e1
        simp (disch := first | omega | (simp only [fIn, fR, fC, Nat.reduceEqDiff, decide_false, decide_true, Bool.false_or, Bool.or_false, Bool.false_and, Bool.and_false, Bool.or_self, Bool.true_and, Bool.true_or, Bool.and_true, Bool.or_true, Bool.and_self]; done) | fail) only [c3, hP_some, hP_let, hP_gd, hP_B, hP_if, reduceIte, q_lit, nI_add, pk_mul, q_lt, q_le, q_eq, q_cl, q_g, Bool.not_eq_true', decide_eq_false_iff_not, decide_eq_true_eq, q_div, q_rm, q_sub, q_m1, Nat.zero_add, Nat.add_zero, rM_lk hr, c2, Nat.reduceEqDiff]
        exact ih (n - 1) _ (by omega) ⟨c + 1, by omega, by rw [e1]⟩
      · have c3' : lkIn g c (gLk g) = false := Bool.not_eq_true _ ▸ c3
        rw [if_neg c3] at e1
        simp (disch := first | omega | (simp only [fIn, fR, fC, Nat.reduceEqDiff, decide_false, decide_true, Bool.false_or, Bool.or_false, Bool.false_and, Bool.and_false, Bool.or_self, Bool.true_and, Bool.true_or, Bool.and_true, Bool.or_true, Bool.and_self]; done) | fail) only [c3', hP_some, hP_let, hP_gd, hP_B, hP_if, reduceIte, q_lit, nI_add, pk_mul, q_lt, q_le, q_eq, q_cl, q_g, Bool.not_eq_true', decide_eq_false_iff_not, decide_eq_true_eq, q_div, q_rm, q_sub, q_m1, Nat.zero_add, Nat.add_zero, rM_lk hr, c2, Bool.false_eq_true]
        exact ih (n - 1) _ (by omega) ⟨c + 1, by omega, by rw [e1]; rfl⟩
  · have e : c = gW g * gH g := by omega
    simp (disch := first | omega | (simp only [fIn, fR, fC, Nat.reduceEqDiff, decide_false, decide_true, Bool.false_or, Bool.or_false, Bool.false_and, Bool.and_false, Bool.or_self, Bool.true_and, Bool.true_or, Bool.and_true, Bool.or_true, Bool.and_self]; done) | fail) only [hP_some, hP_let, hP_gd, hP_B, hP_if, reduceIte, q_lit, nI_add, pk_mul, q_lt, q_le, q_eq, q_cl, q_g, Bool.not_eq_true', decide_eq_false_iff_not, decide_eq_true_eq, q_div, q_rm, q_sub, q_m1, Nat.zero_add, Nat.add_zero, rM_wd hr, rM_hi hr, c1]
    rw [e]
    exact hq
end CNT
