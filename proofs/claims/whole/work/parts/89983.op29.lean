/-! ===== OPERATIONS: week ===== -/
/-- the next number drawn; chosen, so that the kernel never multiplies by hand -/
theorem lcg_ex : ∃ f : Int32 → Int32, ∀ s, f s = s * 1103515245 + 12345 := ⟨fun s => s * 1103515245 + 12345, fun _ => rfl⟩
noncomputable def lcg : Int32 → Int32 := Classical.choose lcg_ex
theorem lcg_s (s : Int32) : s * 1103515245 + 12345 = lcg s := (Classical.choose_spec lcg_ex s).symm
def dr15 (s : Int32) : Nat := ((s.toBitVec >>> 16).setWidth 15).toNat
theorem dr15_lt (s : Int32) : dr15 s < 32768 := ((s.toBitVec >>> 16).setWidth 15).isLt
theorem b327 : ∀ i : Fin 32, (32767#32).getLsbD i.1 = decide (i.1 < 15) := by decide
theorem sh_eq {x : BitVec 32} : x.sshiftRight 16 &&& 32767#32 = ((x >>> 16).setWidth 15).setWidth 32 := by
  apply BitVec.eq_of_getLsbD_eq
  intro i hi
  rw [BitVec.getLsbD_and, b327 ⟨i, hi⟩, BitVec.getLsbD_setWidth, BitVec.getLsbD_setWidth, BitVec.getLsbD_ushiftRight, BitVec.getLsbD_sshiftRight]
  by_cases c : i < 15
  · simp [c, hi, show 16 + i < 32 by omega]
  · simp [c]
theorem us_eq {x : BitVec 32} : x >>> 16 &&& 32767#32 = ((x >>> 16).setWidth 15).setWidth 32 := by
  apply BitVec.eq_of_getLsbD_eq
  intro i hi
  rw [BitVec.getLsbD_and, b327 ⟨i, hi⟩, BitVec.getLsbD_setWidth, BitVec.getLsbD_setWidth, BitVec.getLsbD_ushiftRight]
  by_cases c : i < 15
  · simp [c, hi]
  · simp [c]
theorem nI15 (y : BitVec 15) : (⟨⟨y.setWidth 32⟩⟩ : Int32) = nI y.toNat := by
  apply Int32.toBitVec_inj.mp
  apply BitVec.eq_of_toNat_eq
  show (y.setWidth 32).toNat = (BitVec.ofNat 32 y.toNat).toNat
  rw [BitVec.toNat_setWidth, BitVec.toNat_ofNat]
theorem dr_m (s : Int32) : (nShr s 16) &&& 32767 = nI (dr15 s) := by
  unfold dr15
  rw [← nI15]
  apply Int32.toBitVec_inj.mp
  exact sh_eq (x := s.toBitVec)
theorem dr_c (s : Int32) : (nUsr s 16) &&& 32767 = nI (dr15 s) := by
  unfold dr15
  rw [← nI15]
  apply Int32.toBitVec_inj.mp
  exact us_eq (x := s.toBitVec)
/-- who it is -/
def whoL (g : gS) (r : gR) : Nat → Nat → Nat → Nat
  | 0, _, _ => 0
  | n + 1, k, p => if p < gTr g r (gCh g) k then k else whoL g r n (k + 1) (p - gTr g r (gCh g) k)
theorem whoL_lt {g : gS} {r : gR} : ∀ n k p, p + wSt g r k < wSt g r (k + n) → k ≤ whoL g r n k p ∧ whoL g r n k p < k + n
  | 0, k, p, h => by
    rw [Nat.add_zero] at h
    omega
  | n + 1, k, p, h => by
    unfold whoL
    split
    · omega
    · have e : wSt g r (k + 1) = wSt g r k + gTr g r (gCh g) k := rfl
      have := whoL_lt (g := g) (r := r) n (k + 1) (p - gTr g r (gCh g) k) (by rw [show k + 1 + n = k + (n + 1) by omega]; omega)
      omega
/-- one start of the week: seed, and the delay met -/
noncomputable def wkW (g : gS) (r : gR) (s : Int32) : Nat := whoL g r (gSw g) 0 (dr15 (lcg s) % wSt g r (gSw g))
noncomputable def wkD (g : gS) (r : gR) (s : Int32) : Option Nat := if gRnd g (gLk g) = 0 then none else gDl g r (g 5 (wkW g r s)) (dr15 (lcg (lcg s)) % gRnd g (gLk g))
noncomputable def wkS (g : gS) (s : Int32) : Int32 := if gRnd g (gLk g) = 0 then lcg s else lcg (lcg s)
def wkC (la : Nat) (o : Option Nat) : Nat := min la (oN 1000000 o)
/-- after k starts: seed, sum, late, longest -/
noncomputable def wkR (g : gS) (r : gR) (s : Int32) : Nat → Int32 × Nat × Nat × Nat
  | 0 => (s, 0, 0, 0)
  | k + 1 => (wkS g (wkR g r s k).1, (wkR g r s k).2.1 + wkC (gLa g) (wkD g r (wkR g r s k).1), (wkR g r s k).2.2.1 + (if oLate (gLa g) (wkD g r (wkR g r s k).1) = true then 1 else 0), max (wkR g r s k).2.2.2 (wkC (gLa g) (wkD g r (wkR g r s k).1)))
theorem wkR_b {g : gS} {r : gR} (ho : gOk g) (s : Int32) : ∀ k, (wkR g r s k).2.1 ≤ 300 * k ∧ (wkR g r s k).2.2.1 ≤ k ∧ (wkR g r s k).2.2.2 ≤ 300
  | 0 => ⟨Nat.le_refl _, Nat.le_refl _, Nat.zero_le _⟩
  | k + 1 => by
    obtain ⟨h1, h2, h3⟩ := wkR_b ho s k (r := r)
    have hla := gOk_la ho
    have hc : wkC (gLa g) (wkD g r (wkR g r s k).1) ≤ 300 := by unfold wkC; omega
    refine ⟨?_, ?_, ?_⟩
    · show (wkR g r s k).2.1 + wkC (gLa g) (wkD g r (wkR g r s k).1) ≤ _
      omega
    · show (wkR g r s k).2.2.1 + (if oLate (gLa g) (wkD g r (wkR g r s k).1) = true then 1 else 0) ≤ _
      split <;> omega
    · show max (wkR g r s k).2.2.2 (wkC (gLa g) (wkD g r (wkR g r s k).1)) ≤ _
      omega
section WK
variable {g : gS} {r : gR} {w : mW}
theorem c_draw {x : Nat} {Q : Int32 → mW → Prop} (hx : 0 < x) (hx2 : x < 100000) (hq : Q (nI (dr15 (lcg (wI w 63 3)) % x)) (nS w 63 3 (lcg (wI w 63 3)))) : hP (f120_63 (nI x) w) Q := by
  have h := dr15_lt (lcg (wI w 63 3))
  unfold f120_63
  rw [hP_let, lcg_s]
  show hP (if nI x < 1 then some (0, nS w 63 3 (lcg (wI w 63 3))) else nGd (!decide (nI x = 0)) (some (nRm (nUsr (wI (nS w 63 3 (lcg (wI w 63 3))) 63 3) 16 &&& 32767) (nI x), nS w 63 3 (lcg (wI w 63 3))))) Q
  rw [if_neg (by rw [q_lit, q_lt (by omega) (by omega)]; omega), hP_gd, hP_some, rd_nS, dr_c, q_rm (by omega) hx (by omega)]
  refine ⟨?_, hq⟩
  have hne : ¬ nI x = 0 := by rw [q_lit, q_eq (by omega) (by omega)]; omega
  rw [decide_eq_false hne]
  rfl
theorem m_draw {x : Nat} {Q : Int32 → mW → Prop} (hx : 0 < x) (hx2 : x < 100000) (hq : Q (nI (dr15 (lcg (wI w 80 78)) % x)) (nS w 80 78 (lcg (wI w 80 78)))) : hP (f283_80 (nI x) w) Q := by
  have h := dr15_lt (lcg (wI w 80 78))
  unfold f283_80
  rw [hP_let, lcg_s]
  show hP (nGd (!decide (nI x = 0)) (some (nRm (nShr (wI (nS w 80 78 (lcg (wI w 80 78))) 80 78) 16 &&& 32767) (nI x), nS w 80 78 (lcg (wI w 80 78))))) Q
  rw [hP_gd, hP_some, rd_nS, dr_m, q_rm (by omega) hx (by omega)]
  refine ⟨?_, hq⟩
  have hne : ¬ nI x = 0 := by rw [q_lit, q_eq (by omega) (by omega)]; omega
  rw [decide_eq_false hne]
  rfl
theorem c_whoIs {p : Nat} {Q : Int32 → mW → Prop} (h77 : ∀ k, k < gSw g → wI w 77 k = nI (gTr g r (gCh g) k)) (hsw : gSw g ≤ 12) (hp : p < 100000) (hq : Q (nI (whoL g r (gSw g) 0 p)) w) : hP (f121_63 (nI p) (nI (gSw g)) w) Q := by
  unfold f121_63
  refine hP_loopF (fun n s => ∃ k p', k + n = gSw g ∧ p' < 100000 ∧ s = (nI p', nI k, w) ∧ whoL g r (gSw g) 0 p = whoL g r n k p') (gSw g) (by omega) ⟨0, p, by omega, hp, rfl, rfl⟩ ?_
  rintro n s rec ⟨k, p', hkn, hp', rfl, he⟩ ih
  simp only [f121_63_b5]
  by_cases c : k < gSw g
  · obtain ⟨m, rfl⟩ : ∃ m, n = m + 1 := ⟨n - 1, by omega⟩
    have hb := gTr_b g r (gCh g) k
    have e0 : whoL g r (m + 1) k p' = if p' < gTr g r (gCh g) k then k else whoL g r m (k + 1) (p' - gTr g r (gCh g) k) := rfl
    simp (disch := first | omega | (simp only [fIn, fR, fC, Nat.reduceEqDiff, decide_false, decide_true, Bool.false_or, Bool.or_false, Bool.false_and, Bool.and_false, Bool.or_self, Bool.true_and, Bool.true_or, Bool.and_true, Bool.or_true, Bool.and_self]; done) | fail) only [hP_some, hP_let, hP_gd, hP_B, hP_if, reduceIte, q_lit, nI_add, pk_mul, q_lt, q_le, q_eq, q_cl, q_g, Bool.not_eq_true', decide_eq_false_iff_not, decide_eq_true_eq, q_div, q_rm, q_sub, q_m1, Nat.zero_add, Nat.add_zero, c, h77 k c]
    refine ⟨by omega, ?_⟩
    by_cases c2 : p' < gTr g r (gCh g) k
    · rw [if_pos c2] at e0 ⊢
      rw [he, e0] at hq
      exact hq
    · rw [if_neg c2] at e0 ⊢
      refine ⟨by omega, ?_⟩
      exact ih m _ (by omega) ⟨k + 1, p' - gTr g r (gCh g) k, by omega, by omega, rfl, he.trans e0⟩
  · have e : n = 0 := by omega
    subst e
    simp (disch := first | omega | (simp only [fIn, fR, fC, Nat.reduceEqDiff, decide_false, decide_true, Bool.false_or, Bool.or_false, Bool.false_and, Bool.and_false, Bool.or_self, Bool.true_and, Bool.true_or, Bool.and_true, Bool.or_true, Bool.and_self]; done) | fail) only [hP_some, hP_let, hP_gd, hP_B, hP_if, reduceIte, q_lit, nI_add, pk_mul, q_lt, q_le, q_eq, q_cl, q_g, Bool.not_eq_true', decide_eq_false_iff_not, decide_eq_true_eq, q_div, q_rm, q_sub, q_m1, Nat.zero_add, Nat.add_zero, c]
    rw [he] at hq
    exact hq
end WK
