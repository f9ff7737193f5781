/-! ===== OPERATIONS: feed ===== -/
/-- one byte of an int -/
def byB (x : Int32) (sh : Nat) : BitVec 8 := (x.toBitVec >>> sh).setWidth 8
theorem by_255 : ∀ i : Fin 32, (255#32).getLsbD i.1 = decide (i.1 < 8) := by decide
theorem by_eq {x : BitVec 32} {sh : Nat} (h : sh ≤ 24) : x.sshiftRight sh &&& 255#32 = ((x >>> sh).setWidth 8).setWidth 32 := by
  apply BitVec.eq_of_getLsbD_eq
  intro i hi
  rw [BitVec.getLsbD_and, by_255 ⟨i, hi⟩, BitVec.getLsbD_setWidth, BitVec.getLsbD_setWidth, BitVec.getLsbD_ushiftRight, BitVec.getLsbD_sshiftRight]
  by_cases c : i < 8
  · simp [c, hi, show sh + i < 32 by omega]
  · simp [c]
theorem by_nI (y : BitVec 8) : (⟨⟨y.setWidth 32⟩⟩ : Int32) = nI y.toNat := by
  apply Int32.toBitVec_inj.mp
  apply BitVec.eq_of_toNat_eq
  show (y.setWidth 32).toNat = (nI y.toNat).toBitVec.toNat
  have h := y.isLt
  rw [BitVec.toNat_setWidth]
  show _ = (BitVec.ofNat 32 y.toNat).toNat
  rw [BitVec.toNat_ofNat]
theorem by_sBy : ∀ b : Fin 256, vp_nar .byte (⟨⟨BitVec.ofNat 8 b.1⟩⟩ : Int8).toInt32 = sBy b.1 := by decide +kernel
theorem by_m {x : Int32} {sh : Nat} (h : sh = 0 ∨ sh = 8 ∨ sh = 16 ∨ sh = 24) : (nShr x (nI sh)) &&& 255 = nI (byB x sh).toNat := by
  rw [← by_nI]
  apply Int32.toBitVec_inj.mp
  rcases h with rfl | rfl | rfl | rfl
  · exact by_eq (x := x.toBitVec) (sh := 0) (by decide)
  · exact by_eq (x := x.toBitVec) (sh := 8) (by decide)
  · exact by_eq (x := x.toBitVec) (sh := 16) (by decide)
  · exact by_eq (x := x.toBitVec) (sh := 24) (by decide)
theorem by_c {x : Int32} {sh : Nat} (h : sh = 0 ∨ sh = 8 ∨ sh = 16 ∨ sh = 24) : vp_nar .byte (nUsr x (nI sh)).toInt8.toInt32 = sBy (byB x sh).toNat := by
  have e : (nUsr x (nI sh)).toInt8 = (⟨⟨BitVec.ofNat 8 (byB x sh).toNat⟩⟩ : Int8) := by
    rw [BitVec.ofNat_toNat, BitVec.setWidth_eq]
    rcases h with rfl | rfl | rfl | rfl
    · apply Int8.toBitVec_inj.mp
      show BitVec.signExtend 8 (x.toBitVec >>> (0 : Nat)) = BitVec.setWidth 8 (x.toBitVec >>> (0 : Nat))
      rw [BitVec.signExtend_eq_setWidth_of_le _ (by decide)]
    · apply Int8.toBitVec_inj.mp
      show BitVec.signExtend 8 (x.toBitVec >>> (8 : Nat)) = BitVec.setWidth 8 (x.toBitVec >>> (8 : Nat))
      rw [BitVec.signExtend_eq_setWidth_of_le _ (by decide)]
    · apply Int8.toBitVec_inj.mp
      show BitVec.signExtend 8 (x.toBitVec >>> (16 : Nat)) = BitVec.setWidth 8 (x.toBitVec >>> (16 : Nat))
      rw [BitVec.signExtend_eq_setWidth_of_le _ (by decide)]
    · apply Int8.toBitVec_inj.mp
      show BitVec.signExtend 8 (x.toBitVec >>> (24 : Nat)) = BitVec.setWidth 8 (x.toBitVec >>> (24 : Nat))
      rw [BitVec.signExtend_eq_setWidth_of_le _ (by decide)]
  rw [e]
  exact by_sBy ⟨(byB x sh).toNat, (byB x sh).isLt⟩

def bx (x : Int32) (i : Nat) : Nat := (byB x (24 - 8 * i)).toNat
theorem bx_lt (x : Int32) (i : Nat) : bx x i < 256 := (byB x (24 - 8 * i)).isLt
def bAp (bt : Nat → Nat) (t : Nat) (x : Int32) : Nat → Nat := fun i => if i < t then bt i else bx x (i - t)
def tC (bt : Nat → Nat) (t : Nat) (w : mW) : Prop := wI w 0 1 = nI t ∧ ∀ i, i < t → wI w 1 i = sBy (bt i)
def tM (bt : Nat → Nat) (t : Nat) (w : mW) : Prop := wI w 80 18 = nI t ∧ ∀ i, i < t → wI w 87 i = nI (bt i)
def dn8 (k : Nat) : Int32 := if k < 4 then nI (24 - 8 * k) else -nI 8
theorem dn8_next : ∀ k, k < 4 → dn8 k + (-8) = dn8 (k + 1) := by
  intro k hk
  have h : k = 0 ∨ k = 1 ∨ k = 2 ∨ k = 3 := by omega
  rcases h with rfl | rfl | rfl | rfl <;> decide
theorem dn8_no : ∀ k, k < 4 → ¬ dn8 k < 0 := by
  intro k hk
  have h : k = 0 ∨ k = 1 ∨ k = 2 ∨ k = 3 := by omega
  rcases h with rfl | rfl | rfl | rfl <;> decide
theorem bAp_step {bt : Nat → Nat} {t k i : Nat} {x : Int32} (h : i < t + k + 1) : bAp bt t x i = if i = t + k then (if k = 0 then bx x 0 else bx x k) else bAp bt t x i := by
  by_cases e : i = t + k
  · rw [if_pos e, e]
    unfold bAp
    rw [if_neg (by omega), Nat.add_sub_cancel_left]
    split
    · rename_i h; rw [h]
    · rfl
  · rw [if_neg e]
theorem c_feed1 {bt : Nat → Nat} {t : Nat} {x : Int32} {w : mW} {Q : Unit → mW → Prop} (h : tC bt t w) (ht : t + 4 ≤ 700) (hq : ∀ w', fr ([1], [(0, 1)]) w w' → tC (bAp bt t x) (t + 4) w' → Q () w') : hP (f126_0 x w) Q := by
  unfold f126_0
  refine hP_loopF (fun n s => ∃ k w1, k + n = 4 ∧ s = (dn8 k, w1) ∧ fr ([1], [(0, 1)]) w w1 ∧ tC (bAp bt t x) (t + k) w1) 4 (by decide) ⟨0, w, rfl, rfl, fr_refl, h.1, fun i hi => ?_⟩ ?_
  · rw [Nat.add_zero] at hi; unfold bAp; rw [if_pos hi]; exact h.2 i hi
  rintro n s rec ⟨k, w1, hk, rfl, hf, h1, h2⟩ ih
  simp only [f126_0_b3]
  by_cases c : k < 4
  · rw [if_neg (dn8_no k c)]
    have e8 : dn8 k = nI (24 - 8 * k) := if_pos c
    have hsh : 24 - 8 * k = 0 ∨ 24 - 8 * k = 8 ∨ 24 - 8 * k = 16 ∨ 24 - 8 * k = 24 := by omega
    have ev : vp_nar .byte (nUsr x (dn8 k)).toInt8.toInt32 = sBy (bx x k) := by rw [e8]; exact by_c hsh
    rw [ev, dn8_next k c]
    simp (disch := first | omega | (simp only [fIn, fR, fC, Nat.reduceEqDiff, decide_false, decide_true, Bool.false_or, Bool.or_false, Bool.false_and, Bool.and_false, Bool.or_self, Bool.true_and, Bool.true_or, Bool.and_true, Bool.or_true, Bool.and_self]; done) | fail) only [hP_some, hP_let, hP_gd, hP_B, hP_if, reduceIte, q_lit, nI_add, pk_mul, q_lt, q_le, q_eq, q_cl, q_g, Bool.not_eq_true', decide_eq_false_iff_not, decide_eq_true_eq, q_div, q_rm, q_sub, q_m1, Nat.zero_add, Nat.add_zero, h1, show t + k < 700 by omega]
    refine ⟨trivial, ih (n - 1) _ (by omega) ⟨k + 1, _, by omega, rfl, fr_nS (fr_nS hf rfl) rfl, ?_, fun i hi => ?_⟩⟩
    · rw [rd_nS]; rw [rd_nSa (by decide), h1, nI_add]; rfl
    · rw [rd_nSa (by decide)]
      by_cases e : i = t + k
      · rw [e, rd_nS]
        unfold bAp
        rw [if_neg (by omega), Nat.add_sub_cancel_left]
      · rw [rd_nSj e]; exact h2 i (by omega)
  · have e : k = 4 := by omega
    subst e
    rw [if_pos (show dn8 4 < 0 by decide), hP_some]
    exact hq w1 hf ⟨h1, h2⟩
theorem m_feed1 {bt : Nat → Nat} {t : Nat} {x : Int32} {w : mW} {Q : Unit → mW → Prop} (h : tM bt t w) (ht : t + 4 ≤ 700) (hq : ∀ w', fr ([87], [(80, 18)]) w w' → tM (bAp bt t x) (t + 4) w' → Q () w') : hP (f183_80 x w) Q := by
  unfold f183_80
  refine hP_loopF (fun n s => ∃ k w1, k + n = 4 ∧ s = (dn8 k, w1) ∧ fr ([87], [(80, 18)]) w w1 ∧ tM (bAp bt t x) (t + k) w1) 4 (by decide) ⟨0, w, rfl, rfl, fr_refl, h.1, fun i hi => ?_⟩ ?_
  · rw [Nat.add_zero] at hi; unfold bAp; rw [if_pos hi]; exact h.2 i hi
  rintro n s rec ⟨k, w1, hk, rfl, hf, h1, h2⟩ ih
  simp only [f183_80_b3]
  by_cases c : k < 4
  · rw [if_neg (dn8_no k c)]
    have e8 : dn8 k = nI (24 - 8 * k) := if_pos c
    have hsh : 24 - 8 * k = 0 ∨ 24 - 8 * k = 8 ∨ 24 - 8 * k = 16 ∨ 24 - 8 * k = 24 := by omega
    have ev : (nShr x (dn8 k)) &&& 255 = nI (bx x k) := by rw [e8]; exact by_m hsh
    rw [ev, dn8_next k c]
    simp (disch := first | omega | (simp only [fIn, fR, fC, Nat.reduceEqDiff, decide_false, decide_true, Bool.false_or, Bool.or_false, Bool.false_and, Bool.and_false, Bool.or_self, Bool.true_and, Bool.true_or, Bool.and_true, Bool.or_true, Bool.and_self]; done) | fail) only [hP_some, hP_let, hP_gd, hP_B, hP_if, reduceIte, q_lit, nI_add, pk_mul, q_lt, q_le, q_eq, q_cl, q_g, Bool.not_eq_true', decide_eq_false_iff_not, decide_eq_true_eq, q_div, q_rm, q_sub, q_m1, Nat.zero_add, Nat.add_zero, h1, show t + k < 700 by omega]
    refine ⟨trivial, ih (n - 1) _ (by omega) ⟨k + 1, _, by omega, rfl, fr_nS (fr_nS hf rfl) rfl, ?_, fun i hi => ?_⟩⟩
    · rw [rd_nS]; rw [rd_nSa (by decide), h1, nI_add]; rfl
    · rw [rd_nSa (by decide)]
      by_cases e : i = t + k
      · rw [e, rd_nS]
        unfold bAp
        rw [if_neg (by omega), Nat.add_sub_cancel_left]
      · rw [rd_nSj e]; exact h2 i (by omega)
  · have e : k = 4 := by omega
    subst e
    rw [if_pos (show dn8 4 < 0 by decide), hP_some]
    exact hq w1 hf ⟨h1, h2⟩
theorem bAp_lt {bt : Nat → Nat} {t : Nat} {x : Int32} (h : ∀ i, i < t → bt i < 256) : ∀ i, i < t + 4 → bAp bt t x i < 256 := by
  intro i _
  unfold bAp
  split
  · rename_i h2; exact h i h2
  · exact bx_lt _ _
theorem op_feed (a b c d e : Int32) : opA Inv (f125_0 a b c d e) (f182_80 a b c d e) := by
  intro w hI
  have hI0 := hI
  obtain ⟨g, r, h, D, H, hp, hh, hD, hH, hi, ht, hm, hrw⟩ := hI
  obtain ⟨bt, t, t1, t2, t3, t4⟩ := ht
  have hC : tC bt t w := ⟨t2, fun i hi => (t4 i hi).2.2⟩
  unfold f125_0
  by_cases c0 : 700 < t + 20
  · rw [t2, if_pos (by rw [q_lit, q_lit, nI_add, q_lt (by omega) (by omega)]; exact c0), hP_some]
    refine ⟨⟨rfl, fun _ => rfl⟩, ?_⟩
    unfold f182_80
    have f0 : fr ([], [(80, 0)]) w (nS w 80 0 0) := fr_nS fr_refl rfl
    rw [hP_let, rd_nSj (by decide), t1, if_pos (by rw [q_lit, q_lit, nI_add, q_lt (by omega) (by omega)]; exact c0), hP_some]
    exact ⟨rfl, Inv_fr (by decide) f0 hI0, sK_fr f0 (by decide), fr_cT f0⟩
  · rw [t2, if_neg (by rw [q_lit, q_lit, nI_add, q_lt (by omega) (by omega)]; exact c0)]
    simp only [hP_B]
    refine c_feed1 hC (by omega) (fun w1 f1 k1 => ?_)
    refine c_feed1 k1 (by omega) (fun w2 f2 k2 => ?_)
    refine c_feed1 k2 (by omega) (fun w3 f3 k3 => ?_)
    refine c_feed1 k3 (by omega) (fun w4 f4 k4 => ?_)
    refine c_feed1 k4 (by omega) (fun w5 f5 k5 => ?_)
    rw [hP_some]
    have fC : fr ([1], [(0, 1)]) w w5 := fr_then (fr_then (fr_then (fr_then f1 f2 (by decide)) f3 (by decide)) f4 (by decide)) f5 (by decide)
    refine ⟨sK_fr fC (by decide), ?_⟩
    unfold f182_80
    have f0 : fr ([1], [(0, 1), (80, 0)]) w (nS w5 80 0 0) := fr_nS (fr_up fC (by decide)) rfl
    have hM : tM bt t (nS w5 80 0 0) := ⟨(fr_rd f0 rfl).trans t1, fun i hi => (fr_rd f0 rfl).trans (t4 i hi).2.1⟩
    rw [hP_let, hM.1, if_neg (by rw [q_lit, q_lit, nI_add, q_lt (by omega) (by omega)]; exact c0)]
    simp only [hP_B]
    refine m_feed1 hM (by omega) (fun v1 g1 l1 => ?_)
    refine m_feed1 l1 (by omega) (fun v2 g2 l2 => ?_)
    refine m_feed1 l2 (by omega) (fun v3 g3 l3 => ?_)
    refine m_feed1 l3 (by omega) (fun v4 g4 l4 => ?_)
    refine m_feed1 l4 (by omega) (fun v5 g5 l5 => ?_)
    rw [hP_some]
    have fM : fr ([87], [(80, 18)]) (nS w5 80 0 0) v5 := fr_then (fr_then (fr_then (fr_then g1 g2 (by decide)) g3 (by decide)) g4 (by decide)) g5 (by decide)
    have fE : fr ([1, 87], [(0, 1), (80, 0), (80, 18)]) w v5 := fr_then (fr_up f0 (by decide)) fM (by decide)
    have fV : fr ([87], [(80, 18), (80, 0)]) w5 v5 := fr_then (fr_nS fr_refl rfl) fM (by decide)
    refine ⟨by rw [k5.1, l5.1], ⟨g, r, h, D, H, iPool_fr (by decide) (by decide) fE hp, iHist_fr (by decide) fE hh, iDum_fr (by decide) fE hD, iHd_fr (by decide) fE hH, iImg_fr (by decide) fE hi, ⟨_, _, l5.1, (fr_rd fV rfl).trans k5.1, by omega, fun i hi => ⟨?_, l5.2 i hi, (fr_rd fV rfl).trans (k5.2 i hi)⟩⟩, iMisc_fr (by decide) fE hm, iRow_fr (by decide) fE hrw⟩, sK_fr fE (by decide), fr_cT fE⟩
    exact bAp_lt (bAp_lt (bAp_lt (bAp_lt (bAp_lt (fun i hi => (t4 i hi).1))))) i hi
