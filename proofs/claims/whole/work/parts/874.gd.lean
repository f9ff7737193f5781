/-! ===== OPERATIONS BEHIND ONE OR TWO GUARDS ===== -/
theorem pQ_le : fLe pQ pQ = true := by decide +kernel
def gdC (A : mW → Option ((Unit ⊕ Nat) × mW)) (w : mW) (P : Prop) : Prop := (P → ∀ Q : Unit ⊕ Nat → mW → Prop, Q (.inl ()) w → hP (A w) Q) ∧ (¬ P → ∀ Q : Unit ⊕ Nat → mW → Prop, Q (.inr 1) (nThr w) → hP (A w) Q)
def gdM (A : mW → Option (Int32 × mW)) (w : mW) (P : Prop) : Prop := (P → ∀ Q : Int32 → mW → Prop, Q (nI 1) w → hP (A w) Q) ∧ (¬ P → ∀ Q : Int32 → mW → Prop, Q (nI 0) (nS w 80 0 (nI 1)) → hP (A w) Q)
section GD
variable {g : gS} {r : gR} {w : mW} {x : Int32}
theorem gdC_what {most : Nat} (hm : most < 2147483647) : gdC (f165_0 x (nI most)) w (inR x (most + 1)) :=
  ⟨fun h Q hq => c_wantWhat hm (fun _ _ _ => hq) (fun n => absurd h n), fun h Q hq => c_wantWhat hm (fun a ha e => absurd ⟨a, by omega, e⟩ h) (fun _ => hq)⟩
theorem gdC_cell (hr : rC g w) (ho : gOk g) : gdC (f166_0 x) w (inR x (gW g * gH g)) :=
  ⟨fun h Q hq => c_wantCell hr ho (fun _ _ _ => hq) (fun n => absurd h n), fun h Q hq => c_wantCell hr ho (fun a ha e => absurd ⟨a, ha, e⟩ h) (fun _ => hq)⟩
theorem gdC_look (hr : rC g w) (ho : gOk g) : gdC (f167_0 x) w (inR x (gLk g)) :=
  ⟨fun h Q hq => c_wantLook hr ho (fun _ _ _ => hq) (fun n => absurd h n), fun h Q hq => c_wantLook hr ho (fun a ha e => absurd ⟨a, ha, e⟩ h) (fun _ => hq)⟩
theorem gdC_sw (hr : rC g w) (ho : gOk g) : gdC (f168_0 x) w (inR x (gSw g)) :=
  ⟨fun h Q hq => c_wantSw hr ho (fun _ _ _ => hq) (fun n => absurd h n), fun h Q hq => c_wantSw hr ho (fun a ha e => absurd ⟨a, ha, e⟩ h) (fun _ => hq)⟩
theorem gdM_what {most : Nat} (hm : most < 2147483647) (h8 : wI w 80 0 = nI 0) : gdM (f241_80 x (nI most)) w (inR x (most + 1)) :=
  ⟨fun h Q hq => m_isWhat hm h8 (fun _ _ _ => hq) (fun n => absurd h n), fun h Q hq => m_isWhat hm h8 (fun a ha e => absurd ⟨a, by omega, e⟩ h) (fun _ => hq)⟩
theorem gdM_cell (hr : rM g w) (ho : gOk g) (h8 : wI w 80 0 = nI 0) : gdM (f238_80 x) w (inR x (gW g * gH g)) :=
  ⟨fun h Q hq => m_isCell hr ho h8 (fun _ _ _ => hq) (fun n => absurd h n), fun h Q hq => m_isCell hr ho h8 (fun a ha e => absurd ⟨a, ha, e⟩ h) (fun _ => hq)⟩
theorem gdM_look (hr : rM g w) (ho : gOk g) (h8 : wI w 80 0 = nI 0) : gdM (f239_80 x) w (inR x (gLk g)) :=
  ⟨fun h Q hq => m_isLook hr ho h8 (fun _ _ _ => hq) (fun n => absurd h n), fun h Q hq => m_isLook hr ho h8 (fun a ha e => absurd ⟨a, ha, e⟩ h) (fun _ => hq)⟩
theorem gdM_sw (hr : rM g w) (ho : gOk g) (h8 : wI w 80 0 = nI 0) : gdM (f240_80 x) w (inR x (gSw g)) :=
  ⟨fun h Q hq => m_isSw hr ho h8 (fun _ _ _ => hq) (fun n => absurd h n), fun h Q hq => m_isSw hr ho h8 (fun a ha e => absurd ⟨a, ha, e⟩ h) (fun _ => hq)⟩
end GD
/-- what the reference has at its body -/
def aCx (g : gS) (r : gR) (w : mW) : Prop := rM g w ∧ rMr r g w ∧ wI w 80 66 = nI 0 ∧ wI w 80 0 = nI 0
def bodyOk (g : gS) (r : gR) (w : mW) (body : mW → Option ((Int32 ⊕ Nat) × mW)) (body' : mW → Option (Int32 × mW)) : Prop := ∃ V : Int32, hP (body w) (fun v w1 => v = .inl V ∧ fr pQ w w1) ∧ ∀ w1, aCx g r w1 → hP (body' w1) (fun b w2 => b = V ∧ fr pQ w1 w2 ∧ wI w2 80 0 = nI 0)
theorem opB_g1 {A : mW → Option ((Unit ⊕ Nat) × mW)} {A' : mW → Option (Int32 × mW)} {body : mW → Option ((Int32 ⊕ Nat) × mW)} {body' : mW → Option (Int32 × mW)} {f : mW → Option ((Int32 ⊕ Nat) × mW)} {F m : mW → Option (Int32 × mW)}
    (hF : ∀ w, F w = nXh (f w) (fun v w2 => nLet (nSJ w2 116 0 v.toInt64) fun w3 => some (0, w3)) (fun x w6 => if x = 1 then (fun w4 => some (1, w4)) w6 else none))
    (hf : ∀ w, f w = nXb (A w) fun _ w2 => body w2) (hm : ∀ w, m w = nLet (nS w 80 0 0) fun w1 => nB (A' w1) fun v w3 => if v = 0 then some (0, w3) else body' w3)
    (h : ∀ w g r, iPool g r w → ∃ P1 : Prop, gdC A w P1 ∧ (∀ w1, rM g w1 → wI w1 80 0 = nI 0 → gdM A' w1 P1) ∧ (P1 → bodyOk g r w body body')) : opB Inv F m := by
  refine opB_ask (f := f) (ex := 1) hF (fun w g r hp hI => ?_)
  obtain ⟨P1, hA, hA', hb⟩ := h w g r hp
  obtain ⟨hM, hMr, hC, hCr, ho, hk, hl1, hcm, -⟩ := hp
  have F1 : ∀ w1, fr pQ w1 (nS w1 80 0 (nI 0)) := fun w1 => fr_nS fr_refl rfl
  have cx : ∀ w1, fq pQ w w1 → aCx g r (nS w1 80 0 (nI 0)) := fun w1 hq1 => ⟨rM_fr pQ_rM (F1 w1) (fq_rM hq1 hM), rMr_fr pQ_rM (F1 w1) (fq_rMr hq1 hMr), (rd_nSj (by decide)).trans ((hq1.1 80 66 (by decide +kernel)).trans hcm), rd_nS⟩
  by_cases c1 : P1
  · obtain ⟨V, b1, b2⟩ := hb c1
    refine ⟨.inl V, fun e he => (by cases he), ?_, fun w1 hq1 => ?_⟩
    · rw [hf, hP_xb]
      refine hA.1 c1 _ ?_
      exact hP_mono b1 (fun v w2 hv => ⟨hv.1, fq_fr hv.2 pQ_le⟩)
    · have hx := cx w1 hq1
      rw [hm, hP_let, hP_B]
      refine (hA' _ hx.1 hx.2.2.2).1 c1 _ ?_
      rw [if_neg (by decide)]
      exact hP_mono (b2 _ hx) (fun b w2 hv => ⟨fr_then (F1 w1) hv.2.1 pQ_le, hv.2.2, hv.1⟩)
  · refine ⟨.inr 1, fun e he => (by cases he; rfl), ?_, fun w1 hq1 => ?_⟩
    · rw [hf, hP_xb]
      exact hA.2 c1 _ ⟨rfl, fq_thr fr_refl pQ_le⟩
    · have hx := cx w1 hq1
      rw [hm, hP_let, hP_B]
      refine (hA' _ hx.1 hx.2.2.2).2 c1 _ ?_
      rw [if_pos (show nI 0 = 0 from rfl), hP_some]
      exact ⟨fr_nS (F1 w1) rfl, rd_nS⟩
theorem opB_g2 {A B : mW → Option ((Unit ⊕ Nat) × mW)} {A' B' : mW → Option (Int32 × mW)} {body : mW → Option ((Int32 ⊕ Nat) × mW)} {body' : mW → Option (Int32 × mW)} {f : mW → Option ((Int32 ⊕ Nat) × mW)} {F m : mW → Option (Int32 × mW)}
    (hF : ∀ w, F w = nXh (f w) (fun v w2 => nLet (nSJ w2 116 0 v.toInt64) fun w3 => some (0, w3)) (fun x w6 => if x = 1 then (fun w4 => some (1, w4)) w6 else none))
    (hf : ∀ w, f w = nXb (A w) fun _ w2 => nXb (B w2) fun _ w4 => body w4) (hm : ∀ w, m w = nLet (nS w 80 0 0) fun w1 => nB (A' w1) fun v w3 => if v = 0 then some (0, w3) else nB (B' w3) fun v4 w5 => if v4 = 0 then some (0, w5) else body' w5)
    (h : ∀ w g r, iPool g r w → ∃ P1 P2 : Prop, gdC A w P1 ∧ gdC B w P2 ∧ (∀ w1, rM g w1 → wI w1 80 0 = nI 0 → gdM A' w1 P1 ∧ gdM B' w1 P2) ∧ (P1 → P2 → bodyOk g r w body body')) : opB Inv F m := by
  refine opB_ask (f := f) (ex := 1) hF (fun w g r hp hI => ?_)
  obtain ⟨P1, P2, hA, hB, hA', hb⟩ := h w g r hp
  obtain ⟨hM, hMr, hC, hCr, ho, hk, hl1, hcm, -⟩ := hp
  have F1 : ∀ w1, fr pQ w1 (nS w1 80 0 (nI 0)) := fun w1 => fr_nS fr_refl rfl
  have cx : ∀ w1, fq pQ w w1 → aCx g r (nS w1 80 0 (nI 0)) := fun w1 hq1 => ⟨rM_fr pQ_rM (F1 w1) (fq_rM hq1 hM), rMr_fr pQ_rM (F1 w1) (fq_rMr hq1 hMr), (rd_nSj (by decide)).trans ((hq1.1 80 66 (by decide +kernel)).trans hcm), rd_nS⟩
  by_cases c1 : P1
  · by_cases c2 : P2
    · obtain ⟨V, b1, b2⟩ := hb c1 c2
      refine ⟨.inl V, fun e he => (by cases he), ?_, fun w1 hq1 => ?_⟩
      · rw [hf, hP_xb]
        refine hA.1 c1 _ ?_
        dsimp only
        rw [hP_xb]
        refine hB.1 c2 _ ?_
        exact hP_mono b1 (fun v w2 hv => ⟨hv.1, fq_fr hv.2 pQ_le⟩)
      · have hx := cx w1 hq1
        have hg := hA' _ hx.1 hx.2.2.2
        rw [hm, hP_let, hP_B]
        refine hg.1.1 c1 _ ?_
        rw [if_neg (by decide), hP_B]
        refine hg.2.1 c2 _ ?_
        rw [if_neg (by decide)]
        exact hP_mono (b2 _ hx) (fun b w2 hv => ⟨fr_then (F1 w1) hv.2.1 pQ_le, hv.2.2, hv.1⟩)
    · refine ⟨.inr 1, fun e he => (by cases he; rfl), ?_, fun w1 hq1 => ?_⟩
      · rw [hf, hP_xb]
        refine hA.1 c1 _ ?_
        dsimp only
        rw [hP_xb]
        exact hB.2 c2 _ ⟨rfl, fq_thr fr_refl pQ_le⟩
      · have hx := cx w1 hq1
        have hg := hA' _ hx.1 hx.2.2.2
        rw [hm, hP_let, hP_B]
        refine hg.1.1 c1 _ ?_
        rw [if_neg (by decide), hP_B]
        refine hg.2.2 c2 _ ?_
        rw [if_pos (show nI 0 = 0 from rfl), hP_some]
        exact ⟨fr_nS (F1 w1) rfl, rd_nS⟩
  · refine ⟨.inr 1, fun e he => (by cases he; rfl), ?_, fun w1 hq1 => ?_⟩
    · rw [hf, hP_xb]
      exact hA.2 c1 _ ⟨rfl, fq_thr fr_refl pQ_le⟩
    · have hx := cx w1 hq1
      have hg := hA' _ hx.1 hx.2.2.2
      rw [hm, hP_let, hP_B]
      refine hg.1.2 c1 _ ?_
      rw [if_pos (show nI 0 = 0 from rfl), hP_some]
      exact ⟨fr_nS (F1 w1) rfl, rd_nS⟩
theorem op_look (x1 x2 : Int32) : opB Inv (f305_0_116 x1 x2) (f244_80 x1 x2) := by
  refine opB_g2 (f := f131_0 x1 x2) (fun w => rfl) (fun w => rfl) (fun w => rfl) (fun w g r hp => ?_)
  obtain ⟨hM, hMr, hC, hCr, ho, hk, hl1, hcm, -⟩ := hp
  have hlk := gOk_lk ho
  refine ⟨inR x1 (gLk g), inR x2 (1 + 1), gdC_look hC ho, gdC_what (by decide), fun w1 h1 h2 => ⟨gdM_look h1 ho h2, gdM_what (by decide) h2⟩, ?_⟩
  rintro ⟨a, ha, rfl⟩ ⟨b, hb, rfl⟩
  refine ⟨nI (if b = 0 then g 6 a else g 7 a), ?_, fun w1 hx => ?_⟩
  · simp (disch := first | omega | (simp only [fIn, fR, fC, Nat.reduceEqDiff, decide_false, decide_true, Bool.false_or, Bool.or_false, Bool.false_and, Bool.and_false, Bool.or_self, Bool.true_and, Bool.true_or, Bool.and_true, Bool.or_true, Bool.and_self]; done) | fail) only [hP_some, hP_let, hP_gd, hP_B, hP_if, reduceIte, q_lit, nI_add, pk_mul, q_lt, q_le, q_eq, q_cl, q_g, Bool.not_eq_true', decide_eq_false_iff_not, decide_eq_true_eq, q_div, q_rm, q_sub, q_m1, Nat.zero_add, Nat.add_zero, rC_lat hC, rC_las hC]
    by_cases c3 : b = 0
    · simp only [c3, reduceIte]
      exact ⟨by omega, trivial, fr_refl⟩
    · simp only [c3, reduceIte]
      exact ⟨by omega, trivial, fr_refl⟩
  · obtain ⟨hM1, -, -, h8⟩ := hx
    simp (disch := first | omega | (simp only [fIn, fR, fC, Nat.reduceEqDiff, decide_false, decide_true, Bool.false_or, Bool.or_false, Bool.false_and, Bool.and_false, Bool.or_self, Bool.true_and, Bool.true_or, Bool.and_true, Bool.or_true, Bool.and_self]; done) | fail) only [hP_some, hP_let, hP_gd, hP_B, hP_if, reduceIte, q_lit, nI_add, pk_mul, q_lt, q_le, q_eq, q_cl, q_g, Bool.not_eq_true', decide_eq_false_iff_not, decide_eq_true_eq, q_div, q_rm, q_sub, q_m1, Nat.zero_add, Nat.add_zero, rM_lat hM1, rM_las hM1]
    by_cases c3 : b = 0
    · simp only [c3, reduceIte]
      exact ⟨by omega, trivial, fr_refl, h8⟩
    · simp only [c3, reduceIte]
      exact ⟨by omega, trivial, fr_refl, h8⟩
