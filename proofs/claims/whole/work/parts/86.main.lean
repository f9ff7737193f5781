/-! ===== THE LAW, out of one lemma an operation ===== -/
def sK (w w' : mW) : Prop := nLn w' = nLn w ∧ ∀ j, wI w' 2000000 j = wI w 2000000 j
def cT (n : Nat) (w w' : mW) : Prop := w'.2.2.2.2.1 ≤ w.2.2.2.2.1 + n ∧ w'.2.2.2.2.2.1 ≤ w.2.2.2.2.2.1 + 6 * n
def opA (Inv : mW → Prop) (f m : mW → Option (Int32 × mW)) : Prop := ∀ w, Inv w → hP (f w) (fun v w1 => sK w w1 ∧ hP (m w1) (fun v2 w2 => v = v2 ∧ Inv w2 ∧ sK w w2 ∧ cT 1 w w2))
def opJ (Inv : mW → Prop) (f m : mW → Option (Int64 × mW)) : Prop := ∀ w, Inv w → hP (f w) (fun v w1 => sK w w1 ∧ hP (m w1) (fun v2 w2 => v = v2 ∧ Inv w2 ∧ sK w w2 ∧ cT 1 w w2))
def opV (Inv : mW → Prop) (f m : mW → Option (Unit × mW)) : Prop := ∀ w, Inv w → hP (f w) (fun _ w1 => sK w w1 ∧ hP (m w1) (fun _ w2 => Inv w2 ∧ sK w w2 ∧ cT 1 w w2))
def opB (Inv : mW → Prop) (f m : mW → Option (Int32 × mW)) : Prop := ∀ w, Inv w → hP (f w) (fun k w1 => sK w w1 ∧ hP (m w1) (fun b w2 => wI w2 80 0 = k ∧ (k = 0 → lg_cmp (wJ w2 116 0) b.toInt64 = 0) ∧ Inv w2 ∧ sK w w2 ∧ cT 1 w w2))
def lawOps (Inv : mW → Prop) : Prop := (∀ a b c d e : Int32, opA Inv (f125_0 a b c d e) (f182_80 a b c d e)) ∧ (∀ a : Int32, opB Inv (f302_0_116 a) (f213_80 a)) ∧ (opA Inv (f128_0 ) (f214_80 )) ∧ (∀ a : Int32, opB Inv (f303_0_116 a) (f237_80 a)) ∧ (∀ a b : Int32, opB Inv (f304_0_116 a b) (f243_80 a b)) ∧ (∀ a b : Int32, opB Inv (f305_0_116 a b) (f244_80 a b)) ∧ (∀ a b : Int32, opB Inv (f306_0_116 a b) (f245_80 a b)) ∧ (∀ a b : Int32, opB Inv (f307_0_116 a b) (f246_80 a b)) ∧ (∀ a : Int32, opB Inv (f308_0_116 a) (f247_80 a)) ∧ (∀ a b : Int32, opB Inv (f309_0_116 a b) (f248_80 a b)) ∧ (∀ a : Int32, opA Inv (f136_0 a) (f250_80 a)) ∧ (∀ a b : Int32, opB Inv (f310_0_116 a b) (f251_80 a b)) ∧ (∀ a b : Int32, opA Inv (f138_0 a b) (f253_80 a b)) ∧ (∀ a : Int32, opA Inv (f139_0 a) (f254_80 a)) ∧ (opA Inv (f140_0 ) (f217_80 )) ∧ (opA Inv (f141_0 ) (f258_80 )) ∧ (opA Inv (f142_0 ) (f259_80 )) ∧ (∀ a : Int32, opB Inv (f311_0_116 a) (f260_80 a)) ∧ (∀ a : Int32, opB Inv (f312_0_116 a) (f261_80 a)) ∧ (∀ a : Int32, opB Inv (f313_0_116 a) (f262_80 a)) ∧ (opA Inv (f146_0 ) (f263_80 )) ∧ (opA Inv (f147_0 ) (f264_80 )) ∧ (∀ a : Int32, opB Inv (f314_0_116 a) (f266_80 a)) ∧ (∀ a : Int32, opB Inv (f315_0_116 a) (f268_80 a)) ∧ (∀ a b : Int32, opB Inv (f316_0_116 a b) (f271_80 a b)) ∧ (opA Inv (f151_0 ) (f272_80 )) ∧ (∀ a b : Int32, opB Inv (f317_0_116 a b) (f273_80 a b)) ∧ (∀ a : Int32, opA Inv (f153_0 a) (f274_80 a)) ∧ (∀ a : Int32, opB Inv (f318_0_116 a) (f277_80 a)) ∧ (∀ a : Int32, opB Inv (f319_0_116 a) (f278_80 a)) ∧ (∀ a b : Int32, opA Inv (f156_0 a b) (f279_80 a b)) ∧ (opV Inv (f157_0 ) (f280_80 )) ∧ (∀ a : Int32, opB Inv (f320_0_116 a) (f282_80 a)) ∧ (∀ a b c : Int32, opB Inv (f321_0_116 a b c) (f285_80 a b c)) ∧ (opJ Inv (f160_0 ) (f286_80 )) ∧ (∀ a : Int32, opB Inv (f322_0_116 a) (f287_80 a)) ∧ (∀ a : Int32, opB Inv (f323_0_116 a) (f288_80 a)) ∧ (opV Inv (f163_0 ) (f289_80 )) ∧ (opA Inv (f164_0 ) (f290_80 ))
theorem law_main {Inv : mW → Prop} (hO : lawOps Inv) {w : mW} (hI : Inv w) (hL : nLn w ≤ 3072) : hP (fLaw w) (fun v w' => v = 1 ∧ cT 512 w w') := by
  obtain ⟨o0, o1, o2, o3, o4, o5, o6, o7, o8, o9, o10, o11, o12, o13, o14, o15, o16, o17, o18, o19, o20, o21, o22, o23, o24, o25, o26, o27, o28, o29, o30, o31, o32, o33, o34, o35, o36, o37, o38⟩ := hO
  unfold fLaw
  refine hP_loopF (fun n s => ∃ j w1, j + n = nLn w / 6 ∧ s = (nI (6 * j), w1) ∧ Inv w1 ∧ sK w w1 ∧ cT j w w1) (nLn w / 6) (by omega) ⟨0, w, by omega, rfl, hI, ⟨rfl, fun _ => rfl⟩, ⟨by omega, by omega⟩⟩ ?_
  rintro n s rec ⟨j, w1, hj, rfl, hI1, hs1, hc1⟩ ih
  have hlt : ((Int32.ofNat (nLn w1)) - 6 < nI (6 * j)) = (nLn w < 6 * j + 6) := by
    rw [hs1.1]
    show (nI (nLn w) - nI 6 < nI (6 * j)) = _
    rw [Int32.lt_iff_toInt_lt, pk_sub_toInt (by omega) (by omega), nI_toInt (by omega)]
    exact propext ⟨fun h => by omega, fun h => by omega⟩
  unfold fLaw_b23
  dsimp only
  refine hP_ite (fun c0 => ?_) (fun c0 => ?_)
  · rw [hP_some]
    exact ⟨rfl, by obtain ⟨a1, a2⟩ := hc1; exact ⟨by omega, by omega⟩⟩
  rw [hlt] at c0
  have Gf : ∀ w2, sK w1 w2 → ∀ c : Nat, c ≤ 5 → nG (nI (6 * j) + nI c) (nLn w2) = true := by
    intro w2 hs c hc
    rw [nI_add, hs.1, hs1.1, q_g (by omega)]
    omega
  have G := Gf w1 ⟨rfl, fun _ => rfl⟩
  have next : ∀ w2, Inv w2 → sK w1 w2 → cT 1 w1 w2 → hP (rec (nI (6 * j) + 6, w2)) (fun v w' => v = 1 ∧ cT 512 w w') := by
    intro w2 hI2 hs2 hc2
    refine ih (n - 1) _ (by omega) ⟨j + 1, w2, by omega, ?_, hI2, ⟨hs2.1.trans hs1.1, fun i => (hs2.2 i).trans (hs1.2 i)⟩, ?_⟩
    · show (nI (6 * j) + nI 6, w2) = _
      rw [nI_add, show 6 * j + 6 = 6 * (j + 1) by omega]
    · obtain ⟨a1, a2⟩ := hc1
      obtain ⟨b1, b2⟩ := hc2
      exact ⟨by omega, by omega⟩
  rw [hP_gd]
  refine ⟨by have := G 0 (by decide); rw [nI_add] at this; exact this, ?_⟩
  refine hP_ite (fun _ => ?_) (fun c1 => ?_)
  · simp only [hP_gd, hP_B]
    refine ⟨G 1 (by decide), G 2 (by decide), G 3 (by decide), G 4 (by decide), G 5 (by decide), hP_mono (o0 _ _ _ _ _ w1 hI1) (fun v w2 h => ?_)⟩
    obtain ⟨hs, hm⟩ := h
    simp only [hs.2]
    refine ⟨Gf w2 hs 1 (by decide), Gf w2 hs 2 (by decide), Gf w2 hs 3 (by decide), Gf w2 hs 4 (by decide), Gf w2 hs 5 (by decide), hP_mono hm (fun v2 w3 h2 => ?_)⟩
    obtain ⟨he, hI3, hs3, hc3⟩ := h2
    rw [if_pos he]
    exact next w3 hI3 hs3 hc3
  refine hP_ite (fun _ => ?_) (fun c2 => ?_)
  · simp only [hP_gd, hP_B]
    refine ⟨G 1 (by decide), hP_mono (o1 _ w1 hI1) (fun v w2 h => ?_)⟩
    obtain ⟨hs, hm⟩ := h
    simp only [hs.2]
    refine ⟨Gf w2 hs 1 (by decide), hP_mono hm (fun v2 w3 h2 => ?_)⟩
    obtain ⟨he, hz, hI3, hs3, hc3⟩ := h2
    simp only [f176_80, hP_some]
    rw [if_pos he]
    refine hP_ite (fun cz => ?_) (fun _ => next w3 hI3 hs3 hc3)
    rw [if_pos (hz cz)]
    exact next w3 hI3 hs3 hc3
  refine hP_ite (fun _ => ?_) (fun c3 => ?_)
  · simp only [hP_gd, hP_B]
    refine hP_mono (o2  w1 hI1) (fun v w2 h => ?_)
    obtain ⟨hs, hm⟩ := h
    refine hP_mono hm (fun v2 w3 h2 => ?_)
    obtain ⟨he, hI3, hs3, hc3⟩ := h2
    rw [if_pos he]
    exact next w3 hI3 hs3 hc3
  refine hP_ite (fun _ => ?_) (fun c4 => ?_)
  · simp only [hP_gd, hP_B]
    refine ⟨G 1 (by decide), hP_mono (o3 _ w1 hI1) (fun v w2 h => ?_)⟩
    obtain ⟨hs, hm⟩ := h
    simp only [hs.2]
    refine ⟨Gf w2 hs 1 (by decide), hP_mono hm (fun v2 w3 h2 => ?_)⟩
    obtain ⟨he, hz, hI3, hs3, hc3⟩ := h2
    simp only [f176_80, hP_some]
    rw [if_pos he]
    refine hP_ite (fun cz => ?_) (fun _ => next w3 hI3 hs3 hc3)
    rw [if_pos (hz cz)]
    exact next w3 hI3 hs3 hc3
  refine hP_ite (fun _ => ?_) (fun c5 => ?_)
  · simp only [hP_gd, hP_B]
    refine ⟨G 1 (by decide), G 2 (by decide), hP_mono (o4 _ _ w1 hI1) (fun v w2 h => ?_)⟩
    obtain ⟨hs, hm⟩ := h
    simp only [hs.2]
    refine ⟨Gf w2 hs 1 (by decide), Gf w2 hs 2 (by decide), hP_mono hm (fun v2 w3 h2 => ?_)⟩
    obtain ⟨he, hz, hI3, hs3, hc3⟩ := h2
    simp only [f176_80, hP_some]
    rw [if_pos he]
    refine hP_ite (fun cz => ?_) (fun _ => next w3 hI3 hs3 hc3)
    rw [if_pos (hz cz)]
    exact next w3 hI3 hs3 hc3
  refine hP_ite (fun _ => ?_) (fun c6 => ?_)
  · simp only [hP_gd, hP_B]
    refine ⟨G 1 (by decide), G 2 (by decide), hP_mono (o5 _ _ w1 hI1) (fun v w2 h => ?_)⟩
    obtain ⟨hs, hm⟩ := h
    simp only [hs.2]
    refine ⟨Gf w2 hs 1 (by decide), Gf w2 hs 2 (by decide), hP_mono hm (fun v2 w3 h2 => ?_)⟩
    obtain ⟨he, hz, hI3, hs3, hc3⟩ := h2
    simp only [f176_80, hP_some]
    rw [if_pos he]
    refine hP_ite (fun cz => ?_) (fun _ => next w3 hI3 hs3 hc3)
    rw [if_pos (hz cz)]
    exact next w3 hI3 hs3 hc3
  refine hP_ite (fun _ => ?_) (fun c7 => ?_)
  · simp only [hP_gd, hP_B]
    refine ⟨G 1 (by decide), G 2 (by decide), hP_mono (o6 _ _ w1 hI1) (fun v w2 h => ?_)⟩
    obtain ⟨hs, hm⟩ := h
    simp only [hs.2]
    refine ⟨Gf w2 hs 1 (by decide), Gf w2 hs 2 (by decide), hP_mono hm (fun v2 w3 h2 => ?_)⟩
    obtain ⟨he, hz, hI3, hs3, hc3⟩ := h2
    simp only [f176_80, hP_some]
    rw [if_pos he]
    refine hP_ite (fun cz => ?_) (fun _ => next w3 hI3 hs3 hc3)
    rw [if_pos (hz cz)]
    exact next w3 hI3 hs3 hc3
  refine hP_ite (fun _ => ?_) (fun c8 => ?_)
  · simp only [hP_gd, hP_B]
    refine ⟨G 1 (by decide), G 2 (by decide), hP_mono (o7 _ _ w1 hI1) (fun v w2 h => ?_)⟩
    obtain ⟨hs, hm⟩ := h
    simp only [hs.2]
    refine ⟨Gf w2 hs 1 (by decide), Gf w2 hs 2 (by decide), hP_mono hm (fun v2 w3 h2 => ?_)⟩
    obtain ⟨he, hz, hI3, hs3, hc3⟩ := h2
    simp only [f176_80, hP_some]
    rw [if_pos he]
    refine hP_ite (fun cz => ?_) (fun _ => next w3 hI3 hs3 hc3)
    rw [if_pos (hz cz)]
    exact next w3 hI3 hs3 hc3
  refine hP_ite (fun _ => ?_) (fun c9 => ?_)
  · simp only [hP_gd, hP_B]
    refine ⟨G 1 (by decide), hP_mono (o8 _ w1 hI1) (fun v w2 h => ?_)⟩
    obtain ⟨hs, hm⟩ := h
    simp only [hs.2]
    refine ⟨Gf w2 hs 1 (by decide), hP_mono hm (fun v2 w3 h2 => ?_)⟩
    obtain ⟨he, hz, hI3, hs3, hc3⟩ := h2
    simp only [f176_80, hP_some]
    rw [if_pos he]
    refine hP_ite (fun cz => ?_) (fun _ => next w3 hI3 hs3 hc3)
    rw [if_pos (hz cz)]
    exact next w3 hI3 hs3 hc3
  refine hP_ite (fun _ => ?_) (fun c10 => ?_)
  · simp only [hP_gd, hP_B]
    refine ⟨G 1 (by decide), G 2 (by decide), hP_mono (o9 _ _ w1 hI1) (fun v w2 h => ?_)⟩
    obtain ⟨hs, hm⟩ := h
    simp only [hs.2]
    refine ⟨Gf w2 hs 1 (by decide), Gf w2 hs 2 (by decide), hP_mono hm (fun v2 w3 h2 => ?_)⟩
    obtain ⟨he, hz, hI3, hs3, hc3⟩ := h2
    simp only [f176_80, hP_some]
    rw [if_pos he]
    refine hP_ite (fun cz => ?_) (fun _ => next w3 hI3 hs3 hc3)
    rw [if_pos (hz cz)]
    exact next w3 hI3 hs3 hc3
  refine hP_ite (fun _ => ?_) (fun c11 => ?_)
  · simp only [hP_gd, hP_B]
    refine ⟨G 1 (by decide), hP_mono (o10 _ w1 hI1) (fun v w2 h => ?_)⟩
    obtain ⟨hs, hm⟩ := h
    simp only [hs.2]
    refine ⟨Gf w2 hs 1 (by decide), hP_mono hm (fun v2 w3 h2 => ?_)⟩
    obtain ⟨he, hI3, hs3, hc3⟩ := h2
    rw [if_pos he]
    exact next w3 hI3 hs3 hc3
  refine hP_ite (fun _ => ?_) (fun c12 => ?_)
  · simp only [hP_gd, hP_B]
    refine ⟨G 1 (by decide), G 2 (by decide), hP_mono (o11 _ _ w1 hI1) (fun v w2 h => ?_)⟩
    obtain ⟨hs, hm⟩ := h
    simp only [hs.2]
    refine ⟨Gf w2 hs 1 (by decide), Gf w2 hs 2 (by decide), hP_mono hm (fun v2 w3 h2 => ?_)⟩
    obtain ⟨he, hz, hI3, hs3, hc3⟩ := h2
    simp only [f176_80, hP_some]
    rw [if_pos he]
    refine hP_ite (fun cz => ?_) (fun _ => next w3 hI3 hs3 hc3)
    rw [if_pos (hz cz)]
    exact next w3 hI3 hs3 hc3
  refine hP_ite (fun _ => ?_) (fun c13 => ?_)
  · simp only [hP_gd, hP_B]
    refine ⟨G 1 (by decide), G 2 (by decide), hP_mono (o12 _ _ w1 hI1) (fun v w2 h => ?_)⟩
    obtain ⟨hs, hm⟩ := h
    simp only [hs.2]
    refine ⟨Gf w2 hs 1 (by decide), Gf w2 hs 2 (by decide), hP_mono hm (fun v2 w3 h2 => ?_)⟩
    obtain ⟨he, hI3, hs3, hc3⟩ := h2
    rw [if_pos he]
    exact next w3 hI3 hs3 hc3
  refine hP_ite (fun _ => ?_) (fun c14 => ?_)
  · simp only [hP_gd, hP_B]
    refine ⟨G 1 (by decide), hP_mono (o13 _ w1 hI1) (fun v w2 h => ?_)⟩
    obtain ⟨hs, hm⟩ := h
    simp only [hs.2]
    refine ⟨Gf w2 hs 1 (by decide), hP_mono hm (fun v2 w3 h2 => ?_)⟩
    obtain ⟨he, hI3, hs3, hc3⟩ := h2
    rw [if_pos he]
    exact next w3 hI3 hs3 hc3
  refine hP_ite (fun _ => ?_) (fun c15 => ?_)
  · simp only [hP_gd, hP_B]
    refine hP_mono (o14  w1 hI1) (fun v w2 h => ?_)
    obtain ⟨hs, hm⟩ := h
    refine hP_mono hm (fun v2 w3 h2 => ?_)
    obtain ⟨he, hI3, hs3, hc3⟩ := h2
    rw [if_pos he]
    exact next w3 hI3 hs3 hc3
  refine hP_ite (fun _ => ?_) (fun c16 => ?_)
  · simp only [hP_gd, hP_B]
    refine hP_mono (o15  w1 hI1) (fun v w2 h => ?_)
    obtain ⟨hs, hm⟩ := h
    refine hP_mono hm (fun v2 w3 h2 => ?_)
    obtain ⟨he, hI3, hs3, hc3⟩ := h2
    rw [if_pos he]
    exact next w3 hI3 hs3 hc3
  refine hP_ite (fun _ => ?_) (fun c17 => ?_)
  · simp only [hP_gd, hP_B]
    refine hP_mono (o16  w1 hI1) (fun v w2 h => ?_)
    obtain ⟨hs, hm⟩ := h
    refine hP_mono hm (fun v2 w3 h2 => ?_)
    obtain ⟨he, hI3, hs3, hc3⟩ := h2
    rw [if_pos he]
    exact next w3 hI3 hs3 hc3
  refine hP_ite (fun _ => ?_) (fun c18 => ?_)
  · simp only [hP_gd, hP_B]
    refine ⟨G 1 (by decide), hP_mono (o17 _ w1 hI1) (fun v w2 h => ?_)⟩
    obtain ⟨hs, hm⟩ := h
    simp only [hs.2]
    refine ⟨Gf w2 hs 1 (by decide), hP_mono hm (fun v2 w3 h2 => ?_)⟩
    obtain ⟨he, hz, hI3, hs3, hc3⟩ := h2
    simp only [f176_80, hP_some]
    rw [if_pos he]
    refine hP_ite (fun cz => ?_) (fun _ => next w3 hI3 hs3 hc3)
    rw [if_pos (hz cz)]
    exact next w3 hI3 hs3 hc3
  refine hP_ite (fun _ => ?_) (fun c19 => ?_)
  · simp only [hP_gd, hP_B]
    refine ⟨G 1 (by decide), hP_mono (o18 _ w1 hI1) (fun v w2 h => ?_)⟩
    obtain ⟨hs, hm⟩ := h
    simp only [hs.2]
    refine ⟨Gf w2 hs 1 (by decide), hP_mono hm (fun v2 w3 h2 => ?_)⟩
    obtain ⟨he, hz, hI3, hs3, hc3⟩ := h2
    simp only [f176_80, hP_some]
    rw [if_pos he]
    refine hP_ite (fun cz => ?_) (fun _ => next w3 hI3 hs3 hc3)
    rw [if_pos (hz cz)]
    exact next w3 hI3 hs3 hc3
  refine hP_ite (fun _ => ?_) (fun c20 => ?_)
  · simp only [hP_gd, hP_B]
    refine ⟨G 1 (by decide), hP_mono (o19 _ w1 hI1) (fun v w2 h => ?_)⟩
    obtain ⟨hs, hm⟩ := h
    simp only [hs.2]
    refine ⟨Gf w2 hs 1 (by decide), hP_mono hm (fun v2 w3 h2 => ?_)⟩
    obtain ⟨he, hz, hI3, hs3, hc3⟩ := h2
    simp only [f176_80, hP_some]
    rw [if_pos he]
    refine hP_ite (fun cz => ?_) (fun _ => next w3 hI3 hs3 hc3)
    rw [if_pos (hz cz)]
    exact next w3 hI3 hs3 hc3
  refine hP_ite (fun _ => ?_) (fun c21 => ?_)
  · simp only [hP_gd, hP_B]
    refine hP_mono (o20  w1 hI1) (fun v w2 h => ?_)
    obtain ⟨hs, hm⟩ := h
    refine hP_mono hm (fun v2 w3 h2 => ?_)
    obtain ⟨he, hI3, hs3, hc3⟩ := h2
    rw [if_pos he]
    exact next w3 hI3 hs3 hc3
  refine hP_ite (fun _ => ?_) (fun c22 => ?_)
  · simp only [hP_gd, hP_B]
    refine hP_mono (o21  w1 hI1) (fun v w2 h => ?_)
    obtain ⟨hs, hm⟩ := h
    refine hP_mono hm (fun v2 w3 h2 => ?_)
    obtain ⟨he, hI3, hs3, hc3⟩ := h2
    rw [if_pos he]
    exact next w3 hI3 hs3 hc3
  refine hP_ite (fun _ => ?_) (fun c23 => ?_)
  · simp only [hP_gd, hP_B]
    refine ⟨G 1 (by decide), hP_mono (o22 _ w1 hI1) (fun v w2 h => ?_)⟩
    obtain ⟨hs, hm⟩ := h
    simp only [hs.2]
    refine ⟨Gf w2 hs 1 (by decide), hP_mono hm (fun v2 w3 h2 => ?_)⟩
    obtain ⟨he, hz, hI3, hs3, hc3⟩ := h2
    simp only [f176_80, hP_some]
    rw [if_pos he]
    refine hP_ite (fun cz => ?_) (fun _ => next w3 hI3 hs3 hc3)
    rw [if_pos (hz cz)]
    exact next w3 hI3 hs3 hc3
  refine hP_ite (fun _ => ?_) (fun c24 => ?_)
  · simp only [hP_gd, hP_B]
    refine ⟨G 1 (by decide), hP_mono (o23 _ w1 hI1) (fun v w2 h => ?_)⟩
    obtain ⟨hs, hm⟩ := h
    simp only [hs.2]
    refine ⟨Gf w2 hs 1 (by decide), hP_mono hm (fun v2 w3 h2 => ?_)⟩
    obtain ⟨he, hz, hI3, hs3, hc3⟩ := h2
    simp only [f176_80, hP_some]
    rw [if_pos he]
    refine hP_ite (fun cz => ?_) (fun _ => next w3 hI3 hs3 hc3)
    rw [if_pos (hz cz)]
    exact next w3 hI3 hs3 hc3
  refine hP_ite (fun _ => ?_) (fun c25 => ?_)
  · simp only [hP_gd, hP_B]
    refine ⟨G 1 (by decide), G 2 (by decide), hP_mono (o24 _ _ w1 hI1) (fun v w2 h => ?_)⟩
    obtain ⟨hs, hm⟩ := h
    simp only [hs.2]
    refine ⟨Gf w2 hs 1 (by decide), Gf w2 hs 2 (by decide), hP_mono hm (fun v2 w3 h2 => ?_)⟩
    obtain ⟨he, hz, hI3, hs3, hc3⟩ := h2
    simp only [f176_80, hP_some]
    rw [if_pos he]
    refine hP_ite (fun cz => ?_) (fun _ => next w3 hI3 hs3 hc3)
    rw [if_pos (hz cz)]
    exact next w3 hI3 hs3 hc3
  refine hP_ite (fun _ => ?_) (fun c26 => ?_)
  · simp only [hP_gd, hP_B]
    refine hP_mono (o25  w1 hI1) (fun v w2 h => ?_)
    obtain ⟨hs, hm⟩ := h
    refine hP_mono hm (fun v2 w3 h2 => ?_)
    obtain ⟨he, hI3, hs3, hc3⟩ := h2
    rw [if_pos he]
    exact next w3 hI3 hs3 hc3
  refine hP_ite (fun _ => ?_) (fun c27 => ?_)
  · simp only [hP_gd, hP_B]
    refine ⟨G 1 (by decide), G 2 (by decide), hP_mono (o26 _ _ w1 hI1) (fun v w2 h => ?_)⟩
    obtain ⟨hs, hm⟩ := h
    simp only [hs.2]
    refine ⟨Gf w2 hs 1 (by decide), Gf w2 hs 2 (by decide), hP_mono hm (fun v2 w3 h2 => ?_)⟩
    obtain ⟨he, hz, hI3, hs3, hc3⟩ := h2
    simp only [f176_80, hP_some]
    rw [if_pos he]
    refine hP_ite (fun cz => ?_) (fun _ => next w3 hI3 hs3 hc3)
    rw [if_pos (hz cz)]
    exact next w3 hI3 hs3 hc3
  refine hP_ite (fun _ => ?_) (fun c28 => ?_)
  · simp only [hP_gd, hP_B]
    refine ⟨G 1 (by decide), hP_mono (o27 _ w1 hI1) (fun v w2 h => ?_)⟩
    obtain ⟨hs, hm⟩ := h
    simp only [hs.2]
    refine ⟨Gf w2 hs 1 (by decide), hP_mono hm (fun v2 w3 h2 => ?_)⟩
    obtain ⟨he, hI3, hs3, hc3⟩ := h2
    rw [if_pos he]
    exact next w3 hI3 hs3 hc3
  refine hP_ite (fun _ => ?_) (fun c29 => ?_)
  · simp only [hP_gd, hP_B]
    refine ⟨G 1 (by decide), hP_mono (o28 _ w1 hI1) (fun v w2 h => ?_)⟩
    obtain ⟨hs, hm⟩ := h
    simp only [hs.2]
    refine ⟨Gf w2 hs 1 (by decide), hP_mono hm (fun v2 w3 h2 => ?_)⟩
    obtain ⟨he, hz, hI3, hs3, hc3⟩ := h2
    simp only [f176_80, hP_some]
    rw [if_pos he]
    refine hP_ite (fun cz => ?_) (fun _ => next w3 hI3 hs3 hc3)
    rw [if_pos (hz cz)]
    exact next w3 hI3 hs3 hc3
  refine hP_ite (fun _ => ?_) (fun c30 => ?_)
  · simp only [hP_gd, hP_B]
    refine ⟨G 1 (by decide), hP_mono (o29 _ w1 hI1) (fun v w2 h => ?_)⟩
    obtain ⟨hs, hm⟩ := h
    simp only [hs.2]
    refine ⟨Gf w2 hs 1 (by decide), hP_mono hm (fun v2 w3 h2 => ?_)⟩
    obtain ⟨he, hz, hI3, hs3, hc3⟩ := h2
    simp only [f176_80, hP_some]
    rw [if_pos he]
    refine hP_ite (fun cz => ?_) (fun _ => next w3 hI3 hs3 hc3)
    rw [if_pos (hz cz)]
    exact next w3 hI3 hs3 hc3
  refine hP_ite (fun _ => ?_) (fun c31 => ?_)
  · simp only [hP_gd, hP_B]
    refine ⟨G 1 (by decide), G 2 (by decide), hP_mono (o30 _ _ w1 hI1) (fun v w2 h => ?_)⟩
    obtain ⟨hs, hm⟩ := h
    simp only [hs.2]
    refine ⟨Gf w2 hs 1 (by decide), Gf w2 hs 2 (by decide), hP_mono hm (fun v2 w3 h2 => ?_)⟩
    obtain ⟨he, hI3, hs3, hc3⟩ := h2
    rw [if_pos he]
    exact next w3 hI3 hs3 hc3
  refine hP_ite (fun _ => ?_) (fun c32 => ?_)
  · simp only [hP_gd, hP_B]
    refine hP_mono (o31  w1 hI1) (fun v w2 h => ?_)
    obtain ⟨hs, hm⟩ := h
    refine hP_mono hm (fun v2 w3 h2 => ?_)
    obtain ⟨hI3, hs3, hc3⟩ := h2
    exact next w3 hI3 hs3 hc3
  refine hP_ite (fun _ => ?_) (fun c33 => ?_)
  · simp only [hP_gd, hP_B]
    refine ⟨G 1 (by decide), hP_mono (o32 _ w1 hI1) (fun v w2 h => ?_)⟩
    obtain ⟨hs, hm⟩ := h
    simp only [hs.2]
    refine ⟨Gf w2 hs 1 (by decide), hP_mono hm (fun v2 w3 h2 => ?_)⟩
    obtain ⟨he, hz, hI3, hs3, hc3⟩ := h2
    simp only [f176_80, hP_some]
    rw [if_pos he]
    refine hP_ite (fun cz => ?_) (fun _ => next w3 hI3 hs3 hc3)
    rw [if_pos (hz cz)]
    exact next w3 hI3 hs3 hc3
  refine hP_ite (fun _ => ?_) (fun c34 => ?_)
  · simp only [hP_gd, hP_B]
    refine ⟨G 1 (by decide), G 2 (by decide), G 3 (by decide), hP_mono (o33 _ _ _ w1 hI1) (fun v w2 h => ?_)⟩
    obtain ⟨hs, hm⟩ := h
    simp only [hs.2]
    refine ⟨Gf w2 hs 1 (by decide), Gf w2 hs 2 (by decide), Gf w2 hs 3 (by decide), hP_mono hm (fun v2 w3 h2 => ?_)⟩
    obtain ⟨he, hz, hI3, hs3, hc3⟩ := h2
    simp only [f176_80, hP_some]
    rw [if_pos he]
    refine hP_ite (fun cz => ?_) (fun _ => next w3 hI3 hs3 hc3)
    rw [if_pos (hz cz)]
    exact next w3 hI3 hs3 hc3
  refine hP_ite (fun _ => ?_) (fun c35 => ?_)
  · simp only [hP_gd, hP_B]
    refine hP_mono (o34  w1 hI1) (fun v w2 h => ?_)
    obtain ⟨hs, hm⟩ := h
    refine hP_mono hm (fun v2 w3 h2 => ?_)
    obtain ⟨he, hI3, hs3, hc3⟩ := h2
    subst he
    rw [if_pos (by unfold lg_cmp; simp)]
    exact next w3 hI3 hs3 hc3
  refine hP_ite (fun _ => ?_) (fun c36 => ?_)
  · simp only [hP_gd, hP_B]
    refine ⟨G 1 (by decide), hP_mono (o35 _ w1 hI1) (fun v w2 h => ?_)⟩
    obtain ⟨hs, hm⟩ := h
    simp only [hs.2]
    refine ⟨Gf w2 hs 1 (by decide), hP_mono hm (fun v2 w3 h2 => ?_)⟩
    obtain ⟨he, hz, hI3, hs3, hc3⟩ := h2
    simp only [f176_80, hP_some]
    rw [if_pos he]
    refine hP_ite (fun cz => ?_) (fun _ => next w3 hI3 hs3 hc3)
    rw [if_pos (hz cz)]
    exact next w3 hI3 hs3 hc3
  refine hP_ite (fun _ => ?_) (fun c37 => ?_)
  · simp only [hP_gd, hP_B]
    refine ⟨G 1 (by decide), hP_mono (o36 _ w1 hI1) (fun v w2 h => ?_)⟩
    obtain ⟨hs, hm⟩ := h
    simp only [hs.2]
    refine ⟨Gf w2 hs 1 (by decide), hP_mono hm (fun v2 w3 h2 => ?_)⟩
    obtain ⟨he, hz, hI3, hs3, hc3⟩ := h2
    simp only [f176_80, hP_some]
    rw [if_pos he]
    refine hP_ite (fun cz => ?_) (fun _ => next w3 hI3 hs3 hc3)
    rw [if_pos (hz cz)]
    exact next w3 hI3 hs3 hc3
  refine hP_ite (fun _ => ?_) (fun c38 => ?_)
  · simp only [hP_gd, hP_B]
    refine hP_mono (o37  w1 hI1) (fun v w2 h => ?_)
    obtain ⟨hs, hm⟩ := h
    refine hP_mono hm (fun v2 w3 h2 => ?_)
    obtain ⟨hI3, hs3, hc3⟩ := h2
    exact next w3 hI3 hs3 hc3
  refine hP_ite (fun _ => ?_) (fun c39 => ?_)
  · simp only [hP_gd, hP_B]
    refine hP_mono (o38  w1 hI1) (fun v w2 h => ?_)
    obtain ⟨hs, hm⟩ := h
    refine hP_mono hm (fun v2 w3 h2 => ?_)
    obtain ⟨he, hI3, hs3, hc3⟩ := h2
    rw [if_pos he]
    exact next w3 hI3 hs3 hc3
  rw [hP_gd]
  refine ⟨?_, next w1 hI1 ⟨rfl, fun _ => rfl⟩ ⟨by omega, by omega⟩⟩
  obtain ⟨q, hq, eq⟩ := pk_andE (wI w1 2000000 (nI (6 * j)).toNatClampNeg) (m := 63) 6 (by decide)
  rw [eq] at c1 c2 c3 c4 c5 c6 c7 c8 c9 c10 c11 c12 c13 c14 c15 c16 c17 c18 c19 c20 c21 c22 c23 c24 c25 c26 c27 c28 c29 c30 c31 c32 c33 c34 c35 c36 c37 c38 c39 ⊢
  have z : ∀ m : Nat, m < 2147483648 → ¬ nI q = nI m → ¬ q = m := fun m hm h e => h (by rw [e])
  have hq2 : 38 < q := by
    have d0 := z 0 (by decide) c1
    have d1 := z 1 (by decide) c2
    have d2 := z 2 (by decide) c3
    have d3 := z 3 (by decide) c4
    have d4 := z 4 (by decide) c5
    have d5 := z 5 (by decide) c6
    have d6 := z 6 (by decide) c7
    have d7 := z 7 (by decide) c8
    have d8 := z 8 (by decide) c9
    have d9 := z 9 (by decide) c10
    have d10 := z 10 (by decide) c11
    have d11 := z 11 (by decide) c12
    have d12 := z 12 (by decide) c13
    have d13 := z 13 (by decide) c14
    have d14 := z 14 (by decide) c15
    have d15 := z 15 (by decide) c16
    have d16 := z 16 (by decide) c17
    have d17 := z 17 (by decide) c18
    have d18 := z 18 (by decide) c19
    have d19 := z 19 (by decide) c20
    have d20 := z 20 (by decide) c21
    have d21 := z 21 (by decide) c22
    have d22 := z 22 (by decide) c23
    have d23 := z 23 (by decide) c24
    have d24 := z 24 (by decide) c25
    have d25 := z 25 (by decide) c26
    have d26 := z 26 (by decide) c27
    have d27 := z 27 (by decide) c28
    have d28 := z 28 (by decide) c29
    have d29 := z 29 (by decide) c30
    have d30 := z 30 (by decide) c31
    have d31 := z 31 (by decide) c32
    have d32 := z 32 (by decide) c33
    have d33 := z 33 (by decide) c34
    have d34 := z 34 (by decide) c35
    have d35 := z 35 (by decide) c36
    have d36 := z 36 (by decide) c37
    have d37 := z 37 (by decide) c38
    have d38 := z 38 (by decide) c39
    omega
  unfold nOut
  have e38 : ((38 : Int32) < nI q) = (38 < q) := q_lt (by decide) (by omega)
  simp only [e38, hq2, decide_true, Bool.or_true]
