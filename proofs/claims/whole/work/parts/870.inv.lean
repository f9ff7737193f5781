/-! ===== WHAT HOLDS BETWEEN CALLS ===== -/
/-- a state of acts, as the reference keeps it in row a from off on; g tells how many swimmers and looks there are -/
def snM (g s : gS) (w : mW) (a off : Nat) : Prop := (∀ i, i < gSw g → wI w a (off + i) = nI (s 5 i)) ∧ (∀ k, k < gLk g → wI w a (off + 12 + k) = nI (s 6 k)) ∧ (∀ k, k < gLk g → wI w a (off + 24 + k) = nI (s 7 k)) ∧ wI w a (off + 36) = nI (s 0 8) ∧ wI w a (off + 37) = nI (s 0 9)
/-- the same, as the class keeps it: base b, rows b + 1 .. -/
def snC (g s : gS) (w : mW) (b b1 b2 b3 : Nat) : Prop := (∀ i, i < gSw g → wI w b1 i = nI (s 5 i)) ∧ (∀ k, k < gLk g → wI w b2 k = nI (s 6 k)) ∧ (∀ k, k < gLk g → wI w b3 k = nI (s 7 k)) ∧ wI w b 1 = nI (s 0 8) ∧ wI w b 4 = nI (s 0 9)
def snOk (g s : gS) : Prop := (∀ i, i < gSw g → s 5 i < gW g * gH g) ∧ (∀ k, k < gLk g → s 6 k < gW g * gH g) ∧ (∀ k, k < gLk g → 1 ≤ s 7 k ∧ s 7 k ≤ 9) ∧ s 0 8 < gW g * gH g ∧ s 0 9 ≤ 999
/-- two states alike, as far as they count -/
def snEq (g s t : gS) : Prop := (∀ i, i < gSw g → s 5 i = t 5 i) ∧ (∀ k, k < gLk g → s 6 k = t 6 k) ∧ (∀ k, k < gLk g → s 7 k = t 7 k) ∧ s 0 8 = t 0 8 ∧ s 0 9 = t 0 9
/-- what an act of the class's log undoes -/
def unE (kd wh was : Nat) (s : gS) : gS := if kd = 0 then mUp s 5 wh was else if kd = 1 then mUp s 0 8 was else if kd = 2 then mUp s 7 wh was else if kd = 3 then mUp (mUp (mUp (mUp s 6 wh (s 6 was)) 6 was (s 6 wh)) 7 wh (s 7 was)) 7 was (s 7 wh) else mUp s 0 9 was
def unB (g : gS) (kd wh was : Nat) : Prop := (kd = 0 ∧ wh < gSw g ∧ was < gW g * gH g) ∨ (kd = 1 ∧ wh = 0 ∧ was < gW g * gH g) ∨ (kd = 2 ∧ wh < gLk g ∧ 1 ≤ was ∧ was ≤ 9) ∨ (kd = 3 ∧ wh < gLk g ∧ was < gLk g ∧ ¬ wh = was) ∨ (kd = 4 ∧ wh = 0 ∧ was ≤ 999)
def unL (g : gS) (w : mW) (a j : Nat) (s t : gS) : Prop := ∃ kd wh was, wI w a (3 * j) = nI kd ∧ wI w a (3 * j + 1) = nI wh ∧ wI w a (3 * j + 2) = nI was ∧ unB g kd wh was ∧ snEq g t (unE kd wh was s)
/-- the acts kept: h, the oldest first; now it is g -/
def iHist (g : gS) (h : List gS) (w : mW) (ma mj ca cb : Nat) : Prop := wI w 80 mj = nI h.length ∧ wI w cb 5 = nI h.length ∧ h.length ≤ 40 ∧ ∀ j, j < h.length → snM g (h.getD j g) w ma (38 * j) ∧ snOk g (h.getD j g) ∧ unL g w ca j (h.getD (j + 1) g) (h.getD j g)
def iDum (D : List Nat) (w : mW) (mj mr cb cr : Nat) : Prop := wI w 80 mj = nI D.length ∧ wI w cb 7 = nI D.length ∧ D.length ≤ 12 ∧ ∀ i, i < D.length → wI w mr i = nI (D.getD i 0) ∧ wI w cr i = nI (D.getD i 0) ∧ D.getD i 0 ≤ 999
def iHd (g : gS) (H : List (Nat × Nat)) (w : mW) (mj mr cb c1 c2 : Nat) : Prop := wI w 80 mj = nI H.length ∧ wI w cb 9 = nI H.length ∧ H.length ≤ 8 ∧ ∀ i, i < H.length → wI w mr (2 * i) = nI (H.getD i (0, 0)).1 ∧ wI w mr (2 * i + 1) = nI (H.getD i (0, 0)).2 ∧ wI w c1 i = nI (H.getD i (0, 0)).1 ∧ wI w c2 i = nI (H.getD i (0, 0)).2 ∧ (H.getD i (0, 0)).1 < gH g ∧ (H.getD i (0, 0)).2 ≤ 12
/-- another state of acts in the same pool -/
def gPl (g gi : gS) : Prop := (∀ j, j < 8 → gi 0 j = g 0 j) ∧ ∀ a, 1 ≤ a → a ≤ 4 → gi a = g a
def iImg (g : gS) (w : mW) : Prop := (wI w 80 79 = nI 0 ∧ wI w 0 11 = nI 0) ∨ (wI w 80 79 = nI 1 ∧ wI w 0 11 = nI 1 ∧ ∃ (gi : gS) (h : List gS) (D : List Nat) (H : List (Nat × Nat)), gPl g gi ∧ snOk gi gi ∧ snM gi gi w 112 0 ∧ snC gi gi w 55 56 57 58 ∧ iHist gi h w 113 80 59 55 ∧ iDum D w 81 114 55 60 ∧ iHd gi H w 82 115 55 61 62)
def sBy (b : Nat) : Int32 := if b < 128 then nI b else -nI (256 - b)
def iText (w : mW) : Prop := ∃ (bt : Nat → Nat) (t : Nat), wI w 80 18 = nI t ∧ wI w 0 1 = nI t ∧ t ≤ 700 ∧ ∀ i, i < t → bt i < 256 ∧ wI w 87 i = nI (bt i) ∧ wI w 1 i = sBy (bt i)
def iMisc (w : mW) : Prop := wI w 80 20 = wI w 0 2 ∧ wI w 88 0 = wI w 0 3 ∧ wI w 88 1 = wI w 0 4 ∧ wI w 88 2 = wI w 0 5
def iRow (w : mW) : Prop := (wI w 80 71 = -nI 1 ∧ wI w 0 15 = nI 0) ∨ ∃ k, k ≤ 12 ∧ wI w 80 71 = nI k ∧ wI w 0 15 = nI k ∧ ∀ i, i < k → wI w 108 i = wI w 79 i
/-- the word 'tired' in the needs rule -/
def iTir (r : gR) (w : mW) : Prop := wI w 29 5 = nI 1 ∨ (wI w 29 5 = nI 0 ∧ ∀ l, r 0 = some l → ¬ (2, 0) ∈ l)
def iPool (g : gS) (r : gR) (w : mW) : Prop := rM g w ∧ rMr r g w ∧ rC g w ∧ rCr r g w ∧ gOk g ∧ rOk r g ∧ ((∀ k, k < gLk g → 1 ≤ g 7 k) ∧ ∀ k, k < gCa g → g 4 (5 * k + 4) ≤ 1) ∧ wI w 80 66 = nI 0 ∧ iTir r w
def Inv (w : mW) : Prop := ∃ (g : gS) (r : gR) (h : List gS) (D : List Nat) (H : List (Nat × Nat)), iPool g r w ∧ iHist g h w 102 63 38 34 ∧ iDum D w 74 110 34 39 ∧ iHd g H w 75 111 34 40 41 ∧ iImg g w ∧ iText w ∧ iMisc w ∧ iRow w
def invR : List Nat := [1, 25, 26, 27, 28, 30, 31, 32, 35, 36, 37, 38, 39, 40, 41, 56, 57, 58, 59, 60, 61, 62, 79, 81, 82, 83, 84, 85, 86, 87, 88, 100, 102, 108, 110, 111, 112, 113, 114, 115]
def invK : List (Nat × Nat) := [(80, 1), (80, 2), (80, 3), (80, 4), (80, 5), (80, 6), (80, 7), (80, 8), (80, 9), (80, 10), (80, 18), (80, 20), (80, 63), (80, 66), (80, 71), (80, 74), (80, 75), (80, 79), (80, 80), (80, 81), (80, 82), (0, 1), (0, 2), (0, 3), (0, 4), (0, 5), (0, 11), (0, 15), (24, 0), (24, 1), (24, 4), (24, 6), (24, 7), (24, 8), (24, 9), (24, 10), (24, 12), (29, 5), (34, 1), (34, 4), (34, 5), (34, 7), (34, 9), (55, 1), (55, 4), (55, 5), (55, 7), (55, 9)]
theorem Inv_cg {w w' : mW} (hR : ∀ a ∈ invR, ∀ j, wI w' a j = wI w a j) (hK : ∀ x ∈ invK, wI w' x.1 x.2 = wI w x.1 x.2) (h : Inv w) : Inv w' := by
  have e1 : ∀ j, wI w' 1 j = wI w 1 j := fun j => hR 1 (by decide) j
  have e25 : ∀ j, wI w' 25 j = wI w 25 j := fun j => hR 25 (by decide) j
  have e26 : ∀ j, wI w' 26 j = wI w 26 j := fun j => hR 26 (by decide) j
  have e27 : ∀ j, wI w' 27 j = wI w 27 j := fun j => hR 27 (by decide) j
  have e28 : ∀ j, wI w' 28 j = wI w 28 j := fun j => hR 28 (by decide) j
  have e30 : ∀ j, wI w' 30 j = wI w 30 j := fun j => hR 30 (by decide) j
  have e31 : ∀ j, wI w' 31 j = wI w 31 j := fun j => hR 31 (by decide) j
  have e32 : ∀ j, wI w' 32 j = wI w 32 j := fun j => hR 32 (by decide) j
  have e35 : ∀ j, wI w' 35 j = wI w 35 j := fun j => hR 35 (by decide) j
  have e36 : ∀ j, wI w' 36 j = wI w 36 j := fun j => hR 36 (by decide) j
  have e37 : ∀ j, wI w' 37 j = wI w 37 j := fun j => hR 37 (by decide) j
  have e38 : ∀ j, wI w' 38 j = wI w 38 j := fun j => hR 38 (by decide) j
  have e39 : ∀ j, wI w' 39 j = wI w 39 j := fun j => hR 39 (by decide) j
  have e40 : ∀ j, wI w' 40 j = wI w 40 j := fun j => hR 40 (by decide) j
  have e41 : ∀ j, wI w' 41 j = wI w 41 j := fun j => hR 41 (by decide) j
  have e56 : ∀ j, wI w' 56 j = wI w 56 j := fun j => hR 56 (by decide) j
  have e57 : ∀ j, wI w' 57 j = wI w 57 j := fun j => hR 57 (by decide) j
  have e58 : ∀ j, wI w' 58 j = wI w 58 j := fun j => hR 58 (by decide) j
  have e59 : ∀ j, wI w' 59 j = wI w 59 j := fun j => hR 59 (by decide) j
  have e60 : ∀ j, wI w' 60 j = wI w 60 j := fun j => hR 60 (by decide) j
  have e61 : ∀ j, wI w' 61 j = wI w 61 j := fun j => hR 61 (by decide) j
  have e62 : ∀ j, wI w' 62 j = wI w 62 j := fun j => hR 62 (by decide) j
  have e79 : ∀ j, wI w' 79 j = wI w 79 j := fun j => hR 79 (by decide) j
  have e81 : ∀ j, wI w' 81 j = wI w 81 j := fun j => hR 81 (by decide) j
  have e82 : ∀ j, wI w' 82 j = wI w 82 j := fun j => hR 82 (by decide) j
  have e83 : ∀ j, wI w' 83 j = wI w 83 j := fun j => hR 83 (by decide) j
  have e84 : ∀ j, wI w' 84 j = wI w 84 j := fun j => hR 84 (by decide) j
  have e85 : ∀ j, wI w' 85 j = wI w 85 j := fun j => hR 85 (by decide) j
  have e86 : ∀ j, wI w' 86 j = wI w 86 j := fun j => hR 86 (by decide) j
  have e87 : ∀ j, wI w' 87 j = wI w 87 j := fun j => hR 87 (by decide) j
  have e88 : ∀ j, wI w' 88 j = wI w 88 j := fun j => hR 88 (by decide) j
  have e100 : ∀ j, wI w' 100 j = wI w 100 j := fun j => hR 100 (by decide) j
  have e102 : ∀ j, wI w' 102 j = wI w 102 j := fun j => hR 102 (by decide) j
  have e108 : ∀ j, wI w' 108 j = wI w 108 j := fun j => hR 108 (by decide) j
  have e110 : ∀ j, wI w' 110 j = wI w 110 j := fun j => hR 110 (by decide) j
  have e111 : ∀ j, wI w' 111 j = wI w 111 j := fun j => hR 111 (by decide) j
  have e112 : ∀ j, wI w' 112 j = wI w 112 j := fun j => hR 112 (by decide) j
  have e113 : ∀ j, wI w' 113 j = wI w 113 j := fun j => hR 113 (by decide) j
  have e114 : ∀ j, wI w' 114 j = wI w 114 j := fun j => hR 114 (by decide) j
  have e115 : ∀ j, wI w' 115 j = wI w 115 j := fun j => hR 115 (by decide) j
  have k80_1 : wI w' 80 1 = wI w 80 1 := hK (80, 1) (by decide)
  have k80_2 : wI w' 80 2 = wI w 80 2 := hK (80, 2) (by decide)
  have k80_3 : wI w' 80 3 = wI w 80 3 := hK (80, 3) (by decide)
  have k80_4 : wI w' 80 4 = wI w 80 4 := hK (80, 4) (by decide)
  have k80_5 : wI w' 80 5 = wI w 80 5 := hK (80, 5) (by decide)
  have k80_6 : wI w' 80 6 = wI w 80 6 := hK (80, 6) (by decide)
  have k80_7 : wI w' 80 7 = wI w 80 7 := hK (80, 7) (by decide)
  have k80_8 : wI w' 80 8 = wI w 80 8 := hK (80, 8) (by decide)
  have k80_9 : wI w' 80 9 = wI w 80 9 := hK (80, 9) (by decide)
  have k80_10 : wI w' 80 10 = wI w 80 10 := hK (80, 10) (by decide)
  have k80_18 : wI w' 80 18 = wI w 80 18 := hK (80, 18) (by decide)
  have k80_20 : wI w' 80 20 = wI w 80 20 := hK (80, 20) (by decide)
  have k80_63 : wI w' 80 63 = wI w 80 63 := hK (80, 63) (by decide)
  have k80_66 : wI w' 80 66 = wI w 80 66 := hK (80, 66) (by decide)
  have k80_71 : wI w' 80 71 = wI w 80 71 := hK (80, 71) (by decide)
  have k80_74 : wI w' 80 74 = wI w 80 74 := hK (80, 74) (by decide)
  have k80_75 : wI w' 80 75 = wI w 80 75 := hK (80, 75) (by decide)
  have k80_79 : wI w' 80 79 = wI w 80 79 := hK (80, 79) (by decide)
  have k80_80 : wI w' 80 80 = wI w 80 80 := hK (80, 80) (by decide)
  have k80_81 : wI w' 80 81 = wI w 80 81 := hK (80, 81) (by decide)
  have k80_82 : wI w' 80 82 = wI w 80 82 := hK (80, 82) (by decide)
  have k0_1 : wI w' 0 1 = wI w 0 1 := hK (0, 1) (by decide)
  have k0_2 : wI w' 0 2 = wI w 0 2 := hK (0, 2) (by decide)
  have k0_3 : wI w' 0 3 = wI w 0 3 := hK (0, 3) (by decide)
  have k0_4 : wI w' 0 4 = wI w 0 4 := hK (0, 4) (by decide)
  have k0_5 : wI w' 0 5 = wI w 0 5 := hK (0, 5) (by decide)
  have k0_11 : wI w' 0 11 = wI w 0 11 := hK (0, 11) (by decide)
  have k0_15 : wI w' 0 15 = wI w 0 15 := hK (0, 15) (by decide)
  have k24_0 : wI w' 24 0 = wI w 24 0 := hK (24, 0) (by decide)
  have k24_1 : wI w' 24 1 = wI w 24 1 := hK (24, 1) (by decide)
  have k24_4 : wI w' 24 4 = wI w 24 4 := hK (24, 4) (by decide)
  have k24_6 : wI w' 24 6 = wI w 24 6 := hK (24, 6) (by decide)
  have k24_7 : wI w' 24 7 = wI w 24 7 := hK (24, 7) (by decide)
  have k24_8 : wI w' 24 8 = wI w 24 8 := hK (24, 8) (by decide)
  have k24_9 : wI w' 24 9 = wI w 24 9 := hK (24, 9) (by decide)
  have k24_10 : wI w' 24 10 = wI w 24 10 := hK (24, 10) (by decide)
  have k24_12 : wI w' 24 12 = wI w 24 12 := hK (24, 12) (by decide)
  have k29_5 : wI w' 29 5 = wI w 29 5 := hK (29, 5) (by decide)
  have k34_1 : wI w' 34 1 = wI w 34 1 := hK (34, 1) (by decide)
  have k34_4 : wI w' 34 4 = wI w 34 4 := hK (34, 4) (by decide)
  have k34_5 : wI w' 34 5 = wI w 34 5 := hK (34, 5) (by decide)
  have k34_7 : wI w' 34 7 = wI w 34 7 := hK (34, 7) (by decide)
  have k34_9 : wI w' 34 9 = wI w 34 9 := hK (34, 9) (by decide)
  have k55_1 : wI w' 55 1 = wI w 55 1 := hK (55, 1) (by decide)
  have k55_4 : wI w' 55 4 = wI w 55 4 := hK (55, 4) (by decide)
  have k55_5 : wI w' 55 5 = wI w 55 5 := hK (55, 5) (by decide)
  have k55_7 : wI w' 55 7 = wI w 55 7 := hK (55, 7) (by decide)
  have k55_9 : wI w' 55 9 = wI w 55 9 := hK (55, 9) (by decide)
  have ecM : ∀ k l, cdM w' k l = cdM w k l := fun k l => propext ⟨cdM_cg (fun j => (e86 j).symm) l k, cdM_cg e86 l k⟩
  have ecC : ∀ k l, cdC w' k l = cdC w k l := fun k l => propext ⟨cdC_cg (fun j => (e30 j).symm) l k, cdC_cg e30 l k⟩
  have E : Inv w' = Inv w := by
    simp only [Inv, iPool, iHist, iDum, iHd, iImg, iText, iMisc, iRow, iTir, snM, snC, unL, rM, rC, rMr, rCr, rAt, rAtC, ecM, ecC, e1, e25, e26, e27, e28, e30, e31, e32, e35, e36, e37, e38, e39, e40, e41, e56, e57, e58, e59, e60, e61, e62, e79, e81, e82, e83, e84, e85, e86, e87, e88, e100, e102, e108, e110, e111, e112, e113, e114, e115, k80_1, k80_2, k80_3, k80_4, k80_5, k80_6, k80_7, k80_8, k80_9, k80_10, k80_18, k80_20, k80_63, k80_66, k80_71, k80_74, k80_75, k80_79, k80_80, k80_81, k80_82, k0_1, k0_2, k0_3, k0_4, k0_5, k0_11, k0_15, k24_0, k24_1, k24_4, k24_6, k24_7, k24_8, k24_9, k24_10, k24_12, k29_5, k34_1, k34_4, k34_5, k34_7, k34_9, k55_1, k55_4, k55_5, k55_7, k55_9]
  rw [E]
  exact h
theorem Inv_fr {p : fP} {w w' : mW} (hd : fOff invR invK p = true) (hf : fr p w w') (h : Inv w) : Inv w' := Inv_cg (fun a ha j => fr_rd hf (fOff_row hd ha j)) (fun x hx => fr_rd hf (fOff_cell hd hx)) h
theorem Inv_thr {w : mW} (h : Inv w) : Inv (nThr w) := Inv_cg (w := w) (fun _ _ _ => rfl) (fun _ _ => rfl) h
theorem Inv_J {w : mW} {a j : Nat} {v : Int64} (h : Inv w) : Inv (nSJ w a j v) := Inv_cg (w := w) (fun _ _ _ => rfl) (fun _ _ => rfl) h
