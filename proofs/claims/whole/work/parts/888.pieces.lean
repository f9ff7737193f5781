/-! ===== THE PIECES OF INV, AND WHAT THEY READ ===== -/
theorem iHist_fr {g : gS} {h : List gS} {p : fP} {w w' : mW} (hd : fOff [102, 38] [(80, 63), (34, 5)] p = true) (hf : fr p w w') (hx : iHist g h w 102 63 38 34) : iHist g h w' 102 63 38 34 := by
  have e102 : ∀ j, wI w' 102 j = wI w 102 j := fun j => fr_rd hf (fOff_row hd (by decide) j)
  have e38 : ∀ j, wI w' 38 j = wI w 38 j := fun j => fr_rd hf (fOff_row hd (by decide) j)
  have k80_63 : wI w' 80 63 = wI w 80 63 := fr_rd hf (fOff_cell hd (a := 80) (j := 63) (by decide))
  have k34_5 : wI w' 34 5 = wI w 34 5 := fr_rd hf (fOff_cell hd (a := 34) (j := 5) (by decide))
  have E : (iHist g h w' 102 63 38 34) = (iHist g h w 102 63 38 34) := by simp only [iHist, snM, unL, e102, e38, k80_63, k34_5]
  rw [E]
  exact hx
theorem iDum_fr {D : List Nat} {p : fP} {w w' : mW} (hd : fOff [110, 39] [(80, 74), (34, 7)] p = true) (hf : fr p w w') (hx : iDum D w 74 110 34 39) : iDum D w' 74 110 34 39 := by
  have e110 : ∀ j, wI w' 110 j = wI w 110 j := fun j => fr_rd hf (fOff_row hd (by decide) j)
  have e39 : ∀ j, wI w' 39 j = wI w 39 j := fun j => fr_rd hf (fOff_row hd (by decide) j)
  have k80_74 : wI w' 80 74 = wI w 80 74 := fr_rd hf (fOff_cell hd (a := 80) (j := 74) (by decide))
  have k34_7 : wI w' 34 7 = wI w 34 7 := fr_rd hf (fOff_cell hd (a := 34) (j := 7) (by decide))
  have E : (iDum D w' 74 110 34 39) = (iDum D w 74 110 34 39) := by simp only [iDum, e110, e39, k80_74, k34_7]
  rw [E]
  exact hx
theorem iHd_fr {g : gS} {H : List (Nat × Nat)} {p : fP} {w w' : mW} (hd : fOff [111, 40, 41] [(80, 75), (34, 9)] p = true) (hf : fr p w w') (hx : iHd g H w 75 111 34 40 41) : iHd g H w' 75 111 34 40 41 := by
  have e111 : ∀ j, wI w' 111 j = wI w 111 j := fun j => fr_rd hf (fOff_row hd (by decide) j)
  have e40 : ∀ j, wI w' 40 j = wI w 40 j := fun j => fr_rd hf (fOff_row hd (by decide) j)
  have e41 : ∀ j, wI w' 41 j = wI w 41 j := fun j => fr_rd hf (fOff_row hd (by decide) j)
  have k80_75 : wI w' 80 75 = wI w 80 75 := fr_rd hf (fOff_cell hd (a := 80) (j := 75) (by decide))
  have k34_9 : wI w' 34 9 = wI w 34 9 := fr_rd hf (fOff_cell hd (a := 34) (j := 9) (by decide))
  have E : (iHd g H w' 75 111 34 40 41) = (iHd g H w 75 111 34 40 41) := by simp only [iHd, e111, e40, e41, k80_75, k34_9]
  rw [E]
  exact hx
theorem iImg_fr {g : gS} {p : fP} {w w' : mW} (hd : fOff [112, 113, 114, 115, 56, 57, 58, 59, 60, 61, 62] [(80, 79), (80, 80), (80, 81), (80, 82), (0, 11), (55, 1), (55, 4), (55, 5), (55, 7), (55, 9)] p = true) (hf : fr p w w') (hx : iImg g w) : iImg g w' := by
  have e112 : ∀ j, wI w' 112 j = wI w 112 j := fun j => fr_rd hf (fOff_row hd (by decide) j)
  have e113 : ∀ j, wI w' 113 j = wI w 113 j := fun j => fr_rd hf (fOff_row hd (by decide) j)
  have e114 : ∀ j, wI w' 114 j = wI w 114 j := fun j => fr_rd hf (fOff_row hd (by decide) j)
  have e115 : ∀ j, wI w' 115 j = wI w 115 j := fun j => fr_rd hf (fOff_row hd (by decide) j)
  have e56 : ∀ j, wI w' 56 j = wI w 56 j := fun j => fr_rd hf (fOff_row hd (by decide) j)
  have e57 : ∀ j, wI w' 57 j = wI w 57 j := fun j => fr_rd hf (fOff_row hd (by decide) j)
  have e58 : ∀ j, wI w' 58 j = wI w 58 j := fun j => fr_rd hf (fOff_row hd (by decide) j)
  have e59 : ∀ j, wI w' 59 j = wI w 59 j := fun j => fr_rd hf (fOff_row hd (by decide) j)
  have e60 : ∀ j, wI w' 60 j = wI w 60 j := fun j => fr_rd hf (fOff_row hd (by decide) j)
  have e61 : ∀ j, wI w' 61 j = wI w 61 j := fun j => fr_rd hf (fOff_row hd (by decide) j)
  have e62 : ∀ j, wI w' 62 j = wI w 62 j := fun j => fr_rd hf (fOff_row hd (by decide) j)
  have k80_79 : wI w' 80 79 = wI w 80 79 := fr_rd hf (fOff_cell hd (a := 80) (j := 79) (by decide))
  have k80_80 : wI w' 80 80 = wI w 80 80 := fr_rd hf (fOff_cell hd (a := 80) (j := 80) (by decide))
  have k80_81 : wI w' 80 81 = wI w 80 81 := fr_rd hf (fOff_cell hd (a := 80) (j := 81) (by decide))
  have k80_82 : wI w' 80 82 = wI w 80 82 := fr_rd hf (fOff_cell hd (a := 80) (j := 82) (by decide))
  have k0_11 : wI w' 0 11 = wI w 0 11 := fr_rd hf (fOff_cell hd (a := 0) (j := 11) (by decide))
  have k55_1 : wI w' 55 1 = wI w 55 1 := fr_rd hf (fOff_cell hd (a := 55) (j := 1) (by decide))
  have k55_4 : wI w' 55 4 = wI w 55 4 := fr_rd hf (fOff_cell hd (a := 55) (j := 4) (by decide))
  have k55_5 : wI w' 55 5 = wI w 55 5 := fr_rd hf (fOff_cell hd (a := 55) (j := 5) (by decide))
  have k55_7 : wI w' 55 7 = wI w 55 7 := fr_rd hf (fOff_cell hd (a := 55) (j := 7) (by decide))
  have k55_9 : wI w' 55 9 = wI w 55 9 := fr_rd hf (fOff_cell hd (a := 55) (j := 9) (by decide))
  have E : (iImg g w') = (iImg g w) := by simp only [iImg, iHist, iDum, iHd, snM, snC, unL, e112, e113, e114, e115, e56, e57, e58, e59, e60, e61, e62, k80_79, k80_80, k80_81, k80_82, k0_11, k55_1, k55_4, k55_5, k55_7, k55_9]
  rw [E]
  exact hx
theorem iText_fr  {p : fP} {w w' : mW} (hd : fOff [87, 1] [(80, 18), (0, 1)] p = true) (hf : fr p w w') (hx : iText w) : iText w' := by
  have e87 : ∀ j, wI w' 87 j = wI w 87 j := fun j => fr_rd hf (fOff_row hd (by decide) j)
  have e1 : ∀ j, wI w' 1 j = wI w 1 j := fun j => fr_rd hf (fOff_row hd (by decide) j)
  have k80_18 : wI w' 80 18 = wI w 80 18 := fr_rd hf (fOff_cell hd (a := 80) (j := 18) (by decide))
  have k0_1 : wI w' 0 1 = wI w 0 1 := fr_rd hf (fOff_cell hd (a := 0) (j := 1) (by decide))
  have E : (iText w') = (iText w) := by simp only [iText, e87, e1, k80_18, k0_1]
  rw [E]
  exact hx
theorem iMisc_fr  {p : fP} {w w' : mW} (hd : fOff [] [(88, 0), (88, 1), (88, 2), (80, 20), (0, 2), (0, 3), (0, 4), (0, 5)] p = true) (hf : fr p w w') (hx : iMisc w) : iMisc w' := by
  have k88_0 : wI w' 88 0 = wI w 88 0 := fr_rd hf (fOff_cell hd (a := 88) (j := 0) (by decide))
  have k88_1 : wI w' 88 1 = wI w 88 1 := fr_rd hf (fOff_cell hd (a := 88) (j := 1) (by decide))
  have k88_2 : wI w' 88 2 = wI w 88 2 := fr_rd hf (fOff_cell hd (a := 88) (j := 2) (by decide))
  have k80_20 : wI w' 80 20 = wI w 80 20 := fr_rd hf (fOff_cell hd (a := 80) (j := 20) (by decide))
  have k0_2 : wI w' 0 2 = wI w 0 2 := fr_rd hf (fOff_cell hd (a := 0) (j := 2) (by decide))
  have k0_3 : wI w' 0 3 = wI w 0 3 := fr_rd hf (fOff_cell hd (a := 0) (j := 3) (by decide))
  have k0_4 : wI w' 0 4 = wI w 0 4 := fr_rd hf (fOff_cell hd (a := 0) (j := 4) (by decide))
  have k0_5 : wI w' 0 5 = wI w 0 5 := fr_rd hf (fOff_cell hd (a := 0) (j := 5) (by decide))
  have E : (iMisc w') = (iMisc w) := by simp only [iMisc, k88_0, k88_1, k88_2, k80_20, k0_2, k0_3, k0_4, k0_5]
  rw [E]
  exact hx
theorem iRow_fr  {p : fP} {w w' : mW} (hd : fOff [108, 79] [(80, 71), (0, 15)] p = true) (hf : fr p w w') (hx : iRow w) : iRow w' := by
  have e108 : ∀ j, wI w' 108 j = wI w 108 j := fun j => fr_rd hf (fOff_row hd (by decide) j)
  have e79 : ∀ j, wI w' 79 j = wI w 79 j := fun j => fr_rd hf (fOff_row hd (by decide) j)
  have k80_71 : wI w' 80 71 = wI w 80 71 := fr_rd hf (fOff_cell hd (a := 80) (j := 71) (by decide))
  have k0_15 : wI w' 0 15 = wI w 0 15 := fr_rd hf (fOff_cell hd (a := 0) (j := 15) (by decide))
  have E : (iRow w') = (iRow w) := by simp only [iRow, e108, e79, k80_71, k0_15]
  rw [E]
  exact hx
abbrev poR : List Nat := [25, 26, 27, 28, 30, 31, 32, 81, 82, 83, 84, 85, 86]
abbrev poK : List (Nat × Nat) := [(80, 1), (80, 2), (80, 3), (80, 4), (80, 5), (80, 6), (80, 7), (80, 8), (80, 9), (80, 10), (80, 66), (24, 0), (24, 1), (24, 4), (24, 6), (24, 7), (24, 8), (24, 9), (24, 10), (24, 12), (29, 5)]
theorem gPl_refl (g : gS) : gPl g g := ⟨fun _ _ => rfl, fun _ _ _ => rfl⟩
theorem gPl_w {g g' : gS} (h : gPl g g') : gW g' = gW g := h.1 0 (by decide)
theorem gPl_h {g g' : gS} (h : gPl g g') : gH g' = gH g := h.1 1 (by decide)
theorem gPl_sw {g g' : gS} (h : gPl g g') : gSw g' = gSw g := h.1 2 (by decide)
theorem gPl_lk {g g' : gS} (h : gPl g g') : gLk g' = gLk g := h.1 3 (by decide)
theorem gPl_la {g g' : gS} (h : gPl g g') : gLa g' = gLa g := h.1 4 (by decide)
theorem gPl_ti {g g' : gS} (h : gPl g g') : gTi g' = gTi g := h.1 5 (by decide)
theorem gPl_ga {g g' : gS} (h : gPl g g') : gGa g' = gGa g := h.1 6 (by decide)
theorem gPl_ca {g g' : gS} (h : gPl g g') : gCa g' = gCa g := h.1 7 (by decide)
theorem gPl_tro {g g' : gS} (h : gPl g g') : ∀ k, gTro g' k = gTro g k
  | 0 => rfl
  | k + 1 => by
    have e4 : g' 4 = g 4 := h.2 4 (by decide) (by decide)
    simp only [gTro, gPl_tro h k, e4]
theorem snOk_g {g : gS} (ho : gOk g) (hl : ∀ k, k < gLk g → 1 ≤ g 7 k) : snOk g g := ⟨gOk_at ho, gOk_lat ho, fun k hk => ⟨hl k hk, gOk_las ho k hk⟩, gOk_ch ho, gOk_mi ho⟩
theorem snM_rM {g : gS} {w : mW} (h : rM g w) : snM g g w 100 0 := by
  refine ⟨fun i hi => ?_, fun i hi => ?_, fun i hi => ?_, rM_ch h, rM_mi h⟩
  · rw [Nat.zero_add]; exact rM_at h i hi
  · exact rM_lat h i hi
  · exact rM_las h i hi
theorem snC_rC {g : gS} {w : mW} (h : rC g w) : snC g g w 34 35 36 37 := ⟨rC_at h, rC_lat h, rC_las h, rC_ch h, rC_mi h⟩
theorem gOk_of {g g' : gS} (ho : gOk g) (hp : gPl g g') (hs : snOk g' g') : gOk g' := by
  obtain ⟨a1, a2, a3, a4, a5, a6, a7, a8, a9, a10, a11, a12, a13, a14, a15, a16, a17, a18⟩ := ho
  have e1 : g' 1 = g 1 := hp.2 1 (by decide) (by decide)
  have e2 : g' 2 = g 2 := hp.2 2 (by decide) (by decide)
  have e3 : g' 3 = g 3 := hp.2 3 (by decide) (by decide)
  have e4 : g' 4 = g 4 := hp.2 4 (by decide) (by decide)
  refine ⟨?_, ?_, ?_, ?_, ?_, ?_, ?_, ?_, hs.2.2.2.1, hs.2.2.2.2, ?_, ?_, ?_, ?_, ?_, hs.1, hs.2.1, fun k hk => (hs.2.2.1 k hk).2⟩
  · rw [gPl_w hp]; exact a1
  · rw [gPl_h hp]; exact a2
  · rw [gPl_sw hp]; exact a3
  · rw [gPl_lk hp]; exact a4
  · rw [gPl_la hp]; exact a5
  · rw [gPl_ti hp]; exact a6
  · rw [gPl_ga hp]; exact a7
  · rw [gPl_ca hp]; exact a8
  · rw [gPl_w hp, gPl_h hp]; exact a11
  · rw [e1]; exact a12
  · rw [e2]; exact a13
  · rw [gPl_sw hp, e3]; exact a14
  · rw [gPl_ca hp, e4]; exact a15
theorem iPool_of {g g' : gS} {r : gR} {p : fP} {w w' : mW} (hd : fOff poR poK p = true) (hf : fr p w w') (h : iPool g r w) (hp : gPl g g') (hs : snOk g' g') (hm : snM g' g' w' 100 0) (hc : snC g' g' w' 34 35 36 37) : iPool g' r w' := by
  obtain ⟨hM, hMr, hC, hCr, ho, hk, ⟨hl1, hl2⟩, hcm, hti⟩ := h
  have er : ∀ a, a ∈ poR → ∀ j, wI w' a j = wI w a j := fun a ha j => fr_rd hf (fOff_row hd ha j)
  have ek : ∀ x, x ∈ poK → wI w' x.1 x.2 = wI w x.1 x.2 := fun x hx => fr_rd hf (fOff_cell hd hx)
  have e1 : g' 1 = g 1 := hp.2 1 (by decide) (by decide)
  have e2 : g' 2 = g 2 := hp.2 2 (by decide) (by decide)
  have e3 : g' 3 = g 3 := hp.2 3 (by decide) (by decide)
  have e4 : g' 4 = g 4 := hp.2 4 (by decide) (by decide)
  refine ⟨?_, ?_, ?_, ?_, gOk_of ho hp hs, rOk_g (gPl_ga hp) hk, ⟨fun k hk => (hs.2.2.1 k hk).1, ?_⟩, ?_, ?_⟩
  · obtain ⟨a1, a2, a3, a4, a5, a6, a7, a8, a9, a10, a11, a12, a13, a14, a15, a16, a17⟩ := hM
    refine ⟨?_, ?_, ?_, ?_, ?_, ?_, ?_, ?_, ?_, ?_, ?_, ?_, ?_, ?_, ?_, ?_, ?_⟩
    · rw [gPl_w hp]; exact (ek (80, 1) (by decide)).trans a1
    · rw [gPl_h hp]; exact (ek (80, 2) (by decide)).trans a2
    · rw [gPl_sw hp]; exact (ek (80, 3) (by decide)).trans a3
    · rw [gPl_lk hp]; exact (ek (80, 4) (by decide)).trans a4
    · rw [gPl_la hp]; exact (ek (80, 5) (by decide)).trans a5
    · rw [gPl_ti hp]; exact (ek (80, 6) (by decide)).trans a6
    · rw [gPl_ga hp]; exact (ek (80, 7) (by decide)).trans a7
    · rw [gPl_ca hp]; exact (ek (80, 8) (by decide)).trans a8
    · exact hm.2.2.2.1
    · exact hm.2.2.2.2
    · rw [e1]; exact fun c hc => (er 81 (by decide) c).trans (a11 c hc)
    · rw [e2]; exact fun c hc => (er 82 (by decide) c).trans (a12 c hc)
    · rw [gPl_sw hp, e3]; exact fun c hc => (er 83 (by decide) c).trans (a13 c hc)
    · rw [gPl_ca hp, e4]; exact fun c hc => (er 84 (by decide) c).trans (a14 c hc)
    · exact fun i hi => by have := hm.1 i hi; rw [Nat.zero_add] at this; exact this
    · exact hm.2.1
    · exact hm.2.2.1
  · obtain ⟨q1, q2, q3⟩ := hMr
    refine ⟨rAt_cg (er 86 (by decide)) (ek (80, 9) (by decide)) q1, rAt_cg (er 86 (by decide)) (ek (80, 10) (by decide)) q2, fun i hi => ?_⟩
    rw [gPl_ga hp] at hi
    obtain ⟨l, k, b1, b2, b3⟩ := q3 i hi
    exact ⟨l, k, b1, (er 85 (by decide) i).trans b2, cdM_cg (er 86 (by decide)) l k b3⟩
  · obtain ⟨a1, a2, a3, a4, a5, a6, a7, a8, a9, a10, a11, a12, a13, a14, a15, a16, a17, a18⟩ := hC
    refine ⟨?_, ?_, ?_, ?_, ?_, ?_, ?_, ?_, hc.2.2.2.1, hc.2.2.2.2, ?_, ?_, ?_, ?_, ?_, hc.1, hc.2.1, hc.2.2.1⟩
    · rw [gPl_w hp]; exact (ek (24, 0) (by decide)).trans a1
    · rw [gPl_h hp]; exact (ek (24, 1) (by decide)).trans a2
    · rw [gPl_sw hp]; exact (ek (24, 4) (by decide)).trans a3
    · rw [gPl_lk hp]; exact (ek (24, 6) (by decide)).trans a4
    · rw [gPl_la hp]; exact (ek (24, 7) (by decide)).trans a5
    · rw [gPl_ti hp]; exact (ek (24, 8) (by decide)).trans a6
    · rw [gPl_ga hp]; exact (ek (24, 9) (by decide)).trans a7
    · rw [gPl_ca hp]; exact (ek (24, 10) (by decide)).trans a8
    · rw [e1]; exact fun c hc => (er 25 (by decide) c).trans (a11 c hc)
    · rw [e2]; exact fun c hc => (er 26 (by decide) c).trans (a12 c hc)
    · rw [gPl_sw hp, e3]; exact fun c hc => (er 27 (by decide) c).trans (a13 c hc)
    · rw [gPl_ca hp, e4]; exact fun i j hi hj => (er 28 (by decide) _).trans (a14 i j hi hj)
    · rw [gPl_ca hp, gPl_tro hp]; exact (ek (24, 12) (by decide)).trans a15
  · have ecC : ∀ k l, cdC w' k l = cdC w k l := fun k l => propext ⟨cdC_cg (fun j => (er 30 (by decide) j).symm) l k, cdC_cg (er 30 (by decide)) l k⟩
    have e31 := er 31 (by decide)
    have e32 := er 32 (by decide)
    have E : rCr r g' w' = rCr r g w := by simp only [rCr, rAtC, ecC, e31, e32, gPl_ga hp]
    rw [E]
    exact hCr
  · rw [gPl_ca hp, e4]; exact hl2
  · exact (ek (80, 66) (by decide)).trans hcm
  · have e5 : wI w' 29 5 = wI w 29 5 := ek (29, 5) (by decide)
    unfold iTir
    rw [e5]
    exact hti
theorem iImg_g {g g' : gS} {w : mW} (hp : gPl g g') (h : iImg g w) : iImg g' w := by
  rcases h with h | ⟨h1, h2, gi, hh, D, H, h3, h4⟩
  · exact .inl h
  · refine .inr ⟨h1, h2, gi, hh, D, H, ⟨fun j hj => (h3.1 j hj).trans (hp.1 j hj).symm, fun a x y => (h3.2 a x y).trans (hp.2 a x y).symm⟩, h4⟩
theorem iHd_g {g g' : gS} {H : List (Nat × Nat)} {w : mW} {mj mr cb c1 c2 : Nat} (hp : gPl g g') (h : iHd g H w mj mr cb c1 c2) : iHd g' H w mj mr cb c1 c2 := by
  unfold iHd
  rw [gPl_h hp]
  exact h
theorem sK_fr {p : fP} {w w1 : mW} (h : fr p w w1) (hp : fOff [2000000] [] p = true) : sK w w1 := ⟨fr_ln h, fun j => fr_rd h (fOff_row hp (by decide) j)⟩
theorem rd_cpy {w : mW} {a sp b dp n k : Nat} : wI (nCpy w a sp b dp n) b k = if dp ≤ k ∧ k < dp + n then wI w a (sp + (k - dp)) else wI w b k := by simp [wI, nCpy, mRow, va_cpy]
theorem rd_cpyy {w : mW} {a b n k : Nat} (h : k < n) : wI (nCpy w a 0 b 0 n) b k = wI w a k := by rw [rd_cpy, if_pos ⟨Nat.zero_le _, by omega⟩]; congr 1; omega
theorem rd_cpya {w : mW} {a sp b dp n c k : Nat} (h : ¬ c = b) : wI (nCpy w a sp b dp n) c k = wI w c k := by simp [wI, nCpy, mRow, h]
theorem fr_cpy {p : fP} {w w1 : mW} {a sp b dp n : Nat} (h : fr p w w1) (hp : fR p.1 b = true) : fr p w (nCpy w1 a sp b dp n) := by
  refine ⟨fun c j hc => ?_, fun c j hc => ?_, h.2.2⟩
  · by_cases e : c = b
    · subst e
      unfold fIn at hc
      rw [hp] at hc
      cases hc
    · rw [rd_cpya e]; exact h.1 c j hc
  · exact h.2.1 c j hc
theorem iMisc_no {w w' : mW} {p : fP} {k : Nat} (hk : k < 3) (hf : fr p w w') (hd : fOff [88] [(0, 2), (0, 3), (0, 4), (0, 5), (80, 20)] p = true) (h : iMisc w) : iMisc (nS (nS w' 0 (3 + k) (wI w 0 (3 + k) + nI 1)) 88 k (wI w 88 k + nI 1)) := by
  obtain ⟨h1, h2, h3, h4⟩ := h
  have ek : ∀ x : Nat × Nat, x ∈ [((0 : Nat), (2 : Nat)), (0, 3), (0, 4), (0, 5), (80, 20)] → wI w' x.1 x.2 = wI w x.1 x.2 := fun x hx => fr_rd hf (fOff_cell hd hx)
  have e8 : ∀ j, wI w' 88 j = wI w 88 j := fun j => fr_rd hf (fOff_row hd (by decide) j)
  have e02 := ek (0, 2) (by decide)
  have e03 := ek (0, 3) (by decide)
  have e04 := ek (0, 4) (by decide)
  have e05 := ek (0, 5) (by decide)
  have e20 := ek (80, 20) (by decide)
  have hk3 : k = 0 ∨ k = 1 ∨ k = 2 := by omega
  rcases hk3 with rfl | rfl | rfl
  · refine ⟨?_, ?_, ?_, ?_⟩ <;> simp (disch := first | omega | (simp only [fIn, fR, fC, Nat.reduceEqDiff, decide_false, decide_true, Bool.false_or, Bool.or_false, Bool.false_and, Bool.and_false, Bool.or_self, Bool.true_and, Bool.true_or, Bool.and_true, Bool.or_true, Bool.and_self]; done) | fail) only [rd_nS, rd_nSa, rd_nSj, rd_ovn, rd_ovy, Nat.add_zero, Nat.reduceAdd] <;> simp_all
  · refine ⟨?_, ?_, ?_, ?_⟩ <;> simp (disch := first | omega | (simp only [fIn, fR, fC, Nat.reduceEqDiff, decide_false, decide_true, Bool.false_or, Bool.or_false, Bool.false_and, Bool.and_false, Bool.or_self, Bool.true_and, Bool.true_or, Bool.and_true, Bool.or_true, Bool.and_self]; done) | fail) only [rd_nS, rd_nSa, rd_nSj, rd_ovn, rd_ovy, Nat.add_zero, Nat.reduceAdd] <;> simp_all
  · refine ⟨?_, ?_, ?_, ?_⟩ <;> simp (disch := first | omega | (simp only [fIn, fR, fC, Nat.reduceEqDiff, decide_false, decide_true, Bool.false_or, Bool.or_false, Bool.false_and, Bool.and_false, Bool.or_self, Bool.true_and, Bool.true_or, Bool.and_true, Bool.or_true, Bool.and_self]; done) | fail) only [rd_nS, rd_nSa, rd_nSj, rd_ovn, rd_ovy, Nat.add_zero, Nat.reduceAdd] <;> simp_all
