/-! ===== EXPRESSIONS: the reference reads an operand ===== -/
theorem j8 {P : Nat → Prop} (h : P 22 ∧ P 23 ∧ P 24 ∧ P 25 ∧ P 26 ∧ P 27 ∧ P 28 ∧ P 29) : ∀ j, 22 ≤ j → j ≤ 29 → P j := by
  intro j h1 h2
  obtain ⟨a, b, c, d, e, f, g, i⟩ := h
  have : j = 22 ∨ j = 23 ∨ j = 24 ∨ j = 25 ∨ j = 26 ∨ j = 27 ∨ j = 28 ∨ j = 29 := by omega
  rcases this with rfl | rfl | rfl | rfl | rfl | rfl | rfl | rfl <;> assumption
/-- how many brackets are not shut -/
def opn : List Nat → Nat
  | [] => 0
  | a :: t => opn t + (if 14 ≤ a then 1 else 0)
def aW (bt : Nat → Nat) (n lo hi s : Nat) (W : List Nat) (dep : Nat) (T : Nat → Bool) (C : List Nat) (w : mW) : Prop := tkM bt n s w ∧ mS W w ∧ mC C w ∧ wI w 80 46 = nI dep ∧ (opn W + 1 = dep ∧ dep ≤ 6) ∧ mTs dep T w ∧ wI w 80 19 = nI 0 ∧ (W.length ≤ s ∧ C.length + W.length + 1 ≤ 2 * s) ∧ wI w 80 42 = nI lo ∧ wI w 80 43 = nI hi ∧ wI w 80 20 = -nI 1
def bE (f : Nat × Nat) (w : mW) : Prop := wI w 80 19 = nI f.1 ∧ (1 ≤ f.1 ∧ f.1 ≤ 5) ∧ wI w 80 20 = nI f.2 ∧ ∃ a m, wI w 80 45 = nI a ∧ a ≤ 900 ∧ wI w 80 44 = nI m ∧ m ≤ 2000
section MOPER
variable {bt : Nat → Nat} {n lo hi : Nat} {w : mW}
theorem tkM_on {s : Nat} {w' : mW} {p : fP} (h : tkM bt n s w) (hf : fr p w w') (h1 : fIn p 80 22 = false ∧ fIn p 80 23 = false ∧ fIn p 80 24 = false ∧ fIn p 80 25 = false ∧ fIn p 80 26 = false ∧ fIn p 80 27 = false ∧ fIn p 80 28 = false ∧ fIn p 80 29 = false) (h2 : ∀ i, fIn p 87 i = false) : tkM bt n s w' := tkM_fr h hf (j8 h1) h2
/-- a fault is told -/
theorem bE_of {s k : Nat} {W C : List Nat} (hk : 1 ≤ k ∧ k ≤ 5) (hS : mS W w) (hC : mC C w) (hl : W.length ≤ 800 ∧ C.length ≤ 1500) : bE (k, s) (nS (nS w 80 19 (nI k)) 80 20 (nI s)) := by
  refine ⟨(rd_nSj (by decide)).trans rd_nS, hk, rd_nS, W.length, C.length, ?_, by omega, ?_, by omega⟩
  · rw [rd_nSj (by decide), rd_nSj (by decide)]; exact hS.1
  · rw [rd_nSj (by decide), rd_nSj (by decide)]; exact hC.1
/-- two more numbers of code in a text with a fault -/
theorem m_puts2 {f : Nat × Nat} {m : Nat} {x : Int32} {y : mW → Int32} {Q : Unit → mW → Prop} (h1 : wI w 80 19 = nI f.1) (h2 : 1 ≤ f.1 ∧ f.1 ≤ 5) (h3 : wI w 80 20 = nI f.2) (h4 : ∃ a, wI w 80 45 = nI a ∧ a ≤ 900) (h5 : wI w 80 44 = nI m) (h6 : m ≤ 1998) (hq : ∀ w', fr ([97], [(80, 44)]) w w' → bE f w' → Q () w') : hP (nB (f197_80 x w) fun _ w4 => (nB (f197_80 (y w4) w4) fun _ w6 => (nB (f192_80 w6) fun v7 w8 => (if v7 = 0 then (some ((), w8)) else (nB (f187_80 w8) fun _ w10 => (some ((), w10))))))) Q := by
  obtain ⟨a, a1, a2⟩ := h4
  rw [hP_B]
  refine m_putsL h5 (by omega) (fun w1 f1 e1 => ?_)
  rw [hP_B]
  refine m_putsL e1 (by omega) (fun w2 f2 e2 => ?_)
  have ff : fr ([97], [(80, 44)]) w w2 := fr_then f1 f2 (by decide)
  have hb : bE f w2 := ⟨(fr_rd ff rfl).trans h1, h2, (fr_rd ff rfl).trans h3, a, m + 1 + 1, (fr_rd ff rfl).trans a1, a2, e2, by omega⟩
  rw [hP_B]
  refine m_good0 hb.1 h2 ?_
  rw [if_pos (show nI 0 = 0 from rfl), hP_some]
  exact hq w2 ff hb
theorem m_part {Q : Unit → mW → Prop} {s dep : Nat} {W C : List Nat} {T : Nat → Bool} (hlo : lo ≤ 9 ∧ hi ≤ 9) (hA : aW bt n lo hi s W dep T C w) (h40 : ¬ isS bt n s 40)
    (h0 : ∀ f w', fr pE w w' → bE f w' → ePart bt n lo hi (fun _ => .inl (0, 0)) s = .inl f → Q () w')
    (h1 : ∀ l s' w', fr pE w w' → aW bt n lo hi s' W dep T (C ++ cells l) w' → ePart bt n lo hi (fun _ => .inl (0, 0)) s = .inr (l, s') → s < s' → Q () w') : hP (f202_80 w) Q := by
  obtain ⟨hk, hS, hC, hd, hdep, hT, hg, hl, hvlo, hvhi, h20⟩ := id hA
  have hn := hk.1.2.1
  have hsn := hk.2.1
  have hK := tK_le bt n s
  have hE := tE_le bt n hsn
  have hG := tE_ge bt n s
  unfold f202_80
  rw [hP_B]
  refine m_good1 hg ?_
  rw [if_neg (by decide), hk.2.2.2.1]
  by_cases c1 : tK bt n s = 2
  · have hlt := nx_of (bt := bt) (s := s) (by rw [c1]; decide) hsn
    have hgt := nx_gt bt n hlt
    have hnx := nx_le bt n hsn
    rw [if_pos (by rw [c1]; rfl), hk.2.2.2.2.2.1]
    by_cases c2 : tE bt n s - s ≤ 4
    · have eP : ePart bt n lo hi (fun _ => .inl (0, 0)) s = .inr ([(1, dv bt s (tE bt n s - s))], nx bt n s) := by
        unfold ePart
        rw [if_pos c1, if_pos c2]
      rw [if_neg (by rw [q_lit, q_lt (by omega) (by omega)]; omega)]
      unfold f202_80_j29
      rw [hP_B]
      refine m_puts (v := 1) hC (by omega) (fun w2 f2 C2 => ?_)
      have v2 : wI w2 80 27 = nI (dv bt s (tE bt n s - s)) := by
        rw [fr_rd f2 rfl, hk.2.2.2.2.2.2.1 c1, Nat.min_eq_right c2]
      rw [v2, hP_B]
      refine m_puts C2 (by rw [List.length_append]; show C.length + 1 < 4000; omega) (fun w3 f3 C3 => ?_)
      have f13 : fr ([97], [(80, 44)]) w w3 := fr_then f2 f3 (by decide)
      rw [hP_B]
      refine m_good1 ((fr_rd f13 rfl).trans hg) ?_
      rw [if_neg (by decide), hP_B]
      refine m_on (tkM_on hk f13 ⟨rfl, rfl, rfl, rfl, rfl, rfl, rfl, rfl⟩ (fun _ => rfl)) (fun w4 f4 k4 => ?_)
      rw [hP_some]
      have f14 : fr pE w w4 := fr_then (fr_up f13 (by decide)) f4 (by decide)
      refine h1 _ _ w4 f14 ⟨k4, mS_fr (mS_fr hS f13 rfl (fun _ => rfl)) f4 rfl (fun _ => rfl), ?_, (fr_rd f4 rfl).trans ((fr_rd f13 rfl).trans hd), hdep, mTs_fr (mTs_fr hT f13 (fun _ => rfl)) f4 (fun _ => rfl), (fr_rd f4 rfl).trans ((fr_rd f13 rfl).trans hg), ⟨by omega, ?_⟩, (fr_rd f14 rfl).trans hvlo, (fr_rd f14 rfl).trans hvhi, (fr_rd f4 rfl).trans ((fr_rd f13 rfl).trans h20)⟩ eP hgt
      · have := mC_fr C3 f4 rfl (fun _ => rfl)
        rw [List.append_assoc] at this
        exact this
      · rw [List.length_append]
        show C.length + 2 + W.length + 1 ≤ 2 * nx bt n s
        omega
    · have eP : ePart bt n lo hi (fun _ => .inl (0, 0)) s = .inl (2, s) := by
        unfold ePart
        rw [if_pos c1, if_neg c2]
      rw [if_pos (by rw [q_lit, q_lt (by omega) (by omega)]; omega), hP_B]
      refine m_wrong1 hg hk ?_
      unfold f202_80_j29
      have hb := bE_of (s := s) (k := 2) (w := w) (by decide) hS hC ⟨by omega, by omega⟩
      obtain ⟨b1, b2, b3, b4⟩ := hb
      refine m_puts2 (y := fun w2 => wI w2 80 27) (m := C.length) b1 b2 b3 ⟨W.length, ?_, by omega⟩ ?_ (by omega) (fun w' f' b' => h0 _ w' (fr_then (fr_nS (fr_nS fr_refl rfl) rfl) f' (by decide)) b' eP)
      · show wI (nS (nS w 80 19 (nI 2)) 80 20 (nI s)) 80 45 = _
        rw [rd_nSj (by decide), rd_nSj (by decide)]; exact hS.1
      · show wI (nS (nS w 80 19 (nI 2)) 80 20 (nI s)) 80 44 = _
        rw [rd_nSj (by decide), rd_nSj (by decide)]; exact hC.1
  · rw [if_neg (by rw [q_lit, q_eq (by omega) (by omega)]; exact c1)]
    by_cases c2 : tK bt n s = 1
    · have hlt := nx_of (bt := bt) (s := s) (by rw [c2]; decide) hsn
      have hgt := nx_gt bt n hlt
      have hnx := nx_le bt n hsn
      rw [if_pos (by rw [c2]; rfl), hP_B]
      have bad : ∀ x : Int32, ePart bt n lo hi (fun _ => .inl (0, 0)) s = .inl (3, s) → hP (f202_80_j74 x w) Q := by
        intro x eP
        unfold f202_80_j74
        rw [hP_B]
        refine m_wrong1 hg hk ?_
        have hb := bE_of (s := s) (k := 3) (w := w) (by decide) hS hC ⟨by omega, by omega⟩
        obtain ⟨b1, b2, b3, b4⟩ := hb
        refine m_puts2 (y := fun _ => x) (m := C.length) b1 b2 b3 ⟨W.length, ?_, by omega⟩ ?_ (by omega) (fun w' f' b' => h0 _ w' (fr_then (fr_nS (fr_nS fr_refl rfl) rfl) f' (by decide)) b' eP)
        · show wI (nS (nS w 80 19 (nI 3)) 80 20 (nI s)) 80 45 = _
          rw [rd_nSj (by decide), rd_nSj (by decide)]; exact hS.1
        · show wI (nS (nS w 80 19 (nI 3)) 80 20 (nI s)) 80 44 = _
          rw [rd_nSj (by decide), rd_nSj (by decide)]; exact hC.1
      refine m_known hk (fun c hc e => ?_) (fun e => ?_)
      · have hrf := (rf_2 c hc).1
        rw [hvlo, hvhi]
        by_cases c3 : lo ≤ rfI.getD c 0 ∧ rfI.getD c 0 ≤ hi
        · have eP : ePart bt n lo hi (fun _ => .inl (0, 0)) s = .inr ([(2, rfI.getD c 0)], nx bt n s) := by
            unfold ePart
            rw [if_neg c1, if_pos c2, e]
            dsimp only
            rw [if_pos c3]
          rw [if_neg (by rw [q_lt (by omega) (by omega)]; omega), if_neg (by rw [q_lt (by omega) (by omega)]; omega), hP_B]
          refine m_puts (v := 2) hC (by omega) (fun w2 f2 C2 => ?_)
          rw [hP_B]
          refine m_puts C2 (by rw [List.length_append]; show C.length + 1 < 4000; omega) (fun w3 f3 C3 => ?_)
          have f13 : fr ([97], [(80, 44)]) w w3 := fr_then f2 f3 (by decide)
          rw [hP_B]
          refine m_good1 ((fr_rd f13 rfl).trans hg) ?_
          rw [if_neg (by decide), hP_B]
          refine m_on (tkM_on hk f13 ⟨rfl, rfl, rfl, rfl, rfl, rfl, rfl, rfl⟩ (fun _ => rfl)) (fun w4 f4 k4 => ?_)
          rw [hP_some]
          have f14 : fr pE w w4 := fr_then (fr_up f13 (by decide)) f4 (by decide)
          refine h1 _ _ w4 f14 ⟨k4, mS_fr (mS_fr hS f13 rfl (fun _ => rfl)) f4 rfl (fun _ => rfl), ?_, (fr_rd f4 rfl).trans ((fr_rd f13 rfl).trans hd), hdep, mTs_fr (mTs_fr hT f13 (fun _ => rfl)) f4 (fun _ => rfl), (fr_rd f4 rfl).trans ((fr_rd f13 rfl).trans hg), ⟨by omega, ?_⟩, (fr_rd f14 rfl).trans hvlo, (fr_rd f14 rfl).trans hvhi, (fr_rd f4 rfl).trans ((fr_rd f13 rfl).trans h20)⟩ eP hgt
          · have := mC_fr C3 f4 rfl (fun _ => rfl)
            rw [List.append_assoc] at this
            exact this
          · rw [List.length_append]
            show C.length + 2 + W.length + 1 ≤ 2 * nx bt n s
            omega
        · have eP : ePart bt n lo hi (fun _ => .inl (0, 0)) s = .inl (3, s) := by
            unfold ePart
            rw [if_neg c1, if_pos c2, e]
            dsimp only
            rw [if_neg c3]
          by_cases c4 : rfI.getD c 0 < lo
          · rw [if_pos (by rw [q_lt (by omega) (by omega)]; exact c4)]
            exact bad _ eP
          · rw [if_neg (by rw [q_lt (by omega) (by omega)]; exact c4), if_pos (by rw [q_lt (by omega) (by omega)]; omega)]
            exact bad _ eP
      · have eP : ePart bt n lo hi (fun _ => .inl (0, 0)) s = .inl (3, s) := by
          unfold ePart
          rw [if_neg c1, if_pos c2, e]
        rw [hvlo, if_pos (by rw [q_ngt (by omega)]; trivial)]
        exact bad _ eP
    · have eP : ePart bt n lo hi (fun _ => .inl (0, 0)) s = .inl (1, s) := by
        unfold ePart
        rw [if_neg c1, if_neg c2, if_neg h40]
      rw [if_neg (by rw [q_lit, q_eq (by omega) (by omega)]; exact c2), hP_B]
      refine m_wrong1 hg hk ?_
      have hb := bE_of (s := s) (k := 1) (w := w) (by decide) hS hC ⟨by omega, by omega⟩
      rw [hP_B]
      refine m_good0 hb.1 hb.2.1 ?_
      rw [if_pos (show nI 0 = 0 from rfl), hP_some]
      exact h0 _ _ (fr_nS (fr_nS fr_refl rfl) rfl) hb eP
/-- it comes to this -/
def stTo (bt : Nat → Nat) (n lo hi : Nat) (x y : aS) : Prop := ∀ r, Go bt n lo hi y r → Go bt n lo hi x r
theorem stTo_next {x y z : aS} (h : stTo bt n lo hi x y) (hs : stp bt n lo hi y = .inl z) : stTo bt n lo hi x z := fun r hr => h r (Go_next hs hr)
theorem m_partBad {Q : Unit → mW → Prop} {f : Nat × Nat} (hb : bE f w) (hq : Q () w) : hP (f202_80 w) Q := by
  unfold f202_80
  rw [hP_B]
  refine m_good0 hb.1 hb.2.1 ?_
  rw [if_pos (show nI 0 = 0 from rfl), hP_some]
  exact hq
theorem m_operand {Q : Unit → mW → Prop} {x0 : aS} {mn : Bool} {s dep : Nat} {W C : List Nat} {T : Nat → Bool} (hlo : lo ≤ 9 ∧ hi ≤ 9) (hA : aW bt n lo hi s W dep T C w) (hx : stTo bt n lo hi x0 (some (mn, 0), s, W, dep, T, C))
    (h0 : ∀ f w', fr pE w w' → bE f w' → Go bt n lo hi x0 (.inl f) → Q () w')
    (h1 : ∀ s' W' dep' T' C' w', fr pE w w' → aW bt n lo hi s' W' dep' T' C' w' → stTo bt n lo hi x0 (none, s', W', dep', T', C') → s < s' → Q () w') : hP (f204_80 (nI (if mn = true then 1 else 0)) w) Q := by
  have hn := hA.1.1.2.1
  unfold f204_80
  refine hP_loopF (fun m st => (∃ mn1 s1 W1 dep1 T1 C1 w1, m = n - s1 + 1 ∧ s ≤ s1 ∧ st = (nI (if mn1 = true then 1 else 0), 1, w1) ∧ fr pE w w1 ∧ aW bt n lo hi s1 W1 dep1 T1 C1 w1 ∧ stTo bt n lo hi x0 (some (mn1, 0), s1, W1, dep1, T1, C1)) ∨ (∃ x mn1 c s1 W1 dep1 T1 C1 w1, m = 0 ∧ s ≤ s1 ∧ st = (x, 0, w1) ∧ fr pE w w1 ∧ aW bt n lo hi s1 W1 dep1 T1 C1 w1 ∧ stTo bt n lo hi x0 (some (mn1, c), s1, W1, dep1, T1, C1) ∧ ¬ (mn1 = true ∧ isW bt n s1 15) ∧ ¬ isS bt n s1 40) ∨ (∃ x y f w1, m = 0 ∧ st = (x, y, w1) ∧ fr pE w w1 ∧ bE f w1 ∧ Go bt n lo hi x0 (.inl f))) (n - s + 1) (by omega) (.inl ⟨mn, s, W, dep, T, C, w, rfl, Nat.le_refl _, rfl, fr_refl, hA, hx⟩) ?_
  rintro m st rec (⟨mn1, s1, W1, dep1, T1, C1, w1, hm, hs1, rfl, f1, A1, X1⟩ | ⟨x, mn1, c, s1, W1, dep1, T1, C1, w1, hm, hs1, rfl, f1, A1, X1, n15, n40⟩ | ⟨x, y, f, w1, hm, rfl, f1, B1, G1⟩) ih
  · -- at an operand
    simp only [f204_80_b4]
    rw [if_neg (by decide), hP_B]
    refine m_good1 A1.2.2.2.2.2.2.1 ?_
    rw [if_neg (by decide)]
    refine hP_loopF (fun k st => (∃ c s2 W2 w2, k = n - s2 + 1 ∧ c ≤ 6 ∧ s1 ≤ s2 ∧ st = (nI c, w2) ∧ fr pE w w2 ∧ aW bt n lo hi s2 W2 dep1 T1 C1 w2 ∧ stTo bt n lo hi x0 (some (mn1, c), s2, W2, dep1, T1, C1)) ∨ (∃ x f w2, k = 0 ∧ st = (x, w2) ∧ fr pE w w2 ∧ bE f w2 ∧ Go bt n lo hi x0 (.inl f))) (n - s1 + 1) (by omega) (.inl ⟨0, s1, W1, w1, rfl, by decide, Nat.le_refl _, rfl, f1, A1, X1⟩) ?_
    rintro k st rec2 (⟨c, s2, W2, w2, hk2, hc6, hs2, rfl, f2, A2, X2⟩ | ⟨x, f, w2, hk2, rfl, f2, B2, G2⟩) ih2
    · obtain ⟨tk2, hS2, hC2, hd2, hdep2, hT2, hg2, hl2, hvlo2, hvhi2, h202⟩ := id A2
      have hsn2 := tk2.2.1
      -- a bracket, or the part itself
      have after : ¬ (mn1 = true ∧ isW bt n s2 15) → hP (nB (f192_80 w2) fun v7 w8 => (if v7 = 0 then (f204_80_j96 (nI (if mn1 = true then 1 else 0)) 0 rec w8) else (nB (f193_80 40 w8) fun v9 w10 => (if v9 = 0 then (f204_80_j96 (nI (if mn1 = true then 1 else 0)) 0 rec w10) else (f204_80_j96 (nI (if mn1 = true then 1 else 0)) 1 rec w10))))) Q := by
        intro n15
        rw [hP_B]
        refine m_good1 hg2 ?_
        rw [if_neg (by decide), hP_B]
        refine m_isS (b := 40) (by decide) tk2 (fun hy => ?_) (fun hno => ?_)
        · have hlt := nx_of (isS_K hy) hsn2
          have hgt := nx_gt bt n hlt
          have hnx := nx_le bt n hsn2
          rw [if_neg (by decide)]
          unfold f204_80_j96
          rw [if_neg (by decide), hP_B]
          refine m_waits (a := 14) hS2 (by omega) (by decide) (fun w3 f3 S3 => ?_)
          rw [hP_B]
          have f23 : fr pE w w3 := fr_then f2 f3 (by decide)
          refine m_on (tkM_on tk2 f3 ⟨rfl, rfl, rfl, rfl, rfl, rfl, rfl, rfl⟩ (fun _ => rfl)) (fun w4 f4 k4 => ?_)
          have f24 : fr pE w w4 := fr_then f23 f4 (by decide)
          have S4 : mS (14 :: W2) w4 := mS_fr S3 f4 rfl (fun _ => rfl)
          have C4 : mC C1 w4 := mC_fr (mC_fr hC2 f3 rfl (fun _ => rfl)) f4 rfl (fun _ => rfl)
          have d4 : wI w4 80 46 = nI dep1 := (fr_rd f4 rfl).trans ((fr_rd f3 rfl).trans hd2)
          have g4 : wI w4 80 19 = nI 0 := (fr_rd f4 rfl).trans ((fr_rd f3 rfl).trans hg2)
          have T4 : mTs dep1 T1 w4 := mTs_fr (mTs_fr hT2 f3 (fun _ => rfl)) f4 (fun _ => rfl)
          have vlo4 : wI w4 80 42 = nI lo := (fr_rd f4 rfl).trans ((fr_rd f3 rfl).trans hvlo2)
          have vhi4 : wI w4 80 43 = nI hi := (fr_rd f4 rfl).trans ((fr_rd f3 rfl).trans hvhi2)
          have v204 : wI w4 80 20 = -nI 1 := (fr_rd f4 rfl).trans ((fr_rd f3 rfl).trans h202)
          rw [hP_B]
          unfold f203_80
          rw [d4]
          by_cases c6 : dep1 < 6
          · have ed : nI dep1 + 1 = nI (dep1 + 1) := by rw [← nI_add]; rfl
            have g1 : stp bt n lo hi (some (mn1, c), s2, W2, dep1, T1, C1) = .inl (some (true, 0), nx bt n s2, 14 :: W2, dep1 + 1, tUp T1 (dep1 + 1) false, C1) := by
              show stpO bt n lo hi mn1 c s2 W2 dep1 T1 C1 = _
              unfold stpO
              rw [if_neg n15, if_pos hy, if_pos c6]
            rw [if_pos (by rw [q_lit, q_lt (by omega) (by omega)]; exact c6), hP_let, ed, hP_gd, rd_nS, q_cl (by omega), hP_let, hP_some]
            refine ⟨by rw [q_g (by omega)]; omega, ?_⟩
            have f5 : fr ([99], [(80, 46)]) w4 (nS (nS w4 80 46 (nI (dep1 + 1))) 99 (dep1 + 1) (vp_nar .boolean 0)) := fr_nS (fr_nS fr_refl rfl) rfl
            refine ih (n - nx bt n s2 + 1) _ (by omega) (.inl ⟨true, nx bt n s2, 14 :: W2, dep1 + 1, tUp T1 (dep1 + 1) false, C1, _, rfl, by omega, rfl, fr_then f24 f5 (by decide), ⟨tkM_on k4 f5 ⟨rfl, rfl, rfl, rfl, rfl, rfl, rfl, rfl⟩ (fun _ => rfl), mS_fr S4 f5 rfl (fun _ => rfl), mC_fr C4 f5 rfl (fun _ => rfl), ?_, ⟨by show opn W2 + 1 + 1 = dep1 + 1; omega, by omega⟩, fun d h1 h2 => ?_, (fr_rd f5 rfl).trans g4, ⟨?_, ?_⟩, (fr_rd f5 rfl).trans vlo4, (fr_rd f5 rfl).trans vhi4, (fr_rd f5 rfl).trans v204⟩, stTo_next X2 g1⟩)
            · rw [rd_nSa (by decide), rd_nS]
            · by_cases e : d = dep1 + 1
              · rw [e, rd_nS, tUp_s]; rfl
              · rw [rd_nSj e, rd_nSa (by decide), tUp_o e]
                exact T4 d h1 (by omega)
            · show W2.length + 1 ≤ nx bt n s2
              omega
            · show C1.length + (W2.length + 1) + 1 ≤ 2 * nx bt n s2
              omega
          · have g1 : stp bt n lo hi (some (mn1, c), s2, W2, dep1, T1, C1) = .inr (.inl (if mayB bt n (nx bt n s2) then 2 else 1, nx bt n s2)) := by
              show stpO bt n lo hi mn1 c s2 W2 dep1 T1 C1 = _
              unfold stpO
              rw [if_neg n15, if_pos hy, if_neg c6]
            have G := X2 _ (Go_end g1)
            have hK4 := tK_le bt n (nx bt n s2)
            have fail : ∀ kk, (1 ≤ kk ∧ kk ≤ 5) → (if mayB bt n (nx bt n s2) then 2 else 1) = kk → hP (rec (1, 1, nS (nS w4 80 19 (nI kk)) 80 20 (nI (nx bt n s2)))) Q := by
              intro kk hkk ek
              rw [ek] at G
              exact ih 0 _ (by omega) (.inr (.inr ⟨1, 1, (kk, nx bt n s2), _, rfl, rfl, fr_nS (fr_nS f24 rfl) rfl, bE_of hkk S4 C4 ⟨by show W2.length + 1 ≤ 800; omega, by omega⟩, G⟩))
            rw [if_neg (by rw [q_lit, q_lt (by omega) (by omega)]; exact c6), k4.2.2.2.1]
            by_cases e2 : tK bt n (nx bt n s2) = 2
            · rw [if_pos (by rw [e2]; rfl), hP_B]
              refine m_wrong1 g4 k4 ?_
              rw [hP_some]
              exact fail 2 (by decide) (by rw [if_pos (.inr (.inl e2))])
            · rw [if_neg (by rw [q_lit, q_eq (by omega) (by omega)]; exact e2)]
              by_cases e1 : tK bt n (nx bt n s2) = 1
              · rw [if_pos (by rw [e1]; rfl), hP_B]
                refine m_wrong1 g4 k4 ?_
                rw [hP_some]
                exact fail 2 (by decide) (by rw [if_pos (.inl e1)])
              · rw [if_neg (by rw [q_lit, q_eq (by omega) (by omega)]; exact e1), hP_B]
                refine m_isS (b := 40) (by decide) k4 (fun hy4 => ?_) (fun hno4 => ?_)
                · rw [if_neg (by decide), hP_B]
                  refine m_wrong1 g4 k4 ?_
                  rw [hP_some]
                  exact fail 2 (by decide) (by rw [if_pos (.inr (.inr hy4))])
                · rw [if_pos (show nI 0 = 0 from rfl), hP_B]
                  refine m_wrong1 g4 k4 ?_
                  rw [hP_some]
                  exact fail 1 (by decide) (by rw [if_neg (fun h => by rcases h with h | h | h; exact e1 h; exact e2 h; exact hno4 h)])
        · rw [if_pos (show nI 0 = 0 from rfl)]
          unfold f204_80_j96
          rw [if_pos rfl]
          exact ih 0 _ (by omega) (.inr (.inl ⟨_, mn1, c, s2, W2, dep1, T1, C1, w2, rfl, by omega, rfl, f2, A2, X2, n15, hno⟩))
      simp only [f204_80_b18]
      rw [hP_B]
      refine m_good1 hg2 ?_
      rw [if_neg (show ¬ nI 1 = 0 by decide)]
      cases mn1 with
      | false =>
        rw [if_pos (show nI (if false = true then 1 else 0) = 0 from rfl)]
        exact after (fun h => by cases h.1)
      | true =>
        rw [if_neg (show ¬ nI (if true = true then 1 else 0) = 0 by decide), hP_B]
        have notw : ∀ v : Int32, ¬ v = 24 → ¬ isW bt n s2 15 → hP (if v = 24 then (if nI c = 6 then (nB (f191_80 2 w2) fun v23 w24 => (nB (f192_80 w24) fun v25 w26 => (if v25 = 0 then (rec2 ((nI c + 1), w26)) else (nB (f201_80 3 w26) fun v27 w28 => (nB (f187_80 w28) fun v29 w30 => (rec2 ((nI c + 1), w30))))))) else (nB (f192_80 w2) fun v17 w18 => (if v17 = 0 then (rec2 ((nI c + 1), w18)) else (nB (f201_80 3 w18) fun v19 w20 => (nB (f187_80 w20) fun v21 w22 => (rec2 ((nI c + 1), w22))))))) else (nB (f192_80 w2) fun v13 w14 => (if v13 = 0 then (f204_80_j96 (nI (if true = true then 1 else 0)) 0 rec w14) else (nB (f193_80 40 w14) fun v15 w16 => (if v15 = 0 then (f204_80_j96 (nI (if true = true then 1 else 0)) 0 rec w16) else (f204_80_j96 (nI (if true = true then 1 else 0)) 1 rec w16)))))) Q := by
          intro v hv hw
          rw [if_neg hv]
          exact after (fun h => hw h.2)
        refine m_known tk2 (fun cc hcc e => ?_) (fun e => ?_)
        · by_cases c15 : cc = 15
          · have hw : isW bt n s2 15 := by rw [isW, e, c15]
            have hlt := nx_of (isW_K hw) hsn2
            have hgt := nx_gt bt n hlt
            have hnx := nx_le bt n hsn2
            rw [c15, if_pos (show nI (rfI.getD 15 0) = 24 from rfl)]
            have ec : nI c + 1 = nI (c + 1) := by rw [← nI_add]; rfl
            by_cases c6 : c = 6
            · have g1 : stp bt n lo hi (some (true, c), s2, W2, dep1, T1, C1) = .inr (.inl (2, s2)) := by
                show stpO bt n lo hi true c s2 W2 dep1 T1 C1 = _
                unfold stpO
                rw [if_pos ⟨rfl, hw⟩, if_pos c6]
              have hb := bE_of (s := s2) (k := 2) (w := w2) (by decide) hS2 hC2 ⟨by omega, by omega⟩
              rw [if_pos (by rw [c6]; rfl), hP_B]
              refine m_wrong1 hg2 tk2 ?_
              rw [hP_B]
              refine m_good0 hb.1 hb.2.1 ?_
              rw [if_pos (show nI 0 = 0 from rfl)]
              exact ih2 0 _ (by omega) (.inr ⟨_, _, _, rfl, rfl, fr_nS (fr_nS f2 rfl) rfl, hb, X2 _ (Go_end g1)⟩)
            · have g1 : stp bt n lo hi (some (true, c), s2, W2, dep1, T1, C1) = .inl (some (true, c + 1), nx bt n s2, 3 :: W2, dep1, T1, C1) := by
                show stpO bt n lo hi true c s2 W2 dep1 T1 C1 = _
                unfold stpO
                rw [if_pos ⟨rfl, hw⟩, if_neg c6]
              rw [if_neg (by rw [q_lit, q_eq (by omega) (by omega)]; exact c6), hP_B]
              refine m_good1 hg2 ?_
              rw [if_neg (by decide), hP_B]
              refine m_waits (a := 3) hS2 (by omega) (by decide) (fun w3 f3 S3 => ?_)
              rw [hP_B]
              refine m_on (tkM_on tk2 f3 ⟨rfl, rfl, rfl, rfl, rfl, rfl, rfl, rfl⟩ (fun _ => rfl)) (fun w4 f4 k4 => ?_)
              rw [ec]
              refine ih2 (n - nx bt n s2 + 1) _ (by omega) (.inl ⟨c + 1, nx bt n s2, 3 :: W2, w4, rfl, by omega, by omega, rfl, fr_then (fr_then f2 f3 (by decide)) f4 (by decide), ⟨k4, mS_fr S3 f4 rfl (fun _ => rfl), mC_fr (mC_fr hC2 f3 rfl (fun _ => rfl)) f4 rfl (fun _ => rfl), (fr_rd f4 rfl).trans ((fr_rd f3 rfl).trans hd2), ⟨by show opn W2 + 0 + 1 = dep1; omega, hdep2.2⟩, mTs_fr (mTs_fr hT2 f3 (fun _ => rfl)) f4 (fun _ => rfl), (fr_rd f4 rfl).trans ((fr_rd f3 rfl).trans hg2), ⟨?_, ?_⟩, (fr_rd f4 rfl).trans ((fr_rd f3 rfl).trans hvlo2), (fr_rd f4 rfl).trans ((fr_rd f3 rfl).trans hvhi2), (fr_rd f4 rfl).trans ((fr_rd f3 rfl).trans h202)⟩, stTo_next X2 g1⟩)
              · show W2.length + 1 ≤ nx bt n s2
                omega
              · show C1.length + (W2.length + 1) + 1 ≤ 2 * nx bt n s2
                omega
          · refine notw _ (fun h => ?_) (fun h => c15 (by rw [isW, e] at h; exact Option.some.inj h))
            have h' : nI (rfI.getD cc 0) = nI 24 := h
            have hr := rf_2 cc hcc
            rw [q_eq (by omega) (by omega)] at h'
            have : rfL.getD 24 0 = cc := by rw [← h']; exact hr.2
            exact c15 this.symm
        · exact notw _ (by decide) (fun h => by rw [isW, e] at h; cases h)
    · simp only [f204_80_b18]
      rw [hP_B]
      refine m_good0 B2.1 B2.2.1 ?_
      rw [if_pos (show nI 0 = 0 from rfl), hP_B]
      refine m_good0 B2.1 B2.2.1 ?_
      rw [if_pos (show nI 0 = 0 from rfl)]
      unfold f204_80_j96
      rw [if_pos rfl]
      exact ih 0 _ (by omega) (.inr (.inr ⟨_, _, f, w2, rfl, rfl, f2, B2, G2⟩))
  · simp only [f204_80_b4]
    rw [if_pos trivial, hP_B]
    refine m_part hlo A1 n40 (fun f w' f' b' e => ?_) (fun l s' w' f' a' e hlt => ?_)
    · rw [hP_some]
      refine h0 f w' (fr_then f1 f' (by decide)) b' (X1 _ (Go_end ?_))
      show stpO bt n lo hi mn1 c s1 W1 dep1 T1 C1 = _
      unfold stpO
      rw [if_neg n15, if_neg n40, e]
    · rw [hP_some]
      refine h1 s' W1 dep1 T1 (C1 ++ cells l) w' (fr_then f1 f' (by decide)) a' (stTo_next X1 ?_) (by omega)
      show stpO bt n lo hi mn1 c s1 W1 dep1 T1 C1 = _
      unfold stpO
      rw [if_neg n15, if_neg n40, e]
  · simp only [f204_80_b4]
    have fin : hP (nB (f202_80 w1) fun _ w2 => (some ((), w2))) Q := by
      rw [hP_B]
      refine m_partBad B1 ?_
      rw [hP_some]
      exact h0 f w1 f1 B1 G1
    by_cases cy : y = 0
    · rw [if_pos cy]; exact fin
    · rw [if_neg cy, hP_B]
      refine m_good0 B1.1 B1.2.1 ?_
      rw [if_pos (show nI 0 = 0 from rfl)]
      exact fin
end MOPER
