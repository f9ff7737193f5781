/-! ===== LINES: the class, cases and rules, and the text ===== -/
section CTX
variable {bt : Nat → Nat} {n : Nat} {w : mW}
theorem mLoop_s {σ β : Type} {b : (σ → Option (β × mW)) → σ → Option (β × mW)} {k : Nat} {s : σ} : mLoop b (k + 1) s = b (mLoop b k) s := rfl
theorem kC_7 {p : fP} {s : Nat} {w' : mW} (h : tkC bt n s w) (hf : fz p w w') (hx : nTx w' = nTx w) (hd : nWd w' = nWd w) (hp : ∀ j, fIn p 21 j = false) (h1 : ∀ j, fIn p 1 j = false) : tkC bt n s w' := tkC_fz h hf hx hd (fun j _ _ => hp j) h1
/-- a rule -/
theorem c_rule {g : gS} {tD tG on : Nat → Bool} {r : gR} {s i rk lo hi : Nat} {Q : Int32 → mW → Prop} (hr : rKi rk lo hi) (hi6 : i < 6) (ho : gOk g) (hk : tkC bt n s w) (hx : pCx (g, tD, tG, on, r) s w)
    (h0 : ∀ f w', exR bt n lo hi s = .inl f → fz pPa w w' → nTx w' = nTx w → wI w' 2 2 = nI f.1 → wI w' 2 3 = nI f.2 → Q (nI 0) w')
    (h1 : ∀ l s' w', exR bt n lo hi s = .inr (l, s') → fz pPa w w' → nTx w' = nTx w → tkC bt n s' w' → pCx (if rk = 4 then gU g 0 6 (gGa g + 1) else g, tD, tG, on, rUp r i l) s' w' → Q (nI 1) w') : hP (f34_2 (nI i) (nI rk) w) Q := by
  obtain ⟨q0, d0, o0, z0, L, l1, l2, l3⟩ := hx
  have hsn := hk.2.1
  have hn := hk.1.2.2.1
  have hrk : rk ≤ 4 := by rcases hr with h | h | h <;> omega
  unfold f34_2
  rw [hP_let, hP_B]
  unfold f62_8
  have e8 : wI (nS w 2 8 (nI rk)) 8 1 = nI L.length := by rw [rd_nSa (by decide)]; exact l1.1
  rw [hP_gd, q_cl (by omega), hP_let, hP_some, e8]
  refine ⟨by rw [q_g (by omega)]; exact hi6, ?_⟩
  have f2 : fz ([10], [(2, 8)]) w (nS (nS w 2 8 (nI rk)) 10 i (nI L.length)) := fz_nS (fz_nS fz_refl rfl) rfl
  have k2 : tkC bt n s (nS (nS w 2 8 (nI rk)) 10 i (nI L.length)) := kC_7 hk f2 rfl rfl (fun _ => rfl) (fun _ => rfl)
  have r2 : wI (nS (nS w 2 8 (nI rk)) 10 i (nI L.length)) 2 8 = nI rk := by rw [rd_nSa (by decide), rd_nS]
  have a2 : wI (nS (nS w 2 8 (nI rk)) 10 i (nI L.length)) 10 i = nI L.length := rd_nS
  have b2 : ∀ j, ¬ j = i → wI (nS (nS w 2 8 (nI rk)) 10 i (nI L.length)) 10 j = wI w 10 j := fun j hj => by rw [rd_nSj hj, rd_nSa (by decide)]
  have x2 : nTx (nS (nS w 2 8 (nI rk)) 10 i (nI L.length)) = nTx w := rfl
  generalize nS (nS w 2 8 (nI rk)) 10 i (nI L.length) = w2 at f2 k2 r2 a2 b2 x2
  rw [hP_B]
  refine hP_mono (c_expr hr 8 0 rfl (by decide) s L w2 k2 (kC_fz l1 f2 rfl (fun _ => rfl) rfl) r2 l2) (fun v w3 hp => ?_)
  obtain ⟨f3, x3, h3⟩ := hp
  have fP3 : fz pPa w w3 := fz_then (fz_up f2 (by decide)) f3 (by decide)
  cases he : eEx bt n lo hi 8 0 s with
  | inl f =>
    rw [he] at h3
    rw [h3.1, if_pos (show nI 0 = 0 from rfl), hP_some]
    exact h0 f w3 he fP3 (x3.trans x2) h3.2.1 h3.2.2
  | inr x =>
    obtain ⟨l, s3⟩ := x
    rw [he] at h3
    obtain ⟨v1, k3, c3⟩ := h3
    have c3 : kC (L ++ l) w3 := c3
    have k3 : tkC bt n s3 w3 := k3
    obtain ⟨y1, y2, y3, y4⟩ := exR_ok (show exR bt n lo hi s = .inr (l, s3) from he) hsn
    have hlen : (L ++ l).length = L.length + l.length := List.length_append
    rw [v1, if_neg (by decide), hP_B]
    unfold f63_8
    rw [hP_gd, q_cl (by omega), hP_let, hP_some, c3.1]
    refine ⟨by rw [q_g (by omega)]; exact hi6, ?_⟩
    have f4 : fz ([11], []) w3 (nS w3 11 i (nI (L ++ l).length)) := fz_nS fz_refl rfl
    have fP4 : fz pPa w (nS w3 11 i (nI (L ++ l).length)) := fz_then fP3 f4 (by decide)
    have rc : rcC (rUp r i l) (L ++ l) (nS w3 11 i (nI (L ++ l).length)) := by
      intro j hj
      by_cases e : j = i
      · have er : rUp r i l j = some l := if_pos e
        rw [er]
        refine ⟨L.length, ?_, ?_, by omega, fun t o ht => ?_⟩
        · rw [rd_nSa (by decide), fz_rd f3 rfl, e]; exact a2
        · rw [e, rd_nS, hlen]
        · rw [List.getElem?_append_right (by omega), Nat.add_sub_cancel_left]; exact ht
      · have er : rUp r i l j = r j := if_neg e
        have e10 : wI (nS w3 11 i (nI (L ++ l).length)) 10 j = wI w 10 j := by rw [rd_nSa (by decide), fz_rd f3 rfl]; exact b2 j e
        have e11 : wI (nS w3 11 i (nI (L ++ l).length)) 11 j = wI w 11 j := by rw [rd_nSj e, fz_rd f3 rfl, fz_rd f2 rfl]
        rw [er]
        have hh := l3 j hj
        have hh : match r j with
          | none => wI w 10 j = nI 0 ∧ wI w 11 j = nI 0
          | some l => ∃ a, wI w 10 j = nI a ∧ wI w 11 j = nI (a + l.length) ∧ a + l.length ≤ L.length ∧ ∀ t o, l[t]? = some o → L[a + t]? = some o := hh
        cases hrj : r j with
        | none => rw [hrj] at hh; exact ⟨e10.trans hh.1, e11.trans hh.2⟩
        | some l' =>
          rw [hrj] at hh
          obtain ⟨a, z1, z2, z3, z4⟩ := hh
          refine ⟨a, e10.trans z1, e11.trans z2, by omega, fun t o ht => ?_⟩
          have hb := z4 t o ht
          rw [List.getElem?_append_left (List.getElem?_eq_some_iff.mp hb).1]
          exact hb
    have q4 : qC g (nS w3 11 i (nI (L ++ l).length)) := qC_fz (by decide) f4 (qC_fz (by decide) f3 (qC_fz (by decide) f2 q0))
    have d4 : tdC tD tG (nS w3 11 i (nI (L ++ l).length)) := tdC_fz (tdC_fz (tdC_fz d0 f2 rfl rfl) f3 rfl rfl) f4 rfl rfl
    have o4 : onC on (nS w3 11 i (nI (L ++ l).length)) := onC_fz (onC_fz (onC_fz o0 f2 rfl) f3 rfl) f4 rfl
    have z4 : cZ (nS w3 11 i (nI (L ++ l).length)) := by
      obtain ⟨z1, z2, z3, z4⟩ := z0
      exact ⟨(fz_rd f4 rfl).trans ((fz_rd f3 rfl).trans ((fz_rd f2 rfl).trans z1)), (fz_rd f4 rfl).trans ((fz_rd f3 rfl).trans ((fz_rd f2 rfl).trans z2)), (fz_rd f4 rfl).trans ((fz_rd f3 rfl).trans ((fz_rd f2 rfl).trans z3)), (fz_rd f4 rfl).trans ((fz_rd f3 rfl).trans ((fz_rd f2 rfl).trans z4))⟩
    have c4 : kC (L ++ l) (nS w3 11 i (nI (L ++ l).length)) := kC_fz c3 f4 rfl (fun _ => rfl) rfl
    have k4 : tkC bt n s3 (nS w3 11 i (nI (L ++ l).length)) := kC_7 k3 f4 rfl rfl (fun _ => rfl) (fun _ => rfl)
    by_cases c : rk = 4
    · have ei : nI (gGa g) + 1 = nI (gGa g + 1) := by rw [← nI_add]; rfl
      rw [if_pos (by rw [c]; rfl), hP_let, hP_some, qC_ga q4, ei]
      have f5 : fz ([], [(3, 9)]) (nS w3 11 i (nI (L ++ l).length)) (nS (nS w3 11 i (nI (L ++ l).length)) 3 9 (nI (gGa g + 1))) := fz_nS fz_refl rfl
      refine h1 l s3 _ he (fz_then fP4 f5 (by decide)) (x3.trans x2) (kC_7 k4 f5 rfl rfl (fun _ => rfl) (fun _ => rfl)) ?_
      rw [if_pos c]
      exact pCx_of (qC_uga q4) (tdC_fz d4 f5 rfl rfl) (onC_fz o4 f5 rfl) (pCr_fz ⟨z4, L ++ l, c4, by omega, rc⟩ f5 (by decide) (Nat.le_refl _))
    · rw [if_neg (by rw [q_lit, q_eq (by omega) (by omega)]; exact c), hP_some]
      refine h1 l s3 _ he fP4 (x3.trans x2) k4 ?_
      rw [if_neg c]
      exact pCx_of q4 d4 o4 ⟨z4, L ++ l, c4, by omega, rc⟩
/-- a case: the class -/
theorem qC_ucase {g : gS} {a b c d e : Nat} {w w' : mW} (h : qC g w) (hf : fz ([7], [(3, 10), (3, 12), (2, 2), (2, 3), (2, 9), (21, 2), (21, 3), (21, 4), (21, 6), (21, 7)]) w w') (hold : ∀ i, i < 4 * gCa g → wI w' 7 i = wI w 7 i) (h0 : wI w' 7 (4 * gCa g) = nI a) (h1 : wI w' 7 (4 * gCa g + 1) = nI b) (h2 : wI w' 7 (4 * gCa g + 2) = nI c) (h3 : wI w' 7 (4 * gCa g + 3) = nI d) (hc : wI w' 3 10 = nI (gCa g + 1)) (ht : wI w' 3 12 = nI (gTro g (gCa g) + (if e = 1 then 2 ^ gCa g else 0))) : qC (gCs g a b c d e) w' := by
  have R : ∀ {x y : Nat}, fIn ([7], [(3, 10), (3, 12), (2, 2), (2, 3), (2, 9), (21, 2), (21, 3), (21, 4), (21, 6), (21, 7)]) x y = false → wI w' x y = wI w x y := fun hp => fz_rd hf hp
  have htro : gTro (gCs g a b c d e) (gCa g) = gTro g (gCa g) := by
    have : ∀ k, k ≤ gCa g → gTro (gCs g a b c d e) k = gTro g k := by
      intro k
      induction k with
      | zero => intro _; rfl
      | succ k ih =>
        intro hk
        show gTro (gCs g a b c d e) k + (if gCs g a b c d e 4 (5 * k + 4) = 1 then 2 ^ k else 0) = gTro g k + (if g 4 (5 * k + 4) = 1 then 2 ^ k else 0)
        rw [ih (by omega), gCs_old (by omega)]
    exact this _ (Nat.le_refl _)
  refine ⟨(R rfl).trans (@qC_wd g w h), (R rfl).trans (@qC_hi g w h), (R rfl).trans (@qC_sw g w h), (R rfl).trans (@qC_lk g w h), (R rfl).trans (@qC_la g w h), (R rfl).trans (@qC_ti g w h), (R rfl).trans (@qC_ga g w h), hc, (R rfl).trans (@qC_ch g w h), ?_, fun i hi => (R rfl).trans (@qC_deep g w h i hi), fun i hi => (R rfl).trans (@qC_glare g w h i hi), fun i hi => (R rfl).trans (@qC_skill g w h i hi), fun i hi => (R rfl).trans (@qC_at g w h i hi), fun i hi => (R rfl).trans (@qC_lat g w h i hi), fun i hi => (R rfl).trans (@qC_las g w h i hi), fun i j hi hj => ?_⟩
  · rw [ht]
    show _ = nI (gTro (gCs g a b c d e) (gCa g) + (if gCs g a b c d e 4 (5 * gCa g + 4) = 1 then 2 ^ gCa g else 0))
    rw [htro, gCs_4]
  · have hi : i < gCa g + 1 := hi
    by_cases ei : i = gCa g
    · have hj4 : j = 0 ∨ j = 1 ∨ j = 2 ∨ j = 3 := by omega
      rw [ei]
      rcases hj4 with rfl | rfl | rfl | rfl
      · rw [Nat.add_zero, Nat.add_zero, gCs_0]; exact h0
      · rw [gCs_1]; exact h1
      · rw [gCs_2]; exact h2
      · rw [gCs_3]; exact h3
    · rw [hold _ (by omega), gCs_old (by omega)]
      exact @qC_case g w h i j (by omega) hj
theorem c_lca {g : gS} {tD tG on : Nat → Bool} {r : gR} {s : Nat} (ho : gOk g) (hk : tkC bt n s w) (hx : pCx (g, tD, tG, on, r) s w) (hw : tW bt n s = some 8) : hP (f33_2 w) (lPost bt n (lnP bt n (g, tD, tG, on, r) s) w) := by
  have eL : lnP bt n (g, tD, tG, on, r) s = pThen (moR bt n (gCa g) 10 s) fun _ s1 => pThen (caR bt n g s1) fun g' s2 => .inr ((g', tD, tG, on, r), s2) := by
    unfold lnP
    rw [hw]
    rfl
  have hb12 := gOk_ca ho
  have hK : tK bt n s ≠ 0 := by rw [(tW_lt hw).1]; decide
  rw [eL]
  unfold f33_2
  rw [hP_B, qC_ca hx.1]
  refine c_more (a := gCa g) (b := 10) (by omega) (by decide) hk (fun f w1 e1 f1 x1 a1 b1 => ?_) (fun s1 w1 e1 hlt f1 x1 k1 => ?_)
  · rw [if_pos (show nI 0 = 0 from rfl), hP_some]
    exact lBad (pThen_n e1) (fz_up f1 (by decide)) x1 a1 b1
  have m1 := moR_ok e1 hk.2.1 hK
  have X1 := pCx_N hx (fz_up f1 (by decide)) (show s ≤ s1 by omega)
  have F1 : fz pPa w w1 := fz_up f1 (by decide)
  rw [if_neg (by decide), show nF = 19995 + 1 + 1 + 1 + 1 + 1 from rfl, mLoop_s]
  have g1 : fz ([7], [(2, 2), (2, 3), (2, 9), (21, 2), (21, 3), (21, 4), (21, 6), (21, 7)]) w1 w1 := fz_refl
  simp only [f33_2_b20]
  rw [if_pos (show (0 : Int32) < 4 by decide), hP_B]
  refine c_nm (a := 0) (b := 9) (by decide) (by decide) k1 (fun f v n2 f2 y2 z1 z2 => ?_) (fun v2 s2 u2 n2 f2 y2 j2 t2 => ?_)
  · rw [if_pos (show nI 0 = 0 from rfl), hP_some]
    exact lBad ((pThen_y e1).trans (pThen_n (pThen_n n2))) (fz_then (fz_then F1 g1 (by decide)) f2 (by decide)) (y2.trans x1) z1 z2
  have p2 := nmR_ok n2 k1.2.1
  have c2 : wI u2 3 10 = nI (gCa g) := (fz_rd f2 rfl).trans ((fz_rd g1 rfl).trans (qC_ca X1.1))
  have i2 : 4 * nI (gCa g) + 0 = nI (4 * gCa g + 0) := by
    show nI 4 * nI (gCa g) + nI 0 = _
    rw [pk_mul, nI_add]
  rw [if_neg (by decide), c2, i2, hP_gd, q_cl (by omega), hP_let, t2]
  refine ⟨by rw [q_g (by omega)]; omega, ?_⟩
  have h2 : fz ([7], []) u2 (nS u2 7 (4 * gCa g + 0) (nI v2)) := fz_nS fz_refl rfl
  have k2 : tkC bt n s2 (nS u2 7 (4 * gCa g + 0) (nI v2)) := kC_7 j2 h2 rfl rfl (fun _ => rfl) (fun _ => rfl)
  have g2 : fz ([7], [(2, 2), (2, 3), (2, 9), (21, 2), (21, 3), (21, 4), (21, 6), (21, 7)]) w1 (nS u2 7 (4 * gCa g + 0) (nI v2)) := fz_then (fz_then g1 f2 (by decide)) h2 (by decide)
  have x2 : nTx (nS u2 7 (4 * gCa g + 0) (nI v2)) = nTx w := y2.trans x1
  have o2 : ∀ i, i < 4 * gCa g → wI (nS u2 7 (4 * gCa g + 0) (nI v2)) 7 i = wI w1 7 i := fun i hi => by rw [rd_nSj (by omega), fz_rd f2 rfl]
  have m2 : wI (nS u2 7 (4 * gCa g + 0) (nI v2)) 7 (4 * gCa g + 0) = nI v2 := rd_nS
  generalize nS u2 7 (4 * gCa g + 0) (nI v2) = w2 at *
  rw [mLoop_s]
  simp only [f33_2_b20]
  rw [if_pos (show ((0 + 1) : Int32) < 4 by decide), hP_B]
  refine c_nm (a := 0) (b := 9) (by decide) (by decide) k2 (fun f v n3 f3 y3 z1 z2 => ?_) (fun v3 s3 u3 n3 f3 y3 j3 t3 => ?_)
  · rw [if_pos (show nI 0 = 0 from rfl), hP_some]
    exact lBad ((pThen_y e1).trans (pThen_n ((pThen_y n2).trans (pThen_n n3)))) (fz_then (fz_then F1 g2 (by decide)) f3 (by decide)) (y3.trans x2) z1 z2
  have p3 := nmR_ok n3 k2.2.1
  have c3 : wI u3 3 10 = nI (gCa g) := (fz_rd f3 rfl).trans ((fz_rd g2 rfl).trans (qC_ca X1.1))
  have i3 : 4 * nI (gCa g) + (0 + 1) = nI (4 * gCa g + 1) := by
    show nI 4 * nI (gCa g) + nI 1 = _
    rw [pk_mul, nI_add]
  rw [if_neg (by decide), c3, i3, hP_gd, q_cl (by omega), hP_let, t3]
  refine ⟨by rw [q_g (by omega)]; omega, ?_⟩
  have h3 : fz ([7], []) u3 (nS u3 7 (4 * gCa g + 1) (nI v3)) := fz_nS fz_refl rfl
  have k3 : tkC bt n s3 (nS u3 7 (4 * gCa g + 1) (nI v3)) := kC_7 j3 h3 rfl rfl (fun _ => rfl) (fun _ => rfl)
  have g3 : fz ([7], [(2, 2), (2, 3), (2, 9), (21, 2), (21, 3), (21, 4), (21, 6), (21, 7)]) w1 (nS u3 7 (4 * gCa g + 1) (nI v3)) := fz_then (fz_then g2 f3 (by decide)) h3 (by decide)
  have x3 : nTx (nS u3 7 (4 * gCa g + 1) (nI v3)) = nTx w := y3.trans x2
  have o3 : ∀ i, i < 4 * gCa g → wI (nS u3 7 (4 * gCa g + 1) (nI v3)) 7 i = wI w1 7 i := fun i hi => by rw [rd_nSj (by omega), fz_rd f3 rfl]; exact o2 i hi
  have m3 : wI (nS u3 7 (4 * gCa g + 1) (nI v3)) 7 (4 * gCa g + 1) = nI v3 := rd_nS
  have m3_0 : wI (nS u3 7 (4 * gCa g + 1) (nI v3)) 7 (4 * gCa g + 0) = nI v2 := by rw [rd_nSj (by omega), fz_rd f3 rfl]; exact m2
  generalize nS u3 7 (4 * gCa g + 1) (nI v3) = w3 at *
  rw [mLoop_s]
  simp only [f33_2_b20]
  rw [if_pos (show ((0 + 1 + 1) : Int32) < 4 by decide), hP_B]
  refine c_nm (a := 0) (b := 9) (by decide) (by decide) k3 (fun f v n4 f4 y4 z1 z2 => ?_) (fun v4 s4 u4 n4 f4 y4 j4 t4 => ?_)
  · rw [if_pos (show nI 0 = 0 from rfl), hP_some]
    exact lBad ((pThen_y e1).trans (pThen_n ((pThen_y n2).trans ((pThen_y n3).trans (pThen_n n4))))) (fz_then (fz_then F1 g3 (by decide)) f4 (by decide)) (y4.trans x3) z1 z2
  have p4 := nmR_ok n4 k3.2.1
  have c4 : wI u4 3 10 = nI (gCa g) := (fz_rd f4 rfl).trans ((fz_rd g3 rfl).trans (qC_ca X1.1))
  have i4 : 4 * nI (gCa g) + (0 + 1 + 1) = nI (4 * gCa g + 2) := by
    show nI 4 * nI (gCa g) + nI 2 = _
    rw [pk_mul, nI_add]
  rw [if_neg (by decide), c4, i4, hP_gd, q_cl (by omega), hP_let, t4]
  refine ⟨by rw [q_g (by omega)]; omega, ?_⟩
  have h4 : fz ([7], []) u4 (nS u4 7 (4 * gCa g + 2) (nI v4)) := fz_nS fz_refl rfl
  have k4 : tkC bt n s4 (nS u4 7 (4 * gCa g + 2) (nI v4)) := kC_7 j4 h4 rfl rfl (fun _ => rfl) (fun _ => rfl)
  have g4 : fz ([7], [(2, 2), (2, 3), (2, 9), (21, 2), (21, 3), (21, 4), (21, 6), (21, 7)]) w1 (nS u4 7 (4 * gCa g + 2) (nI v4)) := fz_then (fz_then g3 f4 (by decide)) h4 (by decide)
  have x4 : nTx (nS u4 7 (4 * gCa g + 2) (nI v4)) = nTx w := y4.trans x3
  have o4 : ∀ i, i < 4 * gCa g → wI (nS u4 7 (4 * gCa g + 2) (nI v4)) 7 i = wI w1 7 i := fun i hi => by rw [rd_nSj (by omega), fz_rd f4 rfl]; exact o3 i hi
  have m4 : wI (nS u4 7 (4 * gCa g + 2) (nI v4)) 7 (4 * gCa g + 2) = nI v4 := rd_nS
  have m4_0 : wI (nS u4 7 (4 * gCa g + 2) (nI v4)) 7 (4 * gCa g + 0) = nI v2 := by rw [rd_nSj (by omega), fz_rd f4 rfl]; exact m3_0
  have m4_1 : wI (nS u4 7 (4 * gCa g + 2) (nI v4)) 7 (4 * gCa g + 1) = nI v3 := by rw [rd_nSj (by omega), fz_rd f4 rfl]; exact m3
  generalize nS u4 7 (4 * gCa g + 2) (nI v4) = w4 at *
  rw [mLoop_s]
  simp only [f33_2_b20]
  rw [if_pos (show ((0 + 1 + 1 + 1) : Int32) < 4 by decide), hP_B]
  refine c_nm (a := 0) (b := 9) (by decide) (by decide) k4 (fun f v n5 f5 y5 z1 z2 => ?_) (fun v5 s5 u5 n5 f5 y5 j5 t5 => ?_)
  · rw [if_pos (show nI 0 = 0 from rfl), hP_some]
    exact lBad ((pThen_y e1).trans (pThen_n ((pThen_y n2).trans ((pThen_y n3).trans ((pThen_y n4).trans (pThen_n n5)))))) (fz_then (fz_then F1 g4 (by decide)) f5 (by decide)) (y5.trans x4) z1 z2
  have p5 := nmR_ok n5 k4.2.1
  have c5 : wI u5 3 10 = nI (gCa g) := (fz_rd f5 rfl).trans ((fz_rd g4 rfl).trans (qC_ca X1.1))
  have i5 : 4 * nI (gCa g) + (0 + 1 + 1 + 1) = nI (4 * gCa g + 3) := by
    show nI 4 * nI (gCa g) + nI 3 = _
    rw [pk_mul, nI_add]
  rw [if_neg (by decide), c5, i5, hP_gd, q_cl (by omega), hP_let, t5]
  refine ⟨by rw [q_g (by omega)]; omega, ?_⟩
  have h5 : fz ([7], []) u5 (nS u5 7 (4 * gCa g + 3) (nI v5)) := fz_nS fz_refl rfl
  have k5 : tkC bt n s5 (nS u5 7 (4 * gCa g + 3) (nI v5)) := kC_7 j5 h5 rfl rfl (fun _ => rfl) (fun _ => rfl)
  have g5 : fz ([7], [(2, 2), (2, 3), (2, 9), (21, 2), (21, 3), (21, 4), (21, 6), (21, 7)]) w1 (nS u5 7 (4 * gCa g + 3) (nI v5)) := fz_then (fz_then g4 f5 (by decide)) h5 (by decide)
  have x5 : nTx (nS u5 7 (4 * gCa g + 3) (nI v5)) = nTx w := y5.trans x4
  have o5 : ∀ i, i < 4 * gCa g → wI (nS u5 7 (4 * gCa g + 3) (nI v5)) 7 i = wI w1 7 i := fun i hi => by rw [rd_nSj (by omega), fz_rd f5 rfl]; exact o4 i hi
  have m5 : wI (nS u5 7 (4 * gCa g + 3) (nI v5)) 7 (4 * gCa g + 3) = nI v5 := rd_nS
  have m5_0 : wI (nS u5 7 (4 * gCa g + 3) (nI v5)) 7 (4 * gCa g + 0) = nI v2 := by rw [rd_nSj (by omega), fz_rd f5 rfl]; exact m4_0
  have m5_1 : wI (nS u5 7 (4 * gCa g + 3) (nI v5)) 7 (4 * gCa g + 1) = nI v3 := by rw [rd_nSj (by omega), fz_rd f5 rfl]; exact m4_1
  have m5_2 : wI (nS u5 7 (4 * gCa g + 3) (nI v5)) 7 (4 * gCa g + 2) = nI v4 := by rw [rd_nSj (by omega), fz_rd f5 rfl]; exact m4
  generalize nS u5 7 (4 * gCa g + 3) (nI v5) = w5 at *
  rw [mLoop_s]
  simp only [f33_2_b20]
  rw [if_neg (by decide)]
  have hs5 := k5.2.1
  have eC : caR bt n g s1 = if isW bt n s5 10 ∨ isW bt n s5 12 then .inr (gCs g v2 v3 v4 v5 (if isW bt n s5 10 then 1 else 0), nx bt n s5) else .inl (1, s5) := (pThen_y n2).trans ((pThen_y n3).trans ((pThen_y n4).trans (pThen_y n5)))
  have c5' : wI w5 3 10 = nI (gCa g) := (fz_rd g5 rfl).trans (qC_ca X1.1)
  have ei : nI (gCa g) + 1 = nI (gCa g + 1) := by rw [← nI_add]; rfl
  have fin : ∀ (e : Nat) (w6 : mW), (isW bt n s5 10 ∨ isW bt n s5 12) → (if isW bt n s5 10 then 1 else 0) = e → fz ([], [(3, 12)]) w5 w6 → nTx w6 = nTx w5 → nWd w6 = nWd w5 → wI w6 3 12 = nI (gTro g (gCa g) + (if e = 1 then 2 ^ gCa g else 0)) → hP (nLet (nS w6 3 10 ((wI w6 3 10) + 1)) fun w3 => (nB (f70_21 w3) fun v4 w5 => (some ((1 : Int32), w5)))) (lPost bt n (pThen (moR bt n (gCa g) 10 s) fun _ s1 => pThen (caR bt n g s1) fun g' s2 => .inr ((g', tD, tG, on, r), s2)) w) := by
    intro e w6 hW he f6 x6 d6 t6
    rw [hP_let, (fz_rd f6 rfl).trans c5', ei, hP_B]
    have f7 : fz ([], [(3, 10), (3, 12)]) w5 (nS w6 3 10 (nI (gCa g + 1))) := fz_nS (fz_up f6 (by decide)) rfl
    have k7 : tkC bt n s5 (nS w6 3 10 (nI (gCa g + 1))) := kC_7 k5 f7 x6 d6 (fun _ => rfl) (fun _ => rfl)
    refine c_on k7 (fun w8 f8 x8 k8 => ?_)
    rw [hP_some]
    have f18 : fz ([7], [(3, 10), (3, 12), (2, 2), (2, 3), (2, 9), (21, 2), (21, 3), (21, 4), (21, 6), (21, 7)]) w1 w8 := fz_then (fz_then (fz_up g5 (by decide)) f7 (by decide)) f8 (by decide)
    have e7 : ∀ i, wI w8 7 i = wI w5 7 i := fun i => (fz_rd f8 rfl).trans (fz_rd f7 rfl)
    rw [if_pos hW, he] at eC
    have nxg := nx_ge bt n s5
    refine lGood ((pThen_y e1).trans (pThen_y eC)) (fz_then F1 f18 (by decide)) (x8.trans (x6.trans x5)) k8 (pCx_of (qC_ucase X1.1 f18 (fun i hi => (e7 i).trans (o5 i hi)) ((e7 _).trans m5_0) ((e7 _).trans m5_1) ((e7 _).trans m5_2) ((e7 _).trans m5) ((fz_rd f8 rfl).trans rd_nS) ?_) (tdC_fz X1.2.1 f18 rfl rfl) (onC_fz X1.2.2.1 f18 rfl) (pCr_fz (pCx_r X1) f18 (by decide) (by omega)))
    rw [fz_rd f8 rfl, rd_nSj (by decide)]
    exact t6
  have t5' : wI w5 3 12 = nI (gTro g (gCa g)) := (fz_rd g5 rfl).trans (qC_tro X1.1)
  have go : (isW bt n s5 10 ∨ isW bt n s5 12) → hP (f33_2_j98 w5) (lPost bt n (pThen (moR bt n (gCa g) 10 s) fun _ s1 => pThen (caR bt n g s1) fun g' s2 => .inr ((g', tD, tG, on, r), s2)) w) := by
    intro hW
    unfold f33_2_j98
    rw [hP_B]
    refine c_isWd (c := 10) (k := 1000010) (by decide) rfl k5 (fun hy => ?_) (fun hno => ?_)
    · have hp : 2 ^ gCa g ≤ 2 ^ 9 := Nat.pow_le_pow_right (by decide) (by omega)
      have hl := gTro_lt g (gCa g)
      rw [if_neg (by decide), hP_let, t5', c5', q_sh1 (by omega), q_or hl]
      refine fin 1 _ hW (if_pos hy) (fz_nS fz_refl rfl) rfl rfl ?_
      rw [rd_nS, if_pos rfl]
    · rw [if_pos (show nI 0 = 0 from rfl)]
      refine fin 0 w5 hW (if_neg hno) fz_refl rfl rfl ?_
      rw [if_neg (by decide)]
      exact t5'
  rw [hP_B]
  refine c_isWd (c := 10) (k := 1000010) (by decide) rfl k5 (fun hy => ?_) (fun hno => ?_)
  · rw [if_neg (by decide)]
    exact go (.inl hy)
  · rw [if_pos (show nI 0 = 0 from rfl), hP_B]
    refine c_isWd (c := 12) (k := 1000012) (by decide) rfl k5 (fun hy2 => ?_) (fun hno2 => ?_)
    · rw [if_neg (by decide)]
      exact go (.inr hy2)
    · rw [if_neg (fun h => by rcases h with h | h; exact hno h; exact hno2 h)] at eC
      rw [if_pos (show nI 0 = 0 from rfl), hP_B]
      refine c_fail _ k5 ?_
      rw [hP_gd, hP_some]
      exact ⟨by decide, lBad ((pThen_y e1).trans (pThen_n eC)) (fz_nS (fz_nS (fz_then F1 g5 (by decide)) rfl) rfl) x5 ((rd_nSj (by decide)).trans rd_nS) rd_nS⟩
end CTX
