/-! ===== EXPRESSIONS: the class, all levels ===== -/
section CALL
variable {bt : Nat → Nat} {n : Nat}
theorem c_prod {rk lo hi h wi : Nat} {rcE : Int32 → mW → Option (Int32 × mW)} {sub : Nat → eR} (hsub : xC bt n rk (f41_2c rcE (nI wi)) sub) (hok : eOk n lo hi h sub) : xC bt n rk (f40_2c rcE (nI wi)) (eBin bt n (opPr bt n) sub) := by
  refine c_binG (fun w => rfl) hsub hok (fun s a ho => by rcases opPr_K ho with x | x <;> exact ⟨by omega, by omega, isS_K x.2⟩) (fun i s w rec Q hi hk h1 h2 => ?_)
  simp only [f40_2c_b12]
  by_cases ci : i < 700
  · rw [if_pos (by rw [q_lit, q_lt (by omega) (by omega)]; exact ci), hP_B]
    refine c_isS (b := 42) (by decide) hk (fun hy => ?_) (fun hno => ?_)
    · rw [if_neg (by decide), hP_B]
      refine c_isS (b := 42) (by decide) hk (fun _ => ?_) (fun hn => absurd hy hn)
      rw [if_neg (by decide)]
      have := h2 10 ci (by unfold opPr; rw [if_pos hy])
      exact this
    · rw [if_pos (show nI 0 = 0 from rfl), hP_B]
      refine c_isS (b := 47) (by decide) hk (fun hy => ?_) (fun hno2 => ?_)
      · rw [if_neg (by decide), hP_B]
        refine c_isS (b := 42) (by decide) hk (fun hn => absurd hn hno) (fun _ => ?_)
        rw [if_pos (show nI 0 = 0 from rfl)]
        have := h2 11 ci (by unfold opPr; rw [if_neg hno, if_pos hy])
        exact this
      · rw [if_pos (show nI 0 = 0 from rfl), hP_some]
        exact h1 (.inl (by unfold opPr; rw [if_neg hno, if_neg hno2]))
  · rw [if_neg (by rw [q_lit, q_lt (by omega) (by omega)]; exact ci), hP_some]
    exact h1 (.inr (by omega))
theorem c_sum9 {rk lo hi h wi : Nat} {rcE : Int32 → mW → Option (Int32 × mW)} {sub : Nat → eR} (hsub : xC bt n rk (f40_2c rcE (nI wi)) sub) (hok : eOk n lo hi h sub) : xC bt n rk (f39_2c rcE (nI wi)) (eBin bt n (opSu bt n) sub) := by
  refine c_binG (fun w => rfl) hsub hok (fun s a ho => by rcases opSu_K ho with x | x <;> exact ⟨by omega, by omega, isS_K x.2⟩) (fun i s w rec Q hi hk h1 h2 => ?_)
  simp only [f39_2c_b12]
  by_cases ci : i < 700
  · rw [if_pos (by rw [q_lit, q_lt (by omega) (by omega)]; exact ci), hP_B]
    refine c_isS (b := 43) (by decide) hk (fun hy => ?_) (fun hno => ?_)
    · rw [if_neg (by decide), hP_B]
      refine c_isS (b := 43) (by decide) hk (fun _ => ?_) (fun hn => absurd hy hn)
      rw [if_neg (by decide)]
      have := h2 8 ci (by unfold opSu; rw [if_pos hy])
      exact this
    · rw [if_pos (show nI 0 = 0 from rfl), hP_B]
      refine c_isS (b := 45) (by decide) hk (fun hy => ?_) (fun hno2 => ?_)
      · rw [if_neg (by decide), hP_B]
        refine c_isS (b := 43) (by decide) hk (fun hn => absurd hn hno) (fun _ => ?_)
        rw [if_pos (show nI 0 = 0 from rfl)]
        have := h2 9 ci (by unfold opSu; rw [if_neg hno, if_pos hy])
        exact this
      · rw [if_pos (show nI 0 = 0 from rfl), hP_some]
        exact h1 (.inl (by unfold opSu; rw [if_neg hno, if_neg hno2]))
  · rw [if_neg (by rw [q_lit, q_lt (by omega) (by omega)]; exact ci), hP_some]
    exact h1 (.inr (by omega))
theorem c_test {rk lo hi h wi : Nat} {rcE : Int32 → mW → Option (Int32 × mW)} {sub : Nat → eR} (hsub : xC bt n rk (f39_2c rcE (nI wi)) sub) (hok : eOk n lo hi h sub) : xC bt n rk (f38_2c rcE (nI wi)) (eTest bt n sub) := by
  intro s L w hk hL hrk hLs
  have hsn := hk.2.1
  have hn := hk.1.2.2.1
  unfold f38_2c
  rw [hP_B]
  refine hP_mono (hsub s L w hk hL hrk hLs) (fun v w1 hp => ?_)
  refine xThen (g := fun v1 w2 => (if v1 = 0 then (some ((0 : Int32), w2)) else (nB (f74_21 60 w2) fun v3 w4 => (if v3 = 0 then (nB (f74_21 61 w4) fun v7 w8 => (if v7 = 0 then (some (1, w8)) else (nB (f74_21 60 w8) fun v9 w10 => (if v9 = 0 then (f38_2c_j55 (nI wi) (-5) rcE w10) else (f38_2c_j55 (nI wi) (-4) rcE w10))))) else (nB (f74_21 60 w4) fun v5 w6 => (if v5 = 0 then (f38_2c_j55 (nI wi) (-5) rcE w6) else (f38_2c_j55 (nI wi) (-4) rcE w6))))))) hp (fun hv => by rw [hv]; rfl) (fun l s1 he hv k1 kc1 f1 x1 => ?_)
  have o1 := hok s l s1 hsn he
  have hs1 := k1.2.1
  rw [hv, if_neg (by decide), hP_B]
  have go : ∀ a, opTe bt n s1 = some a → hP (f38_2c_j55 (nI wi) (cO (a, 0)) rcE w1) (xPost bt n (match opTe bt n s1 with | none => .inr (l, s1) | some a => eThen (sub (nx bt n s1)) fun l2 s2 => .inr (l ++ l2 ++ [(a, 0)], s2)) L w) := by
    intro a ho
    rw [ho]
    have hK : tK bt n s1 ≠ 0 := by rcases opTe_K ho with h | h <;> exact isS_K h.2
    have ha : 4 ≤ a ∧ a ≤ 11 := by rcases opTe_K ho with h | h <;> omega
    have hlt := nx_of hK hs1
    have hgt := nx_gt bt n hlt
    unfold f38_2c_j55
    rw [hP_B]
    refine c_on k1 (fun w3 f3 x3 k3 => ?_)
    have f13 : fz pX w w3 := fz_then f1 f3 (by decide)
    have kc3 : kC (L ++ l) w3 := kC_fz kc1 f3 rfl (fun _ => rfl) rfl
    have x13 : nTx w3 = nTx w := x3.trans x1
    rw [hP_B]
    refine hP_mono (hsub (nx bt n s1) (L ++ l) w3 k3 kc3 ((fz_rd f13 rfl).trans hrk) (by rw [List.length_append]; omega)) (fun v4 w4 hp4 => ?_)
    obtain ⟨h1, h2, h3⟩ := hp4
    have f14 : fz pX w w4 := fz_then f13 h1 (by decide)
    have x14 : nTx w4 = nTx w := h2.trans x13
    cases hs : sub (nx bt n s1) with
    | inl f =>
      rw [hs] at h3
      rw [h3.1, if_pos (show nI 0 = 0 from rfl), hP_some]
      exact ⟨f14, x14, rfl, h3.2⟩
    | inr x =>
      rw [hs] at h3
      obtain ⟨l3, s3⟩ := x
      obtain ⟨b1, b2, b3, b4⟩ := hok _ l3 s3 (nx_le bt n hs1) hs
      rw [h3.1, if_neg (by decide), hP_B]
      refine c_put (o := (a, 0)) h3.2.2 (by rw [List.length_append, List.length_append]; show L.length + l.length + l3.length < 700; omega) (.inr (.inr ⟨by show 3 ≤ a; omega, ha.2⟩)) (fun w5 f5 k5 => ?_)
      have t5 : nTx w5 = nTx w4 := by unfold nTx; rw [f5.2.2]
      have d5 : nWd w5 = nWd w4 := by unfold nWd; rw [f5.2.2]
      rw [hP_some]
      refine ⟨fz_fr f14 (fr_up f5 (by decide)), t5.trans x14, rfl, ?_, ?_⟩
      · exact tkC_fz h3.2.1 (fz_fr fz_refl f5) t5 d5 (fun j h1 h2 => by
          have : j = 1 ∨ j = 2 ∨ j = 3 ∨ j = 4 ∨ j = 5 ∨ j = 6 ∨ j = 7 := by omega
          rcases this with rfl | rfl | rfl | rfl | rfl | rfl | rfl <;> rfl) (fun _ => rfl)
      · show kC (L ++ (l ++ l3 ++ [(a, 0)])) w5
        have k5' : kC (L ++ l ++ l3 ++ [(a, 0)]) w5 := k5
        simp only [List.append_assoc] at k5' ⊢
        exact k5'
  refine c_isS (b := 60) (by decide) k1 (fun hy => ?_) (fun hno => ?_)
  · rw [if_neg (by decide), hP_B]
    refine c_isS (b := 60) (by decide) k1 (fun _ => ?_) (fun hn => absurd hy hn)
    rw [if_neg (by decide)]
    exact go 6 (by unfold opTe; rw [if_pos hy])
  · rw [if_pos (show nI 0 = 0 from rfl), hP_B]
    refine c_isS (b := 61) (by decide) k1 (fun hy => ?_) (fun hno2 => ?_)
    · rw [if_neg (by decide), hP_B]
      refine c_isS (b := 60) (by decide) k1 (fun hn => absurd hn hno) (fun _ => ?_)
      rw [if_pos (show nI 0 = 0 from rfl)]
      exact go 7 (by unfold opTe; rw [if_neg hno, if_pos hy])
    · have e0 : opTe bt n s1 = none := by unfold opTe; rw [if_neg hno, if_neg hno2]
      rw [if_pos (show nI 0 = 0 from rfl), hP_some, e0]
      exact ⟨f1, x1, rfl, k1, kc1⟩
theorem c_not {rk lo hi h wi : Nat} {rcE : Int32 → mW → Option (Int32 × mW)} {sub : Nat → eR} (hsub : xC bt n rk (f38_2c rcE (nI wi)) sub) (hok : eOk n lo hi h sub) : xC bt n rk (f37_2c rcE (nI wi)) (fun s => eNs bt n sub 6 0 s) := by
  intro s L w hk hL hrk hLs
  have hsn := hk.2.1
  have hn := hk.1.2.2.1
  -- all the nots are read
  have fin : ∀ c s1 w1, tkC bt n s1 w1 → kC L w1 → fz pX w w1 → nTx w1 = nTx w → L.length + c ≤ s1 → c ≤ 6 → hP (nB (f38_2c rcE (nI wi) w1) fun v1 w2 => (if v1 = 0 then (some (0, w2)) else (mLoop (f37_2c_b71 (nI c) rcE) nF (0, w2)))) (xPost bt n (eNo c (sub s1)) L w) := by
    intro c s1 w1 k1 kc1 f1 x1 hl1 hc6
    rw [hP_B]
    refine hP_mono (hsub s1 L w1 k1 kc1 ((fz_rd f1 rfl).trans hrk) (by omega)) (fun v w2 hp => ?_)
    refine xThen (g := fun v1 w2 => (if v1 = 0 then (some ((0 : Int32), w2)) else (mLoop (f37_2c_b71 (nI c) rcE) nF (0, w2)))) (xPost_mono f1 x1 hp) (fun hv => by rw [hv]; rfl) (fun l s2 he hv k2 kc2 f2 x2 => ?_)
    obtain ⟨o1, o2, o3, o4⟩ := hok s1 l s2 k1.2.1 he
    rw [hv, if_neg (by decide)]
    refine hP_loopF (fun m st => ∃ i w3, i + m = c ∧ st = (nI i, w3) ∧ tkC bt n s2 w3 ∧ kC (L ++ (l ++ List.replicate i (3, 0))) w3 ∧ fz pX w w3 ∧ nTx w3 = nTx w) c (by omega) ⟨0, w2, by omega, rfl, k2, by rw [show List.replicate 0 ((3, 0) : gO) = [] from rfl, List.append_nil]; exact kc2, f2, x2⟩ ?_
    rintro m st rec ⟨i, w3, him, rfl, k3, kc3, f3, x3⟩ ih
    simp only [f37_2c_b71]
    by_cases ci : i < c
    · rw [if_pos (by rw [q_lt (by omega) (by omega)]; exact ci), hP_B]
      refine c_put (o := (3, 0)) kc3 (by rw [List.length_append, List.length_append, List.length_replicate]; omega) (.inr (.inr ⟨by decide, by decide⟩)) (fun w5 f5 k5 => ?_)
      have t5 : nTx w5 = nTx w3 := by unfold nTx; rw [f5.2.2]
      have d5 : nWd w5 = nWd w3 := by unfold nWd; rw [f5.2.2]
      have ei : nI i + 1 = nI (i + 1) := by rw [← nI_add]; rfl
      rw [ei]
      refine ih (m - 1) _ (by omega) ⟨i + 1, w5, by omega, rfl, ?_, ?_, fz_fr f3 (fr_up f5 (by decide)), t5.trans x3⟩
      · exact tkC_fz k3 (fz_fr fz_refl f5) t5 d5 (fun j h1 h2 => by
          have : j = 1 ∨ j = 2 ∨ j = 3 ∨ j = 4 ∨ j = 5 ∨ j = 6 ∨ j = 7 := by omega
          rcases this with rfl | rfl | rfl | rfl | rfl | rfl | rfl <;> rfl) (fun _ => rfl)
      · rw [List.replicate_succ']
        simp only [List.append_assoc] at k5 ⊢
        exact k5
    · have e : i = c := by omega
      rw [if_neg (by rw [q_lt (by omega) (by omega)]; exact ci), hP_some]
      subst e
      exact ⟨f3, x3, rfl, k3, kc3⟩
  unfold f37_2c
  refine hP_loopF (fun m st => ∃ c s1 w1, c + m = 6 ∧ st = (nI c, w1) ∧ tkC bt n s1 w1 ∧ kC L w1 ∧ fz pX w w1 ∧ nTx w1 = nTx w ∧ L.length + c ≤ s1 ∧ eNs bt n sub (6 - c) c s1 = eNs bt n sub 6 0 s) 6 (by decide) ⟨0, s, w, rfl, rfl, hk, hL, fz_refl, rfl, by omega, rfl⟩ ?_
  rintro m st rec ⟨c, s1, w1, hcm, rfl, k1, kc1, f1, x1, hl1, he⟩ ih
  simp only [f37_2c_b2]
  rw [← he]
  by_cases c6 : c < 6
  · rw [if_pos (by rw [q_lit, q_lt (by omega) (by omega)]; exact c6), hP_B]
    have eU : eNs bt n sub (6 - c) c s1 = if isW bt n s1 15 then eNs bt n sub (6 - (c + 1)) (c + 1) (nx bt n s1) else eNo c (sub s1) := by
      rw [show 6 - c = (6 - (c + 1)) + 1 by omega]
      rfl
    rw [eU]
    refine c_isWd (c := 15) (k := 1000015) (by decide) rfl k1 (fun hy => ?_) (fun hno => ?_)
    · have hlt := nx_of (isW_K hy) k1.2.1
      have hgt := nx_gt bt n hlt
      rw [if_neg (by decide), hP_B]
      refine c_on k1 (fun w3 f3 x3 k3 => ?_)
      have ei : nI c + 1 = nI (c + 1) := by rw [← nI_add]; rfl
      rw [ei, if_pos hy]
      rw [eU, if_pos hy] at he
      rw [he]
      exact ih (m - 1) _ (by omega) ⟨c + 1, nx bt n s1, w3, by omega, rfl, k3, kC_fz kc1 f3 rfl (fun _ => rfl) rfl, fz_then f1 f3 (by decide), x3.trans x1, by omega, he⟩
    · rw [if_pos (show nI 0 = 0 from rfl), if_neg hno]
      unfold f37_2c_j34
      rw [if_neg (by rw [q_lit, q_eq (by omega) (by omega)]; omega)]
      exact fin c s1 w1 k1 kc1 f1 x1 hl1 (by omega)
  · have e : c = 6 := by omega
    subst e
    rw [if_neg (by decide)]
    unfold f37_2c_j34
    rw [if_pos (show nI 6 = 6 from rfl), hP_B]
    show hP _ _
    refine c_isWd (c := 15) (k := 1000015) (by decide) rfl k1 (fun hy => ?_) (fun hno => ?_)
    · have eU : eNs bt n sub (6 - 6) 6 s1 = .inl (2, s1) := by
        show (if isW bt n s1 15 then _ else _) = _
        rw [if_pos hy]
      rw [if_neg (by decide), hP_B, eU]
      refine c_fail _ k1 ?_
      rw [hP_gd, hP_some]
      exact ⟨by decide, xBad f1 x1⟩
    · have eU : eNs bt n sub (6 - 6) 6 s1 = eNo 6 (sub s1) := by
        show (if isW bt n s1 15 then _ else _) = _
        rw [if_neg hno]
      rw [if_pos (show nI 0 = 0 from rfl), eU]
      exact fin 6 s1 w1 k1 kc1 f1 x1 hl1 (by omega)
theorem c_and9 {rk lo hi h wi : Nat} {rcE : Int32 → mW → Option (Int32 × mW)} {sub : Nat → eR} (hsub : xC bt n rk (f37_2c rcE (nI wi)) sub) (hok : eOk n lo hi h sub) : xC bt n rk (f36_2c rcE (nI wi)) (eBin bt n (opAn bt n) sub) := by
  refine c_binG (F := f37_2c rcE (nI wi)) (b := f36_2c_b12 (nI wi) rcE) (fun w => rfl) hsub hok (fun s a ho => by have x := opAn_K ho; exact ⟨by omega, by omega, isW_K x.2⟩) (fun i s w rec Q hi hk h1 h2 => ?_)
  simp only [f36_2c_b12]
  by_cases ci : i < 700
  · rw [if_pos (by rw [q_lit, q_lt (by omega) (by omega)]; exact ci), hP_B]
    refine c_isWd (c := 14) (k := 1000014) (by decide) rfl hk (fun hy => ?_) (fun hno => ?_)
    · rw [if_neg (by decide)]
      exact h2 4 ci (by unfold opAn; rw [if_pos hy])
    · rw [if_pos (show nI 0 = 0 from rfl), hP_some]
      exact h1 (.inl (by unfold opAn; rw [if_neg hno]))
  · rw [if_neg (by rw [q_lit, q_lt (by omega) (by omega)]; exact ci), hP_some]
    exact h1 (.inr (by omega))
theorem c_or9 {rk lo hi h wi : Nat} {rcE : Int32 → mW → Option (Int32 × mW)} {sub : Nat → eR} (hsub : xC bt n rk (f36_2c rcE (nI wi)) sub) (hok : eOk n lo hi h sub) : xC bt n rk (fun w => nB (f36_2c rcE (nI wi) w) fun v1 w2 => (if v1 = 0 then (some (0, w2)) else (mLoop (f35_2c_b38 (nI wi) rcE) nF (0, w2)))) (eBin bt n (opOr bt n) sub) := by
  refine c_binG (F := f36_2c rcE (nI wi)) (b := f35_2c_b38 (nI wi) rcE) (fun w => rfl) hsub hok (fun s a ho => by have x := opOr_K ho; exact ⟨by omega, by omega, isW_K x.2⟩) (fun i s w rec Q hi hk h1 h2 => ?_)
  simp only [f35_2c_b38]
  by_cases ci : i < 700
  · rw [if_pos (by rw [q_lit, q_lt (by omega) (by omega)]; exact ci), hP_B]
    refine c_isWd (c := 13) (k := 1000013) (by decide) rfl hk (fun hy => ?_) (fun hno => ?_)
    · rw [if_neg (by decide)]
      exact h2 5 ci (by unfold opOr; rw [if_pos hy])
    · rw [if_pos (show nI 0 = 0 from rfl), hP_some]
      exact h1 (.inl (by unfold opOr; rw [if_neg hno]))
  · rw [if_neg (by rw [q_lit, q_lt (by omega) (by omega)]; exact ci), hP_some]
    exact h1 (.inr (by omega))
theorem c_mayB {Q : Int32 → mW → Prop} {s : Nat} {w : mW} (hk : tkC bt n s w) (h1 : mayB bt n s → Q (nI 1) w) (h0 : ¬ mayB bt n s → Q (nI 0) w) : hP (f75_21 w) Q := by
  have hK := tK_le bt n s
  unfold f75_21
  rw [hk.2.2.2.2.1]
  by_cases c1 : tK bt n s = 1
  · rw [if_pos (by rw [c1]; rfl), hP_some]; exact h1 (.inl c1)
  · rw [if_neg (by rw [q_lit, q_eq (by omega) (by omega)]; exact c1)]
    by_cases c2 : tK bt n s = 2
    · rw [if_pos (by rw [c2]; rfl), hP_some]; exact h1 (.inr (.inl c2))
    · rw [if_neg (by rw [q_lit, q_eq (by omega) (by omega)]; exact c2), hP_B]
      refine c_isS (b := 40) (by decide) hk (fun hy => ?_) (fun hno => ?_)
      · rw [if_neg (by decide), hP_some]; exact h1 (.inr (.inr hy))
      · rw [if_pos (show nI 0 = 0 from rfl), hP_some]
        exact h0 (fun h => by rcases h with h | h | h; exact c1 h; exact c2 h; exact hno h)
theorem c_expr {rk lo hi : Nat} (hr : rKi rk lo hi) : ∀ d wi, d + wi = 8 → wi ≤ 6 → xC bt n rk (f35_2N d (nI wi)) (eEx bt n lo hi d wi)
  | 0, wi, h8, hw => by omega
  | d + 1, wi, h8, hw => by
    intro s L w hk hL hrk hLs
    show hP (f35_2c (f35_2N d) (nI wi) w) _
    unfold f35_2c eEx
    by_cases c : wi < 6
    · rw [if_pos (by rw [q_lit, q_lt (by omega) (by omega)]; exact c), if_pos c]
      have q0 := eEx_ok (bt := bt) (n := n) (lo := lo) (hi := hi) d (wi + 1) (by omega)
      have e0 := ePart_ok (bt := bt) (by omega) q0
      have e1 := eBin_ok (bt := bt) (op := opPr bt n) e0 (fun s a ho => by rcases opPr_K ho with x | x <;> exact ⟨by omega, by omega, isS_K x.2⟩)
      have e2 := eBin_ok (bt := bt) (op := opSu bt n) e1 (fun s a ho => by rcases opSu_K ho with x | x <;> exact ⟨by omega, by omega, isS_K x.2⟩)
      have e3 := eNot_ok (bt := bt) (eTest_ok (bt := bt) e2)
      have e4 := eBin_ok (bt := bt) (op := opAn bt n) e3 (fun s a ho => by have x := opAn_K ho; exact ⟨by omega, by omega, isW_K x.2⟩)
      have p0 := c_part (rcE := f35_2N d) (wi := wi) hr (c_expr hr d (wi + 1) (by omega) (by omega))
      have p1 := c_prod p0 e0
      have p2 := c_sum9 p1 e1
      have p3 := c_not (c_test p2 e2) (eTest_ok (bt := bt) e2)
      have p4 := c_and9 p3 e3
      exact c_or9 p4 e4 s L w hk hL hrk hLs
    · rw [if_neg (by rw [q_lit, q_lt (by omega) (by omega)]; exact c), if_neg c, hP_B]
      refine c_mayB hk (fun hy => ?_) (fun hno => ?_)
      · rw [if_neg (by decide), hP_B, if_pos hy]
        refine c_fail _ hk ?_
        rw [hP_gd, hP_some]
        exact ⟨by decide, xBad fz_refl rfl⟩
      · rw [if_pos (show nI 0 = 0 from rfl), hP_B, if_neg hno]
        refine c_fail _ hk ?_
        rw [hP_gd, hP_some]
        exact ⟨by decide, xBad fz_refl rfl⟩
end CALL
