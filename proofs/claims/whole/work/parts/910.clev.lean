/-! ===== EXPRESSIONS: the class, level by level ===== -/
/-- the kinds of rules: (kind, first value, last value) -/
def rKi (rk lo hi : Nat) : Prop := (rk = 1 ∧ lo = 0 ∧ hi = 4) ∨ (rk = 2 ∧ lo = 1 ∧ hi = 5) ∨ (rk = 4 ∧ lo = 6 ∧ hi = 9)
theorem rKi_v {rk lo hi c : Nat} (h : rKi rk lo hi) (hc : c < 25) : ((oRulV (1000000 + c) &&& nI rk) = 0 ↔ ¬ (lo ≤ rfI.getD c 0 ∧ rfI.getD c 0 ≤ hi)) ∧ ((lo ≤ rfI.getD c 0 ∧ rfI.getD c 0 ≤ hi) → (-20) - oValV (1000000 + c) = cO (2, rfI.getD c 0) ∧ rfI.getD c 0 ≤ 9) := by
  have t1 : ∀ c : Fin 25, ((oRulV (1000000 + c.1) &&& nI 1) = 0 ↔ ¬ (0 ≤ rfI.getD c.1 0 ∧ rfI.getD c.1 0 ≤ 4)) ∧ ((0 ≤ rfI.getD c.1 0 ∧ rfI.getD c.1 0 ≤ 4) → (-20) - oValV (1000000 + c.1) = cO (2, rfI.getD c.1 0) ∧ rfI.getD c.1 0 ≤ 9) := by decide +kernel
  have t2 : ∀ c : Fin 25, ((oRulV (1000000 + c.1) &&& nI 2) = 0 ↔ ¬ (1 ≤ rfI.getD c.1 0 ∧ rfI.getD c.1 0 ≤ 5)) ∧ ((1 ≤ rfI.getD c.1 0 ∧ rfI.getD c.1 0 ≤ 5) → (-20) - oValV (1000000 + c.1) = cO (2, rfI.getD c.1 0) ∧ rfI.getD c.1 0 ≤ 9) := by decide +kernel
  have t3 : ∀ c : Fin 25, ((oRulV (1000000 + c.1) &&& nI 4) = 0 ↔ ¬ (6 ≤ rfI.getD c.1 0 ∧ rfI.getD c.1 0 ≤ 9)) ∧ ((6 ≤ rfI.getD c.1 0 ∧ rfI.getD c.1 0 ≤ 9) → (-20) - oValV (1000000 + c.1) = cO (2, rfI.getD c.1 0) ∧ rfI.getD c.1 0 ≤ 9) := by decide +kernel
  rcases h with ⟨rfl, rfl, rfl⟩ | ⟨rfl, rfl, rfl⟩ | ⟨rfl, rfl, rfl⟩
  · exact t1 ⟨c, hc⟩
  · exact t2 ⟨c, hc⟩
  · exact t3 ⟨c, hc⟩
section CLEV
variable {bt : Nat → Nat} {n : Nat}
variable (bt n)
def xPost (r : eR) (L : List gO) (w : mW) (v : Int32) (w' : mW) : Prop := fz pX w w' ∧ nTx w' = nTx w ∧ (match r with
  | .inl f => v = nI 0 ∧ wI w' 2 2 = nI f.1 ∧ wI w' 2 3 = nI f.2
  | .inr x => v = nI 1 ∧ tkC bt n x.2 w' ∧ kC (L ++ x.1) w')
def xC (rk : Nat) (f : mW → Option (Int32 × mW)) (e : Nat → eR) : Prop := ∀ s L w, tkC bt n s w → kC L w → wI w 2 8 = nI rk → L.length ≤ s → hP (f w) (xPost bt n (e s) L w)
variable {bt n}
theorem xBad {s k : Nat} {L : List gO} {w w1 : mW} (hf : fz pX w w1) (hx : nTx w1 = nTx w) : xPost bt n (.inl (k, s)) L w (nI 0) (nS (nS w1 2 2 (nI k)) 2 3 (nI s)) :=
  ⟨fz_nS (fz_nS hf rfl) rfl, hx, rfl, (rd_nSj (by decide)).trans rd_nS, rd_nS⟩
/-- first one thing, then another -/
theorem xThen {r : eR} {k : List gO → Nat → eR} {L : List gO} {w w' : mW} {v : Int32} {g : Int32 → mW → Option (Int32 × mW)} (h : xPost bt n r L w v w')
    (hb : v = nI 0 → g v w' = some (0, w'))
    (hg : ∀ l s', r = .inr (l, s') → v = nI 1 → tkC bt n s' w' → kC (L ++ l) w' → fz pX w w' → nTx w' = nTx w → hP (g v w') (xPost bt n (k l s') L w)) : hP (g v w') (xPost bt n (eThen r k) L w) := by
  obtain ⟨h1, h2, h3⟩ := h
  cases r with
  | inl f =>
    rw [hb h3.1, hP_some]
    exact ⟨h1, h2, rfl, h3.2⟩
  | inr x => exact hg x.1 x.2 rfl h3.1 h3.2.1 h3.2.2 h1 h2
theorem xPost_mono {r : eR} {L : List gO} {w w1 w' : mW} {v : Int32} (hf : fz pX w w1) (hx : nTx w1 = nTx w) (h : xPost bt n r L w1 v w') : xPost bt n r L w v w' :=
  ⟨fz_then hf h.1 (by decide), h.2.1.trans hx, h.2.2⟩
/-- the same with more code before it -/
theorem xPost_app {r : eR} {L l : List gO} {w w' : mW} {v : Int32} (h : xPost bt n r (L ++ l) w v w') : xPost bt n (eThen r fun l2 s2 => .inr (l ++ l2, s2)) L w v w' := by
  obtain ⟨h1, h2, h3⟩ := h
  refine ⟨h1, h2, ?_⟩
  cases r with
  | inl f => exact h3
  | inr x => exact ⟨h3.1, h3.2.1, by
    have := h3.2.2
    rw [List.append_assoc] at this
    exact this⟩
theorem c_part {rk lo hi wi : Nat} {rcE : Int32 → mW → Option (Int32 × mW)} {sub : Nat → eR} (hr : rKi rk lo hi) (hsub : xC bt n rk (rcE (nI (wi + 1))) sub) : xC bt n rk (f41_2c rcE (nI wi)) (ePart bt n lo hi sub) := by
  intro s L w hk hL hrk hLs
  have hn := hk.1.2.2.1
  have hsn := hk.2.1
  have hK := tK_le bt n s
  unfold f41_2c ePart
  rw [hk.2.2.2.2.1]
  by_cases c1 : tK bt n s = 2
  · rw [if_pos (by rw [c1]; rfl), if_pos c1, hP_B]
    have hlt := nx_of (bt := bt) (s := s) (by rw [c1]; decide) hsn
    refine c_passN (a := 0) (b := 9999) (by decide) (by decide) hk (fun _ hn => ?_) (fun v _ hn => ?_) (fun h => absurd c1 h)
    · intro w' f' x' k' hv
      rw [if_neg (by decide), if_pos hn.1, hP_B, hv]
      have hL' : kC L w' := kC_fz hL f' rfl (fun _ => rfl) rfl
      refine c_put (o := (1, dv bt s (tE bt n s - s))) hL' (by omega) (.inl ⟨rfl, tV_lt c1 hsn hn.1⟩) (fun w2 f2 k2 => ?_)
      rw [hP_some]
      have ff : fz pX w w2 := fz_fr (fz_up f' (by decide)) (fr_up f2 (by decide))
      refine ⟨ff, ?_, rfl, ?_, k2⟩
      · have : nTx w2 = nTx w' := by unfold nTx; rw [f2.2.2]
        exact this.trans x'
      · exact tkC_fz k' (fz_fr fz_refl f2) (by unfold nTx; rw [f2.2.2]) (by unfold nWd; rw [f2.2.2]) (fun j h1 h2 => by
          have : j = 1 ∨ j = 2 ∨ j = 3 ∨ j = 4 ∨ j = 5 ∨ j = 6 ∨ j = 7 := by omega
          rcases this with rfl | rfl | rfl | rfl | rfl | rfl | rfl <;> rfl) (fun _ => rfl)
    · have h4 : ¬ tE bt n s - s ≤ 4 := fun h4 => hn ⟨h4, Nat.zero_le _, tV_lt c1 hsn h4⟩
      rw [if_pos (show nI 0 = 0 from rfl), hP_some, if_neg h4]
      exact xBad (fz_nS fz_refl rfl) rfl
  · rw [if_neg (by rw [q_lit, q_eq (by omega) (by omega)]; exact c1), if_neg c1]
    by_cases c2 : tK bt n s = 1
    · have hlt := nx_of (bt := bt) (s := s) (by rw [c2]; decide) hsn
      rw [if_pos (by rw [c2]; rfl), if_pos c2, hP_opt, hk.2.2.2.2.2.1]
      have bad : hP (nB (f17_2 3 w) fun v1 w2 => (nGd (nB01 v1) (some (v1, w2)))) (xPost bt n (.inl (3, s)) L w) := by
        rw [hP_B]
        refine c_fail _ hk ?_
        rw [hP_gd, hP_some]
        exact ⟨by decide, xBad fz_refl rfl⟩
      cases e : tW bt n s with
      | none => exact bad
      | some c =>
        have hc := (tW_lt e).2.1
        obtain ⟨v1, v2⟩ := rKi_v hr hc
        show hP (nGd (oEn (1000000 + c)) _) _
        rw [hP_gd]
        refine ⟨?_, ?_⟩
        · have : ∀ k : Fin 25, oEn (1000000 + k.1) = true := by decide +kernel
          exact this ⟨c, hc⟩
        · rw [hrk]
          dsimp only
          by_cases c3 : lo ≤ rfI.getD c 0 ∧ rfI.getD c 0 ≤ hi
          · rw [if_neg (fun h => (v1.1 h) c3), if_pos c3, hP_B, (v2 c3).1]
            refine c_put (o := (2, rfI.getD c 0)) hL (by omega) (.inr (.inl ⟨rfl, (v2 c3).2⟩)) (fun w2 f2 k2 => ?_)
            have hk2 : tkC bt n s w2 := tkC_fz hk (fz_fr fz_refl f2) (by unfold nTx; rw [f2.2.2]) (by unfold nWd; rw [f2.2.2]) (fun j h1 h2 => by
              have : j = 1 ∨ j = 2 ∨ j = 3 ∨ j = 4 ∨ j = 5 ∨ j = 6 ∨ j = 7 := by omega
              rcases this with rfl | rfl | rfl | rfl | rfl | rfl | rfl <;> rfl) (fun _ => rfl)
            rw [hP_B]
            refine c_on hk2 (fun w3 f3 x3 k3 => ?_)
            rw [hP_some]
            exact ⟨fz_then (fz_fr fz_refl (fr_up f2 (by decide))) f3 (by decide), x3.trans (by unfold nTx; rw [f2.2.2]), rfl, k3, kC_fz k2 f3 rfl (fun _ => rfl) rfl⟩
          · rw [if_pos (v1.2 c3), if_neg c3]
            exact bad
    · rw [if_neg (by rw [q_lit, q_eq (by omega) (by omega)]; exact c2), if_neg c2, hP_B]
      refine c_pass (b := 40) (by decide) hk (fun hy w' f' x' k' => ?_) (fun hno => ?_)
      · have hlt := nx_of (isS_K hy) hsn
        have hgt := nx_gt bt n hlt
        have e1 : nI wi + 1 = nI (wi + 1) := by rw [← nI_add]; rfl
        rw [if_neg (by decide), if_pos hy, hP_B, e1]
        have f1 : fz pX w w' := fz_up f' (by decide)
        refine hP_mono (hsub (nx bt n s) L w' k' (kC_fz hL f' rfl (fun _ => rfl) rfl) ((fz_rd f' rfl).trans hrk) (by omega)) (fun v w2 hp => ?_)
        refine xThen (g := fun v13 w14 => (if v13 = 0 then (some ((0 : Int32), w14)) else (nB (f18_2 41 w14) fun v15 w16 => (if v15 = 0 then (some (0, w16)) else (some (1, w16)))))) (xPost_mono f1 x' hp) (fun hv => by rw [hv]; rfl) (fun l s' _ hv k2 kc2 f2 x2 => ?_)
        rw [hv, if_neg (by decide), hP_B]
        refine c_pass (b := 41) (by decide) k2 (fun hy2 w3 f3 x3 k3 => ?_) (fun hno2 => ?_)
        · rw [if_neg (by decide), hP_some, if_pos hy2]
          exact ⟨fz_then f2 f3 (by decide), x3.trans x2, rfl, k3, kC_fz kc2 f3 rfl (fun _ => rfl) rfl⟩
        · rw [if_pos (show nI 0 = 0 from rfl), hP_some, if_neg hno2]
          exact xBad f2 x2
      · rw [if_pos (show nI 0 = 0 from rfl), hP_some, if_neg hno]
        exact xBad fz_refl rfl
/-- one more and one more, whatever the sign -/
theorem c_binG {rk lo hi h : Nat} {F FF : mW → Option (Int32 × mW)} {sub : Nat → eR} {op : Nat → Option Nat} {b : (Int32 × mW → Option (Int32 × mW)) → Int32 × mW → Option (Int32 × mW)}
    (hF : ∀ w, FF w = nB (F w) fun v1 w2 => (if v1 = 0 then (some (0, w2)) else (mLoop b nF (0, w2))))
    (hsub : xC bt n rk F sub) (hok : eOk n lo hi h sub)
    (hop : ∀ s a, op s = some a → 4 ≤ a ∧ a ≤ 11 ∧ tK bt n s ≠ 0)
    (hb : ∀ i s w rec (Q : Int32 → mW → Prop), i ≤ 700 → tkC bt n s w → (op s = none ∨ i = 700 → Q (nI 1) w) → (∀ a, i < 700 → op s = some a → hP (nB (f70_21 w) fun _ w2 => (nB (F w2) fun v3 w4 => (if v3 = 0 then (some (0, w4)) else (nB (f65_8 (cO (a, 0)) w4) fun _ w6 => (rec ((nI i + 1), w6)))))) Q) → hP (b rec (nI i, w)) Q) :
    xC bt n rk FF (eBin bt n op sub) := by
  intro s L w hk hL hrk hLs
  have hsn := hk.2.1
  have hn := hk.1.2.2.1
  rw [hF, hP_B]
  refine hP_mono (hsub s L w hk hL hrk hLs) (fun v w1 hp => ?_)
  refine xThen (g := fun v1 w2 => (if v1 = 0 then (some (0, w2)) else (mLoop b nF (0, w2)))) hp (fun hv => by rw [hv]; rfl) (fun l s1 he hv k1 kc1 f1 x1 => ?_)
  rw [hv, if_neg (by decide)]
  have o1 := hok s l s1 hsn he
  refine hP_loopF (fun m st => ∃ i l2 s2 w2, i + m = 700 ∧ st = (nI i, w2) ∧ tkC bt n s2 w2 ∧ kC (L ++ l2) w2 ∧ fz pX w w2 ∧ nTx w2 = nTx w ∧ L.length + l2.length ≤ s2 ∧ eLp bt n op sub (700 - i) l2 s2 = eLp bt n op sub 700 l s1) 700 (by decide) ⟨0, l, s1, w1, rfl, rfl, k1, kc1, f1, x1, by omega, rfl⟩ ?_
  rintro m st rec ⟨i, l2, s2, w2, him, rfl, k2, kc2, f2, x2, hl2, he2⟩ ih
  rw [← he2]
  refine hb i s2 w2 rec _ (by omega) k2 (fun hc => ?_) (fun a hi ho => ?_)
  · have : eLp bt n op sub (700 - i) l2 s2 = .inr (l2, s2) := by
      cases hk : 700 - i with
      | zero => rfl
      | succ k =>
        rcases hc with hc | hc
        · unfold eLp; rw [hc]
        · omega
    rw [this]
    exact ⟨f2, x2, rfl, k2, kc2⟩
  · have hs2 := k2.2.1
    obtain ⟨a1, a2, a3⟩ := hop s2 a ho
    have hlt := nx_of a3 hs2
    have hgt := nx_gt bt n hlt
    have eL : eLp bt n op sub (700 - i) l2 s2 = eThen (sub (nx bt n s2)) fun l3 s3 => eLp bt n op sub (700 - (i + 1)) (l2 ++ l3 ++ [(a, 0)]) s3 := by
      rw [show 700 - i = (700 - (i + 1)) + 1 by omega]
      conv => lhs; unfold eLp
      rw [ho]
    rw [eL, hP_B]
    refine c_on k2 (fun w3 f3 x3 k3 => ?_)
    have f13 : fz pX w w3 := fz_then f2 f3 (by decide)
    have kc3 : kC (L ++ l2) w3 := kC_fz kc2 f3 rfl (fun _ => rfl) rfl
    have x13 : nTx w3 = nTx w := x3.trans x2
    rw [hP_B]
    refine hP_mono (hsub (nx bt n s2) (L ++ l2) w3 k3 kc3 ((fz_rd f13 rfl).trans hrk) (by rw [List.length_append]; omega)) (fun v4 w4 hp4 => ?_)
    obtain ⟨h1, h2, h3⟩ := hp4
    have f14 : fz pX w w4 := fz_then f13 h1 (by decide)
    have x14 : nTx w4 = nTx w := h2.trans x13
    cases hs : sub (nx bt n s2) with
    | inl f =>
      rw [hs] at h3
      rw [h3.1, if_pos (show nI 0 = 0 from rfl), hP_some]
      exact ⟨f14, x14, rfl, h3.2⟩
    | inr x =>
      rw [hs] at h3
      obtain ⟨l3, s3⟩ := x
      obtain ⟨b1, b2, b3, b4⟩ := hok _ l3 s3 (nx_le bt n hs2) hs
      have b3' : s3 ≤ n := b3
      rw [h3.1, if_neg (by decide), hP_B]
      refine c_put (o := (a, 0)) h3.2.2 (by rw [List.length_append, List.length_append]; show L.length + l2.length + l3.length < 700; omega) (.inr (.inr ⟨by show 3 ≤ a; omega, a2⟩)) (fun w5 f5 k5 => ?_)
      have ei : nI i + 1 = nI (i + 1) := by rw [← nI_add]; rfl
      rw [ei]
      have t5 : nTx w5 = nTx w4 := by unfold nTx; rw [f5.2.2]
      have d5 : nWd w5 = nWd w4 := by unfold nWd; rw [f5.2.2]
      have := ih (m - 1) (nI (i + 1), w5) (by omega) ⟨i + 1, l2 ++ l3 ++ [(a, 0)], s3, w5, by omega, rfl, ?_, ?_, fz_fr f14 (fr_up f5 (by decide)), t5.trans x14, ?_, ?_⟩
      · show hP (rec (nI (i + 1), w5)) (xPost bt n (eLp bt n op sub (700 - (i + 1)) (l2 ++ l3 ++ [(a, 0)]) s3) L w)
        have e9 : eLp bt n op sub (700 - (i + 1)) (l2 ++ l3 ++ [(a, 0)]) s3 = eLp bt n op sub 700 l s1 := by
          rw [← he2, eL, hs]
          rfl
        rw [e9]
        exact this
      · exact tkC_fz h3.2.1 (fz_fr fz_refl f5) t5 d5 (fun j h1 h2 => by
          have : j = 1 ∨ j = 2 ∨ j = 3 ∨ j = 4 ∨ j = 5 ∨ j = 6 ∨ j = 7 := by omega
          rcases this with rfl | rfl | rfl | rfl | rfl | rfl | rfl <;> rfl) (fun _ => rfl)
      · simp only [List.append_assoc] at k5 ⊢
        exact k5
      · rw [List.length_append, List.length_append]
        show L.length + (l2.length + l3.length + 1) ≤ s3
        omega
      · rw [← he2, eL, hs]
        rfl
end CLEV
