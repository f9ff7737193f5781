/-! ===== LINES: the class, its steps ===== -/
abbrev pTk : fP := ([], [(2, 2), (2, 3), (2, 9), (2, 10), (21, 2), (21, 3), (21, 4), (21, 6), (21, 7)])
abbrev pTn : fP := ([], [(2, 2), (2, 3), (2, 9), (21, 2), (21, 3), (21, 4), (21, 6), (21, 7)])
abbrev pPa : fP := ([2, 3, 4, 5, 6, 7, 8, 9, 10, 11, 12, 13, 14, 15, 16, 17, 18, 19, 20, 21], [])
def rcC (r : gR) (L : List gO) (w : mW) : Prop := ∀ i, i < 6 → match r i with
  | none => wI w 10 i = nI 0 ∧ wI w 11 i = nI 0
  | some l => ∃ a, wI w 10 i = nI a ∧ wI w 11 i = nI (a + l.length) ∧ a + l.length ≤ L.length ∧ ∀ j o, l[j]? = some o → L[a + j]? = some o
def tdC (tD tG : Nat → Bool) (w : mW) : Prop := ∀ c, c < 40 → b64 (wJ w 2 5) c = tD c ∧ b64 (wJ w 2 6) c = tG c
def onC (on : Nat → Bool) (w : mW) : Prop := ∃ m, wI w 2 7 = nI m ∧ m < 32 ∧ ∀ i, i < 5 → Nat.testBit m i = on i
def cZ (w : mW) : Prop := wI w 13 4 = nI 0 ∧ wI w 13 5 = nI 0 ∧ wI w 13 7 = nI 0 ∧ wI w 13 9 = nI 0
def pCx (σ : lS) (s : Nat) (w : mW) : Prop := qC σ.1 w ∧ tdC σ.2.1 σ.2.2.1 w ∧ onC σ.2.2.2.1 w ∧ cZ w ∧ ∃ L, kC L w ∧ L.length ≤ s ∧ rcC σ.2.2.2.2 L w
theorem rcC_cg {r : gR} {L : List gO} {w w' : mW} (h : rcC r L w) (h1 : ∀ i, wI w' 10 i = wI w 10 i) (h2 : ∀ i, wI w' 11 i = wI w 11 i) : rcC r L w' := by
  intro i hi
  have := h i hi
  cases hr : r i with
  | none => rw [hr] at this; exact ⟨(h1 i).trans this.1, (h2 i).trans this.2⟩
  | some l => rw [hr] at this; exact this.imp fun a ha => ⟨(h1 i).trans ha.1, (h2 i).trans ha.2.1, ha.2.2⟩
theorem pCx_N {σ : lS} {s s' : Nat} {w w' : mW} (h : pCx σ s w) (hf : fz pTk w w') (hs : s ≤ s') : pCx σ s' w' := by
  obtain ⟨h1, h2, ⟨m, m1, m2⟩, ⟨z1, z2, z3, z4⟩, L, l1, l2, l3⟩ := h
  refine ⟨qC_fz (by decide) hf h1, fun c hc => ?_, ⟨m, (fz_rd hf rfl).trans m1, m2⟩, ⟨(fz_rd hf rfl).trans z1, (fz_rd hf rfl).trans z2, (fz_rd hf rfl).trans z3, (fz_rd hf rfl).trans z4⟩, L, kC_fz l1 hf rfl (fun _ => rfl) rfl, by omega, rcC_cg l3 (fun i => fz_rd hf rfl) (fun i => fz_rd hf rfl)⟩
  rw [hf.2.1 2 5 rfl, hf.2.1 2 6 rfl]
  exact h2 c hc
theorem pThen_y {α β : Type} {r : pRs α} {k : α → Nat → pRs β} {x : α} {s : Nat} (h : r = .inr (x, s)) : pThen r k = k x s := by rw [h]; rfl
theorem pThen_n {α β : Type} {r : pRs α} {k : α → Nat → pRs β} {f : Nat × Nat} (h : r = .inl f) : pThen r k = .inl f := by rw [h]; rfl
section CLIN
variable {bt : Nat → Nat} {n : Nat} {w : mW}
theorem c_nm {Q : Int32 → mW → Prop} {s a b : Nat} (hb : b ≤ 9999) (ha : a ≤ 9999) (hk : tkC bt n s w)
    (h0 : ∀ f w', nmR bt n s a b = .inl f → fz pTn w w' → nTx w' = nTx w → wI w' 2 2 = nI f.1 → wI w' 2 3 = nI f.2 → Q (nI 0) w')
    (h1 : ∀ v s' w', nmR bt n s a b = .inr (v, s') → fz pTn w w' → nTx w' = nTx w → tkC bt n s' w' → wI w' 2 9 = nI v → Q (nI 1) w') : hP (f20_2 (nI a) (nI b) w) Q := by
  refine c_passN hb ha hk (fun e hn w' f' x' k' v' => ?_) (fun v e hn => ?_) (fun e => ?_)
  · exact h1 _ _ w' (by unfold nmR; rw [if_pos e, if_pos hn]) (fz_up f' (by decide)) x' k' v'
  · exact h0 (2, s) _ (by unfold nmR; rw [if_pos e, if_neg hn]) (fz_nS (fz_nS (fz_nS fz_refl rfl) rfl) rfl) rfl ((rd_nSj (by decide)).trans rd_nS) rd_nS
  · exact h0 (1, s) _ (by unfold nmR; rw [if_neg e]) (fz_nS (fz_nS fz_refl rfl) rfl) rfl ((rd_nSj (by decide)).trans rd_nS) rd_nS
theorem c_sp {Q : Int32 → mW → Prop} {s : Nat} {g : gS} {told : Nat → Bool} {x : Int64} (ho : gOk g) (hk : tkC bt n s w) (h3 : wI w 3 0 = nI (gW g)) (h4 : wI w 3 1 = nI (gH g)) (ht : ∀ c, c < 40 → b64 x c = told c)
    (h0 : ∀ f w', spR bt n g told s = .inl f → fz pTk w w' → nTx w' = nTx w → wI w' 2 2 = nI f.1 → wI w' 2 3 = nI f.2 → Q (nI 0) w')
    (h1 : ∀ c s' w', c < 40 → spR bt n g told s = .inr (c, s') → fz pTk w w' → nTx w' = nTx w → tkC bt n s' w' → wI w' 2 10 = nI c → Q (nI 1) w') : hP (f23_2 x w) Q := by
  have hw := gOk_wd ho
  have hh := gOk_hi ho
  have hn40 := gOk_n ho
  have e1 : nI (gW g) - 1 = nI (gW g - 1) := q_sub (a := gW g) (b := 1) hw.1
  have e2 : nI (gH g) - 1 = nI (gH g - 1) := q_sub (a := gH g) (b := 1) hh.1
  unfold f23_2
  rw [hP_B, h3, e1]
  refine c_isN (a := 0) (b := gW g - 1) (by omega) (by decide) hk (fun e hn => ?_) (fun v e hn => ?_) (fun e => ?_)
  · have r1 : nmR bt n s 0 (gW g - 1) = .inr (dv bt s (tE bt n s - s), nx bt n s) := by unfold nmR; rw [if_pos e, if_pos hn]
    have hx : dv bt s (tE bt n s - s) ≤ gW g - 1 := hn.2.2
    generalize dv bt s (tE bt n s - s) = vx at r1 hx
    rw [if_neg (by decide), hP_let, rd_nS, hP_B]
    have f1 : fz pTk w (nS (nS w 2 9 (nI vx)) 2 10 (nI vx)) := fz_nS (fz_nS fz_refl rfl) rfl
    have k1 : tkC bt n s (nS (nS w 2 9 (nI vx)) 2 10 (nI vx)) := tkC_fz hk (fz_nS (fz_nS fz_refl rfl) rfl : fz ([], [(2, 9), (2, 10)]) w _) rfl rfl (fun j _ _ => rfl) (fun _ => rfl)
    have t1 : wI (nS (nS w 2 9 (nI vx)) 2 10 (nI vx)) 2 10 = nI vx := rd_nS
    have x1 : nTx (nS (nS w 2 9 (nI vx)) 2 10 (nI vx)) = nTx w := rfl
    generalize nS (nS w 2 9 (nI vx)) 2 10 (nI vx) = wa at f1 k1 t1 x1
    refine c_on k1 (fun w2 f2 x2 k2 => ?_)
    have f12 : fz pTk w w2 := fz_then f1 f2 (by decide)
    have t2 : wI w2 2 10 = nI vx := (fz_rd f2 rfl).trans t1
    rw [hP_B, (fz_rd f12 rfl).trans h4, e2]
    refine c_isN (a := 0) (b := gH g - 1) (by omega) (by decide) k2 (fun e' hn' => ?_) (fun v e' hn' => ?_) (fun e' => ?_)
    · have r2 : nmR bt n (nx bt n s) 0 (gH g - 1) = .inr (dv bt (nx bt n s) (tE bt n (nx bt n s) - nx bt n s), nx bt n (nx bt n s)) := by unfold nmR; rw [if_pos e', if_pos hn']
      have hy : dv bt (nx bt n s) (tE bt n (nx bt n s) - nx bt n s) ≤ gH g - 1 := hn'.2.2
      generalize dv bt (nx bt n s) (tE bt n (nx bt n s) - nx bt n s) = vy at r2 hy
      have hc : gW g * vy + vx < 40 := by
        have : gW g * (vy + 1) ≤ gW g * gH g := Nat.mul_le_mul_left _ (by omega)
        rw [Nat.mul_succ] at this
        omega
      have f3 : fz pTk w (nS w2 2 9 (nI vy)) := fz_nS f12 rfl
      have k3 : tkC bt n (nx bt n s) (nS w2 2 9 (nI vy)) := tkC_fz k2 (fz_nS fz_refl rfl : fz ([], [(2, 9)]) w2 _) rfl rfl (fun j _ _ => rfl) (fun _ => rfl)
      have t3 : wI (nS w2 2 9 (nI vy)) 2 10 = nI vx := by rw [rd_nSj (by decide)]; exact t2
      have u3 : wI (nS w2 2 9 (nI vy)) 3 0 = nI (gW g) := by rw [rd_nSa (by decide)]; exact (fz_rd f12 rfl).trans h3
      have v3 : wI (nS w2 2 9 (nI vy)) 2 9 = nI vy := rd_nS
      rw [if_neg (by decide), hP_let, t3, u3, v3, pk_mul, nI_add, Nat.add_comm vx, rd_nS]
      have f4 : fz pTk w (nS (nS w2 2 9 (nI vy)) 2 10 (nI (gW g * vy + vx))) := fz_nS f3 rfl
      have k4 : tkC bt n (nx bt n s) (nS (nS w2 2 9 (nI vy)) 2 10 (nI (gW g * vy + vx))) := tkC_fz k3 (fz_nS fz_refl rfl : fz ([], [(2, 10)]) _ _) rfl rfl (fun j _ _ => rfl) (fun _ => rfl)
      have t4 : wI (nS (nS w2 2 9 (nI vy)) 2 10 (nI (gW g * vy + vx))) 2 10 = nI (gW g * vy + vx) := rd_nS
      have x4 : nTx (nS (nS w2 2 9 (nI vy)) 2 10 (nI (gW g * vy + vx))) = nTx w := x2.trans x1
      generalize nS (nS w2 2 9 (nI vy)) 2 10 (nI (gW g * vy + vx)) = w4 at f4 k4 t4 x4
      have eS : spR bt n g told s = if told (gW g * vy + vx) = true then .inl (4, nx bt n s) else .inr (gW g * vy + vx, nx bt n (nx bt n s)) := by
        exact (pThen_y r1).trans (pThen_y r2)
      by_cases ct : told (gW g * vy + vx) = true
      · rw [if_pos ct] at eS
        rw [if_neg (by rw [b64_test (by omega), ht _ hc, ct]; exact fun h => by cases h), hP_B]
        refine c_fail _ k4 ?_
        rw [hP_gd, hP_some]
        exact ⟨by decide, h0 _ _ eS (fz_nS (fz_nS f4 rfl) rfl) x4 ((rd_nSj (by decide)).trans rd_nS) rd_nS⟩
      · rw [if_neg ct] at eS
        rw [if_pos (by rw [b64_test (by omega), ht _ hc]; exact (Bool.not_eq_true _).mp ct), hP_B]
        refine c_on k4 (fun w5 f5 x5 k5 => ?_)
        rw [hP_some]
        exact h1 _ _ w5 hc eS (fz_then f4 f5 (by decide)) (x5.trans x4) k5 ((fz_rd f5 rfl).trans t4)
    · have r2 : nmR bt n (nx bt n s) 0 (gH g - 1) = .inl (2, nx bt n s) := by unfold nmR; rw [if_pos e', if_neg hn']
      rw [if_pos (show nI 0 = 0 from rfl), hP_some]
      refine h0 (2, nx bt n s) _ ?_ (fz_nS (fz_nS (fz_nS f12 rfl) rfl) rfl) (x2.trans x1) ((rd_nSj (by decide)).trans rd_nS) rd_nS
      exact (pThen_y r1).trans (pThen_n r2)
    · have r2 : nmR bt n (nx bt n s) 0 (gH g - 1) = .inl (1, nx bt n s) := by unfold nmR; rw [if_neg e']
      rw [if_pos (show nI 0 = 0 from rfl), hP_some]
      refine h0 (1, nx bt n s) _ ?_ (fz_nS (fz_nS f12 rfl) rfl) (x2.trans x1) ((rd_nSj (by decide)).trans rd_nS) rd_nS
      exact (pThen_y r1).trans (pThen_n r2)
  · rw [if_pos (show nI 0 = 0 from rfl), hP_some]
    refine h0 (2, s) _ ?_ (fz_nS (fz_nS (fz_nS fz_refl rfl) rfl) rfl) rfl ((rd_nSj (by decide)).trans rd_nS) rd_nS
    unfold spR nmR
    rw [if_pos e, if_neg hn]
    rfl
  · rw [if_pos (show nI 0 = 0 from rfl), hP_some]
    refine h0 (1, s) _ ?_ (fz_nS (fz_nS fz_refl rfl) rfl) rfl ((rd_nSj (by decide)).trans rd_nS) rd_nS
    unfold spR nmR
    rw [if_neg e]
    rfl
theorem c_more {Q : Int32 → mW → Prop} {s a b : Nat} (ha : a < 2147483648) (hb : b < 2147483648) (hk : tkC bt n s w)
    (h0 : ∀ f w', moR bt n a b s = .inl f → fz pTk w w' → nTx w' = nTx w → wI w' 2 2 = nI f.1 → wI w' 2 3 = nI f.2 → Q (nI 0) w')
    (h1 : ∀ s' w', moR bt n a b s = .inr ((), s') → a < b → fz pTk w w' → nTx w' = nTx w → tkC bt n s' w' → Q (nI 1) w') : hP (f21_2 (nI a) (nI b) w) Q := by
  unfold f21_2
  by_cases c : a < b
  · rw [if_pos (by rw [q_lt ha hb]; exact c), hP_B]
    exact c_on hk (fun w' f' x' k' => by rw [hP_some]; exact h1 _ w' (by unfold moR; rw [if_pos c]) c (fz_up f' (by decide)) x' k')
  · rw [if_neg (by rw [q_lt ha hb]; exact c), hP_B]
    refine c_fail _ hk ?_
    rw [hP_gd, hP_some]
    exact ⟨by decide, h0 (2, s) _ (by unfold moR; rw [if_neg c]) (fz_nS (fz_nS fz_refl rfl) rfl) rfl ((rd_nSj (by decide)).trans rd_nS) rd_nS⟩
theorem c_once {Q : Int32 → mW → Prop} {s i : Nat} {on : Nat → Bool} (hi : i < 5) (hk : tkC bt n s w) (hon : onC on w)
    (h0 : ∀ f w', onR bt n on i s = .inl f → fz pTk w w' → nTx w' = nTx w → wI w' 2 2 = nI f.1 → wI w' 2 3 = nI f.2 → Q (nI 0) w')
    (h1 : ∀ on' s' w', onR bt n on i s = .inr (on', s') → fz ([], [(2, 7), (21, 2), (21, 3), (21, 4), (21, 6), (21, 7)]) w w' → nTx w' = nTx w → tkC bt n s' w' → onC on' w' → Q (nI 1) w') : hP (f22_2 (nI (2 ^ i)) w) Q := by
  obtain ⟨m, m1, m2, m3⟩ := hon
  have hp : 2 ^ i ≤ 2 ^ 4 := Nat.pow_le_pow_right (by decide) (by omega)
  have key : ∀ m : Fin 32, ∀ i : Fin 5, (m.1 &&& 2 ^ i.1 = 0 ↔ Nat.testBit m.1 i.1 = false) := by decide +kernel
  have hm := key ⟨m, m2⟩ ⟨i, hi⟩
  have hand : m &&& 2 ^ i ≤ m := Nat.and_le_left
  unfold f22_2
  rw [m1, q_and (by omega) (by omega)]
  cases ho : on i with
  | false =>
    rw [if_pos (by rw [hm.2 (by rw [m3 i hi]; exact ho)]; rfl), hP_let, q_orN (by omega) (by omega), hP_B]
    have f1 : fz ([], [(2, 7), (21, 2), (21, 3), (21, 4), (21, 6), (21, 7)]) w (nS w 2 7 (nI (m ||| 2 ^ i))) := fz_nS fz_refl rfl
    have k1 : tkC bt n s (nS w 2 7 (nI (m ||| 2 ^ i))) := tkC_fz hk (fz_nS fz_refl rfl : fz ([], [(2, 7)]) w _) rfl rfl (fun j _ _ => rfl) (fun _ => rfl)
    refine c_on k1 (fun w' f' x' k' => ?_)
    rw [hP_some]
    refine h1 _ _ w' (by unfold onR; rw [if_neg (by rw [ho]; exact fun h => by cases h)]) (fz_then f1 f' (by decide)) x' k' ⟨m ||| 2 ^ i, (fz_rd f' rfl).trans rd_nS, Nat.or_lt_two_pow (n := 5) m2 (by omega), fun j hj => ?_⟩
    rw [Nat.testBit_or, Nat.testBit_two_pow, m3 j hj]
    by_cases e : i = j
    · rw [decide_eq_true e, Bool.or_true, ← e, tUp_s]
    · rw [decide_eq_false e, Bool.or_false, tUp_o (fun h => e h.symm)]
  | true =>
    have hne : ¬ m &&& 2 ^ i = 0 := fun h => by
      have := hm.1 h
      rw [m3 i hi, ho] at this
      cases this
    rw [if_neg (by rw [q_lit, q_eq (by omega) (by omega)]; exact hne), hP_B]
    refine c_fail _ hk ?_
    rw [hP_gd, hP_some]
    exact ⟨by decide, h0 (5, s) _ (by unfold onR; rw [if_pos ho]) (fz_nS (fz_nS fz_refl rfl) rfl) rfl ((rd_nSj (by decide)).trans rd_nS) rd_nS⟩
end CLIN
