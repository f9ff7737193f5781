/-! ===== EXPRESSIONS: the class reads one ===== -/
def tiV (L : List gO) : Nat := if ((2, 0) : gO) ∈ L then 1 else 0
/-- the code so far -/
def kC (L : List gO) (w : mW) : Prop := wI w 8 1 = nI L.length ∧ (∀ i o, L[i]? = some o → wI w 9 i = cO o) ∧ wI w 8 5 = nI (tiV L)
def oV (o : gO) : Prop := (o.1 = 1 ∧ o.2 ≤ 9999) ∨ (o.1 = 2 ∧ o.2 ≤ 9) ∨ (3 ≤ o.1 ∧ o.1 ≤ 11)
theorem cO_24 {o : gO} (h : oV o) : (cO o = -24) = (o = (2, 0)) := by
  obtain ⟨a, b⟩ := o
  have e24 : (-24 : Int32) = -nI 24 := rfl
  rw [e24]
  rcases h with ⟨h1, h2⟩ | ⟨h1, h2⟩ | ⟨h1, h2⟩
  · have h1' : a = 1 := h1
    have h2' : b ≤ 9999 := h2
    subst h1'
    show (nI b = -nI 24) = _
    rw [q_pm_eq (by omega) (by decide)]
    exact propext ⟨fun h => by omega, fun h => by cases h⟩
  · have h1' : a = 2 := h1
    have h2' : b ≤ 9 := h2
    subst h1'
    show (-nI (20 + cvx b) = -nI 24) = _
    have hc : cvx b ≤ 9 := by unfold cvx; split <;> (try split) <;> omega
    rw [q_mm_eq (by omega) (by decide)]
    refine propext ⟨fun h => ?_, fun h => ?_⟩
    · have : b = 0 := by
        unfold cvx at h
        split at h
        · assumption
        · split at h <;> omega
      rw [this]
    · have : b = 0 := congrArg Prod.snd h
      rw [this]
      rfl
  · have h1' : 3 ≤ a := h1
    have h2' : a ≤ 11 := h2
    have e : cO (a, b) = -nI (oNg a) := by
      unfold cO
      rw [if_neg (by show ¬ a = 1; omega), if_neg (by show ¬ a = 2; omega)]
    have hn : oNg a ≤ 11 := by
      unfold oNg
      repeat' split
      all_goals omega
    rw [e, q_mm_eq (by omega) (by decide)]
    refine propext ⟨fun h => by omega, fun h => ?_⟩
    have : a = 2 := congrArg Prod.fst h
    omega
theorem kC_fz {p : fP} {L : List gO} {w w' : mW} (h : kC L w) (hf : fz p w w') (h1 : fIn p 8 1 = false) (h2 : ∀ i, fIn p 9 i = false) (h3 : fIn p 8 5 = false) : kC L w' :=
  ⟨(fz_rd hf h1).trans h.1, fun i o e => (fz_rd hf (h2 i)).trans (h.2.1 i o e), (fz_rd hf h3).trans h.2.2⟩
abbrev pX : fP := ([9], [(8, 1), (8, 5), (2, 2), (2, 3), (2, 9), (21, 2), (21, 3), (21, 4), (21, 6), (21, 7)])
section CEX
variable {bt : Nat → Nat} {n : Nat} {w : mW}
theorem tkC_fz {p : fP} {s : Nat} {w w' : mW} (h : tkC bt n s w) (hf : fz p w w') (hx : nTx w' = nTx w) (hd : nWd w' = nWd w) (h1 : ∀ j, 1 ≤ j → j ≤ 7 → fIn p 21 j = false) (h2 : ∀ i, fIn p 1 i = false) : tkC bt n s w' := by
  obtain ⟨a, b, c, d, e, f, g, i⟩ := h
  exact ⟨cTx_fz a hf hx (h1 1 (by decide) (by decide)) h2, b, (fz_rd hf (h1 2 (by decide) (by decide))).trans c, (fz_rd hf (h1 3 (by decide) (by decide))).trans d, (fz_rd hf (h1 4 (by decide) (by decide))).trans e, hd.trans f, fun k => (fz_rd hf (h1 6 (by decide) (by decide))).trans (g k), fun k => (fz_rd hf (h1 7 (by decide) (by decide))).trans (i k)⟩
theorem c_put {Q : Unit → mW → Prop} {L : List gO} {o : gO} (hk : kC L w) (hL : L.length < 700) (ho : oV o) (hq : ∀ w', fr ([9], [(8, 1), (8, 5)]) w w' → kC (L ++ [o]) w' → Q () w') : hP (f65_8 (cO o) w) Q := by
  obtain ⟨h1, h2, h3⟩ := hk
  unfold f65_8
  rw [h1, if_pos (by rw [q_lit, q_lt (by omega) (by omega)]; exact hL), hP_gd, hP_let, hP_let, q_cl (by omega)]
  refine ⟨by rw [q_g (by omega)]; exact hL, ?_⟩
  have es : wI (nS w 9 L.length (cO o)) 8 1 = nI L.length := by rw [rd_nSa (by decide)]; exact h1
  have ei : nI L.length + 1 = nI (L.length + 1) := by rw [← nI_add]; rfl
  rw [es, ei]
  have f1 : fr ([9], [(8, 1), (8, 5)]) w (nS (nS w 9 L.length (cO o)) 8 1 (nI (L.length + 1))) := fr_nS (fr_nS fr_refl rfl) rfl
  have len : (L ++ [o]).length = L.length + 1 := by rw [List.length_append]; rfl
  have code : ∀ w' : mW, (∀ i, wI w' 9 i = wI (nS w 9 L.length (cO o)) 9 i) → ∀ i o', (L ++ [o])[i]? = some o' → wI w' 9 i = cO o' := by
    intro w' hw i o' e
    rw [hw]
    by_cases c : i < L.length
    · rw [List.getElem?_append_left c] at e
      rw [rd_nSj (by omega)]
      exact h2 i o' e
    · rw [List.getElem?_append_right (by omega)] at e
      have : i - L.length = 0 := by
        apply Classical.byContradiction
        intro hc
        rw [List.getElem?_eq_none (by show 1 ≤ _; omega)] at e
        cases e
      rw [this] at e
      have eo : o = o' := Option.some.inj e
      rw [show i = L.length by omega, rd_nS, eo]
  have mem : (((2, 0) : gO) ∈ L ++ [o]) ↔ (((2, 0) : gO) ∈ L ∨ (2, 0) = o) := by
    rw [List.mem_append, List.mem_singleton]
  by_cases c : o = (2, 0)
  · rw [if_pos (by rw [cO_24 ho]; exact c), hP_let, hP_some]
    refine hq _ (fr_nS f1 rfl) ⟨?_, code _ (fun i => ?_), ?_⟩
    · rw [rd_nSj (by decide), rd_nS, len]
    · rw [rd_nSa (by decide), rd_nSa (by decide)]
    · rw [rd_nS]
      unfold tiV
      rw [if_pos (mem.2 (.inr c.symm))]
      rfl
  · rw [if_neg (by rw [cO_24 ho]; exact c), hP_some]
    refine hq _ f1 ⟨?_, code _ (fun i => ?_), ?_⟩
    · rw [rd_nS, len]
    · rw [rd_nSa (by decide)]
    · rw [rd_nSj (by decide), rd_nSa (by decide), h3]
      unfold tiV
      by_cases d : ((2, 0) : gO) ∈ L
      · rw [if_pos d, if_pos (mem.2 (.inl d))]
      · rw [if_neg d, if_neg (fun h => by rcases mem.1 h with h | h; exact d h; exact c h.symm)]
theorem c_fail {Q : Int32 → mW → Prop} {s : Nat} (x : Int32) (hk : tkC bt n s w) (hq : Q (nI 0) (nS (nS w 2 2 x) 2 3 (nI s))) : hP (f17_2 x w) Q := by
  unfold f17_2
  rw [hP_let, hP_let, hP_some, rd_nSa (by decide), hk.2.2.2.1]
  exact hq
theorem c_isS {Q : Int32 → mW → Prop} {s b : Nat} (hb : b < 128) (hk : tkC bt n s w) (h1 : isS bt n s b → Q (nI 1) w) (h0 : ¬ isS bt n s b → Q (nI 0) w) : hP (f74_21 (nI b) w) Q := by
  have hK := tK_le bt n s
  unfold f74_21
  rw [hk.2.2.2.2.1]
  by_cases c : tK bt n s = 3
  · rw [if_pos (by rw [c]; rfl), hk.2.2.2.2.2.2.2 (by omega)]
    have hs : s < n := nx_of (by rw [c]; decide) hk.2.1
    have hbt := (hk.1.2.2.2 s hs).1
    by_cases c2 : bt s = b
    · rw [if_pos (by rw [sBy_eq hbt hb]; exact c2), hP_some]; exact h1 ⟨c, c2⟩
    · rw [if_neg (by rw [sBy_eq hbt hb]; exact c2), hP_some]; exact h0 (fun h => c2 h.2)
  · rw [if_neg (by rw [q_lit, q_eq (by omega) (by omega)]; exact c), hP_some]
    exact h0 (fun h => c h.1)
theorem c_isWd {Q : Int32 → mW → Prop} {s c k : Nat} (hc : c < 25) (hk9 : k = 1000000 + c) (hk : tkC bt n s w) (h1 : isW bt n s c → Q (nI 1) w) (h0 : ¬ isW bt n s c → Q (nI 0) w) : hP (if (wI w 21 4) = 1 then (nOpt (nWd w) (some ((0 : Int32), w)) (fun k1 => nGd (oEn k1) (if k1 = k then (some (1, w)) else (some (0, w))))) else (some (0, w))) Q := by
  have hK := tK_le bt n s
  rw [hk.2.2.2.2.1]
  by_cases c1 : tK bt n s = 1
  · rw [if_pos (by rw [c1]; rfl), hP_opt, hk.2.2.2.2.2.1]
    cases e : tW bt n s with
    | none =>
      show hP (some ((0 : Int32), w)) Q
      rw [hP_some]
      exact h0 (fun h => by rw [isW, e] at h; cases h)
    | some j =>
      have hj := (tW_lt e).2.1
      show hP (nGd (oEn (1000000 + j)) (if 1000000 + j = k then (some (1, w)) else (some (0, w)))) Q
      rw [hP_gd]
      refine ⟨?_, ?_⟩
      · have : ∀ k : Fin 25, oEn (1000000 + k.1) = true := by decide +kernel
        exact this ⟨j, hj⟩
      · by_cases c2 : j = c
        · rw [if_pos (by omega), hP_some]
          exact h1 (by rw [isW, e, c2])
        · rw [if_neg (by omega), hP_some]
          exact h0 (fun h => c2 (by rw [isW, e] at h; exact Option.some.inj h))
  · rw [if_neg (by rw [q_lit, q_eq (by omega) (by omega)]; exact c1), hP_some]
    refine h0 (fun h => c1 (tW_lt h).1)
theorem c_on {Q : Unit → mW → Prop} {s : Nat} (hk : tkC bt n s w) (hq : ∀ w', fz pT w w' → nTx w' = nTx w → tkC bt n (nx bt n s) w' → Q () w') : hP (f70_21 w) Q :=
  c_adv hk.1 hk.2.2.1 (tE_le bt n hk.2.1) hq
theorem c_pass {Q : Int32 → mW → Prop} {s b : Nat} (hb : b < 128) (hk : tkC bt n s w) (h1 : isS bt n s b → ∀ w', fz pT w w' → nTx w' = nTx w → tkC bt n (nx bt n s) w' → Q (nI 1) w') (h0 : ¬ isS bt n s b → Q (nI 0) (nS (nS w 2 2 (nI 1)) 2 3 (nI s))) : hP (f18_2 (nI b) w) Q := by
  unfold f18_2
  rw [hP_B]
  refine c_isS hb hk (fun hy => ?_) (fun hno => ?_)
  · rw [if_neg (by decide), hP_B]
    exact c_on hk (fun w' f' x' k' => by rw [hP_some]; exact h1 hy w' f' x' k')
  · rw [if_pos (show nI 0 = 0 from rfl), hP_B]
    refine c_fail _ hk ?_
    rw [hP_gd, hP_some]
    exact ⟨by decide, h0 hno⟩
/-- a number from a to b stands here -/
abbrev nmOk (bt : Nat → Nat) (n s a b : Nat) : Prop := tE bt n s - s ≤ 4 ∧ a ≤ dv bt s (tE bt n s - s) ∧ dv bt s (tE bt n s - s) ≤ b
theorem tV_lt {s : Nat} (hk : tK bt n s = 2) (hs : s ≤ n) (h4 : tE bt n s - s ≤ 4) : dv bt s (tE bt n s - s) ≤ 9999 := by
  have hlt := nx_of (bt := bt) (s := s) (by rw [hk]; decide) hs
  have hdi : bDi (bt s) = true := by
    unfold tK at hk
    rw [if_neg (by omega)] at hk
    split at hk
    · cases hk
    · split at hk
      · rename_i hd; exact hd
      · split at hk <;> cases hk
  have nL : ¬ bLe (bt s) = true := by
    intro hb
    unfold tK at hk
    rw [if_neg (by omega), if_pos hb] at hk
    cases hk
  have eE : tE bt n s = rnE bDi bt n s := by unfold tE; rw [if_neg (by omega), if_neg nL, if_pos hdi]
  have key : ∀ k, k ≤ tE bt n s - s → dv bt s k < 10 ^ k := by
    intro k
    induction k with
    | zero => intro _; exact Nat.zero_lt_one
    | succ k ihk =>
      intro hk
      have a1 := ihk (by omega)
      have a2 : 48 ≤ bt (s + k) ∧ bt (s + k) ≤ 57 := of_decide_eq_true (rnE_in (P := bDi) (bt := bt) (n := n) (p := s) (j := s + k) (by omega) (by omega))
      show 10 * dv bt s k + (bt (s + k) - 48) < 10 ^ (k + 1)
      rw [Nat.pow_succ]
      omega
  have k1 := key _ (Nat.le_refl _)
  have k2 : 10 ^ (tE bt n s - s) ≤ 10 ^ 4 := Nat.pow_le_pow_right (by decide) h4
  omega
theorem c_isN {Q : Int32 → mW → Prop} {s a b : Nat} (hb : b ≤ 9999) (ha : a ≤ 9999) (hk : tkC bt n s w)
    (h1 : tK bt n s = 2 → nmOk bt n s a b → Q (nI 1) (nS w 2 9 (nI (dv bt s (tE bt n s - s)))))
    (h2 : ∀ v, tK bt n s = 2 → ¬ nmOk bt n s a b → Q (nI 0) (nS (nS (nS w 2 9 v) 2 2 (nI 2)) 2 3 (nI s)))
    (h0 : ¬ tK bt n s = 2 → Q (nI 0) (nS (nS w 2 2 (nI 1)) 2 3 (nI s))) : hP (f19_2 (nI a) (nI b) w) Q := by
  have hK := tK_le bt n s
  unfold f19_2
  rw [hk.2.2.2.2.1]
  by_cases c1 : tK bt n s = 2
  · rw [if_pos (by rw [c1]; rfl), hP_let, rd_nS, hk.2.2.2.2.2.2.1 c1]
    have hk2 : tkC bt n s (nS w 2 9 (nI (tV bt n s))) := tkC_fz hk (fz_nS fz_refl rfl : fz ([], [(2, 9)]) w _) rfl rfl (fun j _ _ => rfl) (fun _ => rfl)
    have bad : ¬ nmOk bt n s a b → hP (nB (f17_2 2 (nS w 2 9 (nI (tV bt n s)))) fun v2 w3 => (if v2 = 0 then (some ((0 : Int32), w3)) else (some (1, w3)))) Q := by
      intro hn
      rw [hP_B]
      refine c_fail _ hk2 ?_
      rw [if_pos (show nI 0 = 0 from rfl), hP_some]
      exact h2 _ c1 hn
    by_cases c4 : tE bt n s - s ≤ 4
    · have eV : tV bt n s = dv bt s (tE bt n s - s) := if_pos c4
      have h99 := tV_lt c1 hk.2.1 c4
      by_cases c2 : dv bt s (tE bt n s - s) < a
      · rw [if_pos (by rw [eV, q_lt (by omega) (by omega)]; exact c2)]
        exact bad (fun h => by omega)
      · rw [if_neg (by rw [eV, q_lt (by omega) (by omega)]; exact c2)]
        by_cases c3 : b < dv bt s (tE bt n s - s)
        · rw [if_pos (by rw [eV, q_lt (by omega) (by omega)]; exact c3)]
          exact bad (fun h => by omega)
        · rw [if_neg (by rw [eV, q_lt (by omega) (by omega)]; exact c3), hP_some, eV]
          exact h1 c1 ⟨c4, by omega, by omega⟩
    · have eV : tV bt n s = 10000 := if_neg c4
      rw [if_neg (by rw [eV, q_lt (by omega) (by omega)]; omega), if_pos (by rw [eV, q_lt (by omega) (by omega)]; omega)]
      exact bad (fun h => c4 h.1)
  · rw [if_neg (by rw [q_lit, q_eq (by omega) (by omega)]; exact c1), hP_B]
    refine c_fail _ hk ?_
    rw [hP_gd, hP_some]
    exact ⟨by decide, h0 c1⟩
theorem c_passN {Q : Int32 → mW → Prop} {s a b : Nat} (hb : b ≤ 9999) (ha : a ≤ 9999) (hk : tkC bt n s w)
    (h1 : tK bt n s = 2 → nmOk bt n s a b → ∀ w', fz ([], [(2, 9), (21, 2), (21, 3), (21, 4), (21, 6), (21, 7)]) w w' → nTx w' = nTx w → tkC bt n (nx bt n s) w' → wI w' 2 9 = nI (dv bt s (tE bt n s - s)) → Q (nI 1) w')
    (h2 : ∀ v, tK bt n s = 2 → ¬ nmOk bt n s a b → Q (nI 0) (nS (nS (nS w 2 9 v) 2 2 (nI 2)) 2 3 (nI s)))
    (h0 : ¬ tK bt n s = 2 → Q (nI 0) (nS (nS w 2 2 (nI 1)) 2 3 (nI s))) : hP (f20_2 (nI a) (nI b) w) Q := by
  unfold f20_2
  rw [hP_B]
  refine c_isN hb ha hk (fun e hn => ?_) (fun v e hn => ?_) (fun e => ?_)
  · have f1 : fz ([], [(2, 9), (21, 2), (21, 3), (21, 4), (21, 6), (21, 7)]) w (nS w 2 9 (nI (dv bt s (tE bt n s - s)))) := fz_nS fz_refl rfl
    have hk2 : tkC bt n s (nS w 2 9 (nI (dv bt s (tE bt n s - s)))) := tkC_fz hk (fz_nS fz_refl rfl : fz ([], [(2, 9)]) w _) rfl rfl (fun j _ _ => rfl) (fun _ => rfl)
    rw [if_neg (by decide), hP_B]
    refine c_on hk2 (fun w' f' x' k' => ?_)
    rw [hP_some]
    exact h1 e hn w' (fz_then f1 f' (by decide)) x' k' ((fz_rd f' rfl).trans rd_nS)
  · rw [if_pos (show nI 0 = 0 from rfl), hP_some]
    exact h2 v e hn
  · rw [if_pos (show nI 0 = 0 from rfl), hP_some]
    exact h0 e
end CEX
