/-! ===== THE TEXT: the reference's tokens ===== -/
def mTx (bt : Nat → Nat) (n : Nat) (w : mW) : Prop := wI w 80 22 = nI n ∧ n ≤ 700 ∧ ∀ i, i < n → bt i < 256 ∧ wI w 87 i = nI (bt i)
def tkM (bt : Nat → Nat) (n s : Nat) (w : mW) : Prop := mTx bt n w ∧ s ≤ n ∧ wI w 80 23 = nI (tE bt n s) ∧ wI w 80 24 = nI (tK bt n s) ∧ wI w 80 25 = nI s ∧ wI w 80 26 = nI (tE bt n s - s) ∧ (tK bt n s = 2 → wI w 80 27 = nI (dv bt s (min 4 (tE bt n s - s)))) ∧ (s < n → wI w 80 28 = nI (bt s)) ∧ (tK bt n s = 1 → wJ w 80 29 = enL (Lb bt s (min 7 (tE bt n s - s))) 0)
abbrev pM : fP := ([], [(80, 23), (80, 24), (80, 25), (80, 26), (80, 27), (80, 28), (80, 29)])
section GOES
variable {bt : Nat → Nat} {n : Nat} {w : mW}
theorem mTx_fr {p : fP} {w w' : mW} (h : mTx bt n w) (hf : fr p w w') (h1 : fIn p 80 22 = false) (h2 : ∀ i, fIn p 87 i = false) : mTx bt n w' :=
  ⟨(fr_rd hf h1).trans h.1, h.2.1, fun i hi => ⟨(h.2.2 i hi).1, (fr_rd hf (h2 i)).trans (h.2.2 i hi).2⟩⟩
theorem m_byte {Q : Int32 → mW → Prop} {p : Nat} (hT : mTx bt n w) (hp : p ≤ n) (h1 : p < n → Q (nI (bt p)) w) (h0 : n ≤ p → Q (nI 0) w) : hP (f184_80 (nI p) w) Q := by
  have hn := hT.2.1
  unfold f184_80
  rw [hT.1]
  by_cases c : p < n
  · rw [if_pos (by rw [q_lt (by omega) (by omega)]; exact c), hP_gd, hP_some, q_cl (by omega), (hT.2.2 p c).2]
    exact ⟨by rw [q_g (by omega)]; omega, h1 c⟩
  · rw [if_neg (by rw [q_lt (by omega) (by omega)]; exact c), hP_some]
    exact h0 (by omega)
theorem m_isL {Q : Int32 → mW → Prop} {b : Nat} (hb : b < 256) (h1 : bLe b = true → Q (nI 1) w) (h0 : bLe b = false → Q (nI 0) w) : hP (f185 (nI b) w) Q := by
  unfold f185
  by_cases c1 : b < 97
  · rw [if_pos (by rw [q_lit, q_lt (by omega) (by omega)]; exact c1), hP_some]; exact h0 (decide_eq_false (by omega))
  · rw [if_neg (by rw [q_lit, q_lt (by omega) (by omega)]; exact c1)]
    by_cases c2 : 122 < b
    · rw [if_pos (by rw [q_lit, q_lt (by omega) (by omega)]; exact c2), hP_some]; exact h0 (decide_eq_false (by omega))
    · rw [if_neg (by rw [q_lit, q_lt (by omega) (by omega)]; exact c2), hP_some]; exact h1 (decide_eq_true (by omega))
theorem m_isD {Q : Int32 → mW → Prop} {b : Nat} (hb : b < 256) (h1 : bDi b = true → Q (nI 1) w) (h0 : bDi b = false → Q (nI 0) w) : hP (f186 (nI b) w) Q := by
  unfold f186
  by_cases c1 : b < 48
  · rw [if_pos (by rw [q_lit, q_lt (by omega) (by omega)]; exact c1), hP_some]; exact h0 (decide_eq_false (by omega))
  · rw [if_neg (by rw [q_lit, q_lt (by omega) (by omega)]; exact c1)]
    by_cases c2 : 57 < b
    · rw [if_pos (by rw [q_lit, q_lt (by omega) (by omega)]; exact c2), hP_some]; exact h0 (decide_eq_false (by omega))
    · rw [if_neg (by rw [q_lit, q_lt (by omega) (by omega)]; exact c2), hP_some]; exact h1 (decide_eq_true (by omega))
/-- a number -/
theorem m_num {Q : Unit → mW → Prop} {s : Nat} (hT : mTx bt n w) (hs : s < n) (h3 : wI w 80 23 = nI s) (h5 : wI w 80 25 = nI s) (h7 : wI w 80 27 = nI 0)
    (hq : ∀ w', fr ([], [(80, 23), (80, 24), (80, 26), (80, 27)]) w w' → wI w' 80 23 = nI (rnE bDi bt n s) → wI w' 80 24 = nI 2 → wI w' 80 26 = nI (rnE bDi bt n s - s) → wI w' 80 27 = nI (dv bt s (min 4 (rnE bDi bt n s - s))) → Q () w') : hP (mLoop f187_80_b187 nF w) Q := by
  have hn := hT.2.1
  refine hP_loopF (fun m w1 => ∃ p, p + m = n ∧ s ≤ p ∧ rnE bDi bt n p = rnE bDi bt n s ∧ fr ([], [(80, 23), (80, 24), (80, 26), (80, 27)]) w w1 ∧ wI w1 80 23 = nI p ∧ (∀ j, s ≤ j → j < p → bDi (bt j) = true) ∧ wI w1 80 27 = nI (dv bt s (min 4 (p - s)))) (n - s) (by omega) ⟨s, by omega, Nat.le_refl _, rfl, fr_refl, h3, fun j h1 h2 => by omega, by rw [Nat.sub_self]; exact h7⟩ ?_
  rintro m w1 rec ⟨p, hpm, hsp, hr, f1, k3, hall, k7⟩ ih
  have hT1 : mTx bt n w1 := mTx_fr hT f1 rfl (fun _ => rfl)
  have k5 : wI w1 80 25 = nI s := (fr_rd f1 rfl).trans h5
  have fin : rnE bDi bt n p = p → hP (nLet (nS w1 80 24 2) fun w5 => (nLet (nS w5 80 26 ((wI w5 80 23) - (wI w5 80 25))) fun w6 => (some ((), w6)))) Q := by
    intro ep
    have e : rnE bDi bt n s = p := hr.symm.trans ep
    rw [e] at hq
    rw [hP_let, hP_let, hP_some, rd_nSj (by decide), rd_nSj (by decide), k3, k5, q_sub hsp]
    refine hq _ (fr_nS (fr_nS f1 rfl) rfl) ?_ ?_ rd_nS ?_
    · rw [rd_nSj (by decide), rd_nSj (by decide)]; exact k3
    · rw [rd_nSj (by decide), rd_nS]; rfl
    · rw [rd_nSj (by decide), rd_nSj (by decide)]; exact k7
  simp only [f187_80_b187]
  rw [hP_B, k3]
  have ep : nI p + 1 = nI (p + 1) := by rw [← nI_add]; rfl
  refine m_byte hT1 (by omega) (fun c1 => ?_) (fun c1 => ?_)
  · have hb := (hT1.2.2 p c1).1
    rw [hP_B]
    refine m_isD hb (fun hy => ?_) (fun hno => ?_)
    · have hr2 : rnE bDi bt n (p + 1) = rnE bDi bt n s := by rw [← rnE_yes c1 hy]; exact hr
      have hall2 : ∀ j, s ≤ j → j < p + 1 → bDi (bt j) = true := by
        intro j a1 a2
        by_cases e : j = p
        · rw [e]; exact hy
        · exact hall j a1 (by omega)
      rw [if_neg (by decide), k3, k5, q_sub hsp]
      by_cases c2 : p - s < 4
      · have hd48 : 48 ≤ bt p ∧ bt p ≤ 57 := of_decide_eq_true hy
        have hdv : dv bt s (p - s) < 10 ^ (p - s) := by
          have key : ∀ k, k ≤ p - s → dv bt s k < 10 ^ k := by
            intro k
            induction k with
            | zero => intro _; exact Nat.zero_lt_one
            | succ k ihk =>
              intro hk
              have a1 := ihk (by omega)
              have a2 : 48 ≤ bt (s + k) ∧ bt (s + k) ≤ 57 := of_decide_eq_true (hall (s + k) (by omega) (by omega))
              show 10 * dv bt s k + (bt (s + k) - 48) < 10 ^ (k + 1)
              rw [Nat.pow_succ]
              omega
          exact key _ (Nat.le_refl _)
        have hpw : 10 ^ (p - s) ≤ 10 ^ 3 := Nat.pow_le_pow_right (by decide) (by omega)
        have k7' : wI w1 80 27 = nI (dv bt s (p - s)) := by rw [k7, Nat.min_eq_right (by omega)]
        have ev : 10 * nI (dv bt s (p - s)) + nI (bt p) - 48 = nI (dv bt s (p + 1 - s)) := by
          rw [show p + 1 - s = (p - s) + 1 by omega]
          show nI 10 * nI (dv bt s (p - s)) + nI (bt p) - nI 48 = nI (10 * dv bt s (p - s) + (bt (s + (p - s)) - 48))
          rw [pk_mul, nI_add, q_sub (by omega), show s + (p - s) = p by omega]
          congr 1
          omega
        rw [if_pos (by rw [q_lit, q_lt (by omega) (by omega)]; exact c2), hP_B]
        refine m_byte hT1 (by omega) (fun _ => ?_) (fun h => by omega)
        rw [hP_let, hP_let, k7', ev, rd_nSj (by decide), k3, ep]
        refine ih (m - 1) _ (by omega) ⟨p + 1, by omega, by omega, hr2, fr_nS (fr_nS f1 rfl) rfl, rd_nS, hall2, ?_⟩
        rw [rd_nSj (by decide), rd_nS, Nat.min_eq_right (by omega)]
      · rw [if_neg (by rw [q_lit, q_lt (by omega) (by omega)]; exact c2), hP_let, ep]
        refine ih (m - 1) _ (by omega) ⟨p + 1, by omega, by omega, hr2, fr_nS f1 rfl, rd_nS, hall2, ?_⟩
        rw [rd_nSj (by decide), k7, Nat.min_eq_left (by omega), Nat.min_eq_left (by omega)]
    · rw [if_pos (show nI 0 = 0 from rfl)]
      exact fin (rnE_no hno)
  · rw [hP_B]
    refine m_isD (by decide) (fun hy => absurd hy (by decide)) (fun hno => ?_)
    rw [if_pos (show nI 0 = 0 from rfl)]
    exact fin (rnE_end (by omega))
/-- a word -/
theorem m_word {Q : Unit → mW → Prop} {s : Nat} (hT : mTx bt n w) (hs : s < n) (h3 : wI w 80 23 = nI s) (h5 : wI w 80 25 = nI s) (h9 : wJ w 80 29 = 0)
    (hq : ∀ w', fr ([], [(80, 23), (80, 24), (80, 26), (80, 29)]) w w' → wI w' 80 23 = nI (rnE bLe bt n s) → wI w' 80 24 = nI 1 → wI w' 80 26 = nI (rnE bLe bt n s - s) → wJ w' 80 29 = enL (Lb bt s (min 7 (rnE bLe bt n s - s))) 0 → Q () w') : hP (mLoop f187_80_b108 nF w) Q := by
  have hn := hT.2.1
  refine hP_loopF (fun m w1 => ∃ p, p + m = n ∧ s ≤ p ∧ rnE bLe bt n p = rnE bLe bt n s ∧ fr ([], [(80, 23), (80, 24), (80, 26), (80, 29)]) w w1 ∧ wI w1 80 23 = nI p ∧ wJ w1 80 29 = enL (Lb bt s (min 7 (p - s))) 0) (n - s) (by omega) ⟨s, by omega, Nat.le_refl _, rfl, fr_refl, h3, by rw [Nat.sub_self]; exact h9⟩ ?_
  rintro m w1 rec ⟨p, hpm, hsp, hr, f1, k3, k9⟩ ih
  have hT1 : mTx bt n w1 := mTx_fr hT f1 rfl (fun _ => rfl)
  have k5 : wI w1 80 25 = nI s := (fr_rd f1 rfl).trans h5
  have fin : rnE bLe bt n p = p → hP (nLet (nS w1 80 24 1) fun w5 => (nLet (nS w5 80 26 ((wI w5 80 23) - (wI w5 80 25))) fun w6 => (some ((), w6)))) Q := by
    intro ep
    have e : rnE bLe bt n s = p := hr.symm.trans ep
    rw [e] at hq
    rw [hP_let, hP_let, hP_some, rd_nSj (by decide), rd_nSj (by decide), k3, k5, q_sub hsp]
    refine hq _ (fr_nS (fr_nS f1 rfl) rfl) ?_ ?_ rd_nS k9
    · rw [rd_nSj (by decide), rd_nSj (by decide)]; exact k3
    · rw [rd_nSj (by decide), rd_nS]; rfl
  simp only [f187_80_b108]
  rw [hP_B, k3]
  have ep : nI p + 1 = nI (p + 1) := by rw [← nI_add]; rfl
  refine m_byte hT1 (by omega) (fun c1 => ?_) (fun c1 => ?_)
  · have hb := (hT1.2.2 p c1).1
    rw [hP_B]
    refine m_isL hb (fun hy => ?_) (fun hno => ?_)
    · have hr2 : rnE bLe bt n (p + 1) = rnE bLe bt n s := by rw [← rnE_yes c1 hy]; exact hr
      rw [if_neg (by decide), k3, k5, q_sub hsp]
      by_cases c2 : p - s < 7
      · rw [if_pos (by rw [q_lit, q_lt (by omega) (by omega)]; exact c2), hP_B]
        refine m_byte hT1 (by omega) (fun _ => ?_) (fun h => by omega)
        rw [hP_let, hP_let, rd_nSJ_I, k3, ep]
        refine ih (m - 1) _ (by omega) ⟨p + 1, by omega, by omega, hr2, fr_nS (fr_nSJ f1 rfl) rfl, rd_nS, ?_⟩
        show wJ (nSJ w1 80 29 _) 80 29 = _
        rw [rd_nSJ, k9, Nat.min_eq_right (by omega), Nat.min_eq_right (by omega), show p + 1 - s = (p - s) + 1 by omega, Lb_succ, enL_snoc, show s + (p - s) = p by omega]
      · rw [if_neg (by rw [q_lit, q_lt (by omega) (by omega)]; exact c2), hP_let, ep]
        refine ih (m - 1) _ (by omega) ⟨p + 1, by omega, by omega, hr2, fr_nS f1 rfl, rd_nS, ?_⟩
        show wJ w1 80 29 = _
        rw [k9, Nat.min_eq_left (by omega), Nat.min_eq_left (by omega)]
    · rw [if_pos (show nI 0 = 0 from rfl)]
      exact fin (rnE_no hno)
  · rw [hP_B]
    refine m_isL (by decide) (fun hy => absurd hy (by decide)) (fun hno => ?_)
    rw [if_pos (show nI 0 = 0 from rfl)]
    exact fin (rnE_end (by omega))
theorem m_goes {Q : Unit → mW → Prop} {e : Nat} (hT : mTx bt n w) (h3 : wI w 80 23 = nI e) (he : e ≤ n) (hq : ∀ w', fr pM w w' → tkM bt n (rnE bSp bt n e) w' → Q () w') : hP (f187_80 w) Q := by
  have hn := hT.2.1
  unfold f187_80
  refine hP_loopF (fun m w1 => ∃ p, p + m = n ∧ rnE bSp bt n p = rnE bSp bt n e ∧ fr pM w w1 ∧ wI w1 80 23 = nI p) (n - e) (by omega) ⟨e, by omega, rfl, fr_refl, h3⟩ ?_
  rintro m w1 rec ⟨p, hpm, hr, f1, k3⟩ ih
  have hT1 : mTx bt n w1 := mTx_fr hT f1 rfl (fun _ => rfl)
  have fin : rnE bSp bt n p = p → hP (f187_80_j50 w1) Q := by
    intro ep
    have eS : rnE bSp bt n e = p := hr.symm.trans ep
    rw [eS] at hq
    unfold f187_80_j50
    rw [hP_let, hP_let, hP_let, k3]
    have f2 : fr pM w (nS (nSJ (nS w1 80 25 (nI p)) 80 29 0) 80 27 0) := fr_nS (fr_nSJ (fr_nS f1 rfl) rfl) rfl
    have a3 : wI (nS (nSJ (nS w1 80 25 (nI p)) 80 29 0) 80 27 0) 80 23 = nI p := by
      rw [rd_nSj (by decide), rd_nSJ_I, rd_nSj (by decide)]; exact k3
    have a5 : wI (nS (nSJ (nS w1 80 25 (nI p)) 80 29 0) 80 27 0) 80 25 = nI p := by
      rw [rd_nSj (by decide), rd_nSJ_I, rd_nS]
    have a7 : wI (nS (nSJ (nS w1 80 25 (nI p)) 80 29 0) 80 27 0) 80 27 = nI 0 := by rw [rd_nS]; rfl
    have a9 : wJ (nS (nSJ (nS w1 80 25 (nI p)) 80 29 0) 80 27 0) 80 29 = 0 := rd_nSJ (w := nS w1 80 25 (nI p))
    generalize nS (nSJ (nS w1 80 25 (nI p)) 80 29 0) 80 27 0 = w2 at f2 a3 a5 a7 a9
    have hT2 : mTx bt n w2 := mTx_fr hT f2 rfl (fun _ => rfl)
    rw [hP_B, a3]
    have ep1 : nI p + 1 = nI (p + 1) := by rw [← nI_add]; rfl
    refine m_byte hT2 (by omega) (fun c1 => ?_) (fun c1 => ?_)
    · have hb := (hT2.2.2 p c1).1
      rw [hP_let]
      have f3 : fr pM w (nS w2 80 28 (nI (bt p))) := fr_nS f2 rfl
      have b3 : wI (nS w2 80 28 (nI (bt p))) 80 23 = nI p := by rw [rd_nSj (by decide)]; exact a3
      have b5 : wI (nS w2 80 28 (nI (bt p))) 80 25 = nI p := by rw [rd_nSj (by decide)]; exact a5
      have b7 : wI (nS w2 80 28 (nI (bt p))) 80 27 = nI 0 := by rw [rd_nSj (by decide)]; exact a7
      have b8 : wI (nS w2 80 28 (nI (bt p))) 80 28 = nI (bt p) := rd_nS
      have b9 : wJ (nS w2 80 28 (nI (bt p))) 80 29 = 0 := a9
      generalize nS w2 80 28 (nI (bt p)) = w3 at f3 b3 b5 b7 b8 b9
      have hT3 : mTx bt n w3 := mTx_fr hT f3 rfl (fun _ => rfl)
      rw [b3, hT3.1, if_pos (by rw [q_lt (by omega) (by omega)]; exact c1), hP_B]
      refine m_isL hb (fun hy => ?_) (fun hno => ?_)
      · have eK : tK bt n p = 1 := by unfold tK; rw [if_neg (by omega), if_pos hy]
        have eE : tE bt n p = rnE bLe bt n p := by unfold tE; rw [if_neg (by omega), if_pos hy]
        rw [if_neg (by decide)]
        refine m_word hT3 c1 b3 b5 b9 (fun w' f' d3 d4 d6 d9 => ?_)
        have ff : fr pM w w' := fr_then f3 f' (by decide)
        exact hq w' ff ⟨mTx_fr hT ff rfl (fun _ => rfl), by omega, by rw [eE]; exact d3, by rw [eK]; exact d4, (fr_rd f' rfl).trans b5, by rw [eE]; exact d6, fun h => by omega, fun _ => (fr_rd f' rfl).trans b8, fun _ => by rw [eE]; exact d9⟩
      · have nL : ¬ bLe (bt p) = true := by rw [hno]; exact fun h => by cases h
        rw [if_pos (show nI 0 = 0 from rfl), hP_B]
        refine m_isD hb (fun hy => ?_) (fun hno2 => ?_)
        · have eK : tK bt n p = 2 := by unfold tK; rw [if_neg (by omega), if_neg nL, if_pos hy]
          have eE : tE bt n p = rnE bDi bt n p := by unfold tE; rw [if_neg (by omega), if_neg nL, if_pos hy]
          rw [if_neg (by decide)]
          refine m_num hT3 c1 b3 b5 b7 (fun w' f' d3 d4 d6 d7 => ?_)
          have ff : fr pM w w' := fr_then f3 f' (by decide)
          exact hq w' ff ⟨mTx_fr hT ff rfl (fun _ => rfl), by omega, by rw [eE]; exact d3, by rw [eK]; exact d4, (fr_rd f' rfl).trans b5, by rw [eE]; exact d6, fun _ => by rw [eE]; exact d7, fun _ => (fr_rd f' rfl).trans b8, fun h => by omega⟩
        · have nD : ¬ bDi (bt p) = true := by rw [hno2]; exact fun h => by cases h
          have eE : tE bt n p = p + 1 := by unfold tE; rw [if_neg (by omega), if_neg nL, if_neg nD]
          rw [if_pos (show nI 0 = 0 from rfl), hP_let, b3, ep1]
          have fin2 : ∀ k : Nat, 3 ≤ k → tK bt n p = k → hP (nLet (nS (nS w3 80 23 (nI (p + 1))) 80 24 (nI k)) fun w12 => (nLet (nS w12 80 26 ((wI w12 80 23) - (wI w12 80 25))) fun w13 => (some ((), w13)))) Q := by
            intro k hk eK
            rw [hP_let, hP_let, hP_some]
            have d3 : wI (nS (nS w3 80 23 (nI (p + 1))) 80 24 (nI k)) 80 23 = nI (p + 1) := by rw [rd_nSj (by decide), rd_nS]
            have d5 : wI (nS (nS w3 80 23 (nI (p + 1))) 80 24 (nI k)) 80 25 = nI p := by rw [rd_nSj (by decide), rd_nSj (by decide)]; exact b5
            rw [d3, d5, q_sub (by omega)]
            have ff : fr pM w (nS (nS (nS w3 80 23 (nI (p + 1))) 80 24 (nI k)) 80 26 (nI (p + 1 - p))) := fr_nS (fr_nS (fr_nS f3 rfl) rfl) rfl
            refine hq _ ff ⟨mTx_fr hT ff rfl (fun _ => rfl), by omega, ?_, ?_, ?_, ?_, fun h => by omega, fun _ => ?_, fun h => by omega⟩
            · rw [rd_nSj (by decide), eE]; exact d3
            · rw [rd_nSj (by decide), rd_nS, eK]
            · rw [rd_nSj (by decide)]; exact d5
            · rw [rd_nS, eE]
            · rw [rd_nSj (by decide), rd_nSj (by decide), rd_nSj (by decide)]; exact b8
          have E : ∀ c, c < 128 → ((nI (bt p) = nI c) = (bt p = c)) := fun c hc => q_eq (by omega) (by omega)
          have K3 : bSg (bt p) = true → tK bt n p = 3 := fun hy => by unfold tK; rw [if_neg (by omega), if_neg nL, if_neg nD, if_pos hy]
          have Y := fun hy => fin2 3 (by decide) (K3 hy)
          simp only [show (59 : Int32) = nI 59 from rfl, show (40 : Int32) = nI 40 from rfl, show (41 : Int32) = nI 41 from rfl, show (43 : Int32) = nI 43 from rfl, show (45 : Int32) = nI 45 from rfl, show (42 : Int32) = nI 42 from rfl, show (47 : Int32) = nI 47 from rfl, show (60 : Int32) = nI 60 from rfl, show (61 : Int32) = nI 61 from rfl, E 59 (by decide), E 40 (by decide), E 41 (by decide), E 43 (by decide), E 45 (by decide), E 42 (by decide), E 47 (by decide), E 60 (by decide), E 61 (by decide)]
          by_cases c1 : bt p = 59
          · rw [if_pos c1]; exact Y (decide_eq_true (by omega))
          rw [if_neg c1]
          by_cases c2 : bt p = 40
          · rw [if_pos c2]; exact Y (decide_eq_true (by omega))
          rw [if_neg c2]
          by_cases c3 : bt p = 41
          · rw [if_pos c3]; exact Y (decide_eq_true (by omega))
          rw [if_neg c3]
          by_cases c4 : bt p = 43
          · rw [if_pos c4]; exact Y (decide_eq_true (by omega))
          rw [if_neg c4]
          by_cases c5 : bt p = 45
          · rw [if_pos c5]; exact Y (decide_eq_true (by omega))
          rw [if_neg c5]
          by_cases c6 : bt p = 42
          · rw [if_pos c6]; exact Y (decide_eq_true (by omega))
          rw [if_neg c6]
          by_cases c7 : bt p = 47
          · rw [if_pos c7]; exact Y (decide_eq_true (by omega))
          rw [if_neg c7]
          by_cases c8 : bt p = 60
          · rw [if_pos c8]; exact Y (decide_eq_true (by omega))
          rw [if_neg c8]
          by_cases c9 : bt p = 61
          · rw [if_pos c9]; exact Y (decide_eq_true (by omega))
          rw [if_neg c9]
          refine fin2 4 (by decide) ?_
          unfold tK
          rw [if_neg (by omega), if_neg nL, if_neg nD, if_neg]
          intro h
          have := of_decide_eq_true h
          omega
    · have eK : tK bt n p = 0 := (tK_0 bt n p).2 c1
      have eE : tE bt n p = p := by unfold tE; rw [if_pos c1]
      rw [hP_let]
      have b3 : wI (nS w2 80 28 (nI 0)) 80 23 = nI p := by rw [rd_nSj (by decide)]; exact a3
      have b5 : wI (nS w2 80 28 (nI 0)) 80 25 = nI p := by rw [rd_nSj (by decide)]; exact a5
      rw [b3, (mTx_fr hT (fr_nS f2 rfl : fr pM w (nS w2 80 28 (nI 0))) rfl (fun _ => rfl)).1, if_neg (by rw [q_lt (by omega) (by omega)]; omega), hP_let, hP_let, hP_some, rd_nSj (by decide), b3, rd_nSj (by decide), b5, q_sub (Nat.le_refl _)]
      have ff : fr pM w (nS (nS (nS w2 80 28 (nI 0)) 80 24 0) 80 26 (nI (p - p))) := fr_nS (fr_nS (fr_nS f2 rfl) rfl) rfl
      refine hq _ ff ⟨mTx_fr hT ff rfl (fun _ => rfl), by omega, ?_, ?_, ?_, ?_, fun h => by omega, fun h => by omega, fun h => by omega⟩
      · rw [rd_nSj (by decide), rd_nSj (by decide), eE]; exact b3
      · rw [rd_nSj (by decide), rd_nS, eK]; rfl
      · rw [rd_nSj (by decide), rd_nSj (by decide)]; exact b5
      · rw [rd_nS, eE]
  simp only [f187_80_b0]
  rw [k3, hT1.1]
  by_cases c1 : p < n
  · have hb := (hT1.2.2 p c1).1
    have ep : nI p + 1 = nI (p + 1) := by rw [← nI_add]; rfl
    have go : bSp (bt p) = true → hP (rec (nS w1 80 23 (nI (p + 1)))) Q := fun hy => ih (m - 1) _ (by omega) ⟨p + 1, by omega, by rw [← rnE_yes c1 hy]; exact hr, fr_nS f1 rfl, rd_nS⟩
    rw [if_pos (by rw [q_lt (by omega) (by omega)]; exact c1), hP_B]
    refine m_byte hT1 (by omega) (fun _ => ?_) (fun h => by omega)
    rw [k3, ep]
    by_cases c2 : bt p = 32
    · rw [if_pos (by rw [q_lit, q_eq (by omega) (by omega)]; exact c2), hP_let]
      exact go (decide_eq_true (.inl c2))
    · rw [if_neg (by rw [q_lit, q_eq (by omega) (by omega)]; exact c2), hP_B]
      refine m_byte hT1 (by omega) (fun _ => ?_) (fun h => by omega)
      by_cases c3 : bt p = 10
      · rw [if_pos (by rw [q_lit, q_eq (by omega) (by omega)]; exact c3), hP_let, k3, ep]
        exact go (decide_eq_true (.inr c3))
      · rw [if_neg (by rw [q_lit, q_eq (by omega) (by omega)]; exact c3)]
        exact fin (rnE_no (decide_eq_false (by omega)))
  · rw [if_neg (by rw [q_lt (by omega) (by omega)]; exact c1)]
    exact fin (rnE_end (by omega))
end GOES
