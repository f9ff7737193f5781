/-! ===== THE TEXT: its tokens ===== -/
def bSp (b : Nat) : Bool := decide (b = 32 ∨ b = 10)
def bLe (b : Nat) : Bool := decide (97 ≤ b ∧ b ≤ 122)
def bDi (b : Nat) : Bool := decide (48 ≤ b ∧ b ≤ 57)
def bSg (b : Nat) : Bool := decide (b = 59 ∨ b = 40 ∨ b = 41 ∨ b = 43 ∨ b = 45 ∨ b = 42 ∨ b = 47 ∨ b = 60 ∨ b = 61)
/-- as long as it goes on -/
def rn (P : Nat → Bool) (bt : Nat → Nat) : Nat → Nat → Nat
  | 0, p => p
  | k + 1, p => if P (bt p) = true then rn P bt k (p + 1) else p
def rnE (P : Nat → Bool) (bt : Nat → Nat) (n p : Nat) : Nat := rn P bt (n - p) p
section TOK
variable {P : Nat → Bool} {bt : Nat → Nat} {n : Nat}
theorem rn_ge : ∀ k p, p ≤ rn P bt k p
  | 0, _ => Nat.le_refl _
  | k + 1, p => by
    unfold rn
    split
    · have := rn_ge k (p + 1); omega
    · exact Nat.le_refl _
theorem rn_le : ∀ k p, rn P bt k p ≤ p + k
  | 0, _ => Nat.le_refl _
  | k + 1, p => by
    unfold rn
    split
    · have := rn_le k (p + 1); omega
    · omega
theorem rnE_ge (p : Nat) : p ≤ rnE P bt n p := rn_ge _ _
theorem rnE_le {p : Nat} (h : p ≤ n) : rnE P bt n p ≤ n := by
  have := rn_le (P := P) (bt := bt) (n - p) p
  unfold rnE
  omega
theorem rnE_end {p : Nat} (h : n ≤ p) : rnE P bt n p = p := by
  unfold rnE
  rw [show n - p = 0 by omega]
  rfl
theorem rnE_yes {p : Nat} (h : p < n) (hP : P (bt p) = true) : rnE P bt n p = rnE P bt n (p + 1) := by
  unfold rnE
  rw [show n - p = (n - (p + 1)) + 1 by omega]
  show (if P (bt p) = true then rn P bt (n - (p + 1)) (p + 1) else p) = _
  rw [if_pos hP]
theorem rnE_no {p : Nat} (hP : P (bt p) = false) : rnE P bt n p = p := by
  by_cases h : p < n
  · unfold rnE
    rw [show n - p = (n - (p + 1)) + 1 by omega]
    show (if P (bt p) = true then rn P bt (n - (p + 1)) (p + 1) else p) = _
    rw [if_neg (by rw [hP]; exact fun h => by cases h)]
  · exact rnE_end (by omega)
theorem rnE_in {p j : Nat} (h1 : p ≤ j) (h2 : j < rnE P bt n p) : P (bt j) = true := by
  have : ∀ k p, p ≤ j → j < rn P bt k p → P (bt j) = true := by
    intro k
    induction k with
    | zero =>
      intro p h1 h2
      have : j < p := h2
      omega
    | succ k ih =>
      intro p h1 h2
      unfold rn at h2
      split at h2
      · rename_i hp
        by_cases e : p = j
        · rw [← e]; exact hp
        · exact ih (p + 1) (by omega) h2
      · omega
  exact this _ _ h1 h2
end TOK
/-- the first below k -/
def fstU (p : Nat → Bool) : Nat → Option Nat
  | 0 => none
  | k + 1 => match fstU p k with
    | some j => some j
    | none => if p k = true then some k else none
theorem fstU_on {p : Nat → Bool} {i j : Nat} (h : fstU p i = some j) : ∀ m, i ≤ m → fstU p m = some j
  | 0, hm => by
    have : i = 0 := by omega
    rw [this] at h
    exact h
  | m + 1, hm => by
    by_cases e : i = m + 1
    · rw [← e]; exact h
    · have := fstU_on h m (by omega)
      show (match fstU p m with | some j => some j | none => if p m = true then some m else none) = some j
      rw [this]
theorem fstU_no {p : Nat → Bool} {i : Nat} (h : fstU p i = none) : fstU p (i + 1) = if p i = true then some i else none := by
  show (match fstU p i with | some j => some j | none => if p i = true then some i else none) = _
  rw [h]
theorem fstU_is {p : Nat → Bool} : ∀ {i j : Nat}, fstU p i = some j → j < i ∧ p j = true
  | 0, _, h => by cases h
  | i + 1, j, h => by
    cases e : fstU p i with
    | some k =>
      have h2 := fstU_on e (i + 1) (by omega)
      rw [h2] at h
      have := fstU_is e
      have hk : k = j := Option.some.inj h
      rw [← hk]
      exact ⟨by omega, this.2⟩
    | none =>
      rw [fstU_no e] at h
      by_cases c : p i = true
      · rw [if_pos c] at h
        have hk : i = j := Option.some.inj h
        rw [← hk]
        exact ⟨by omega, c⟩
      · rw [if_neg c] at h; cases h
theorem fstU_none {p : Nat → Bool} : ∀ {i : Nat}, fstU p i = none → ∀ k, k < i → p k = false
  | 0, _, _, hk => absurd hk (Nat.not_lt_zero _)
  | i + 1, h, k, hk => by
    cases e : fstU p i with
    | some j =>
      rw [fstU_on e (i + 1) (by omega)] at h
      cases h
    | none =>
      rw [fstU_no e] at h
      by_cases c : p i = true
      · rw [if_pos c] at h; cases h
      · by_cases e2 : k = i
        · rw [e2]; exact (Bool.not_eq_true _).mp c
        · exact fstU_none e k (by omega)
section TOK2
variable (bt : Nat → Nat) (n : Nat)
def tK (s : Nat) : Nat := if n ≤ s then 0 else if bLe (bt s) = true then 1 else if bDi (bt s) = true then 2 else if bSg (bt s) = true then 3 else 4
def tE (s : Nat) : Nat := if n ≤ s then s else if bLe (bt s) = true then rnE bLe bt n s else if bDi (bt s) = true then rnE bDi bt n s else s + 1
/-- the next token begins -/
def nx (s : Nat) : Nat := rnE bSp bt n (tE bt n s)
/-- the first k digits -/
def dv (s : Nat) : Nat → Nat
  | 0 => 0
  | k + 1 => 10 * dv s k + (bt (s + k) - 48)
def tV (s : Nat) : Nat := if tE bt n s - s ≤ 4 then dv bt s (tE bt n s - s) else 10000
def wdB (k : Nat) : List Nat := (oByt.getD k []).map (fun b => b.toNatClampNeg)
def spl (s k : Nat) : Bool := decide ((wdB k).length = tE bt n s - s) && (List.range (wdB k).length).all (fun j => decide (bt (s + j) = (wdB k).getD j 0))
def tW (s : Nat) : Option Nat := if tK bt n s = 1 then fstU (spl bt n s) 25 else none
theorem tE_ge (s : Nat) : s ≤ tE bt n s := by
  unfold tE
  split
  · exact Nat.le_refl _
  · split
    · exact rnE_ge s
    · split
      · exact rnE_ge s
      · omega
theorem tE_le {s : Nat} (h : s ≤ n) : tE bt n s ≤ n := by
  unfold tE
  split
  · exact h
  · split
    · exact rnE_le h
    · split
      · exact rnE_le h
      · omega
theorem tE_gt {s : Nat} (h : s < n) : s < tE bt n s := by
  unfold tE
  rw [if_neg (by omega)]
  split
  · rename_i hb
    rw [rnE_yes h hb]
    have := rnE_ge (P := bLe) (bt := bt) (n := n) (s + 1)
    omega
  · split
    · rename_i hb
      rw [rnE_yes h hb]
      have := rnE_ge (P := bDi) (bt := bt) (n := n) (s + 1)
      omega
    · omega
theorem nx_le {s : Nat} (h : s ≤ n) : nx bt n s ≤ n := rnE_le (tE_le bt n h)
theorem nx_gt {s : Nat} (h : s < n) : s < nx bt n s := Nat.lt_of_lt_of_le (tE_gt bt n h) (rnE_ge _)
theorem nx_ge (s : Nat) : s ≤ nx bt n s := Nat.le_trans (tE_ge bt n s) (rnE_ge _)
theorem tK_le (s : Nat) : tK bt n s ≤ 4 := by
  unfold tK
  repeat' split
  all_goals omega
theorem tK_0 (s : Nat) : tK bt n s = 0 ↔ n ≤ s := by
  unfold tK
  by_cases h : n ≤ s
  · rw [if_pos h]; exact ⟨fun _ => h, fun _ => rfl⟩
  · rw [if_neg h]
    refine ⟨fun hh => ?_, fun hh => absurd hh h⟩
    split at hh
    · cases hh
    · split at hh
      · cases hh
      · split at hh <;> cases hh
theorem dv_le (s : Nat) (hd : ∀ j, s ≤ j → bt j - 48 ≤ 9) : ∀ k, dv bt s k < 10 ^ k
  | 0 => Nat.zero_lt_one
  | k + 1 => by
    have h1 := dv_le s hd k
    have h2 := hd (s + k) (by omega)
    show 10 * dv bt s k + (bt (s + k) - 48) < 10 ^ (k + 1)
    rw [Nat.pow_succ]
    omega
end TOK2
/-! the class reads on -/
def fz (p : fP) (w w' : mW) : Prop := (∀ a j, fIn p a j = false → wI w' a j = wI w a j) ∧ (∀ a j, fIn p a j = false → wJ w' a j = wJ w a j) ∧ w'.2.2.2.2 = w.2.2.2.2
theorem fz_refl {p : fP} {w : mW} : fz p w w := ⟨fun _ _ _ => rfl, fun _ _ _ => rfl, rfl⟩
theorem fz_then {q p : fP} {w w1 w2 : mW} (h : fz p w w1) (hq : fz q w1 w2) (hl : fLe q p = true) : fz p w w2 :=
  ⟨fun a j hp => (hq.1 a j (fLe_no hl hp)).trans (h.1 a j hp), fun a j hp => (hq.2.1 a j (fLe_no hl hp)).trans (h.2.1 a j hp), hq.2.2.trans h.2.2⟩
theorem fz_up {q p : fP} {w w' : mW} (h : fz q w w') (hl : fLe q p = true) : fz p w w' := fz_then fz_refl h hl
theorem fz_fr {p : fP} {w w1 w2 : mW} (h : fz p w w1) (hq : fr p w1 w2) : fz p w w2 :=
  ⟨fun a j hp => (hq.1 a j hp).trans (h.1 a j hp), fun a j hp => (hq.2.1 a j hp).trans (h.2.1 a j hp), by rw [hq.2.2]; exact h.2.2⟩
theorem fz_nS {p : fP} {w w1 : mW} {a j : Nat} {v : Int32} (h : fz p w w1) (hp : fIn p a j = true) : fz p w (nS w1 a j v) := fz_fr h (fr_nS fr_refl hp)
theorem fz_nSJ {p : fP} {w w1 : mW} {a j : Nat} {v : Int64} (h : fz p w w1) (hp : fIn p a j = true) : fz p w (nSJ w1 a j v) := fz_fr h (fr_nSJ fr_refl hp)
theorem fz_nSW {p : fP} {w w1 : mW} {o : Option Nat} (h : fz p w w1) : fz p w (nSW w1 o) := h
theorem fz_nST {p : fP} {w w1 : mW} {o : Option Nat} (h : fz p w w1) : fz p w (nST w1 o) := h
theorem fz_rd {p : fP} {w w' : mW} (h : fz p w w') {a j : Nat} (hp : fIn p a j = false) : wI w' a j = wI w a j := h.1 a j hp
theorem sBy_eq {b c : Nat} (hb : b < 256) (hc : c < 128) : (sBy b = nI c) = (b = c) := by
  unfold sBy
  split
  · rw [q_eq (by omega) (by omega)]
  · rw [q_mp_eq (by omega) (by omega)]
    exact propext ⟨fun h => by omega, fun h => by omega⟩
theorem sBy_lt {b c : Nat} (hb : b < 256) (hc : c < 128) : (sBy b < nI c) = (b < c ∨ 128 ≤ b) := by
  unfold sBy
  split
  · rw [q_lt (by omega) (by omega)]
    exact propext ⟨fun h => .inl h, fun h => by omega⟩
  · rw [q_mp_lt (by omega) (by omega)]
    exact propext ⟨fun h => by omega, fun h => by omega⟩
theorem sBy_gt {b c : Nat} (hb : b < 256) (hc : c < 128) : (nI c < sBy b) = (c < b ∧ b < 128) := by
  unfold sBy
  split
  · rw [q_lt (by omega) (by omega)]
    exact propext ⟨fun h => ⟨h, by omega⟩, fun h => h.1⟩
  · rw [q_pm_lt (by omega) (by omega)]
    exact propext ⟨fun h => h.elim, fun h => by omega⟩
section TOKC
variable {bt : Nat → Nat} {n : Nat} {w : mW}
theorem c_isL {Q : Int32 → mW → Prop} {b : Nat} (hb : b < 256) (h1 : bLe b = true → Q (nI 1) w) (h0 : bLe b = false → Q (nI 0) w) : hP (f76 (sBy b) w) Q := by
  unfold f76
  simp only [q_lit, sBy_lt hb (show 97 < 128 by decide), sBy_gt hb (show 122 < 128 by decide)]
  by_cases c1 : b < 97 ∨ 128 ≤ b
  · rw [if_pos c1, hP_some]; exact h0 (decide_eq_false (by omega))
  · rw [if_neg c1]
    by_cases c2 : 122 < b ∧ b < 128
    · rw [if_pos c2, hP_some]; exact h0 (decide_eq_false (by omega))
    · rw [if_neg c2, hP_some]; exact h1 (decide_eq_true (by omega))
theorem c_isD {Q : Int32 → mW → Prop} {b : Nat} (hb : b < 256) (h1 : bDi b = true → Q (nI 1) w) (h0 : bDi b = false → Q (nI 0) w) : hP (f77 (sBy b) w) Q := by
  unfold f77
  simp only [q_lit, sBy_lt hb (show 48 < 128 by decide), sBy_gt hb (show 57 < 128 by decide)]
  by_cases c1 : b < 48 ∨ 128 ≤ b
  · rw [if_pos c1, hP_some]; exact h0 (decide_eq_false (by omega))
  · rw [if_neg c1]
    by_cases c2 : 57 < b ∧ b < 128
    · rw [if_pos c2, hP_some]; exact h0 (decide_eq_false (by omega))
    · rw [if_neg c2, hP_some]; exact h1 (decide_eq_true (by omega))
theorem c_isG {Q : Int32 → mW → Prop} {b : Nat} (hb : b < 256) (h1 : bSg b = true → Q (nI 1) w) (h0 : bSg b = false → Q (nI 0) w) : hP (f78 (sBy b) w) Q := by
  unfold f78
  simp only [q_lit, sBy_eq hb (show 59 < 128 by decide), sBy_eq hb (show 40 < 128 by decide), sBy_eq hb (show 41 < 128 by decide), sBy_eq hb (show 43 < 128 by decide), sBy_eq hb (show 45 < 128 by decide), sBy_eq hb (show 42 < 128 by decide), sBy_eq hb (show 47 < 128 by decide), sBy_eq hb (show 60 < 128 by decide), sBy_eq hb (show 61 < 128 by decide), hP_if, hP_some]
  by_cases c : b = 59 ∨ b = 40 ∨ b = 41 ∨ b = 43 ∨ b = 45 ∨ b = 42 ∨ b = 47 ∨ b = 60 ∨ b = 61
  · have := h1 (decide_eq_true c)
    repeat' split
    all_goals first | exact this | (exfalso; omega)
  · have := h0 (decide_eq_false c)
    repeat' split
    all_goals first | exact this | (exfalso; omega)
/-- the class has the text -/
def cTx (bt : Nat → Nat) (n : Nat) (w : mW) : Prop := nTx w = some 1 ∧ wI w 21 1 = nI n ∧ n ≤ 700 ∧ ∀ i, i < n → bt i < 256 ∧ wI w 1 i = sBy (bt i)
/-- the class stands at the token that begins at s -/
def tkC (bt : Nat → Nat) (n s : Nat) (w : mW) : Prop := cTx bt n w ∧ s ≤ n ∧ wI w 21 2 = nI (tE bt n s) ∧ wI w 21 3 = nI s ∧ wI w 21 4 = nI (tK bt n s) ∧ nWd w = (tW bt n s).map (fun k => 1000000 + k) ∧ (tK bt n s = 2 → wI w 21 6 = nI (tV bt n s)) ∧ (3 ≤ tK bt n s → wI w 21 7 = sBy (bt s))
abbrev pT : fP := ([], [(21, 2), (21, 3), (21, 4), (21, 6), (21, 7)])
theorem cTx_fz {p : fP} {w w' : mW} (h : cTx bt n w) (hf : fz p w w') (hx : nTx w' = nTx w) (h1 : fIn p 21 1 = false) (h2 : ∀ i, fIn p 1 i = false) : cTx bt n w' :=
  ⟨hx.trans h.1, (fz_rd hf h1).trans h.2.1, h.2.2.1, fun i hi => ⟨(h.2.2.2 i hi).1, (fz_rd hf (h2 i)).trans (h.2.2.2 i hi).2⟩⟩
/-- a number -/
theorem c_num {Q : Unit → mW → Prop} {s : Nat} (hT : cTx bt n w) (hs : s < n) (hd : bDi (bt s) = true) (h2 : wI w 21 2 = nI s) (h3 : wI w 21 3 = nI s)
    (hq : ∀ w', fz pT w w' → nTx w' = nTx w → nWd w' = nWd w → wI w' 21 2 = nI (rnE bDi bt n s) → wI w' 21 3 = nI s → wI w' 21 4 = nI 2 → wI w' 21 6 = nI (if rnE bDi bt n s - s ≤ 4 then dv bt s (rnE bDi bt n s - s) else 10000) → Q () w') : hP (f72_21 w) Q := by
  unfold f72_21
  rw [hP_let, hP_let]
  have hn := hT.2.2.1
  refine hP_loopF (fun m w1 => ∃ p, p + m = n ∧ s ≤ p ∧ rnE bDi bt n p = rnE bDi bt n s ∧ fz pT w w1 ∧ nTx w1 = nTx w ∧ nWd w1 = nWd w ∧ wI w1 21 2 = nI p ∧ wI w1 21 3 = nI s ∧ wI w1 21 4 = nI 2 ∧ (∀ j, s ≤ j → j < p → bDi (bt j) = true) ∧ wI w1 21 6 = nI (if p - s ≤ 4 then dv bt s (p - s) else 10000)) (n - s) (by omega) ⟨s, by omega, Nat.le_refl _, rfl, fz_nS (fz_nS fz_refl rfl) rfl, rfl, rfl, ?_, ?_, ?_, fun j h1 h2 => by omega, ?_⟩ ?_
  · rw [rd_nSj (by decide), rd_nSj (by decide)]; exact h2
  · rw [rd_nSj (by decide), rd_nSj (by decide)]; exact h3
  · rw [rd_nSj (by decide), rd_nS]; rfl
  · rw [rd_nS, Nat.sub_self, if_pos (by decide)]; rfl
  rintro m w1 rec ⟨p, hpm, hsp, hr, f1, hx, hwd, k2, k3, k4, hall, k6⟩ ih
  have hT1 : cTx bt n w1 := cTx_fz hT f1 hx rfl (fun _ => rfl)
  simp only [f72_21_b10]
  rw [k2, hT1.2.1]
  by_cases c1 : p < n
  · obtain ⟨hb, hby⟩ := hT1.2.2.2 p c1
    rw [if_pos (by rw [q_lt (by omega) (by omega)]; exact c1), hP_gd, hP_gd, hP_B, q_cl (by omega), hby]
    refine ⟨decide_eq_true hT1.1, by rw [q_g (by omega)]; omega, ?_⟩
    have ep : nI p + 1 = nI (p + 1) := by rw [← nI_add]; rfl
    refine c_isD hb (fun hy => ?_) (fun hno => ?_)
    · have hr2 : rnE bDi bt n (p + 1) = rnE bDi bt n s := by rw [← rnE_yes c1 hy]; exact hr
      have hall2 : ∀ j, s ≤ j → j < p + 1 → bDi (bt j) = true := by
        intro j a1 a2
        by_cases e : j = p
        · rw [e]; exact hy
        · exact hall j a1 (by omega)
      rw [if_neg (by decide), k2, k3, q_sub hsp]
      by_cases c2 : p - s < 4
      · have hd48 : 48 ≤ bt p ∧ bt p ≤ 57 := of_decide_eq_true hy
        have hb2 : sBy (bt p) = nI (bt p) := if_pos (by omega)
        have hdv : dv bt s (p - s) < 10 ^ (p - s) := by
          have key : ∀ k, k ≤ p - s → dv bt s k < 10 ^ k := by
            intro k
            induction k with
            | zero => intro _; exact Nat.zero_lt_one
            | succ k ihk =>
              intro hk
              have a1 := ihk (by omega)
              have a2 : 48 ≤ bt (s + k) ∧ bt (s + k) ≤ 57 := of_decide_eq_true (hall (s + k) (by omega) (by omega))
              show 10 * dv bt s k + (bt (s + k) - 48) < 10 ^ (k + 1)
              rw [Nat.pow_succ]
              omega
          exact key _ (Nat.le_refl _)
        have hpw : 10 ^ (p - s) ≤ 10 ^ 3 := Nat.pow_le_pow_right (by decide) (by omega)
        have ev : nI (dv bt s (p - s)) * 10 + nI (bt p) - 48 = nI (dv bt s (p + 1 - s)) := by
          rw [show p + 1 - s = (p - s) + 1 by omega]
          show nI (dv bt s (p - s)) * nI 10 + nI (bt p) - nI 48 = nI (10 * dv bt s (p - s) + (bt (s + (p - s)) - 48))
          rw [pk_mul, nI_add, q_sub (by omega), show s + (p - s) = p by omega]
          congr 1
          omega
        rw [if_pos (by rw [q_lit, q_lt (by omega) (by omega)]; exact c2), hP_gd, hP_gd, hP_let, hP_let, q_cl (by omega), hby, hb2, k6, if_pos (by omega), ev, rd_nSj (by decide), k2, ep]
        refine ⟨decide_eq_true hT1.1, by rw [q_g (by omega)]; omega, ih (m - 1) _ (by omega) ⟨p + 1, by omega, by omega, hr2, fz_nS (fz_nS f1 rfl) rfl, hx, hwd, rd_nS, ?_, ?_, hall2, ?_⟩⟩
        · rw [rd_nSj (by decide), rd_nSj (by decide)]; exact k3
        · rw [rd_nSj (by decide), rd_nSj (by decide)]; exact k4
        · rw [rd_nSj (by decide), rd_nS, if_pos (by omega)]
      · rw [if_neg (by rw [q_lit, q_lt (by omega) (by omega)]; exact c2), hP_let, hP_let, rd_nSj (by decide), k2, ep]
        refine ih (m - 1) _ (by omega) ⟨p + 1, by omega, by omega, hr2, fz_nS (fz_nS f1 rfl) rfl, hx, hwd, rd_nS, ?_, ?_, hall2, ?_⟩
        · rw [rd_nSj (by decide), rd_nSj (by decide)]; exact k3
        · rw [rd_nSj (by decide), rd_nSj (by decide)]; exact k4
        · rw [rd_nSj (by decide), rd_nS, if_neg (by omega)]; rfl
    · have e : rnE bDi bt n s = p := by rw [← hr]; exact rnE_no hno
      rw [if_pos (show nI 0 = 0 from rfl), hP_some]
      exact hq w1 f1 hx hwd (by rw [e]; exact k2) k3 k4 (by rw [e]; exact k6)
  · have e : rnE bDi bt n s = p := by rw [← hr]; exact rnE_end (by omega)
    rw [if_neg (by rw [q_lt (by omega) (by omega)]; exact c1), hP_some]
    exact hq w1 f1 hx hwd (by rw [e]; exact k2) k3 k4 (by rw [e]; exact k6)
end TOKC
