/-! ===== THE NUMBERS BEHIND BOTH SIDES: g 0: wide, high, swimmers, looks, last, tire, games, cases, chair, minutes; 1 deep, 2 glare, 3 skill, 4 cases, 5 who is where, 6 looks' cells, 7 their seconds ===== -/
abbrev gS : Type := Nat → Nat → Nat
abbrev gW (g : gS) : Nat := g 0 0
abbrev gH (g : gS) : Nat := g 0 1
abbrev gSw (g : gS) : Nat := g 0 2
abbrev gLk (g : gS) : Nat := g 0 3
abbrev gLa (g : gS) : Nat := g 0 4
abbrev gTi (g : gS) : Nat := g 0 5
abbrev gGa (g : gS) : Nat := g 0 6
abbrev gCa (g : gS) : Nat := g 0 7
abbrev gCh (g : gS) : Nat := g 0 8
abbrev gMi (g : gS) : Nat := g 0 9
/-- which cases were trouble, as bits -/
def gTro (g : gS) : Nat → Nat
  | 0 => 0
  | n + 1 => gTro g n + (if g 4 (5 * n + 4) = 1 then 2 ^ n else 0)
def gOk (g : gS) : Prop := (1 ≤ gW g ∧ gW g ≤ 8) ∧ (1 ≤ gH g ∧ gH g ≤ 5) ∧ (gSw g ≤ 12) ∧ (gLk g ≤ 12) ∧ (1 ≤ gLa g ∧ gLa g ≤ 300) ∧ (1 ≤ gTi g ∧ gTi g ≤ 99) ∧ (gGa g ≤ 4) ∧ (gCa g ≤ 10) ∧ (gCh g < gW g * gH g) ∧ (gMi g ≤ 999) ∧ (gW g * gH g ≤ 40) ∧ (∀ c, c < 40 → g 1 c ≤ 9) ∧ (∀ c, c < 40 → g 2 c ≤ 9) ∧ (∀ s, s < gSw g → g 3 s ≤ 9) ∧ (∀ i, i < 5 * gCa g → g 4 i ≤ 9) ∧ (∀ s, s < gSw g → g 5 s < gW g * gH g) ∧ (∀ k, k < gLk g → g 6 k < gW g * gH g) ∧ (∀ k, k < gLk g → g 7 k ≤ 9)
theorem gOk_wd {g : gS} (h : gOk g) : 1 ≤ gW g ∧ gW g ≤ 8 := h.1
theorem gOk_hi {g : gS} (h : gOk g) : 1 ≤ gH g ∧ gH g ≤ 5 := h.2.1
theorem gOk_sw {g : gS} (h : gOk g) : gSw g ≤ 12 := h.2.2.1
theorem gOk_lk {g : gS} (h : gOk g) : gLk g ≤ 12 := h.2.2.2.1
theorem gOk_la {g : gS} (h : gOk g) : 1 ≤ gLa g ∧ gLa g ≤ 300 := h.2.2.2.2.1
theorem gOk_ti {g : gS} (h : gOk g) : 1 ≤ gTi g ∧ gTi g ≤ 99 := h.2.2.2.2.2.1
theorem gOk_ga {g : gS} (h : gOk g) : gGa g ≤ 4 := h.2.2.2.2.2.2.1
theorem gOk_ca {g : gS} (h : gOk g) : gCa g ≤ 10 := h.2.2.2.2.2.2.2.1
theorem gOk_ch {g : gS} (h : gOk g) : gCh g < gW g * gH g := h.2.2.2.2.2.2.2.2.1
theorem gOk_mi {g : gS} (h : gOk g) : gMi g ≤ 999 := h.2.2.2.2.2.2.2.2.2.1
theorem gOk_n {g : gS} (h : gOk g) : gW g * gH g ≤ 40 := h.2.2.2.2.2.2.2.2.2.2.1
theorem gOk_deep {g : gS} (h : gOk g) : ∀ c, c < 40 → g 1 c ≤ 9 := h.2.2.2.2.2.2.2.2.2.2.2.1
theorem gOk_glare {g : gS} (h : gOk g) : ∀ c, c < 40 → g 2 c ≤ 9 := h.2.2.2.2.2.2.2.2.2.2.2.2.1
theorem gOk_skill {g : gS} (h : gOk g) : ∀ s, s < gSw g → g 3 s ≤ 9 := h.2.2.2.2.2.2.2.2.2.2.2.2.2.1
theorem gOk_case {g : gS} (h : gOk g) : ∀ i, i < 5 * gCa g → g 4 i ≤ 9 := h.2.2.2.2.2.2.2.2.2.2.2.2.2.2.1
theorem gOk_at {g : gS} (h : gOk g) : ∀ s, s < gSw g → g 5 s < gW g * gH g := h.2.2.2.2.2.2.2.2.2.2.2.2.2.2.2.1
theorem gOk_lat {g : gS} (h : gOk g) : ∀ k, k < gLk g → g 6 k < gW g * gH g := h.2.2.2.2.2.2.2.2.2.2.2.2.2.2.2.2.1
theorem gOk_las {g : gS} (h : gOk g) : ∀ k, k < gLk g → g 7 k ≤ 9 := h.2.2.2.2.2.2.2.2.2.2.2.2.2.2.2.2.2
def rM (g : gS) (w : mW) : Prop := (wI w 80 1 = nI (gW g)) ∧ (wI w 80 2 = nI (gH g)) ∧ (wI w 80 3 = nI (gSw g)) ∧ (wI w 80 4 = nI (gLk g)) ∧ (wI w 80 5 = nI (gLa g)) ∧ (wI w 80 6 = nI (gTi g)) ∧ (wI w 80 7 = nI (gGa g)) ∧ (wI w 80 8 = nI (gCa g)) ∧ (wI w 100 36 = nI (gCh g)) ∧ (wI w 100 37 = nI (gMi g)) ∧ (∀ c, c < 40 → wI w 81 c = nI (g 1 c)) ∧ (∀ c, c < 40 → wI w 82 c = nI (g 2 c)) ∧ (∀ s, s < gSw g → wI w 83 s = nI (g 3 s)) ∧ (∀ i, i < 5 * gCa g → wI w 84 i = nI (g 4 i)) ∧ (∀ s, s < gSw g → wI w 100 s = nI (g 5 s)) ∧ (∀ k, k < gLk g → wI w 100 (12 + k) = nI (g 6 k)) ∧ (∀ k, k < gLk g → wI w 100 (24 + k) = nI (g 7 k))
theorem rM_wd {g : gS} {w : mW} (h : rM g w) : wI w 80 1 = nI (gW g) := h.1
theorem rM_hi {g : gS} {w : mW} (h : rM g w) : wI w 80 2 = nI (gH g) := h.2.1
theorem rM_sw {g : gS} {w : mW} (h : rM g w) : wI w 80 3 = nI (gSw g) := h.2.2.1
theorem rM_lk {g : gS} {w : mW} (h : rM g w) : wI w 80 4 = nI (gLk g) := h.2.2.2.1
theorem rM_la {g : gS} {w : mW} (h : rM g w) : wI w 80 5 = nI (gLa g) := h.2.2.2.2.1
theorem rM_ti {g : gS} {w : mW} (h : rM g w) : wI w 80 6 = nI (gTi g) := h.2.2.2.2.2.1
theorem rM_ga {g : gS} {w : mW} (h : rM g w) : wI w 80 7 = nI (gGa g) := h.2.2.2.2.2.2.1
theorem rM_ca {g : gS} {w : mW} (h : rM g w) : wI w 80 8 = nI (gCa g) := h.2.2.2.2.2.2.2.1
theorem rM_ch {g : gS} {w : mW} (h : rM g w) : wI w 100 36 = nI (gCh g) := h.2.2.2.2.2.2.2.2.1
theorem rM_mi {g : gS} {w : mW} (h : rM g w) : wI w 100 37 = nI (gMi g) := h.2.2.2.2.2.2.2.2.2.1
theorem rM_deep {g : gS} {w : mW} (h : rM g w) : ∀ c, c < 40 → wI w 81 c = nI (g 1 c) := h.2.2.2.2.2.2.2.2.2.2.1
theorem rM_glare {g : gS} {w : mW} (h : rM g w) : ∀ c, c < 40 → wI w 82 c = nI (g 2 c) := h.2.2.2.2.2.2.2.2.2.2.2.1
theorem rM_skill {g : gS} {w : mW} (h : rM g w) : ∀ s, s < gSw g → wI w 83 s = nI (g 3 s) := h.2.2.2.2.2.2.2.2.2.2.2.2.1
theorem rM_case {g : gS} {w : mW} (h : rM g w) : ∀ i, i < 5 * gCa g → wI w 84 i = nI (g 4 i) := h.2.2.2.2.2.2.2.2.2.2.2.2.2.1
theorem rM_at {g : gS} {w : mW} (h : rM g w) : ∀ s, s < gSw g → wI w 100 s = nI (g 5 s) := h.2.2.2.2.2.2.2.2.2.2.2.2.2.2.1
theorem rM_lat {g : gS} {w : mW} (h : rM g w) : ∀ k, k < gLk g → wI w 100 (12 + k) = nI (g 6 k) := h.2.2.2.2.2.2.2.2.2.2.2.2.2.2.2.1
theorem rM_las {g : gS} {w : mW} (h : rM g w) : ∀ k, k < gLk g → wI w 100 (24 + k) = nI (g 7 k) := h.2.2.2.2.2.2.2.2.2.2.2.2.2.2.2.2
def rC (g : gS) (w : mW) : Prop := (wI w 24 0 = nI (gW g)) ∧ (wI w 24 1 = nI (gH g)) ∧ (wI w 24 4 = nI (gSw g)) ∧ (wI w 24 6 = nI (gLk g)) ∧ (wI w 24 7 = nI (gLa g)) ∧ (wI w 24 8 = nI (gTi g)) ∧ (wI w 24 9 = nI (gGa g)) ∧ (wI w 24 10 = nI (gCa g)) ∧ (wI w 34 1 = nI (gCh g)) ∧ (wI w 34 4 = nI (gMi g)) ∧ (∀ c, c < 40 → wI w 25 c = nI (g 1 c)) ∧ (∀ c, c < 40 → wI w 26 c = nI (g 2 c)) ∧ (∀ s, s < gSw g → wI w 27 s = nI (g 3 s)) ∧ (∀ i j, i < gCa g → j < 4 → wI w 28 (4 * i + j) = nI (g 4 (5 * i + j))) ∧ (wI w 24 12 = nI (gTro g (gCa g))) ∧ (∀ s, s < gSw g → wI w 35 s = nI (g 5 s)) ∧ (∀ k, k < gLk g → wI w 36 k = nI (g 6 k)) ∧ (∀ k, k < gLk g → wI w 37 k = nI (g 7 k))
theorem rC_wd {g : gS} {w : mW} (h : rC g w) : wI w 24 0 = nI (gW g) := h.1
theorem rC_hi {g : gS} {w : mW} (h : rC g w) : wI w 24 1 = nI (gH g) := h.2.1
theorem rC_sw {g : gS} {w : mW} (h : rC g w) : wI w 24 4 = nI (gSw g) := h.2.2.1
theorem rC_lk {g : gS} {w : mW} (h : rC g w) : wI w 24 6 = nI (gLk g) := h.2.2.2.1
theorem rC_la {g : gS} {w : mW} (h : rC g w) : wI w 24 7 = nI (gLa g) := h.2.2.2.2.1
theorem rC_ti {g : gS} {w : mW} (h : rC g w) : wI w 24 8 = nI (gTi g) := h.2.2.2.2.2.1
theorem rC_ga {g : gS} {w : mW} (h : rC g w) : wI w 24 9 = nI (gGa g) := h.2.2.2.2.2.2.1
theorem rC_ca {g : gS} {w : mW} (h : rC g w) : wI w 24 10 = nI (gCa g) := h.2.2.2.2.2.2.2.1
theorem rC_ch {g : gS} {w : mW} (h : rC g w) : wI w 34 1 = nI (gCh g) := h.2.2.2.2.2.2.2.2.1
theorem rC_mi {g : gS} {w : mW} (h : rC g w) : wI w 34 4 = nI (gMi g) := h.2.2.2.2.2.2.2.2.2.1
theorem rC_deep {g : gS} {w : mW} (h : rC g w) : ∀ c, c < 40 → wI w 25 c = nI (g 1 c) := h.2.2.2.2.2.2.2.2.2.2.1
theorem rC_glare {g : gS} {w : mW} (h : rC g w) : ∀ c, c < 40 → wI w 26 c = nI (g 2 c) := h.2.2.2.2.2.2.2.2.2.2.2.1
theorem rC_skill {g : gS} {w : mW} (h : rC g w) : ∀ s, s < gSw g → wI w 27 s = nI (g 3 s) := h.2.2.2.2.2.2.2.2.2.2.2.2.1
theorem rC_case {g : gS} {w : mW} (h : rC g w) : ∀ i j, i < gCa g → j < 4 → wI w 28 (4 * i + j) = nI (g 4 (5 * i + j)) := h.2.2.2.2.2.2.2.2.2.2.2.2.2.1
theorem rC_tro {g : gS} {w : mW} (h : rC g w) : wI w 24 12 = nI (gTro g (gCa g)) := h.2.2.2.2.2.2.2.2.2.2.2.2.2.2.1
theorem rC_at {g : gS} {w : mW} (h : rC g w) : ∀ s, s < gSw g → wI w 35 s = nI (g 5 s) := h.2.2.2.2.2.2.2.2.2.2.2.2.2.2.2.1
theorem rC_lat {g : gS} {w : mW} (h : rC g w) : ∀ k, k < gLk g → wI w 36 k = nI (g 6 k) := h.2.2.2.2.2.2.2.2.2.2.2.2.2.2.2.2.1
theorem rC_las {g : gS} {w : mW} (h : rC g w) : ∀ k, k < gLk g → wI w 37 k = nI (g 7 k) := h.2.2.2.2.2.2.2.2.2.2.2.2.2.2.2.2.2
/-! sums over looks and swimmers -/
def gRnd (g : gS) : Nat → Nat
  | 0 => 0
  | n + 1 => gRnd g n + g 7 n
theorem gRnd_le {g : gS} (ho : gOk g) : ∀ k, k ≤ gLk g → gRnd g k ≤ 9 * k
  | 0, _ => Nat.le_refl _
  | k + 1, h => by
    have h1 := gRnd_le ho k (by omega)
    have h2 := gOk_las ho k (by omega)
    show gRnd g k + g 7 k ≤ _
    omega
def gWho (g : gS) (c : Nat) : Nat → Nat
  | 0 => 0
  | n + 1 => gWho g c n + (if g 5 n = c then 2 ^ n else 0)
theorem gWho_lt (g : gS) (c : Nat) : ∀ n, gWho g c n < 2 ^ n
  | 0 => Nat.zero_lt_one
  | n + 1 => by
    have h1 := gWho_lt g c n
    show gWho g c n + _ < _
    rw [Nat.pow_succ]
    split <;> omega
def gCnt (g : gS) (c : Nat) : Nat → Nat
  | 0 => 0
  | n + 1 => gCnt g c n + (if g 5 n = c then 1 else 0)
theorem gCnt_le (g : gS) (c : Nat) : ∀ n, gCnt g c n ≤ n
  | 0 => Nat.le_refl _
  | n + 1 => by
    have h1 := gCnt_le g c n
    show gCnt g c n + _ ≤ _
    split <;> omega
def nBts (v : Nat) : Nat → Nat
  | 0 => 0
  | n + 1 => nBts v n + v / 2 ^ n % 2
theorem nBts_le (v : Nat) : ∀ n, nBts v n ≤ n
  | 0 => Nat.le_refl _
  | n + 1 => by
    have h1 := nBts_le v n
    show nBts v n + _ ≤ _
    omega
theorem nBts_add {v n : Nat} (h : v < 2 ^ n) (m : Nat) : nBts (v + 2 ^ n) m = nBts v m + (if n < m then 1 else 0) := by
  induction m with
  | zero => rfl
  | succ m ih =>
    show nBts (v + 2 ^ n) m + (v + 2 ^ n) / 2 ^ m % 2 = nBts v m + v / 2 ^ m % 2 + _
    rw [ih]
    rcases Nat.lt_trichotomy n m with h1 | h1 | h1
    · have h2 : v + 2 ^ n < 2 ^ m := by
        have : 2 ^ (n + 1) ≤ 2 ^ m := Nat.pow_le_pow_right (by decide) h1
        rw [Nat.pow_succ] at this
        omega
      rw [Nat.div_eq_of_lt h2, Nat.div_eq_of_lt (by omega), if_pos h1, if_pos (by omega)]
    · subst h1
      rw [Nat.add_div_right _ (Nat.two_pow_pos n), Nat.div_eq_of_lt h, if_neg (by omega), if_pos (by omega)]
    · have h2 : 2 ^ n = 2 ^ m * (2 * 2 ^ (n - m - 1)) := by
        rw [← Nat.mul_assoc, ← Nat.pow_succ, ← Nat.pow_add]
        congr 1
        omega
      rw [h2, Nat.add_mul_div_left _ _ (Nat.two_pow_pos m), if_neg (by omega), if_neg (by omega)]
      omega
theorem nBts_who (g : gS) (c : Nat) (m : Nat) : ∀ n, n ≤ m → nBts (gWho g c n) m = gCnt g c n
  | 0, _ => by
    have h : ∀ m, nBts 0 m = 0 := by
      intro m
      induction m with
      | zero => rfl
      | succ m ih => show nBts 0 m + 0 / 2 ^ m % 2 = 0; rw [ih]; simp
    exact h m
  | n + 1, h => by
    have ih := nBts_who g c m n (by omega)
    show nBts (gWho g c n + _) m = gCnt g c n + _
    split
    · rw [nBts_add (gWho_lt g c n), ih, if_pos (by omega)]
    · exact ih
theorem gWho_0 (g : gS) (c : Nat) : ∀ n, gWho g c n = 0 ↔ gCnt g c n = 0
  | 0 => Iff.rfl
  | n + 1 => by
    have ih := gWho_0 g c n
    have hp := Nat.two_pow_pos n
    show gWho g c n + _ = 0 ↔ gCnt g c n + _ = 0
    split <;> omega
/-! bits of ints -/
theorem sd_32 {k : Nat} (h : k < 32) : ((nI k &&& 31).toBitVec.smod 32).toNat = k := by
  have g : ∀ k, k < 32 → ((nI k &&& 31).toBitVec.smod 32).toNat = k := by decide +kernel
  exact g k h
theorem q_shr {a k : Nat} (ha : a < 2147483648) (hk : k < 32) : nShr (nI a) (nI k) = nI (a / 2 ^ k) := pk_shrN ha _ k (sd_32 hk)
theorem q_shl {a k : Nat} (hk : k < 32) (h : a * 2 ^ k < 4294967296) : nShl (nI a) (nI k) = nI (a * 2 ^ k) := pk_shlN _ k (sd_32 hk) h
theorem q_and1 {a : Nat} (ha : a < 2147483648) : nI a &&& nI 1 = nI (a % 2) := pk_andN (by omega) 1 (by decide)
theorem q_or0 (x : Int32) : x ||| nI 0 = x := by
  rw [← Int32.toBitVec_inj]
  show x.toBitVec ||| 0#32 = _
  simp
theorem q_or {a n : Nat} (h : a < 2 ^ n) : nI a ||| nI (2 ^ n) = nI (a + 2 ^ n) := by
  have e : a + 2 ^ n = a ||| 2 ^ n := by
    have := Nat.two_pow_add_eq_or_of_lt h 1
    rw [Nat.mul_one] at this
    rw [Nat.add_comm, this, Nat.or_comm]
  rw [e, ← Int32.toBitVec_inj]
  show BitVec.ofNat 32 a ||| BitVec.ofNat 32 (2 ^ n) = BitVec.ofNat 32 (a ||| 2 ^ n)
  exact BitVec.ofNat_or.symm
/-! what is far -/
def nDf (a b : Nat) : Nat := (a - b) + (b - a)
def gFar (g : gS) (ch c : Nat) : Nat := nDf (c % gW g) (ch % gW g) + nDf (c / gW g) (ch / gW g)
