/-! ===== HOW MANY BITS: Long.bitCount ===== -/
def mk8 : Nat → Nat → Nat
  | 0, _ => 0
  | n + 1, c => c + 256 * mk8 n c
theorem and_split {a b c d : Nat} (ha : a < 256) (hc : c < 256) : (a + 256 * b) &&& (c + 256 * d) = (a &&& c) + 256 * (b &&& d) := by
  have h1 : ((a + 256 * b) &&& (c + 256 * d)) % 2 ^ 8 = a &&& c := by
    rw [Nat.and_mod_two_pow, show (a + 256 * b) % 2 ^ 8 = a by omega, show (c + 256 * d) % 2 ^ 8 = c by omega]
  have h2 : ((a + 256 * b) &&& (c + 256 * d)) / 2 ^ 8 = b &&& d := by
    rw [Nat.and_div_two_pow, show (a + 256 * b) / 2 ^ 8 = b by omega, show (c + 256 * d) / 2 ^ 8 = d by omega]
  omega
def q1 (a : Nat) : Nat := a - (a / 2 &&& 0x55)
def q2 (a : Nat) : Nat := (a &&& 0x33) + (a / 4 &&& 0x33)
def p8 (a : Nat) : Nat := (q2 (q1 a) + q2 (q1 a) / 16) % 16
def S1 (n x : Nat) : Nat := x - (x / 2 &&& mk8 n 0x55)
def S2 (n v : Nat) : Nat := (v &&& mk8 n 0x33) + (v / 4 &&& mk8 n 0x33)
def S3 (n v : Nat) : Nat := (v + v / 16) &&& mk8 n 0x0f
theorem k1 : ∀ a : Fin 256, ∀ b : Fin 2, (a.1 / 2 + 128 * b.1) &&& 0x55 = a.1 / 2 &&& 0x55 := by decide +kernel
theorem k1' : ∀ a : Fin 256, (a.1 / 2 &&& 0x55) ≤ a.1 := by decide +kernel
theorem k2 : ∀ a : Fin 256, ∀ b : Fin 4, (a.1 / 4 + 64 * b.1) &&& 0x33 = a.1 / 4 &&& 0x33 := by decide +kernel
theorem k3 : ∀ a : Fin 256, q1 a.1 < 256 ∧ q2 (q1 a.1) < 256 ∧ q2 (q1 a.1) % 16 ≤ 4 ∧ q2 (q1 a.1) / 16 ≤ 4 ∧ p8 a.1 ≤ 8 := by decide +kernel
theorem S1_step (n x : Nat) : S1 (n + 1) x = q1 (x % 256) + 256 * S1 n (x / 256) := by
  have e : x / 2 = (x % 256 / 2 + 128 * (x / 256 % 2)) + 256 * (x / 256 / 2) := by omega
  have hk := k1 ⟨x % 256, Nat.mod_lt _ (by decide)⟩ ⟨x / 256 % 2, Nat.mod_lt _ (by decide)⟩
  have hk' := k1' ⟨x % 256, Nat.mod_lt _ (by decide)⟩
  have h : x / 2 &&& mk8 (n + 1) 0x55 = (x % 256 / 2 &&& 0x55) + 256 * (x / 256 / 2 &&& mk8 n 0x55) := by
    show x / 2 &&& (0x55 + 256 * mk8 n 0x55) = _
    rw [e, and_split (by omega) (by decide)]
    rw [hk]
  have hl : (x / 256 / 2 &&& mk8 n 0x55) ≤ x / 256 / 2 := Nat.and_le_left
  unfold S1 q1
  rw [h]
  dsimp only at hk'
  omega
theorem S2_step (n v : Nat) : S2 (n + 1) v = q2 (v % 256) + 256 * S2 n (v / 256) := by
  have e : v / 4 = (v % 256 / 4 + 64 * (v / 256 % 4)) + 256 * (v / 256 / 4) := by omega
  have hk := k2 ⟨v % 256, Nat.mod_lt _ (by decide)⟩ ⟨v / 256 % 4, Nat.mod_lt _ (by decide)⟩
  have h : v / 4 &&& mk8 (n + 1) 0x33 = (v % 256 / 4 &&& 0x33) + 256 * (v / 256 / 4 &&& mk8 n 0x33) := by
    show v / 4 &&& (0x33 + 256 * mk8 n 0x33) = _
    rw [e, and_split (by omega) (by decide)]
    rw [hk]
  have h0 : v &&& mk8 (n + 1) 0x33 = (v % 256 &&& 0x33) + 256 * (v / 256 &&& mk8 n 0x33) := by
    show v &&& (0x33 + 256 * mk8 n 0x33) = _
    have := and_split (a := v % 256) (b := v / 256) (c := 0x33) (d := mk8 n 0x33) (by omega) (by decide)
    rw [show v % 256 + 256 * (v / 256) = v by omega] at this
    exact this
  unfold S2 q2
  rw [h, h0]
  omega
theorem S3_step (n v : Nat) (hv : v % 256 + v % 256 / 16 + 16 * (v / 256 % 16) < 256) : S3 (n + 1) v = (v % 256 + v % 256 / 16) % 16 + 256 * S3 n (v / 256) := by
  have e : v + v / 16 = (v % 256 + v % 256 / 16 + 16 * (v / 256 % 16)) + 256 * (v / 256 + v / 256 / 16) := by omega
  unfold S3
  show (v + v / 16) &&& (0x0f + 256 * mk8 n 0x0f) = _
  rw [e, and_split hv (by decide)]
  have : (v % 256 + v % 256 / 16 + 16 * (v / 256 % 16)) &&& 0x0f = (v % 256 + v % 256 / 16 + 16 * (v / 256 % 16)) % 16 := Nat.and_two_pow_sub_one_eq_mod _ 4
  rw [this]
  omega
def W8 (n x : Nat) : Nat := S2 n (S1 n x)
theorem W8_step (n x : Nat) : W8 (n + 1) x = q2 (q1 (x % 256)) + 256 * W8 n (x / 256) := by
  have hk := k3 ⟨x % 256, Nat.mod_lt _ (by decide)⟩
  have h1 : q1 (x % 256) < 256 := hk.1
  unfold W8
  rw [S1_step, S2_step]
  rw [show (q1 (x % 256) + 256 * S1 n (x / 256)) % 256 = q1 (x % 256) by omega, show (q1 (x % 256) + 256 * S1 n (x / 256)) / 256 = S1 n (x / 256) by omega]
theorem W8_nib : ∀ n x, W8 n x % 16 ≤ 4
  | 0, x => by
    have : W8 0 x = 0 := by
      unfold W8 S2
      show (S1 0 x &&& 0) + (S1 0 x / 4 &&& 0) = 0
      rw [Nat.and_zero, Nat.and_zero]
    rw [this]
    decide
  | n + 1, x => by
    have hk := k3 ⟨x % 256, Nat.mod_lt _ (by decide)⟩
    have h2 : q2 (q1 (x % 256)) % 16 ≤ 4 := hk.2.2.1
    rw [W8_step]
    omega
def T8 (n x : Nat) : Nat := S3 n (W8 n x)
theorem T8_step (n x : Nat) : T8 (n + 1) x = p8 (x % 256) + 256 * T8 n (x / 256) := by
  have hk := k3 ⟨x % 256, Nat.mod_lt _ (by decide)⟩
  have h1 : q2 (q1 (x % 256)) < 256 := hk.2.1
  have h2 : q2 (q1 (x % 256)) % 16 ≤ 4 := hk.2.2.1
  have h3 : q2 (q1 (x % 256)) / 16 ≤ 4 := hk.2.2.2.1
  have h4 := W8_nib n (x / 256)
  have e := W8_step n x
  have ea : W8 (n + 1) x % 256 = q2 (q1 (x % 256)) := by omega
  have eb : W8 (n + 1) x / 256 = W8 n (x / 256) := by omega
  unfold T8 p8
  rw [S3_step n (W8 (n + 1) x) (by rw [ea, eb]; omega), ea, eb]
def bs8 : Nat → Nat → Nat
  | 0, _ => 0
  | n + 1, x => p8 (x % 256) + bs8 n (x / 256)
def pop (x : Nat) : Nat → Nat
  | 0 => 0
  | k + 1 => pop x k + x / 2 ^ k % 2
theorem pop_add (x k : Nat) : ∀ m, pop x (k + m) = pop x k + pop (x / 2 ^ k) m
  | 0 => rfl
  | m + 1 => by
    show pop x (k + m) + x / 2 ^ (k + m) % 2 = pop x k + (pop (x / 2 ^ k) m + x / 2 ^ k / 2 ^ m % 2)
    rw [pop_add x k m, Nat.div_div_eq_div_mul, ← Nat.pow_add, Nat.add_assoc]
theorem k4 : ∀ a : Fin 256, p8 a.1 = pop a.1 8 := by decide +kernel
theorem pop_8 (x : Nat) : pop x 8 = p8 (x % 256) := by
  rw [k4 ⟨x % 256, Nat.mod_lt _ (by decide)⟩]
  simp only [pop]
  omega
theorem pop_bs : ∀ n x, pop x (8 * n) = bs8 n x
  | 0, _ => rfl
  | n + 1, x => by
    rw [show 8 * (n + 1) = 8 + 8 * n by omega, pop_add, pop_8, pop_bs n]
    rfl
