/-! ===== THE TEXT: the reference goes on to the next token ===== -/
theorem n64_lsl5 {x : Int64} (h : nLn64 x * 32 < 18446744073709551616) : nLn64 (nLsl x 5) = nLn64 x * 32 := by
  have e : (nLsl x 5).toBitVec = x.toBitVec <<< 5 := nLsl_bv (x := x) (c := 5) (by decide)
  unfold nLn64 at h ⊢
  rw [e, BitVec.toNat_shiftLeft, Nat.shiftLeft_eq, Nat.mod_eq_of_lt (by simpa using h)]
theorem n64_or (x y : Int64) : nLn64 (x ||| y) = nLn64 x ||| nLn64 y := BitVec.toNat_or ..
/-- letters put together -/
def enL : List Nat → Int64 → Int64
  | [], a => a
  | b :: t, a => enL t ((nLsl a 5) ||| (nI b - 96).toInt64)
def enN : List Nat → Nat → Nat
  | [], a => a
  | b :: t, a => enN t (32 * a + (b - 96))
theorem enL_snoc (b : Nat) : ∀ l a, enL (l ++ [b]) a = (nLsl (enL l a) 5) ||| (nI b - 96).toInt64
  | [], _ => rfl
  | c :: t, a => enL_snoc b t _
def ltr (l : List Nat) : Prop := ∀ b ∈ l, 97 ≤ b ∧ b ≤ 122
theorem n64_small : ∀ c, c < 27 → nLn64 (nI c).toInt64 = c := by
  have h : ∀ c : Fin 27, nLn64 (nI c.1).toInt64 = c.1 := by decide +kernel
  exact fun c hc => h ⟨c, hc⟩
theorem n64_inj {x y : Int64} (h : nLn64 x = nLn64 y) : x = y := Int64.toBitVec_inj.mp (BitVec.eq_of_toNat_eq h)
theorem enL_N : ∀ (l : List Nat) (a : Int64) (m : Nat), ltr l → nLn64 a < 32 ^ m → m + l.length ≤ 7 → nLn64 (enL l a) = enN l (nLn64 a)
  | [], _, _, _, _, _ => rfl
  | b :: t, a, m, hl, ha, hm => by
    have hb := hl b (List.mem_cons_self ..)
    have hlen : (b :: t).length = t.length + 1 := rfl
    rw [hlen] at hm
    have hp : 32 ^ m ≤ 32 ^ 6 := Nat.pow_le_pow_right (by decide) (by omega)
    have e1 : nLn64 ((nLsl a 5) ||| (nI b - 96).toInt64) = 32 * nLn64 a + (b - 96) := by
      rw [n64_or, n64_lsl5 (by omega)]
      have e2 : nI b - 96 = nI (b - 96) := q_sub (a := b) (b := 96) (by omega)
      rw [e2, n64_small _ (by omega), Nat.mul_comm]
      exact (Nat.two_pow_add_eq_or_of_lt (i := 5) (by omega) _).symm
    show nLn64 (enL t _) = enN t _
    rw [enL_N t _ (m + 1) (fun c hc => hl c (List.mem_cons_of_mem _ hc)) (by rw [e1, Nat.pow_succ]; omega) (by omega), e1]
theorem enN_inj : ∀ (l l' : List Nat) (a a' : Nat), ltr l → ltr l' → l.length = l'.length → enN l a = enN l' a' → a = a' ∧ l = l'
  | [], [], _, _, _, _, _, h => ⟨h, rfl⟩
  | [], _ :: _, _, _, _, _, h, _ => by cases h
  | _ :: _, [], _, _, _, _, h, _ => by cases h
  | b :: t, b' :: t', a, a', h1, h2, hl, h => by
    have hb := h1 b (List.mem_cons_self ..)
    have hb' := h2 b' (List.mem_cons_self ..)
    have := enN_inj t t' _ _ (fun c hc => h1 c (List.mem_cons_of_mem _ hc)) (fun c hc => h2 c (List.mem_cons_of_mem _ hc)) (Nat.succ.inj hl) h
    have e1 : a = a' := by omega
    have e2 : b = b' := by omega
    exact ⟨e1, by rw [e2, this.2]⟩
theorem enN_lo : ∀ (l : List Nat) (a : Nat), a * 32 ^ l.length ≤ enN l a
  | [], a => by show a * 1 ≤ a; omega
  | b :: t, a => by
    have h := enN_lo t (32 * a + (b - 96))
    show a * 32 ^ (t.length + 1) ≤ enN t (32 * a + (b - 96))
    refine Nat.le_trans ?_ h
    rw [Nat.pow_succ, Nat.mul_comm (32 ^ t.length) 32, ← Nat.mul_assoc]
    exact Nat.mul_le_mul_right _ (by omega)
theorem enN_hi : ∀ (l : List Nat) (a : Nat), ltr l → enN l a < (a + 1) * 32 ^ l.length
  | [], a, _ => by show a < (a + 1) * 1; omega
  | b :: t, a, hl => by
    have hb := hl b (List.mem_cons_self ..)
    have h := enN_hi t (32 * a + (b - 96)) (fun c hc => hl c (List.mem_cons_of_mem _ hc))
    show enN t (32 * a + (b - 96)) < (a + 1) * 32 ^ (t.length + 1)
    refine Nat.lt_of_lt_of_le h ?_
    rw [Nat.pow_succ, Nat.mul_comm (32 ^ t.length) 32, ← Nat.mul_assoc]
    exact Nat.mul_le_mul_right _ (by omega)
theorem enN_len {l l' : List Nat} (h1 : ltr l) (h2 : ltr l') (hn : 0 < l'.length) (h : enN l 0 = enN l' 0) : l'.length ≤ l.length := by
  cases l' with
  | nil => exact absurd hn (Nat.lt_irrefl _)
  | cons b t =>
    have hb := h2 b (List.mem_cons_self ..)
    have a1 : 1 * 32 ^ t.length ≤ enN (b :: t) 0 := Nat.le_trans (Nat.mul_le_mul_right _ (by omega)) (enN_lo t (32 * 0 + (b - 96)))
    have a2 := enN_hi l 0 h1
    show t.length + 1 ≤ l.length
    apply Classical.byContradiction
    intro hc
    have a3 : 32 ^ l.length ≤ 32 ^ t.length := Nat.pow_le_pow_right (by decide) (by omega)
    omega
theorem enL_inj {l l' : List Nat} (h1 : ltr l) (h2 : ltr l') (hl : l.length ≤ 7) (hl' : l'.length ≤ 7) (hp : 0 < l.length) (hp' : 0 < l'.length) (h : enL l 0 = enL l' 0) : l = l' := by
  have e := congrArg nLn64 h
  have z : nLn64 (0 : Int64) = 0 := by decide
  rw [enL_N l 0 0 h1 (by rw [z]; decide) (by omega), enL_N l' 0 0 h2 (by rw [z]; decide) (by omega), z] at e
  have a1 := enN_len h1 h2 hp' e
  have a2 := enN_len h2 h1 hp e.symm
  exact (enN_inj l l' 0 0 h1 h2 (by omega) e).2
/-- the letters from s on -/
def Lb (bt : Nat → Nat) (s k : Nat) : List Nat := (List.range k).map (fun j => bt (s + j))
theorem Lb_len (bt : Nat → Nat) (s k : Nat) : (Lb bt s k).length = k := by
  unfold Lb
  rw [List.length_map, List.length_range]
theorem Lb_succ (bt : Nat → Nat) (s k : Nat) : Lb bt s (k + 1) = Lb bt s k ++ [bt (s + k)] := by
  unfold Lb
  rw [List.range_succ, List.map_append]
  rfl
def rfL : List Nat := [19, 16, 2, 17, 18, 20, 21, 22, 23, 24, 0, 1, 3, 4, 5, 6, 7, 8, 10, 12, 9, 11, 14, 13, 15]
def rfI : List Nat := [10, 11, 2, 12, 13, 14, 15, 16, 17, 20, 18, 21, 19, 23, 22, 24, 1, 3, 4, 0, 5, 6, 7, 8, 9]
theorem rf_1 : ∀ i, i < 25 → rfL.getD i 0 < 25 ∧ rfI.getD (rfL.getD i 0) 0 = i := by
  have h : ∀ i : Fin 25, rfL.getD i.1 0 < 25 ∧ rfI.getD (rfL.getD i.1 0) 0 = i.1 := by decide +kernel
  exact fun i hi => h ⟨i, hi⟩
theorem rf_2 : ∀ c, c < 25 → rfI.getD c 0 < 25 ∧ rfL.getD (rfI.getD c 0) 0 = c := by
  have h : ∀ i : Fin 25, rfI.getD i.1 0 < 25 ∧ rfL.getD (rfI.getD i.1 0) 0 = i.1 := by decide +kernel
  exact fun i hi => h ⟨i, hi⟩
theorem m_letters : ∀ i, i < 25 → ∀ w, f189 (nI i) w = some (enL (wdB (rfL.getD i 0)) 0, w)
  | 0, _, _ => rfl
  | 1, _, _ => rfl
  | 2, _, _ => rfl
  | 3, _, _ => rfl
  | 4, _, _ => rfl
  | 5, _, _ => rfl
  | 6, _, _ => rfl
  | 7, _, _ => rfl
  | 8, _, _ => rfl
  | 9, _, _ => rfl
  | 10, _, _ => rfl
  | 11, _, _ => rfl
  | 12, _, _ => rfl
  | 13, _, _ => rfl
  | 14, _, _ => rfl
  | 15, _, _ => rfl
  | 16, _, _ => rfl
  | 17, _, _ => rfl
  | 18, _, _ => rfl
  | 19, _, _ => rfl
  | 20, _, _ => rfl
  | 21, _, _ => rfl
  | 22, _, _ => rfl
  | 23, _, _ => rfl
  | 24, _, _ => rfl
  | _ + 25, h, _ => absurd h (by omega)
