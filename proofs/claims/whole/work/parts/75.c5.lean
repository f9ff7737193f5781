/-! ===== bits of longs; the greatest of many ===== -/
def b64 (x : Int64) (c : Nat) : Bool := x.toBitVec.getLsbD c
theorem sd_u64 {c : Nat} (h : c < 64) : (((nI c).toInt64.toUInt64 &&& Int64.toUInt64 63).toBitVec % 64).toNat = c := by
  have g : ∀ c, c < 64 → (((nI c).toInt64.toUInt64 &&& Int64.toUInt64 63).toBitVec % 64).toNat = c := by decide +kernel
  exact g c h
theorem sd_s64 {c : Nat} (h : c < 64) : (((nI c).toInt64 &&& 63).toBitVec.smod 64).toNat = c := by
  have g : ∀ c, c < 64 → (((nI c).toInt64 &&& 63).toBitVec.smod 64).toNat = c := by decide +kernel
  exact g c h
theorem nLus_bv {x : Int64} {c : Nat} (h : c < 64) : (nLus x (nI c)).toBitVec = x.toBitVec >>> c := by
  unfold nLus
  show ((x.toUInt64 >>> ((nI c).toInt64.toUInt64 &&& Int64.toUInt64 63))).toBitVec = _
  rw [UInt64.toBitVec_shiftRight, BitVec.ushiftRight_eq', sd_u64 h]
  rfl
theorem nLsl_bv {x : Int64} {c : Nat} (h : c < 64) : (nLsl x (nI c)).toBitVec = x.toBitVec <<< c := by
  unfold nLsl
  rw [Int64.toBitVec_shiftLeft, BitVec.shiftLeft_eq', sd_s64 h]
theorem b64_test {x : Int64} {c : Nat} (h : c < 64) : (lg_cmp ((nLus x (nI c)) &&& 1) 0 = 0) = (b64 x c = false) := by
  have e1 : ((nLus x (nI c)) &&& 1 = 0) = (b64 x c = false) := by
    rw [← Int64.toBitVec_inj]
    show ((nLus x (nI c)).toBitVec &&& 1#64 = 0#64) = _
    rw [nLus_bv h]
    unfold b64
    apply propext
    constructor
    · intro g
      have := congrArg (fun v => v.getLsbD 0) g
      simpa using this
    · intro g
      apply BitVec.eq_of_getLsbD_eq
      intro i hi
      rw [BitVec.getLsbD_and, BitVec.getLsbD_ushiftRight, BitVec.getLsbD_one]
      by_cases e : i = 0
      · subst e
        rw [Nat.add_zero, g]
        rfl
      · have : decide (i = 0) = false := decide_eq_false e
        simp [e]
  rw [← e1]
  generalize (nLus x (nI c)) &&& 1 = z
  unfold lg_cmp
  apply propext
  constructor
  · intro g
    revert g
    split
    · intro g; exact absurd g (by decide)
    · split
      · intro _; first | assumption | (simp_all)
      · intro g; exact absurd g (by decide)
  · intro g
    subst g
    decide
theorem b64_set {x : Int64} {c d : Nat} (hc : c < 64) (hd : d < 64) : b64 (x ||| nLsl 1 (nI d)) c = (b64 x c || decide (c = d)) := by
  unfold b64
  show (x.toBitVec ||| (nLsl 1 (nI d)).toBitVec).getLsbD c = _
  rw [nLsl_bv hd, BitVec.getLsbD_or, BitVec.getLsbD_shiftLeft]
  show (x.toBitVec.getLsbD c || (decide (c < 64) && !decide (c < d) && (1#64).getLsbD (c - d))) = _
  rw [BitVec.getLsbD_one]
  congr 1
  by_cases e : c = d
  · subst e
    simp [hc]
  · rw [decide_eq_false e]
    by_cases e2 : c < d
    · simp [e2]
    · have e3 : ¬ c - d = 0 := by omega
      simp [e3]
theorem b64_zero (c : Nat) : b64 0 c = false := by
  unfold b64
  show (0#64).getLsbD c = false
  simp
/-! the greatest of a list, none being above all -/
def oMx (l : List (Option Nat)) : Option Nat := l.foldl oMax (some 0)
theorem oMax_assoc (a b c : Option Nat) : oMax (oMax a b) c = oMax a (oMax b c) := by
  cases a <;> cases b <;> cases c <;> simp [oMax, Nat.max_assoc]
theorem oMax_comm (a b : Option Nat) : oMax a b = oMax b a := by
  cases a <;> cases b <;> simp [oMax]
  omega
theorem oMax_idem (a : Option Nat) : oMax a a = a := by
  cases a <;> simp [oMax]
theorem oFold_out : ∀ (l : List (Option Nat)) (a b : Option Nat), l.foldl oMax (oMax a b) = oMax a (l.foldl oMax b)
  | [], _, _ => rfl
  | x :: t, a, b => by
    show t.foldl oMax (oMax (oMax a b) x) = oMax a (t.foldl oMax (oMax b x))
    rw [oMax_assoc, oFold_out t]
theorem oMx_cons (x : Option Nat) (t : List (Option Nat)) : oMx (x :: t) = oMax x (oMx t) := by
  show t.foldl oMax (oMax (some 0) x) = _
  rw [oMax_comm, oFold_out]
  rfl
theorem oMx_snoc (x : Option Nat) (t : List (Option Nat)) : oMx (t ++ [x]) = oMax (oMx t) x := by
  unfold oMx
  rw [List.foldl_append]
  rfl
theorem oMx_mem {x : Option Nat} : ∀ {l : List (Option Nat)}, x ∈ l → oMax x (oMx l) = oMx l
  | y :: t, h => by
    rw [oMx_cons]
    rcases List.mem_cons.mp h with rfl | h
    · rw [← oMax_assoc, oMax_idem]
    · rw [← oMax_assoc, oMax_comm x y, oMax_assoc, oMx_mem h]
theorem oMx_sub : ∀ {l m : List (Option Nat)}, (∀ x ∈ l, x ∈ m) → oMax (oMx l) (oMx m) = oMx m
  | [], m, _ => by
    have h0 : ∀ m : List (Option Nat), oMax (some 0) (oMx m) = oMx m := by
      intro m
      cases oMx m <;> simp [oMax]
    exact h0 m
  | y :: t, m, h => by
    rw [oMx_cons, oMax_assoc, oMx_sub (fun x hx => h x (List.mem_cons_of_mem _ hx)), oMx_mem (h y List.mem_cons_self)]
theorem oMx_ext {l m : List (Option Nat)} (h1 : ∀ x ∈ l, x ∈ m) (h2 : ∀ x ∈ m, x ∈ l) : oMx l = oMx m := by
  have a := oMx_sub h1
  have b := oMx_sub h2
  rw [oMax_comm] at b
  rw [← a, b]
theorem oMx_B {l : List (Option Nat)} (h : ∀ x ∈ l, oB x) : oB (oMx l) := by
  induction l with
  | nil => intro x hx; cases hx; omega
  | cons y t ih =>
    rw [oMx_cons]
    exact oMax_B (h y List.mem_cons_self) (ih (fun x hx => h x (List.mem_cons_of_mem _ hx)))
theorem gWin_oMx (P : Nat → Bool) (N : Nat → Nat) (E : List Nat) : ∀ k, gWin P N E k = oMx (((List.range k).filter P).map (gWst N E))
  | 0 => rfl
  | k + 1 => by
    rw [List.range_succ, List.filter_append, List.map_append]
    show (if P k = true then oMax (gWin P N E k) (gWst N E k) else gWin P N E k) = _
    rw [gWin_oMx P N E k]
    by_cases h : P k = true
    · rw [if_pos h, List.filter_cons_of_pos h, List.filter_nil, List.map_cons, List.map_nil, oMx_snoc]
    · rw [if_neg h, List.filter_cons_of_neg h, List.filter_nil, List.map_nil, List.append_nil]
/-- spots that are just those that count -/
theorem gWin_spots {P : Nat → Bool} {N : Nat → Nat} {E S : List Nat} {k : Nat} (h : ∀ c, c ∈ S ↔ c < k ∧ P c = true) : oMx (S.map (gWst N E)) = gWin P N E k := by
  rw [gWin_oMx]
  apply oMx_ext
  · intro x hx
    obtain ⟨c, hc, rfl⟩ := List.mem_map.mp hx
    exact List.mem_map.mpr ⟨c, List.mem_filter.mpr ⟨List.mem_range.mpr ((h c).mp hc).1, ((h c).mp hc).2⟩, rfl⟩
  · intro x hx
    obtain ⟨c, hc, rfl⟩ := List.mem_map.mp hx
    have := List.mem_filter.mp hc
    exact List.mem_map.mpr ⟨c, (h c).mpr ⟨List.mem_range.mp this.1, this.2⟩, rfl⟩
theorem eC_lt {o : Option Nat} (h : oB o) : oN 2147483647 o < 2147483648 := by
  cases o with
  | none => decide
  | some x => have := h x rfl; show x < _; omega
theorem eC_max {a b : Option Nat} (ha : oB a) (hb : oB b) : nMax (eC a) (eC b) = eC (oMax a b) := by
  unfold eC
  rw [q_max (eC_lt ha) (eC_lt hb)]
  congr 1
  cases a with
  | none =>
    cases b with
    | none => rfl
    | some b => have := hb b rfl; show max 2147483647 b = 2147483647; omega
  | some a =>
    cases b with
    | none => have := ha a rfl; show max a 2147483647 = 2147483647; omega
    | some b => rfl
