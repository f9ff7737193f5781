/-! ===== the old world stands ===== -/
section OLD9
variable {args : Array Value} {s : State} {b L : Nat} {xs : Nat → Int32}
def tvR (args : Array Value) (s : State) (t : Term) : Nat := match t.eval args s none [] s with
  | some (.ref a) => a
  | _ => 0
theorem tvR_of {t : Term} {a : Nat} (h : t.eval args s none [] s = some (.ref a)) : tvR args s t = a := by unfold tvR; rw [h]
def adF (args : Array Value) (s : State) (b L : Nat) (xs : Nat → Int32) (k : Nat) : Nat :=
  if k < 1000000 then s.heap.size + k else if k < 1000025 then tvR args s (eW (k - 1000000)) else if k = 1000100 then tvR args s eWd else if k = 1000101 then tvR args s eSm else if k = 1000102 then tvR args s eSi
  else if k = 1000103 then (match eSi.eval args s none [] s with | some .null => 0 | _ => 1) else if k < 1000225 then tvR args s (eS (k - 1000200)) else if k < 1000325 then tvR args s (eV (k - 1000300)) else if k = 2000000 then b else if k = 3000000 then L else (xs (k - 4000000)).toBitVec.toNat
theorem adF_ad : mAd (adF args s b L xs) s.heap.size := fun _ hk => if_pos hk
theorem adF_en {i : Nat} (hi : i < 25) : adF args s b L xs (1000000 + i) = tvR args s (eW i) := by
  unfold adF
  rw [if_neg (by omega), if_pos (by omega), Nat.add_sub_cancel_left]
theorem adF_st {i : Nat} (hi : i < 25) : adF args s b L xs (1000200 + i) = tvR args s (eS i) := by
  unfold adF
  rw [if_neg (by omega), if_neg (by omega), if_neg (by omega), if_neg (by omega), if_neg (by omega), if_neg (by omega), if_pos (by omega), Nat.add_sub_cancel_left]
theorem adF_by {i : Nat} (hi : i < 25) : adF args s b L xs (1000300 + i) = tvR args s (eV i) := by
  unfold adF
  rw [if_neg (by omega), if_neg (by omega), if_neg (by omega), if_neg (by omega), if_neg (by omega), if_neg (by omega), if_neg (by omega), if_pos (by omega), Nat.add_sub_cancel_left]
theorem adF_scr (j : Nat) : adF args s b L xs (4000000 + j) = (xs j).toBitVec.toNat := by
  unfold adF
  rw [if_neg (by omega), if_neg (by omega), if_neg (by omega), if_neg (by omega), if_neg (by omega), if_neg (by omega), if_neg (by omega), if_neg (by omega), if_neg (by omega), if_neg (by omega), Nat.add_sub_cancel_left]
theorem nI_back (x : Int32) : Int32.ofNat x.toBitVec.toNat = x := by
  apply Int32.toBitVec_inj.mp
  show BitVec.ofNat 32 x.toBitVec.toNat = x.toBitVec
  rw [BitVec.ofNat_toNat, BitVec.setWidth_eq]
theorem ev_W (hT : stC.before args s = true) {i : Nat} (hi : i < 25) : (eW i).eval args s none [] s = some (.ref (adF args s b L xs (1000000 + i))) := by
  obtain ⟨a, c, cell, k, h, -⟩ := Cond.exactly_spec (e_ex hT i hi)
  rw [adF_en hi, tvR_of h]; exact h
theorem ev_S (hT : stC.before args s = true) {i : Nat} (hi : i < 25) : (eS i).eval args s none [] s = some (.ref (adF args s b L xs (1000200 + i))) := by
  obtain ⟨a, c, cell, k, h, -⟩ := Cond.exactly_spec (e_se hT i hi)
  rw [adF_st hi, tvR_of h]; exact h
theorem va_OFof {A : Nat → Prop} {t : Term} {a : Nat} {o n d : String} {v : Value} (ht : t.eval args s none [] s = some (.ref a)) (h : (Term.field t o n d).eval args s none [] s = some v) (hA : ∀ a : Nat, a < s.heap.size → ¬ A a) : va_OF o n d v a A s s.heap := by
  cases hff : s.fieldFound? o n d with
  | none => simp [Term.eval, ht, State.fieldOf?, State.fieldNamed?, hff] at h
  | some q =>
    obtain ⟨c, k, i, f⟩ := q
    obtain ⟨h1, cell, h2, h3, -, -, h4⟩ := Term.field_spec hff ht h
    exact ⟨c, k, i, f, cell, hff, h1, h2, h3, h4, hA a (Array.getElem?_eq_some_iff.mp h2).1⟩
theorem adF_old (hT : stC.before args s = true) (hts : ∀ w ∈ lw_tbl, w.before args s = true) (hX : va_X b L xs s s.heap) (hL : L ≤ 3072) : mOld (adF args s b L xs) (mAA s.heap.size) s s.heap := by
  have hA : ∀ a : Nat, a < s.heap.size → ¬ mAA s.heap.size a := fun a h q => absurd q (by show ¬ s.heap.size ≤ a; omega)
  have eB : ∀ i, i < 25 → ∃ t : Nat, (eV i).eval args s none [] s = some (.ref t) ∧ va_T .byte t (oByt.getD i []).length (fun j => .int ((oByt.getD i []).getD j 0)) (mAA s.heap.size) s s.heap := fun i hi =>
    va_Tof (by have : ∀ i : Fin 25, (oByt.getD i.1 []).length < 2 ^ 31 := (by decide); exact this ⟨i, hi⟩) (e_sa hT i hi) (Cond.eq_int (e_sl hT i hi) rfl) (fun j hj => Cond.eq_int (e_sb hT i hi j hj) rfl) hA
  have eWs : ∃ t : Nat, eWd.eval args s none [] s = some (.ref t) ∧ va_T (.object "LaneEyes$Word") t 25 (fun j => .ref (adF args s b L xs (1000000 + j))) (mAA s.heap.size) s s.heap :=
    va_Tof (by decide) (e_wa hT) (Cond.eq_int (e_wl hT) rfl) (fun j hj => by
      obtain ⟨y, h1, h2⟩ := Cond.eq_one (e_wi hT j hj)
      rw [h1, ← h2]; exact ev_W hT hj) hA
  have eMs : ∃ t : Nat, eSm.eval args s none [] s = some (.ref t) ∧ va_T .int t 25 (fun j => .int (oSwm.getD j 0)) (mAA s.heap.size) s s.heap :=
    va_Tof (by decide) (e_ma hT) (Cond.eq_int (e_ml hT) rfl) (fun j hj => Cond.eq_int (e_mi hT j hj) rfl) hA
  obtain ⟨tW, hW1, hW2⟩ := eWs
  obtain ⟨tM, hM1, hM2⟩ := eMs
  have aW : adF args s b L xs 1000100 = tW := tvR_of hW1
  have aM : adF args s b L xs 1000101 = tM := tvR_of hM1
  have iw : (Cond.initialized "LaneEyes$Word").before args s = true := hts _ (by decide +kernel)
  refine ⟨?_, ?_, ?_, ?_, ?_, ?_⟩
  · intro q hq
    simp only [oStat, List.mem_cons, List.not_mem_nil, or_false] at hq
    rcases hq with rfl | rfl | rfl | rfl | rfl | rfl | rfl | rfl | rfl | rfl
    · exact va_Zof (hts _ (by decide +kernel)) iw (ev_W hT (i := 0) (by decide)) hA
    · exact va_Zof (hts _ (by decide +kernel)) iw (ev_W hT (i := 10) (by decide)) hA
    · exact va_Zof (hts _ (by decide +kernel)) iw (ev_W hT (i := 12) (by decide)) hA
    · exact va_Zof (hts _ (by decide +kernel)) iw (ev_W hT (i := 13) (by decide)) hA
    · exact va_Zof (hts _ (by decide +kernel)) iw (ev_W hT (i := 14) (by decide)) hA
    · exact va_Zof (hts _ (by decide +kernel)) iw (ev_W hT (i := 15) (by decide)) hA
    · exact va_Zof (hts _ (by decide +kernel)) (hts _ (by decide +kernel)) (by show _ = some (Value.ref (adF args s b L xs 1000100)); rw [aW]; exact hW1) hA
    · exact va_Zof (hts _ (by decide +kernel)) (hts _ (by decide +kernel)) (by show _ = some (Value.ref (adF args s b L xs 1000101)); rw [aM]; exact hM1) hA
    · exact va_Zof (hts _ (by decide +kernel)) (hts _ (by decide +kernel)) (Cond.eq_int (e_cs hT) rfl) hA
    · refine va_Zof (hts _ (by decide +kernel)) (hts _ (by decide +kernel)) ?_ hA
      have e3 : adF args s b L xs 1000103 = (match eSi.eval args s none [] s with | some .null => 0 | _ => 1) := rfl
      have e2 : adF args s b L xs 1000102 = tvR args s eSi := rfl
      show eSi.eval args s none [] s = some (if adF args s b L xs 1000103 = 0 then Value.null else Value.ref (adF args s b L xs 1000102))
      rw [e3, e2]
      unfold tvR
      have hs := e_si hT
      cases he : eSi.eval args s none [] s with
      | none => simp [Cond.before, Cond.holds, Cond.value, he] at hs
      | some v =>
        cases v with
        | ref a => rfl
        | null => rfl
        | _ => simp [Cond.before, Cond.holds, Cond.value, he] at hs
  · intro k a ha
    unfold oOb at ha
    by_cases hk : k = 0
    · rw [if_pos hk] at ha
      obtain ⟨i, hi, rfl⟩ : ∃ i, i < 25 ∧ a = 1000000 + i := by
        unfold oEn at ha; simp only [Bool.and_eq_true, Nat.ble_eq, Nat.blt_eq] at ha
        exact ⟨a - 1000000, by omega, by omega⟩
      unfold oCn
      rw [if_pos hk]
      exact va_Oof (e_ex hT i hi) (ev_W hT hi) hA
    · rw [if_neg hk] at ha
      obtain ⟨i, hi, rfl⟩ : ∃ i, i < 25 ∧ a = 1000200 + i := by
        unfold oSt at ha; simp only [Bool.and_eq_true, Nat.ble_eq, Nat.blt_eq] at ha
        exact ⟨a - 1000200, by omega, by omega⟩
      unfold oCn
      rw [if_neg hk]
      exact va_Oof (e_se hT i hi) (ev_S hT hi) hA
  · intro f a v hv
    have en : oEn a = true → ∃ i, i < 25 ∧ a = 1000000 + i := fun ha => by
      unfold oEn at ha; simp only [Bool.and_eq_true, Nat.ble_eq, Nat.blt_eq] at ha
      exact ⟨a - 1000000, by omega, by omega⟩
    have es : oSt a = true → ∃ i, i < 25 ∧ a = 1000200 + i := fun ha => by
      unfold oSt at ha; simp only [Bool.and_eq_true, Nat.ble_eq, Nat.blt_eq] at ha
      exact ⟨a - 1000200, by omega, by omega⟩
    rcases f with _ | _ | _ | _ | _ | f
    · have hv : (if oEn a = true then some (Value.int (Int32.ofNat (a - 1000000))) else none) = some v := hv
      by_cases c : oEn a = true
      · rw [if_pos c] at hv; cases hv
        obtain ⟨i, hi, rfl⟩ := en c
        rw [Nat.add_sub_cancel_left]
        exact va_OFof (ev_W hT hi) (Cond.eq_int (e_o0 hT i hi) rfl) hA
      · rw [if_neg c] at hv; cases hv
    · have hv : (if oEn a = true then some (Value.int (oVal.getD (a - 1000000) 0)) else none) = some v := hv
      by_cases c : oEn a = true
      · rw [if_pos c] at hv; cases hv
        obtain ⟨i, hi, rfl⟩ := en c
        rw [Nat.add_sub_cancel_left]
        exact va_OFof (ev_W hT hi) (Cond.eq_int (e_o1 hT i hi) rfl) hA
      · rw [if_neg c] at hv; cases hv
    · have hv : (if oEn a = true then some (Value.int (oRul.getD (a - 1000000) 0)) else none) = some v := hv
      by_cases c : oEn a = true
      · rw [if_pos c] at hv; cases hv
        obtain ⟨i, hi, rfl⟩ := en c
        rw [Nat.add_sub_cancel_left]
        exact va_OFof (ev_W hT hi) (Cond.eq_int (e_o2 hT i hi) rfl) hA
      · rw [if_neg c] at hv; cases hv
    · have hv : (if oEn a = true then some (Value.ref (a + 200)) else none) = some v := hv
      by_cases c : oEn a = true
      · rw [if_pos c] at hv; cases hv
        obtain ⟨i, hi, rfl⟩ := en c
        obtain ⟨y, h1, h2⟩ := Cond.eq_one (e_o3 hT i hi)
        rw [show 1000000 + i + 200 = 1000200 + i by omega]
        exact va_OFof (ev_W hT hi) (by show (Term.field (eW i) "LaneEyes$Word" "letters" "Ljava/lang/String;").eval args s none [] s = _; rw [h1, ← h2]; exact ev_S hT hi) hA
      · rw [if_neg c] at hv; cases hv
    · have hv : (if oSt a = true then some (Value.ref (a + 100)) else none) = some v := hv
      by_cases c : oSt a = true
      · rw [if_pos c] at hv; cases hv
        obtain ⟨i, hi, rfl⟩ := es c
        obtain ⟨t, h1, -⟩ := eB i hi
        rw [show 1000200 + i + 100 = 1000300 + i by omega]
        exact va_OFof (ev_S hT hi) (by show _ = some (Value.ref (adF args s b L xs (1000300 + i))); rw [adF_by hi, tvR_of h1]; exact h1) hA
      · rw [if_neg c] at hv; cases hv
    · have hv : (if oSt a = true then some (Value.int 0) else none) = some v := hv
      by_cases c : oSt a = true
      · rw [if_pos c] at hv; cases hv
        obtain ⟨i, hi, rfl⟩ := es c
        exact va_OFof (ev_S hT hi) (Cond.eq_int (e_sc hT i hi) rfl) hA
      · rw [if_neg c] at hv; cases hv
  · intro a ty n f hf
    unfold oA at hf
    by_cases c1 : a = 1000100
    · rw [if_pos c1] at hf; cases hf; subst c1
      rw [aW]; exact hW2
    rw [if_neg c1] at hf
    by_cases c2 : a = 1000101
    · rw [if_pos c2] at hf; cases hf; subst c2
      rw [aM]; exact hM2
    rw [if_neg c2] at hf
    by_cases c3 : 1000300 ≤ a ∧ a < 1000325
    · rw [if_pos c3] at hf
      have hf1 := Option.some.inj hf
      obtain ⟨rfl, hf2⟩ := Prod.mk.inj hf1
      obtain ⟨rfl, rfl⟩ := Prod.mk.inj hf2
      obtain ⟨i, hi, rfl⟩ : ∃ i, i < 25 ∧ a = 1000300 + i := ⟨a - 1000300, by omega, by omega⟩
      rw [Nat.add_sub_cancel_left, adF_by hi]
      obtain ⟨t, h1, h2⟩ := eB i hi
      rw [tvR_of h1]
      exact h2
    · rw [if_neg c3] at hf; cases hf
  · obtain ⟨scr, h1, h2, h3, h4, h5⟩ := hX
    have a2 : adF args s b L xs 2000000 = b := rfl
    have a3 : adF args s b L xs 3000000 = L := rfl
    rw [a2, a3]
    refine ⟨scr, h1, h2, h3, Nat.le_of_eq h4.symm, by rw [h4], fun j hj => ?_, hA _ (Array.getElem?_eq_some_iff.mp h1).1⟩
    rw [h5 j hj]
    show some (Value.int (xs j)) = some (Value.int (Int32.ofNat (adF args s b L xs (4000000 + j))))
    rw [adF_scr, nI_back]
  · intro a c ha hc e
    obtain ⟨i, hi, rfl⟩ : ∃ i, i < 25 ∧ a = 1000000 + i := by
      unfold oEn at ha; simp only [Bool.and_eq_true, Nat.ble_eq, Nat.blt_eq] at ha
      exact ⟨a - 1000000, by omega, by omega⟩
    obtain ⟨j, hj, rfl⟩ : ∃ i, i < 25 ∧ c = 1000000 + i := by
      unfold oEn at hc; simp only [Bool.and_eq_true, Nat.ble_eq, Nat.blt_eq] at hc
      exact ⟨c - 1000000, by omega, by omega⟩
    have h1 := Cond.eq_int (e_o0 hT i hi) (n := Int32.ofNat i) rfl
    have h2 := Cond.eq_int (e_o0 hT j hj) (n := Int32.ofNat j) rfl
    have w1 := ev_W (b := b) (L := L) (xs := xs) hT hi
    have w2 := ev_W (b := b) (L := L) (xs := xs) hT hj
    rw [← e] at w2
    have key : Int32.ofNat i = Int32.ofNat j := by
      simp only [Term.eval] at h1 h2 w1 w2
      rw [w1] at h1
      rw [w2] at h2
      have := h1.symm.trans h2
      exact Value.int.inj (Option.some.inj this)
    have k2 : ∀ i j : Fin 25, Int32.ofNat i.1 = Int32.ofNat j.1 → i.1 = j.1 := by decide
    have := k2 ⟨i, hi⟩ ⟨j, hj⟩ key
    have : i = j := this
    omega
end OLD9
