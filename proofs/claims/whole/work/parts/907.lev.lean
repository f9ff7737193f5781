/-! ===== EXPRESSIONS: every level ===== -/
section LEV
variable {bt : Nat → Nat} {n lo hi : Nat}
theorem tW_K {s c : Nat} (h : tW bt n s = some c) : tK bt n s = 1 := (tW_lt h).1
theorem W_noS {s c b : Nat} (h : isW bt n s c) : ¬ isS bt n s b := fun hs => by
  have h1 := tW_K h
  have h2 := hs.1
  omega
theorem S_noW {s c b : Nat} (h : isS bt n s b) : ¬ isW bt n s c := fun hw => W_noS hw h
theorem S_one {s a b : Nat} (h : isS bt n s a) (hab : ¬ a = b) : ¬ isS bt n s b := fun hs => hab (h.2.symm.trans hs.2)
theorem W_one {s a b : Nat} (h : isW bt n s a) (hab : ¬ a = b) : ¬ isW bt n s b := fun hs => hab (Option.some.inj (h.symm.trans hs))
theorem noPr {s : Nat} (h : opPr bt n s = none) : ¬ isS bt n s 42 ∧ ¬ isS bt n s 47 := by
  unfold opPr at h
  constructor
  · intro c; rw [if_pos c] at h; cases h
  · intro c
    rw [if_neg (S_one c (by decide)), if_pos c] at h; cases h
theorem noSu {s : Nat} (h : opSu bt n s = none) : ¬ isS bt n s 43 ∧ ¬ isS bt n s 45 := by
  unfold opSu at h
  constructor
  · intro c; rw [if_pos c] at h; cases h
  · intro c
    rw [if_neg (S_one c (by decide)), if_pos c] at h; cases h
theorem noTe {s : Nat} (h : opTe bt n s = none) : ¬ isS bt n s 60 ∧ ¬ isS bt n s 61 := by
  unfold opTe at h
  constructor
  · intro c; rw [if_pos c] at h; cases h
  · intro c
    rw [if_neg (S_one c (by decide)), if_pos c] at h; cases h
theorem noAn {s : Nat} (h : opAn bt n s = none) : ¬ isW bt n s 14 := by
  unfold opAn at h
  intro c; rw [if_pos c] at h; cases h
theorem noOr {s : Nat} (h : opOr bt n s = none) : ¬ isW bt n s 13 := by
  unfold opOr at h
  intro c; rw [if_pos c] at h; cases h
/-- the sign that stands here -/
theorem stpA_S {s b a k : Nat} {W C : List Nat} {dep : Nat} {T : Nat → Bool} (h : isS bt n s b) (hb : (b = 43 ∧ a = 8 ∧ k = 5) ∨ (b = 45 ∧ a = 9 ∧ k = 5) ∨ (b = 42 ∧ a = 10 ∧ k = 6) ∨ (b = 47 ∧ a = 11 ∧ k = 6)) : stpA bt n s W dep T C = stpB bt n false a k s W dep T C := by
  unfold stpA
  rw [if_neg (S_noW h), if_neg (S_noW h), if_neg (fun c => S_one h (by omega) c.1), if_neg (fun c => S_one h (by omega) c.1)]
  rcases hb with ⟨rfl, rfl, rfl⟩ | ⟨rfl, rfl, rfl⟩ | ⟨rfl, rfl, rfl⟩ | ⟨rfl, rfl, rfl⟩
  · rw [if_pos h]
  · rw [if_neg (S_one h (by decide)), if_pos h]
  · rw [if_neg (S_one h (by decide)), if_neg (S_one h (by decide)), if_pos h]
  · rw [if_neg (S_one h (by decide)), if_neg (S_one h (by decide)), if_neg (S_one h (by decide)), if_pos h]
theorem Lv_prod {dep : Nat} {sub : Nat → eR} (hL : Lv bt n lo hi 7 sub dep) (hn7 : n ≤ 700) (hpos : ∀ s l s', s ≤ n → sub s = .inr (l, s') → s < s' ∧ s' ≤ n) : Lv bt n lo hi 6 (eBin bt n (opPr bt n) sub) dep := by
  refine Lv_bin (by decide) hL hn7 hpos (fun s a ho => ?_) (fun s a W C T ho hN => ?_) (fun s t ho hN => ⟨fun _ => ho, fun h => by omega, fun h => by omega, fun h => by omega, fun h => by omega⟩) (by decide) (by decide)
  · rcases opPr_K ho with h | h <;> exact isS_K h.2
  · rcases opPr_K ho with ⟨rfl, h⟩ | ⟨rfl, h⟩
    · exact ⟨false, T, stpA_S h (.inr (.inr (.inl ⟨rfl, rfl, rfl⟩))), rfl, by decide, by decide, fun _ _ => rfl, fun _ => rfl, fun h => by omega, fun h => by omega, fun _ => rfl⟩
    · exact ⟨false, T, stpA_S h (.inr (.inr (.inr ⟨rfl, rfl, rfl⟩))), rfl, by decide, by decide, fun _ _ => rfl, fun _ => rfl, fun h => by omega, fun h => by omega, fun _ => rfl⟩
theorem Lv_sum {dep : Nat} {sub : Nat → eR} (hL : Lv bt n lo hi 6 sub dep) (hn7 : n ≤ 700) (hpos : ∀ s l s', s ≤ n → sub s = .inr (l, s') → s < s' ∧ s' ≤ n) : Lv bt n lo hi 5 (eBin bt n (opSu bt n) sub) dep := by
  refine Lv_bin (by decide) hL hn7 hpos (fun s a ho => ?_) (fun s a W C T ho hN => ?_) (fun s t ho hN => ⟨fun _ => hN.1 (by decide), fun _ => ho, fun h => by omega, fun h => by omega, fun h => by omega⟩) (by decide) (by decide)
  · rcases opSu_K ho with h | h <;> exact isS_K h.2
  · rcases opSu_K ho with ⟨rfl, h⟩ | ⟨rfl, h⟩
    · exact ⟨false, T, stpA_S h (.inl ⟨rfl, rfl, rfl⟩), rfl, by decide, by decide, fun _ _ => rfl, fun _ => rfl, fun h => by omega, fun h => by omega, fun _ => rfl⟩
    · exact ⟨false, T, stpA_S h (.inr (.inl ⟨rfl, rfl, rfl⟩)), rfl, by decide, by decide, fun _ _ => rfl, fun _ => rfl, fun h => by omega, fun h => by omega, fun _ => rfl⟩
theorem tUp_o {T : Nat → Bool} {d j : Nat} {b : Bool} (h : ¬ j = d) : tUp T d b j = T j := if_neg h
theorem tUp_s {T : Nat → Bool} {d : Nat} {b : Bool} : tUp T d b d = b := if_pos rfl
theorem Lv_and {dep : Nat} {sub : Nat → eR} (hL : Lv bt n lo hi 3 sub dep) (hn7 : n ≤ 700) (hpos : ∀ s l s', s ≤ n → sub s = .inr (l, s') → s < s' ∧ s' ≤ n) : Lv bt n lo hi 2 (eBin bt n (opAn bt n) sub) dep := by
  refine Lv_bin (by decide) hL hn7 hpos (fun s a ho => isW_K (opAn_K ho).2) (fun s a W C T ho hN => ?_) (fun s t ho hN => ⟨fun _ => hN.1 (by decide), fun _ => hN.2.1 (by decide), fun _ => hN.2.2.1 (by decide), fun _ => ho, fun h => by omega⟩) (by decide) (by decide)
  obtain ⟨rfl, h⟩ := opAn_K ho
  refine ⟨true, tUp T dep false, ?_, rfl, by decide, by decide, fun j hj => tUp_o (by omega), fun h => by omega, fun _ => tUp_s, fun _ => rfl, fun h => by omega⟩
  show stpA bt n s W dep T C = _
  unfold stpA
  rw [if_pos h]
  rfl
theorem Lv_or {dep : Nat} {sub : Nat → eR} (hL : Lv bt n lo hi 2 sub dep) (hn7 : n ≤ 700) (hpos : ∀ s l s', s ≤ n → sub s = .inr (l, s') → s < s' ∧ s' ≤ n) : Lv bt n lo hi 1 (eBin bt n (opOr bt n) sub) dep := by
  refine Lv_bin (by decide) hL hn7 hpos (fun s a ho => isW_K (opOr_K ho).2) (fun s a W C T ho hN => ?_) (fun s t ho hN => ⟨fun _ => hN.1 (by decide), fun _ => hN.2.1 (by decide), fun _ => hN.2.2.1 (by decide), fun _ => hN.2.2.2.1 (by decide), fun _ => ho⟩) (by decide) (by decide)
  obtain ⟨rfl, h⟩ := opOr_K ho
  refine ⟨true, tUp T dep false, ?_, rfl, by decide, by decide, fun j hj => tUp_o (by omega), fun h => by omega, fun _ => tUp_s, fun _ => rfl, fun h => by omega⟩
  show stpA bt n s W dep T C = _
  unfold stpA
  rw [if_neg (W_one h (by decide)), if_pos h]
  rfl
theorem cells_1 {a : Nat} (ha : 3 ≤ a) : cells [(a, 0)] = [a] := by
  show cell1 (a, 0) ++ [] = [a]
  unfold cell1
  rw [if_neg (by show ¬ a ≤ 2; omega)]
  rfl
theorem Lv_test {dep : Nat} {sub : Nat → eR} (hL : Lv bt n lo hi 5 sub dep) (hpos : ∀ s l s', s ≤ n → sub s = .inr (l, s') → s < s' ∧ s' ≤ n) : Lv bt n lo hi 4 (eTest bt n sub) dep := by
  intro mn c s W T C hs hcap hm hnW hT
  obtain ⟨i1, i2⟩ := hL mn c s W T C hs (cap_up hcap (by omega)) (fun h => by omega) (fun _ => hnW (by omega)) (fun h => by omega)
  have hT0 := hT (by decide)
  -- the second sum
  have two : ∀ s1 a W' C' T' l, s1 ≤ n → opTe bt n s1 = some a → pend 5 W' C' W (C ++ cells l) → T' dep = T dep → stp bt n lo hi (none, s1, W', dep, T', C') = .inl (some (false, 0), nx bt n s1, a :: W, dep, tUp T' dep true, C ++ cells l) ∧ str a = 4 ∧ 3 ≤ a ∧ a < 14 := by
    intro s1 a W' C' T' l hs1 ho hp hTd
    have pd := pend_dr hp (show 4 ≤ 5 by decide)
    rw [hcap.1, hcap.2, List.append_nil] at pd
    rcases opTe_K ho with ⟨rfl, h⟩ | ⟨rfl, h⟩
    · refine ⟨?_, rfl, by decide, by decide⟩
      show stpA bt n s1 W' dep T' C' = _
      unfold stpA stpB
      rw [if_neg (S_noW h), if_neg (S_noW h), if_pos ⟨h, by rw [hTd]; exact hT0⟩, pd.1, pd.2]
    · refine ⟨?_, rfl, by decide, by decide⟩
      show stpA bt n s1 W' dep T' C' = _
      unfold stpA stpB
      rw [if_neg (S_noW h), if_neg (S_noW h), if_neg (fun c => S_one h (by decide) c.1), if_pos ⟨h, by rw [hTd]; exact hT0⟩, pd.1, pd.2]
  constructor
  · intro f e
    rcases eThen_bad e with e1 | ⟨l1, s1, e1, e2⟩
    · exact i1 f e1
    · obtain ⟨q1, q2⟩ := hpos _ _ _ hs e1
      refine i2 l1 s1 e1 _ (fun W' C' T' p3 t3 t5 n3 => ?_)
      cases ho : opTe bt n s1 with
      | none => rw [ho] at e2; cases e2
      | some a =>
        rw [ho] at e2
        obtain ⟨g1, g2, g3, g4⟩ := two s1 a W' C' T' l1 q2 ho p3 (t5 (by decide))
        have hc2 : cap 5 (a :: W) := cap_cons (fun h => by omega)
        obtain ⟨j1, j2⟩ := hL false 0 (nx bt n s1) (a :: W) (tUp T' dep true) (C ++ cells l1) (nx_le bt n q2) hc2 (fun h => by omega) (fun _ h => by cases h.1) (fun h => by omega)
        rcases eThen_bad e2 with e3 | ⟨l2, s2, e3, e4⟩
        · exact Go_next g1 (j1 f e3)
        · cases e4
  · intro l s' e r hK
    obtain ⟨l1, s1, e1, e2⟩ := eThen_ok e
    obtain ⟨q1, q2⟩ := hpos _ _ _ hs e1
    refine i2 l1 s1 e1 _ (fun W' C' T' p3 t3 t5 n3 => ?_)
    cases ho : opTe bt n s1 with
    | none =>
      rw [ho] at e2
      have e3 : (l1, s1) = (l, s') := Sum.inr.inj e2
      cases e3
      exact hK W' C' T' (pend_low p3 (by decide)) t3 (fun h => by omega) ⟨fun _ => n3.1 (by decide), fun _ => n3.2.1 (by decide), fun _ => .inl ho, fun h => by omega, fun h => by omega⟩
    | some a =>
      rw [ho] at e2
      obtain ⟨g1, g2, g3, g4⟩ := two s1 a W' C' T' l1 q2 ho p3 (t5 (by decide))
      have hc2 : cap 5 (a :: W) := cap_cons (fun h => by omega)
      obtain ⟨j1, j2⟩ := hL false 0 (nx bt n s1) (a :: W) (tUp T' dep true) (C ++ cells l1) (nx_le bt n q2) hc2 (fun h => by omega) (fun _ h => by cases h.1) (fun h => by omega)
      obtain ⟨l2, s2, e3, e4⟩ := eThen_ok e2
      have e5 : (l1 ++ l2 ++ [(a, 0)], s2) = (l, s') := Sum.inr.inj e4
      cases e5
      refine Go_next g1 (j2 l2 _ e3 r (fun W3 C3 T3 p4 t4 t6 n4 => hK W3 C3 T3 ?_ (fun j hj => (t4 j hj).trans ((tUp_o (by omega)).trans (t3 j hj))) (fun h => by omega) ⟨fun _ => n4.1 (by decide), fun _ => n4.2.1 (by decide), fun _ => .inr ((t6 (by decide)).trans tUp_s), fun h => by omega, fun h => by omega⟩))
      have := pend_op p4 (show 4 ≤ 5 by decide) (show a < 14 ∧ 4 ≤ str a from ⟨g4, by omega⟩)
      rw [cells_app, cells_app, cells_1 g3]
      simp only [List.append_assoc] at this ⊢
      exact this
theorem cells_nots : ∀ c, cells (List.replicate c (3, 0)) = List.replicate c 3
  | 0 => rfl
  | c + 1 => by
    show cell1 (3, 0) ++ cells (List.replicate c (3, 0)) = 3 :: List.replicate c 3
    rw [cells_nots c]
    rfl
theorem Lv_not {dep : Nat} {sub : Nat → eR} (hL : Lv bt n lo hi 4 sub dep) : Lv bt n lo hi 3 (fun s => eNs bt n sub 6 0 s) dep := by
  have loop : ∀ k c s W T C, k + c = 6 → s ≤ n → cap 3 W → T dep = false →
      (∀ f, eNs bt n sub k c s = .inl f → Go bt n lo hi (some (true, c), s, List.replicate c 3 ++ W, dep, T, C) (.inl f)) ∧
      (∀ l s', eNs bt n sub k c s = .inr (l, s') → ∀ r, LvK bt n lo hi 3 dep T W C l s' r → Go bt n lo hi (some (true, c), s, List.replicate c 3 ++ W, dep, T, C) r) := by
    have base : ∀ c s W T C, s ≤ n → cap 3 W → T dep = false → ¬ isW bt n s 15 →
        (∀ f, eNo c (sub s) = .inl f → Go bt n lo hi (some (true, c), s, List.replicate c 3 ++ W, dep, T, C) (.inl f)) ∧
        (∀ l s', eNo c (sub s) = .inr (l, s') → ∀ r, LvK bt n lo hi 3 dep T W C l s' r → Go bt n lo hi (some (true, c), s, List.replicate c 3 ++ W, dep, T, C) r) := by
      intro c s W T C hs hcap hT hw
      have hc : cap 4 (List.replicate c 3 ++ W) := by
        cases c with
        | zero => exact cap_up hcap (by decide)
        | succ c => exact cap_cons (by decide)
      obtain ⟨i1, i2⟩ := hL true c s (List.replicate c 3 ++ W) T C hs hc (fun h => by omega) (fun _ h => hw h.2) (fun _ => hT)
      constructor
      · intro f e
        rcases eThen_bad e with e1 | ⟨l1, s1, e1, e2⟩
        · exact i1 f e1
        · cases e2
      · intro l s' e r hK
        obtain ⟨l1, s1, e1, e2⟩ := eThen_ok e
        have e3 : (l1 ++ List.replicate c (3, 0), s1) = (l, s') := Sum.inr.inj e2
        cases e3
        refine i2 l1 _ e1 r (fun W' C' T' p3 t3 t5 n3 => hK W' C' T' ?_ t3 (fun h => by omega) ⟨fun _ => n3.1 (by decide), fun _ => n3.2.1 (by decide), fun _ => n3.2.2.1 (by decide), fun h => by omega, fun h => by omega⟩)
        obtain ⟨P, rfl, h2, h3⟩ := p3
        refine ⟨P ++ List.replicate c 3, by rw [List.append_assoc], fun b hb => ?_, ?_⟩
        · rcases List.mem_append.mp hb with hb | hb
          · exact ⟨(h2 b hb).1, by have := (h2 b hb).2; omega⟩
          · have : b = 3 := List.eq_of_mem_replicate hb
            rw [this]
            decide
        · rw [← List.append_assoc, h3, cells_app, cells_nots, List.append_assoc]
    intro k
    induction k with
    | zero =>
      intro c s W T C hkc hs hcap hT
      unfold eNs
      by_cases c1 : isW bt n s 15
      · rw [if_pos c1]
        refine ⟨fun f e => ?_, fun l s' e => by cases e⟩
        have e1 : ((2, s) : Nat × Nat) = f := Sum.inl.inj e
        cases e1
        refine Go_end ?_
        show stpO bt n lo hi true c s _ dep T C = _
        unfold stpO
        rw [if_pos ⟨rfl, c1⟩, if_pos (by omega)]
      · rw [if_neg c1]
        exact base c s W T C hs hcap hT c1
    | succ k ih =>
      intro c s W T C hkc hs hcap hT
      unfold eNs
      by_cases c1 : isW bt n s 15
      · rw [if_pos c1]
        have g1 : stp bt n lo hi (some (true, c), s, List.replicate c 3 ++ W, dep, T, C) = .inl (some (true, c + 1), nx bt n s, List.replicate (c + 1) 3 ++ W, dep, T, C) := by
          show stpO bt n lo hi true c s _ dep T C = _
          unfold stpO
          rw [if_pos ⟨rfl, c1⟩, if_neg (by omega)]
          rfl
        obtain ⟨i1, i2⟩ := ih (c + 1) (nx bt n s) W T C (by omega) (nx_le bt n hs) hcap hT
        exact ⟨fun f e => Go_next g1 (i1 f e), fun l s' e r hK => Go_next g1 (i2 l s' e r hK)⟩
      · rw [if_neg c1]
        exact base c s W T C hs hcap hT c1
  intro mn c s W T C hs hcap hm hnW hT
  obtain ⟨rfl, rfl⟩ := hm (by decide)
  exact loop 6 0 s W T C rfl hs hcap (hT (by decide))
end LEV
