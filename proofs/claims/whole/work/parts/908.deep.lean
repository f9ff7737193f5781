/-! ===== EXPRESSIONS: one within the other; the whole ===== -/
section DEEP
variable {bt : Nat → Nat} {n lo hi : Nat}
theorem ePart_sub {sub sub' : Nat → eR} {s : Nat} (h : ¬ isS bt n s 40) : ePart bt n lo hi sub s = ePart bt n lo hi sub' s := by
  unfold ePart
  rw [if_neg h, if_neg h]
theorem str_7 {P : List Nat} (h : ∀ a ∈ P, a < 14 ∧ 7 ≤ str a) : P = [] := by
  cases P with
  | nil => rfl
  | cons a t =>
    have h1 := (h a (List.mem_cons_self ..)).2
    have h2 := (str_le a).2
    omega
theorem any_app {P W : List Nat} (h : ∀ a ∈ P, a < 14 ∧ 1 ≤ str a) : ((P ++ W).any fun a => decide (14 ≤ a)) = (W.any fun a => decide (14 ≤ a)) := by
  induction P with
  | nil => rfl
  | cons a t ih =>
    have ha := h a (List.mem_cons_self ..)
    show (decide (14 ≤ a) || ((t ++ W).any fun a => decide (14 ≤ a))) = _
    rw [decide_eq_false (by omega), Bool.false_or]
    exact ih (fun b hb => h b (List.mem_cons_of_mem _ hb))
/-- no sign goes on here -/
theorem stpA_no {s dep : Nat} {W C : List Nat} {T : Nat → Bool} (h : noOp bt n 1 s (T dep)) : stpA bt n s W dep T C = if isS bt n s 41 ∧ (W.any fun a => decide (14 ≤ a)) = true then .inl (none, nx bt n s, (drW 0 W).tail, dep - 1, T, C ++ drO 0 W) else if 1 < dep then .inr (.inl (1, s)) else .inr (.inr (s, C ++ drO 0 W ++ [0])) := by
  obtain ⟨h1, h2, h3, h4, h5⟩ := h
  have a1 := noPr (h1 (by decide))
  have a2 := noSu (h2 (by decide))
  have a4 := noAn (h4 (by decide))
  have a5 := noOr (h5 (by decide))
  have t1 : ∀ b, (b = 60 ∨ b = 61) → ¬ (isS bt n s b ∧ T dep = false) := by
    intro b hb hc
    rcases h3 (by decide) with h | h
    · rcases hb with rfl | rfl
      · exact (noTe h).1 hc.1
      · exact (noTe h).2 hc.1
    · rw [h] at hc; cases hc.2
  unfold stpA
  rw [if_neg a4, if_neg a5, if_neg (t1 60 (.inl rfl)), if_neg (t1 61 (.inr rfl)), if_neg a2.1, if_neg a2.2, if_neg a1.1, if_neg a1.2]
theorem Lv_part {dep d : Nat} (hd : 1 ≤ d) (hdep : 1 ≤ dep ∧ dep ≤ 6) (hL : dep < 6 → Lv bt n lo hi 1 (eEx bt n lo hi d dep) (dep + 1)) : Lv bt n lo hi 7 (ePart bt n lo hi (eEx bt n lo hi d dep)) dep := by
  intro mn c s W T C hs hcap hm hnW hT
  have hnW' := hnW (by decide)
  by_cases c1 : isS bt n s 40
  · have k1 : ¬ tK bt n s = 2 := by rw [c1.1]; decide
    have k2 : ¬ tK bt n s = 1 := by rw [c1.1]; decide
    have eP : ePart bt n lo hi (eEx bt n lo hi d dep) s = eThen (eEx bt n lo hi d dep (nx bt n s)) fun l s' => if isS bt n s' 41 then .inr (l, nx bt n s') else .inl (1, s') := by
      unfold ePart
      rw [if_neg k1, if_neg k2, if_pos c1]
    rw [eP]
    by_cases c2 : dep < 6
    · have g1 : stp bt n lo hi (some (mn, c), s, W, dep, T, C) = .inl (some (true, 0), nx bt n s, 14 :: W, dep + 1, tUp T (dep + 1) false, C) := by
        show stpO bt n lo hi mn c s W dep T C = _
        unfold stpO
        rw [if_neg hnW', if_pos c1, if_pos c2]
      obtain ⟨i1, i2⟩ := hL c2 true 0 (nx bt n s) (14 :: W) (tUp T (dep + 1) false) C (nx_le bt n hs) (cap_cons (by decide)) (fun _ => ⟨rfl, rfl⟩) (fun h => by omega) (fun _ => tUp_s)
      constructor
      · intro f e
        rcases eThen_bad e with e1 | ⟨l1, s1, e1, e2⟩
        · exact Go_next g1 (i1 f e1)
        · by_cases c3 : isS bt n s1 41
          · rw [if_pos c3] at e2; cases e2
          · rw [if_neg c3] at e2
            have e3 : ((1, s1) : Nat × Nat) = f := Sum.inl.inj e2
            cases e3
            refine Go_next g1 (i2 l1 s1 e1 _ (fun W' C' T' p3 t3 t5 n3 => Go_end ?_))
            show stpA bt n s1 W' (dep + 1) T' C' = _
            rw [stpA_no n3, if_neg (fun h => c3 h.1), if_pos (by omega)]
      · intro l s' e r hK
        obtain ⟨l1, s1, e1, e2⟩ := eThen_ok e
        by_cases c3 : isS bt n s1 41
        · rw [if_pos c3] at e2
          have e3 : (l1, nx bt n s1) = (l, s') := Sum.inr.inj e2
          cases e3
          refine Go_next g1 (i2 l s1 e1 _ (fun W' C' T' p3 t3 t5 n3 => ?_))
          have g2 : stp bt n lo hi (none, s1, W', dep + 1, T', C') = .inl (none, nx bt n s1, W, dep, T', C ++ cells l) := by
            show stpA bt n s1 W' (dep + 1) T' C' = _
            have pd := pend_dr p3 (show 0 ≤ 1 by decide)
            have hc0 : cap 0 (14 :: W) := cap_cons (by decide)
            rw [hc0.1, hc0.2, List.append_nil] at pd
            have ha : (W'.any fun a => decide (14 ≤ a)) = true := by
              obtain ⟨P, rfl, q2, _⟩ := p3
              rw [any_app q2]
              rfl
            rw [stpA_no n3, if_pos ⟨c3, ha⟩, pd.1, pd.2]
            rfl
          exact Go_next g2 (hK W (C ++ cells l) T' ⟨[], rfl, (fun a ha => by cases ha), List.append_nil _⟩ (fun j hj => (t3 j (by omega)).trans (tUp_o (by omega))) (fun _ => (t3 dep (by omega)).trans (tUp_o (by omega))) ⟨fun h => by omega, fun h => by omega, fun h => by omega, fun h => by omega, fun h => by omega⟩)
        · rw [if_neg c3] at e2; cases e2
    · have e6 : dep = 6 := by omega
      have eE : eEx bt n lo hi d dep (nx bt n s) = .inl (if mayB bt n (nx bt n s) then 2 else 1, nx bt n s) := by
        cases d with
        | zero => omega
        | succ d =>
          unfold eEx
          rw [if_neg c2]
      rw [eE]
      refine ⟨fun f e => ?_, fun l s' e => by cases e⟩
      have e3 : ((if mayB bt n (nx bt n s) then 2 else 1, nx bt n s) : Nat × Nat) = f := Sum.inl.inj e
      refine Go_end ?_
      show stpO bt n lo hi mn c s W dep T C = _
      unfold stpO
      rw [if_neg hnW', if_pos c1, if_neg c2, e3]
  · have hst : ∀ x, ePart bt n lo hi (eEx bt n lo hi d dep) s = x → stp bt n lo hi (some (mn, c), s, W, dep, T, C) = (match x with | .inl f => .inr (.inl f) | .inr y => .inl (none, y.2, W, dep, T, C ++ cells y.1)) := by
      intro x hx
      show stpO bt n lo hi mn c s W dep T C = _
      unfold stpO
      rw [if_neg hnW', if_neg c1, ePart_sub (sub' := eEx bt n lo hi d dep) c1, hx]
      cases x <;> rfl
    constructor
    · intro f e
      exact Go_end (hst _ e)
    · intro l s' e r hK
      exact Go_next (hst _ e) (hK W (C ++ cells l) T ⟨[], rfl, (fun a ha => by cases ha), List.append_nil _⟩ (fun _ _ => rfl) (fun _ => rfl) ⟨fun h => by omega, fun h => by omega, fun h => by omega, fun h => by omega, fun h => by omega⟩)
theorem pos_of {h : Nat} {e : Nat → eR} (he : eOk n lo hi h e) : ∀ s l s', s ≤ n → e s = .inr (l, s') → s < s' ∧ s' ≤ n := fun s l s' hs e1 => ⟨(he s l s' hs e1).2.1, (he s l s' hs e1).2.2.1⟩
theorem Lv_ex (hn7 : n ≤ 700) : ∀ d wi, wi < 6 → d + wi = 8 → Lv bt n lo hi 1 (eEx bt n lo hi d wi) (wi + 1)
  | 0, wi, h1, h2 => by omega
  | d + 1, wi, h1, h2 => by
    have q0 := eEx_ok (bt := bt) (n := n) (lo := lo) (hi := hi) d (wi + 1) (by omega)
    have e0 := ePart_ok (bt := bt) (by omega) q0
    have e1 := eBin_ok (bt := bt) (op := opPr bt n) e0 (fun s a ho => by rcases opPr_K ho with x | x <;> exact ⟨by omega, by omega, isS_K x.2⟩)
    have e2 := eBin_ok (bt := bt) (op := opSu bt n) e1 (fun s a ho => by rcases opSu_K ho with x | x <;> exact ⟨by omega, by omega, isS_K x.2⟩)
    have e3 := eNot_ok (bt := bt) (eTest_ok (bt := bt) e2)
    have e4 := eBin_ok (bt := bt) (op := opAn bt n) e3 (fun s a ho => by have x := opAn_K ho; exact ⟨by omega, by omega, isW_K x.2⟩)
    have p0 : Lv bt n lo hi 7 (ePart bt n lo hi (eEx bt n lo hi d (wi + 1))) (wi + 1) := Lv_part (by omega) ⟨by omega, by omega⟩ (fun h => Lv_ex hn7 d (wi + 1) (by omega) (by omega))
    have p1 := Lv_prod p0 hn7 (pos_of e0)
    have p2 := Lv_sum p1 hn7 (pos_of e1)
    have p3 := Lv_not (Lv_test p2 (pos_of e2))
    have p4 := Lv_and p3 hn7 (pos_of e3)
    have p5 := Lv_or p4 hn7 (pos_of e4)
    intro mn c s W T C hs hcap hm hnW hT
    have := p5 mn c s W T C hs hcap hm hnW hT
    unfold eEx
    rw [if_pos h1]
    exact this
/-- the whole of an expression -/
def eFin (C : List Nat) (r : eR) : aR := match r with
  | .inl f => .inl f
  | .inr x => .inr (x.2, C ++ cells x.1 ++ [0])
theorem Go_ex (hn7 : n ≤ 700) {s : Nat} {T : Nat → Bool} {C : List Nat} (hs : s ≤ n) (hT : T 1 = false) : Go bt n lo hi (some (true, 0), s, [], 1, T, C) (eFin C (eEx bt n lo hi 8 0 s)) := by
  obtain ⟨i1, i2⟩ := Lv_ex (bt := bt) (lo := lo) (hi := hi) hn7 8 0 (by decide) rfl true 0 s [] T C hs ⟨rfl, rfl⟩ (fun _ => ⟨rfl, rfl⟩) (fun h => by omega) (fun _ => hT)
  cases e : eEx bt n lo hi 8 0 s with
  | inl f => exact i1 f e
  | inr x =>
    refine i2 x.1 x.2 e _ (fun W' C' T' p3 t3 t5 n3 => Go_end ?_)
    show stpA bt n x.2 W' 1 T' C' = _
    have pd := pend_dr p3 (show 0 ≤ 1 by decide)
    have ha : ¬ (W'.any fun a => decide (14 ≤ a)) = true := by
      obtain ⟨P, rfl, q2, _⟩ := p3
      rw [any_app q2]
      exact fun h => by cases h
    rw [stpA_no n3, if_neg (fun h => ha h.2), if_neg (by decide), pd.2]
    show _ = Sum.inr (Sum.inr (x.2, C ++ cells x.1 ++ [0]))
    rw [show drO 0 [] = [] from rfl, List.append_nil]
end DEEP
