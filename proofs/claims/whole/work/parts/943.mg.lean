/-! ===== the start gives all that a run leans on ===== -/
theorem mCl_mk {ci : Nat} {q : vw_C} (h : mCl[ci]? = some q) : Cond.instantiable q.1 q.2.2 ∈ lw_tbl := by
  match ci, h with
  | 0, h => cases h; exact mIn_at (c := 1) (i := 166) (by decide +kernel)
  | 1, h => cases h; exact mIn_at (c := 2) (i := 172) (by decide +kernel)
  | 2, h => cases h; exact mIn_at (c := 1) (i := 38) (by decide +kernel)
  | 3, h => cases h; exact mIn_at (c := 1) (i := 44) (by decide +kernel)
  | 4, h => cases h; exact mIn_at (c := 2) (i := 77) (by decide +kernel)
  | 5, h => cases h; exact mIn_at (c := 1) (i := 50) (by decide +kernel)
  | 6, h => cases h; exact mIn_at (c := 1) (i := 234) (by decide +kernel)
  | 7, h => cases h; exact mIn_at (c := 2) (i := 67) (by decide +kernel)
  | 8, h => cases h; exact mIn_at (c := 2) (i := 142) (by decide +kernel)
  | 9, h => cases h; exact mIn_at (c := 1) (i := 30) (by decide +kernel)
  | 10, h => cases h; exact mIn_at (c := 6) (i := 216) (by decide +kernel)
  | n + 11, h => simp [mCl] at h
theorem mNest_in : ∀ w ∈ mNest.map (fun q => Cond.methodLinkNest q.1 q.2.1 q.2.2.1 q.2.2.2), w ∈ lw_tbl := mIn_ps [(1, 39), (1, 51), (1, 167), (1, 235), (2, 68), (2, 75), (2, 78), (2, 140), (2, 143), (2, 173), (3, 86)] (by decide +kernel)
theorem mStrs_in : ∀ w ∈ mStrs.map (fun q => Cond.stringRef q.1 q.2.1 q.2.2), w ∈ lw_tbl := mIn_ps [(4, 58), (5, 118), (5, 150), (5, 186), (5, 198), (5, 210), (6, 12), (6, 47), (6, 80), (6, 93), (6, 163)] (by decide +kernel)
theorem mDecl_in : ∀ w ∈ mDecl.map (fun q => Cond.declares q), w ∈ lw_tbl := mIn_ps [(4, 21), (4, 22), (4, 23), (4, 24), (4, 25), (4, 26), (4, 220)] (by decide +kernel)
section MG9
variable {args : Array Value} {s : State}
theorem arr_of {ty : FieldType} (hno : ∀ C, ty ≠ .object C) (h : (Cond.arrayClass ty).before args s = true) : ∃ cA : ClassId, ArrOfT s cA ty ∧ va_RA s cA ty := by
  obtain ⟨c, k, comp, h1, h2, h3⟩ := Cond.arrayClass_spec h
  refine ⟨c, fun N z => ⟨(fun k h => by cases h), k, h2, comp, h3⟩, ?_⟩
  cases ty with
  | object C => exact absurd rfl (hno C)
  | _ => exact h1
theorem arr_over {t : FieldType} (h : (Cond.arrayOver (.array t)).before args s = true) : ∃ cA : ClassId, ArrOfT s cA (.array t) ∧ va_RA s cA (.array t) := by
  obtain ⟨comp, c, k, hc, hi, hk, hkind, hn⟩ := arrayOverA_spec h
  exact ⟨c, fun N z => ⟨(fun k h => by cases h), k, hk, comp, hkind⟩, hn⟩
theorem mG_of {b L : Nat} {xs : Nat → Int32} (hT : stC.before args s = true) (hts : ∀ w ∈ lw_tbl, w.before args s = true) (hX : va_X b L xs s s.heap) (hL : L ≤ 3072) : ∃ (D : va_G) (cA : Nat → ClassId), mG D cA (adF args s b L xs) (mAA s.heap.size) s s.heap := by
  have hA : ∀ a : Nat, a < s.heap.size → ¬ mAA s.heap.size a := fun a h q => absurd q (by show ¬ s.heap.size ≤ a; omega)
  have hk : ∀ c : Nat, ∃ (r : ClassId × (Nat → Nat)), ∀ q : vw_C, mCl[c]? = some q → u_Kn s q.1 q.2.1 q.2.2 r.1 r.2 := by
    intro c
    cases hq : mCl[c]? with
    | none => exact ⟨(0, fun _ => 0), fun q h => by cases h⟩
    | some q =>
      obtain ⟨cC, iS, h⟩ := u_known hts (mCl_in0 hq) (hts _ (mCl_mk hq))
      exact ⟨(cC, iS), fun q' h' => by cases h'; exact h⟩
  obtain ⟨c0, i0, r0⟩ := arr_of (ty := .int) (fun _ h => by cases h) (hts _ (mIn_at (c := 1) (i := 76) (by decide +kernel)))
  obtain ⟨c1, i1, r1⟩ := arr_of (ty := .byte) (fun _ h => by cases h) (hts _ (mIn_at (c := 1) (i := 75) (by decide +kernel)))
  obtain ⟨c2, i2, r2⟩ := arr_of (ty := .boolean) (fun _ h => by cases h) (hts _ (mIn_at (c := 8) (i := 3) (by decide +kernel)))
  obtain ⟨c3, i3, r3⟩ := arr_of (ty := .long) (fun _ h => by cases h) (hts _ (mIn_at (c := 9) (i := 215) (by decide +kernel)))
  have hao : (Cond.arrayOver (.array .int)).before args s = true := hts _ (mIn_at (c := 2) (i := 148) (by decide +kernel))
  obtain ⟨c4, i4, r4⟩ := arr_over hao
  have hE : ∃ c9 : ClassId, s.vm.findClass "LaneEyes" = some c9 := by
    obtain ⟨cC, kC, hfc, -⟩ := Cond.instantiable_spec (hts _ (mIn_at (c := 1) (i := 30) (by decide +kernel) : Cond.instantiable "LaneEyes" 16 ∈ lw_tbl))
    exact ⟨cC, hfc⟩
  obtain ⟨cE, hcE⟩ := hE
  refine ⟨(fun c => (Classical.choose (hk c)).1, fun c => (Classical.choose (hk c)).2), fun k => match k with | 0 => c0 | 1 => c1 | 2 => c2 | 3 => c3 | _ => c4, ⟨fun c q hq => Classical.choose_spec (hk c) q hq, fun k q hq => ?_⟩, fun q hq => va_Nw.of (A := args) rfl (hts _ (mNest_in _ (List.mem_map.mpr ⟨q, hq, rfl⟩))), fun q hq => ?_, va_Nc.of (e_n1 hT), va_Nc.of (e_n2 hT), vx_Zqof (hts _ (mIn_at (c := 4) (i := 45) (by decide +kernel))) (hts _ (mIn_at (c := 1) (i := 13) (by decide +kernel))) (e_us hT) hA, vx_Zqof (hts _ (mIn_at (c := 4) (i := 47) (by decide +kernel))) (hts _ (mIn_at (c := 1) (i := 13) (by decide +kernel))) (e_ss hT) hA, hao, va_Nw.of (A := args) rfl (hts _ (mIn_at (c := 4) (i := 20) (by decide +kernel))), va_Nw.of (A := args) rfl (hts _ (mIn_at (c := 5) (i := 111) (by decide +kernel))), fun x hx => va_Nw.of (A := args) rfl (hts _ (mDecl_in _ (List.mem_map.mpr ⟨x, hx, rfl⟩))), va_Nw.of (A := args) rfl (hts _ (mIn_at (c := 4) (i := 117) (by decide +kernel))), adF_old hT hts hX hL⟩
  · match k, hq with
    | 0, hq => cases hq; exact ⟨i0, r0⟩
    | 1, hq => cases hq; exact ⟨i1, r1⟩
    | 2, hq => cases hq; exact ⟨i2, r2⟩
    | 3, hq => cases hq; exact ⟨i3, r3⟩
    | 4, hq => cases hq; exact ⟨i4, r4⟩
    | n + 5, hq => simp [mTys] at hq
  · have hw := hts _ (mStrs_in _ (List.mem_map.mpr ⟨q, hq, rfl⟩))
    have h1 : q.1 = "LaneEyes" := by
      simp only [mStrs, List.mem_cons, List.not_mem_nil, or_false] at hq
      rcases hq with rfl | rfl | rfl | rfl | rfl | rfl | rfl | rfl | rfl | rfl | rfl <;> rfl
    obtain ⟨-, -, -, sa, -, -, -, -, -, hev⟩ := Cond.stringRef_spec (by rw [h1]; exact hcE) hw
    exact ⟨sa, vk_R.of hw hev⟩
end MG9
