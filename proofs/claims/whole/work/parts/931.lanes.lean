/-! ===== OPERATIONS: lanes ===== -/
section LANES
variable {w w' : mW}
theorem cdC_of : ∀ (l : List gO) (a : Nat), (∀ j o, l[j]? = some o → a + j < 700 ∧ wI w 30 (a + j) = cO o) → cdC w a l
  | [], _, _ => trivial
  | o :: t, a, h => by
    have h0 := h 0 o rfl
    refine ⟨h0.1, h0.2, cdC_of t (a + 1) (fun j o' e => ?_)⟩
    have := h (j + 1) o' e
    rw [show a + 1 + j = a + (j + 1) by omega]
    exact this
theorem cdM_of : ∀ (l : List gO) (k : Nat), (∀ j v, (cells l ++ [0])[j]? = some v → k + j < 4000 ∧ wI w 86 (k + j) = nI v) → cdM w k l
  | [], k, h => h 0 0 rfl
  | o :: t, k, h => by
    by_cases c : o.1 ≤ 2
    · have ec : cells (o :: t) = [o.1, o.2] ++ cells t := by
        show cell1 o ++ cells t = _
        unfold cell1
        rw [if_pos c]
      rw [ec] at h
      have h0 := h 0 o.1 rfl
      have h1 := h 1 o.2 rfl
      refine .inl ⟨c, h1.1, h0.2, h1.2, cdM_of t (k + 2) (fun j v e => ?_)⟩
      have := h (j + 2) v e
      rw [show k + 2 + j = k + (j + 2) by omega]
      exact this
    · have ec : cells (o :: t) = [o.1] ++ cells t := by
        show cell1 o ++ cells t = _
        unfold cell1
        rw [if_neg c]
      rw [ec] at h
      have h0 := h 0 o.1 rfl
      refine .inr ⟨by omega, h0.1, h0.2, cdM_of t (k + 1) (fun j v e => ?_)⟩
      have := h (j + 1) v e
      rw [show k + 1 + j = k + (j + 1) by omega]
      exact this
/-- the class has the new pool -/
theorem new_C {σ : lS} {s L : Nat} (hσ : okS σ) (hs : s ≤ 700) (hX : pCx σ s w) (hL : wI w 8 1 = nI L) (hL7 : L ≤ 700) (w1 : mW) (h1 : cpP L w w1) (f1 : fr ([25, 26, 27, 28, 30, 31, 32], [(24, 0), (24, 1), (24, 4), (24, 6), (24, 7), (24, 8), (24, 9), (24, 10), (24, 12), (29, 1), (29, 5)]) w w1) (f2 : fr ([35, 36, 37, 38, 39, 40, 41], [(34, 1), (34, 4), (34, 5), (34, 7), (34, 9)]) w1 w') (h2 : cpC w1 w' 34 35 36 37 38 39 40 41 13 14 15 16 17 18 19 20) :
    rC σ.1 w' ∧ rCr σ.2.2.2.2 σ.1 w' ∧ iTir σ.2.2.2.2 w' ∧ wI w' 34 5 = nI 0 ∧ wI w' 34 7 = nI 0 ∧ wI w' 34 9 = nI 0 := by
  obtain ⟨g, tD, tG, on, r⟩ := σ
  obtain ⟨q, _, _, ⟨z4, z5, z7, z9⟩, K, k1, k2, k3⟩ := hX
  have q : qC g w := q
  have ho : gOk g := hσ.1
  have hmi : gMi g = 0 := hσ.2.1
  have hgs : ∀ i, i < gGa g → ∃ l, r (2 + i) = some l := hσ.2.2.2.2.2.1
  obtain ⟨⟨a0, a1, a4, a6, a7, a8, a9, a10, a12, a5⟩, b25, b26, b27, b28, b30, b31, b32⟩ := h1
  obtain ⟨c1, c2, c3, c4, c5, c6, c7, d1, d4, d5, d7, d9⟩ := h2
  have hKL : K.length = L := by
    have := k1.1.symm.trans hL
    rw [q_eq (by omega) (by omega)] at this
    exact this
  have sw := gOk_sw ho
  have lk := gOk_lk ho
  have ca := gOk_ca ho
  have ga := gOk_ga ho
  have R3 : ∀ {j}, wI w' 24 j = wI w1 24 j := fr_rd f2 rfl
  have at2 : ∀ i, i < 6 → rAtC w' i (r i) := by
    intro i hi
    have h31 : wI w' 31 i = wI w 10 i := (fr_rd f2 rfl).trans (b31 i hi)
    have h32 : wI w' 32 i = wI w 11 i := (fr_rd f2 rfl).trans (b32 i hi)
    have hh : match r i with
      | none => wI w 10 i = nI 0 ∧ wI w 11 i = nI 0
      | some l => ∃ a, wI w 10 i = nI a ∧ wI w 11 i = nI (a + l.length) ∧ a + l.length ≤ K.length ∧ ∀ j o, l[j]? = some o → K[a + j]? = some o := k3 i hi
    cases hr : r i with
    | none =>
      rw [hr] at hh
      exact ⟨0, 0, h31.trans hh.1, h32.trans hh.2, by decide, by decide, Nat.le_refl _⟩
    | some l =>
      rw [hr] at hh
      obtain ⟨a, e1, e2, e3, e4⟩ := hh
      refine ⟨a, a + l.length, h31.trans e1, h32.trans e2, by omega, by omega, rfl, cdC_of l a (fun j o e => ?_)⟩
      have hb := e4 j o e
      have hlt := (List.getElem?_eq_some_iff.mp hb).1
      refine ⟨by omega, ?_⟩
      rw [fr_rd f2 rfl, b30 _ (by omega)]
      exact k1.2.1 _ _ hb
  refine ⟨⟨R3.trans (a0.trans (qC_wd q)), R3.trans (a1.trans (qC_hi q)), R3.trans (a4.trans (qC_sw q)), R3.trans (a6.trans (qC_lk q)), R3.trans (a7.trans (qC_la q)), R3.trans (a8.trans (qC_ti q)), R3.trans (a9.trans (qC_ga q)), R3.trans (a10.trans (qC_ca q)), d1.trans ((fr_rd f1 rfl).trans (qC_ch q)), ?_, fun c hc => (fr_rd f2 rfl).trans ((b25 c hc).trans (qC_deep q c hc)), fun c hc => (fr_rd f2 rfl).trans ((b26 c hc).trans (qC_glare q c hc)), fun i hi => (fr_rd f2 rfl).trans ((b27 i (Nat.lt_of_lt_of_le hi sw)).trans (qC_skill q i hi)), fun i j hi hj => ?_, R3.trans (a12.trans (qC_tro q)), fun i hi => (c1 i (Nat.lt_of_lt_of_le hi sw)).trans ((fr_rd f1 rfl).trans (qC_at q i hi)), fun i hi => (c2 i (Nat.lt_of_lt_of_le hi lk)).trans ((fr_rd f1 rfl).trans (qC_lat q i hi)), fun i hi => (c3 i (Nat.lt_of_lt_of_le hi lk)).trans ((fr_rd f1 rfl).trans (qC_las q i hi))⟩, ⟨at2 0 (by decide), at2 1 (by decide), fun i hi => ?_⟩, ?_, d5.trans ((fr_rd f1 rfl).trans z5), d7.trans ((fr_rd f1 rfl).trans z7), d9.trans ((fr_rd f1 rfl).trans z9)⟩
  · show wI w' 34 4 = nI (gMi g)
    rw [hmi]
    exact d4.trans ((fr_rd f1 rfl).trans z4)
  · have hi : i < gCa g := hi
    rw [fr_rd f2 rfl, b28 _ (by omega)]
    exact qC_case q i j hi hj
  · have hi : i < gGa g := hi
    obtain ⟨l, hl⟩ := hgs i hi
    exact ⟨l, hl, at2 (2 + i) (by omega)⟩
  · have e5 : wI w' 29 5 = nI (tiV K) := (fr_rd f2 rfl).trans (a5.trans k1.2.2)
    by_cases ct : ((2, 0) : gO) ∈ K
    · refine .inl ?_
      rw [e5]
      unfold tiV
      rw [if_pos ct]
    · refine .inr ⟨?_, fun l hl hm => ct ?_⟩
      · rw [e5]
        unfold tiV
        rw [if_neg ct]
      · have hh := k3 0 (by decide)
        have hh : match r 0 with
          | none => wI w 10 0 = nI 0 ∧ wI w 11 0 = nI 0
          | some l => ∃ a, wI w 10 0 = nI a ∧ wI w 11 0 = nI (a + l.length) ∧ a + l.length ≤ K.length ∧ ∀ j o, l[j]? = some o → K[a + j]? = some o := hh
        have hl : r 0 = some l := hl
        rw [hl] at hh
        obtain ⟨a, _, _, _, e4⟩ := hh
        obtain ⟨j, hj⟩ := List.mem_iff_getElem?.mp hm
        exact List.mem_iff_getElem?.mpr ⟨a + j, e4 j _ hj⟩
/-- the reference has the new pool -/
theorem new_M {σ : lS} {s : Nat} (hσ : okS σ) (hs : s ≤ 700) (hX : pMx σ s w) (h1 : cpM w w') : rM σ.1 w' ∧ rMr σ.2.2.2.2 σ.1 w' := by
  obtain ⟨g, tD, tG, on, r⟩ := σ
  obtain ⟨q, _, _, _, C, k1, k2, k3⟩ := hX
  have q : qM g w := q
  have ho : gOk g := hσ.1
  have hmi : gMi g = 0 := hσ.2.1
  obtain ⟨⟨a1, a2, a3, a4, a5, a6, a7, a8, a9, a10, a36, a37, _⟩, b1, b2, b3, b4, b5, b6, b7⟩ := h1
  have sw := gOk_sw ho
  have lk := gOk_lk ho
  have ca := gOk_ca ho
  have ga := gOk_ga ho
  have cd : ∀ p l, cdQ C p l → cdM w' p l := by
    intro p l h
    refine cdM_of l p (fun j v e => ?_)
    have hb := h j v e
    have hlt := (List.getElem?_eq_some_iff.mp hb).1
    refine ⟨by omega, ?_⟩
    rw [b6 _ (by omega)]
    exact k1.2 _ _ hb
  have one : ∀ (o : Option (List gO)) (j k : Nat), rA1 o C (wI w 80 k) → wI w' 80 j = wI w 80 k → rAt w' 80 j o := by
    intro o j k h e
    cases o with
    | none => exact e.trans h
    | some l =>
      obtain ⟨p, h1, h2⟩ := h
      exact ⟨p, e.trans h1, cd p l h2⟩
  refine ⟨⟨a1.trans (qM_wd q), a2.trans (qM_hi q), a3.trans (qM_sw q), a4.trans (qM_lk q), a5.trans (qM_la q), a6.trans (qM_ti q), a7.trans (qM_ga q), a8.trans (qM_ca q), a36.trans (qM_ch q), ?_, fun c hc => (b1 c hc).trans (qM_deep q c hc), fun c hc => (b2 c hc).trans (qM_glare q c hc), fun i hi => (b3 i (Nat.lt_of_lt_of_le hi sw)).trans (qM_skill q i hi), fun i hi => ?_, fun i hi => (b7 i (Nat.lt_of_lt_of_le hi sw)).1.trans (qM_at q i hi), fun i hi => (b7 i (Nat.lt_of_lt_of_le hi lk)).2.1.trans (qM_lat q i hi), fun i hi => (b7 i (Nat.lt_of_lt_of_le hi lk)).2.2.trans (qM_las q i hi)⟩, one _ 9 38 k3.1 a9, one _ 10 39 k3.2.1 a10, fun i hi => ?_⟩
  · show wI w' 100 37 = nI (gMi g)
    rw [hmi]
    exact a37
  · have hi : i < 5 * gCa g := hi
    rw [b4 i (by omega)]
    exact qM_case q i hi
  · have hi : i < gGa g := hi
    obtain ⟨l, p, e1, e2, e3⟩ := k3.2.2 i hi
    exact ⟨l, p, e1, (b5 i (by omega)).trans e2, cd p l e3⟩
end LANES
