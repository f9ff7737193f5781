/-! ===== LINES: the reference, its steps ===== -/
def cdQ (C : List Nat) (p : Nat) (l : List gO) : Prop := ∀ j v, (cells l ++ [0])[j]? = some v → C[p + j]? = some v
def rA1 (o : Option (List gO)) (C : List Nat) (x : Int32) : Prop := match o with
  | none => x = -nI 1
  | some l => ∃ p, x = nI p ∧ cdQ C p l
def rcM (r : gR) (ga : Nat) (C : List Nat) (w : mW) : Prop := rA1 (r 0) C (wI w 80 38) ∧ rA1 (r 1) C (wI w 80 39) ∧ ∀ i, i < ga → ∃ l p, r (2 + i) = some l ∧ wI w 96 i = nI p ∧ cdQ C p l
def tdM (tD tG : Nat → Bool) (w : mW) : Prop := ∀ c, c < 40 → b64 (wJ w 80 47) c = tD c ∧ b64 (wJ w 80 48) c = tG c
def rIx : List Nat := [13, 15, 16, 20, 18]
def onM (on : Nat → Bool) (w : mW) : Prop := ∃ m, wI w 80 41 = nI m ∧ m < 2 ^ 25 ∧ ∀ i, i < 5 → Nat.testBit m (rIx.getD i 0) = on i
def pMr (r : gR) (ga s : Nat) (w : mW) : Prop := wI w 80 20 = -nI 1 ∧ ∃ C, mC C w ∧ C.length ≤ 2 * s ∧ rcM r ga C w
def pMx (σ : lS) (s : Nat) (w : mW) : Prop := qM σ.1 w ∧ tdM σ.2.1 σ.2.2.1 w ∧ onM σ.2.2.2.1 w ∧ pMr σ.2.2.2.2 (gGa σ.1) s w
abbrev pMm : fP := ([89, 90, 91, 92, 93, 94, 95, 96, 97, 98, 99], [(80, 19), (80, 20), (80, 23), (80, 24), (80, 25), (80, 26), (80, 27), (80, 28), (80, 29), (80, 30), (80, 31), (80, 32), (80, 33), (80, 34), (80, 35), (80, 36), (80, 37), (80, 38), (80, 39), (80, 40), (80, 41), (80, 42), (80, 43), (80, 44), (80, 45), (80, 46), (80, 47), (80, 48)])
theorem tdM_fr {p : fP} {tD tG : Nat → Bool} {w w' : mW} (h : tdM tD tG w) (hf : fr p w w') (h1 : fIn p 80 47 = false) (h2 : fIn p 80 48 = false) : tdM tD tG w' := by
  intro c hc
  rw [fr_rdJ hf h1, fr_rdJ hf h2]
  exact h c hc
theorem onM_fr {p : fP} {on : Nat → Bool} {w w' : mW} (h : onM on w) (hf : fr p w w') (hd : fIn p 80 41 = false) : onM on w' := by
  obtain ⟨m, m1, m2⟩ := h
  exact ⟨m, (fr_rd hf hd).trans m1, m2⟩
theorem rcM_fr {p : fP} {r : gR} {ga : Nat} {C : List Nat} {w w' : mW} (h : rcM r ga C w) (hf : fr p w w') (h1 : fIn p 80 38 = false) (h2 : fIn p 80 39 = false) (h3 : ∀ i, fIn p 96 i = false) : rcM r ga C w' := by
  obtain ⟨a, b, c⟩ := h
  refine ⟨by rw [fr_rd hf h1]; exact a, by rw [fr_rd hf h2]; exact b, fun i hi => ?_⟩
  obtain ⟨l, q, e1, e2, e3⟩ := c i hi
  exact ⟨l, q, e1, (fr_rd hf (h3 i)).trans e2, e3⟩
theorem pMr_fr {p : fP} {r : gR} {ga s s' : Nat} {w w' : mW} (h : pMr r ga s w) (hf : fr p w w') (hd : fOff [96, 97] [(80, 20), (80, 38), (80, 39), (80, 44)] p = true) (hs : s ≤ s') : pMr r ga s' w' := by
  obtain ⟨c0, C, c1, c2, c3⟩ := h
  exact ⟨(fr_rd hf (fOff_cell hd (by decide))).trans c0, C, mC_fr c1 hf (fOff_cell hd (by decide)) (fun i => fOff_row hd (by decide) i), by omega, rcM_fr c3 hf (fOff_cell hd (by decide)) (fOff_cell hd (by decide)) (fun i => fOff_row hd (by decide) i)⟩
theorem pMx_on {σ : lS} {s s' : Nat} {w w' : mW} (h : pMx σ s w) (hf : fr pM w w') (hs : s ≤ s') : pMx σ s' w' :=
  ⟨qM_fr (by decide) hf h.1, tdM_fr h.2.1 hf rfl rfl, onM_fr h.2.2.1 hf rfl, pMr_fr h.2.2.2 hf (by decide) hs⟩
theorem pMx_of {g : gS} {tD tG on : Nat → Bool} {r : gR} {s : Nat} {w : mW} (h1 : qM g w) (h2 : tdM tD tG w) (h3 : onM on w) (h4 : pMr r (gGa g) s w) : pMx (g, tD, tG, on, r) s w := ⟨h1, h2, h3, h4⟩
theorem nLsr_bv {x : Int64} {c : Nat} (h : c < 64) : (nLsr x (nI c)).toBitVec = x.toBitVec.sshiftRight c := by
  show (x.toBitVec.sshiftRight ((((nI c).toInt64 &&& 63).toBitVec.smod 64).toNat)) = _
  rw [sd_s64 h]
theorem b64_sr {x : Int64} {c : Nat} (h : c < 64) : (lg_cmp ((nLsr x (nI c)) &&& 1) 1 = 0) = (b64 x c = true) := by
  have e : (nLsr x (nI c)) &&& 1 = if b64 x c = true then 1 else 0 := by
    apply Int64.toBitVec_inj.mp
    apply BitVec.eq_of_getLsbD_eq
    intro i hi
    have e1 : ((nLsr x (nI c)) &&& 1).toBitVec = (x.toBitVec.sshiftRight c) &&& 1#64 := by
      rw [← nLsr_bv h]
      rfl
    rw [e1, BitVec.getLsbD_and, BitVec.getLsbD_sshiftRight]
    by_cases c0 : i = 0
    · subst c0
      have : c + 0 < 64 := by omega
      have h1 : (1#64).getLsbD 0 = true := by decide
      rw [h1, Bool.and_true]
      simp only [Nat.add_zero, h, if_true]
      unfold b64
      cases hb : x.toBitVec.getLsbD c with
      | true =>
        rw [if_pos rfl]
        have : ¬ 64 ≤ 0 := by decide
        simp [hb]
      | false =>
        rw [if_neg (by decide)]
        simp [hb]
    · have h1 : (1#64).getLsbD i = false := by
        rw [BitVec.getLsbD_one]
        simp [c0]
      rw [h1, Bool.and_false]
      split
      · show false = (1#64).getLsbD i
        rw [h1]
      · show false = (0#64).getLsbD i
        rw [BitVec.getLsbD_zero]
  rw [e]
  cases hb : b64 x c with
  | true => rw [if_pos rfl]; exact propext ⟨fun _ => rfl, fun _ => by decide⟩
  | false => rw [if_neg (by decide)]; exact propext ⟨fun h => absurd h (by decide), fun h => by cases h⟩
