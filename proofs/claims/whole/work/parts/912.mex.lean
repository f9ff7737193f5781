/-! ===== EXPRESSIONS: the reference's small steps ===== -/
def mC (C : List Nat) (w : mW) : Prop := wI w 80 44 = nI C.length ∧ ∀ i v, C[i]? = some v → wI w 97 i = nI v
def mS (W : List Nat) (w : mW) : Prop := wI w 80 45 = nI W.length ∧ (∀ a ∈ W, a ≤ 14) ∧ pSt 98 w (W.map nI)
def mTs (dep : Nat) (T : Nat → Bool) (w : mW) : Prop := ∀ d, 1 ≤ d → d ≤ dep → wI w 99 d = nI (if T d = true then 1 else 0)
abbrev pE : fP := ([97, 98, 99], [(80, 19), (80, 20), (80, 44), (80, 45), (80, 46), (80, 23), (80, 24), (80, 25), (80, 26), (80, 27), (80, 28), (80, 29)])
theorem pSt_cg {a : Nat} {w w' : mW} (h : ∀ j, wI w' a j = wI w a j) : ∀ l : List Int32, pSt a w l → pSt a w' l
  | [], _ => trivial
  | x :: t, hp => ⟨(h _).trans hp.1, pSt_cg h t hp.2⟩
theorem mC_fr {p : fP} {C : List Nat} {w w' : mW} (h : mC C w) (hf : fr p w w') (h1 : fIn p 80 44 = false) (h2 : ∀ i, fIn p 97 i = false) : mC C w' :=
  ⟨(fr_rd hf h1).trans h.1, fun i v e => (fr_rd hf (h2 i)).trans (h.2 i v e)⟩
theorem mS_fr {p : fP} {W : List Nat} {w w' : mW} (h : mS W w) (hf : fr p w w') (h1 : fIn p 80 45 = false) (h2 : ∀ i, fIn p 98 i = false) : mS W w' :=
  ⟨(fr_rd hf h1).trans h.1, h.2.1, pSt_cg (fun j => fr_rd hf (h2 j)) _ h.2.2⟩
theorem mTs_fr {p : fP} {dep : Nat} {T : Nat → Bool} {w w' : mW} (h : mTs dep T w) (hf : fr p w w') (h2 : ∀ i, fIn p 99 i = false) : mTs dep T w' :=
  fun d h1 h3 => (fr_rd hf (h2 d)).trans (h d h1 h3)
section MEX
variable {bt : Nat → Nat} {n : Nat} {w : mW}
theorem tkM_fr {p : fP} {s : Nat} {w w' : mW} (h : tkM bt n s w) (hf : fr p w w') (h1 : ∀ j, 22 ≤ j → j ≤ 29 → fIn p 80 j = false) (h2 : ∀ i, fIn p 87 i = false) : tkM bt n s w' := by
  obtain ⟨a, b, c, d, e, f, g, i, k⟩ := h
  exact ⟨mTx_fr a hf (h1 22 (by decide) (by decide)) h2, b, (fr_rd hf (h1 23 (by decide) (by decide))).trans c, (fr_rd hf (h1 24 (by decide) (by decide))).trans d, (fr_rd hf (h1 25 (by decide) (by decide))).trans e, (fr_rd hf (h1 26 (by decide) (by decide))).trans f, fun k => (fr_rd hf (h1 27 (by decide) (by decide))).trans (g k), fun k => (fr_rd hf (h1 28 (by decide) (by decide))).trans (i k), fun q => (fr_rdJ hf (h1 29 (by decide) (by decide))).trans (k q)⟩
theorem m_on {Q : Unit → mW → Prop} {s : Nat} (hk : tkM bt n s w) (hq : ∀ w', fr pM w w' → tkM bt n (nx bt n s) w' → Q () w') : hP (f187_80 w) Q :=
  m_goes hk.1 hk.2.2.1 (tE_le bt n hk.2.1) hq
theorem m_isS {Q : Int32 → mW → Prop} {s b : Nat} (hb : b < 128) (hk : tkM bt n s w) (h1 : isS bt n s b → Q (nI 1) w) (h0 : ¬ isS bt n s b → Q (nI 0) w) : hP (f193_80 (nI b) w) Q := by
  have hK := tK_le bt n s
  unfold f193_80
  rw [hk.2.2.2.1]
  by_cases c : tK bt n s = 3
  · have hs : s < n := nx_of (by rw [c]; decide) hk.2.1
    have hbt := (hk.1.2.2 s hs).1
    rw [if_pos (by rw [c]; rfl), hk.2.2.2.2.2.2.2.1 hs]
    by_cases c2 : bt s = b
    · rw [if_pos (by rw [c2]), hP_some]; exact h1 ⟨c, c2⟩
    · rw [if_neg (by rw [q_eq (by omega) (by omega)]; exact c2), hP_some]; exact h0 (fun h => c2 h.2)
  · rw [if_neg (by rw [q_lit, q_eq (by omega) (by omega)]; exact c), hP_some]
    exact h0 (fun h => c h.1)
theorem m_good {Q : Int32 → mW → Prop} {k : Nat} (hk : wI w 80 19 = nI k) (hk5 : k ≤ 5) (h1 : k = 0 → Q (nI 1) w) (h0 : ¬ k = 0 → Q (nI 0) w) : hP (f192_80 w) Q := by
  unfold f192_80
  rw [hk]
  by_cases c : k = 0
  · rw [if_pos (by rw [c]; rfl), hP_some]; exact h1 c
  · rw [if_neg (by rw [q_lit, q_eq (by omega) (by omega)]; exact c), hP_some]; exact h0 c
theorem m_good1 {Q : Int32 → mW → Prop} (hk : wI w 80 19 = nI 0) (h1 : Q (nI 1) w) : hP (f192_80 w) Q := m_good hk (by decide) (fun _ => h1) (fun h => absurd rfl h)
theorem m_good0 {Q : Int32 → mW → Prop} {k : Nat} (hk : wI w 80 19 = nI k) (hk5 : 1 ≤ k ∧ k ≤ 5) (h0 : Q (nI 0) w) : hP (f192_80 w) Q := m_good hk (by omega) (fun h => by omega) (fun _ => h0)
theorem m_wrong1 {Q : Unit → mW → Prop} {s : Nat} {x : Int32} (hg : wI w 80 19 = nI 0) (hk : tkM bt n s w) (hq : Q () (nS (nS w 80 19 x) 80 20 (nI s))) : hP (f191_80 x w) Q := by
  unfold f191_80
  rw [hg, if_pos (show nI 0 = 0 from rfl), hP_let, hP_let, hP_some, rd_nSj (by decide), hk.2.2.2.2.1]
  exact hq
theorem m_wrong0 {Q : Unit → mW → Prop} {k : Nat} {x : Int32} (hg : wI w 80 19 = nI k) (hk5 : 1 ≤ k ∧ k ≤ 5) (hq : Q () w) : hP (f191_80 x w) Q := by
  unfold f191_80
  rw [hg, if_neg (by rw [q_lit, q_eq (by omega) (by omega)]; omega), hP_some]
  exact hq
theorem m_puts {Q : Unit → mW → Prop} {C : List Nat} {v : Nat} (hC : mC C w) (hl : C.length < 4000) (hq : ∀ w', fr ([97], [(80, 44)]) w w' → mC (C ++ [v]) w' → Q () w') : hP (f197_80 (nI v) w) Q := by
  obtain ⟨h1, h2⟩ := hC
  unfold f197_80
  rw [h1, hP_gd, hP_let, hP_let, hP_some, q_cl (by omega), rd_nSa (by decide), h1]
  refine ⟨by rw [q_g (by omega)]; exact hl, ?_⟩
  have ei : nI C.length + 1 = nI (C.length + 1) := by rw [← nI_add]; rfl
  rw [ei]
  refine hq _ (fr_nS (fr_nS fr_refl rfl) rfl) ⟨?_, fun i v' e => ?_⟩
  · rw [rd_nS, List.length_append]; rfl
  · rw [rd_nSa (by decide)]
    by_cases c : i < C.length
    · rw [List.getElem?_append_left c] at e
      rw [rd_nSj (by omega)]
      exact h2 i v' e
    · rw [List.getElem?_append_right (by omega)] at e
      have : i - C.length = 0 := by
        apply Classical.byContradiction
        intro hc
        rw [List.getElem?_eq_none (by show 1 ≤ _; omega)] at e
        cases e
      rw [this] at e
      have eo : v = v' := Option.some.inj e
      rw [show i = C.length by omega, rd_nS, eo]
/-- only how long it is -/
theorem m_putsL {Q : Unit → mW → Prop} {m : Nat} {x : Int32} (h1 : wI w 80 44 = nI m) (hl : m < 4000) (hq : ∀ w', fr ([97], [(80, 44)]) w w' → wI w' 80 44 = nI (m + 1) → Q () w') : hP (f197_80 x w) Q := by
  unfold f197_80
  rw [h1, hP_gd, hP_let, hP_let, hP_some, q_cl (by omega), rd_nSa (by decide), h1]
  refine ⟨by rw [q_g (by omega)]; exact hl, ?_⟩
  have ei : nI m + 1 = nI (m + 1) := by rw [← nI_add]; rfl
  rw [ei]
  exact hq _ (fr_nS (fr_nS fr_refl rfl) rfl) rd_nS
theorem m_waits {Q : Unit → mW → Prop} {W : List Nat} {a : Nat} (hS : mS W w) (hl : W.length < 950) (ha : a ≤ 14) (hq : ∀ w', fr ([98], [(80, 45)]) w w' → mS (a :: W) w' → Q () w') : hP (f201_80 (nI a) w) Q := by
  obtain ⟨h1, h2, h3⟩ := hS
  unfold f201_80
  rw [h1, hP_gd, hP_let, hP_let, hP_some, q_cl (by omega), rd_nSa (by decide), h1]
  refine ⟨by rw [q_g (by omega)]; exact hl, ?_⟩
  have ei : nI W.length + 1 = nI (W.length + 1) := by rw [← nI_add]; rfl
  rw [ei]
  refine hq _ (fr_nS (fr_nS fr_refl rfl) rfl) ⟨rd_nS, fun b hb => ?_, ?_, ?_⟩
  · rcases List.mem_cons.mp hb with hb | hb
    · rw [hb]; exact ha
    · exact h2 b hb
  · rw [rd_nSa (by decide), List.length_map, rd_nS]
  · exact pSt_cg (fun j => rd_nSa (by decide)) _ (pSt_up (by rw [List.length_map]; exact Nat.le_refl _) h3)
theorem m_str {Q : Int32 → mW → Prop} {a : Nat} (ha : a ≤ 14) (hq : Q (nI (str a)) w) : hP (f199 (nI a) w) Q := by
  have E : ∀ c, c < 100 → ((nI a = nI c) = (a = c)) := fun c hc => q_eq (by omega) (by omega)
  unfold f199
  unfold str at hq
  simp only [show (5 : Int32) = nI 5 from rfl, show (4 : Int32) = nI 4 from rfl, show (3 : Int32) = nI 3 from rfl, show (6 : Int32) = nI 6 from rfl, show (7 : Int32) = nI 7 from rfl, show (8 : Int32) = nI 8 from rfl, show (9 : Int32) = nI 9 from rfl, E 5 (by decide), E 4 (by decide), E 3 (by decide), E 6 (by decide), E 7 (by decide), E 8 (by decide), E 9 (by decide), hP_if, hP_some]
  repeat' split
  all_goals (rename_i h; first | (simp only [*, if_true, if_false] at hq; exact hq) | (simp_all; done))
theorem m_drops {Q : Unit → mW → Prop} {k : Nat} (hk6 : k ≤ 6) {C W : List Nat} (hS : mS W w) (hC : mC C w) (hl : C.length + W.length < 4000) (hlW : W.length ≤ 950) (hq : ∀ w', fr ([97], [(80, 44), (80, 45)]) w w' → mS (drW k W) w' → mC (C ++ drO k W) w' → Q () w') : hP (f200_80 (nI k) w) Q := by
  unfold f200_80
  refine hP_loopF (fun m w1 => ∃ W1 C1, W1.length = m ∧ fr ([97], [(80, 44), (80, 45)]) w w1 ∧ mS W1 w1 ∧ mC C1 w1 ∧ C1.length + W1.length ≤ C.length + W.length ∧ W1.length ≤ W.length ∧ drW k W1 = drW k W ∧ C1 ++ drO k W1 = C ++ drO k W) W.length (by omega) ⟨W, C, rfl, fr_refl, hS, hC, Nat.le_refl _, Nat.le_refl _, rfl, rfl⟩ ?_
  rintro m w1 rec ⟨W1, C1, hm, f1, hS1, hC1, hl1, hl2, e1, e2⟩ ih
  simp only [f200_80_b0]
  obtain ⟨s1, s2, s3⟩ := id hS1
  rw [s1]
  cases W1 with
  | nil =>
    rw [if_neg (by decide), hP_some]
    refine hq w1 f1 ?_ ?_
    · rw [← e1]; exact hS1
    · rw [← e2]
      show mC (C1 ++ []) w1
      rw [List.append_nil]; exact hC1
  | cons a t =>
    have hlen : (a :: t).length = t.length + 1 := rfl
    rw [hlen] at hl1 hl2 s1 hm ⊢
    have ha : a ≤ 14 := s2 a (List.mem_cons_self ..)
    have es : nI (t.length + 1) - 1 = nI t.length := by
      have := q_sub (a := t.length + 1) (b := 1) (by omega)
      exact this
    have top : wI w1 98 t.length = nI a := by
      have := s3.1
      rw [List.length_map] at this
      exact this
    have stop : ¬ (a < 14 ∧ k ≤ str a) → Q () w1 := by
      intro hc
      refine hq w1 f1 ?_ ?_
      · rw [← e1, (cap_cons hc).1]; exact hS1
      · rw [← e2, (cap_cons hc).2, List.append_nil]; exact hC1
    rw [if_pos (by rw [q_lit, q_lt (by omega) (by omega)]; omega), hP_gd, es, q_cl (by omega), top, hP_B]
    refine ⟨by rw [q_g (by omega)]; omega, ?_⟩
    unfold f198
    by_cases c1 : a < 14
    · rw [if_pos (by rw [q_lit, q_lt (by omega) (by omega)]; exact c1), hP_some, if_pos rfl, hP_gd, s1, es, q_cl (by omega), top, hP_B]
      refine ⟨by rw [q_g (by omega)]; omega, ?_⟩
      refine m_str ha ?_
      have hst := str_le a
      by_cases c2 : str a < k
      · rw [if_pos (by rw [q_lt (by omega) (by omega)]; exact c2), hP_some]
        exact stop (fun h => by omega)
      · rw [if_neg (by rw [q_lt (by omega) (by omega)]; exact c2), hP_let, s1, es, hP_gd, rd_nS, q_cl (by omega), rd_nSa (by decide), top, hP_B]
        refine ⟨by rw [q_g (by omega)]; omega, ?_⟩
        have f2 : fr ([97], [(80, 44), (80, 45)]) w (nS w1 80 45 (nI t.length)) := fr_nS f1 rfl
        have hC2 : mC C1 (nS w1 80 45 (nI t.length)) := mC_fr hC1 (fr_nS fr_refl rfl : fr ([], [(80, 45)]) w1 _) rfl (fun _ => rfl)
        refine m_puts hC2 (by omega) (fun w3 f3 c3 => ?_)
        refine ih t.length w3 (by omega) ⟨t, C1 ++ [a], rfl, fr_then f2 f3 (by decide), ?_, c3, ?_, by omega, ?_, ?_⟩
        · refine mS_fr (p := ([97], [(80, 44)])) (w := nS w1 80 45 (nI t.length)) ⟨rd_nS, fun b hb => s2 b (List.mem_cons_of_mem _ hb), pSt_cg (fun j => rd_nSa (by decide)) _ s3.2⟩ f3 rfl (fun _ => rfl)
        · rw [List.length_append]
          show C1.length + 1 + t.length ≤ _
          omega
        · rw [← e1]
          show _ = if a < 14 ∧ k ≤ str a then drW k t else a :: t
          rw [if_pos ⟨c1, by omega⟩]
        · rw [← e2, List.append_assoc]
          show _ = C1 ++ if a < 14 ∧ k ≤ str a then a :: drO k t else []
          rw [if_pos ⟨c1, by omega⟩]
          rfl
    · rw [if_neg (by rw [q_lit, q_lt (by omega) (by omega)]; exact c1), hP_some, if_neg (by decide), hP_some]
      exact stop (fun h => c1 h.1)
end MEX
