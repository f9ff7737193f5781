/-! ===== the pool in the heap ===== -/
def mTau (ad : Nat → Nat) (v : Value) : Value := match v with
  | .ref k => .ref (ad k)
  | .retAddr _ => if ad 1000103 = 0 then .null else .ref (ad 1000102)
  | v => v
def mTl (ad : Nat → Nat) (lv : mLV) : mLV := lv.map (fun q => (q.1, mTau ad q.2))
theorem mTau_cat (ad : Nat → Nat) (v : Value) : (mTau ad v).category = v.category := by
  cases v <;> first | rfl | (unfold mTau; dsimp only; split <;> rfl)
theorem mTau_rf (ad : Nat → Nat) (r : Option Nat) : mTau ad (va_rf r) = va_rf (r.map ad) := by cases r <;> rfl
def mEnc (cA : Nat → ClassId) (ad : Nat → Nat) (X : mHX) (k : Nat) : va_E :=
  if (mSh X k).1 = 100 then .inl (cA 0, (mSh X k).2, .inl (mI X k))
  else if (mSh X k).1 = 101 then .inl (cA 1, (mSh X k).2, .inl (mI X k))
  else if (mSh X k).1 = 102 then .inl (cA 2, (mSh X k).2, .inl (mI X k))
  else if (mSh X k).1 = 103 then .inl (cA 3, (mSh X k).2, .inr (.inl (mL X k)))
  else if (mSh X k).1 = 104 then .inl (cA 4, (mSh X k).2, .inr (.inr (.inr (.inr (fun j => (mP X k j).map ad)))))
  else .inr ((mSh X k).1, (List.range (mSh X k).2).map (fun j => mTau ad (mFld X k j (mTy (mSh X k).1 j))))
theorem mEnc_congr {cA : Nat → ClassId} {ad : Nat → Nat} {X Y : mHX} {k : Nat} (h1 : mSh Y k = mSh X k) (h2 : mI Y k = mI X k) (h3 : mL Y k = mL X k) (h4 : mP Y k = mP X k) : mEnc cA ad Y k = mEnc cA ad X k := by
  have hf : ∀ (j : Nat) (ty : FieldType), mFld Y k j ty = mFld X k j ty := by
    intro j ty
    cases ty <;> simp only [mFld, h2, h3, h4]
  simp only [mEnc, h1, h2, h3, h4, hf]
def mTys (cA : Nat → ClassId) : List (ClassId × FieldType) := [(cA 0, .int), (cA 1, .byte), (cA 2, .boolean), (cA 3, .long), (cA 4, .array .int)]
/-- the script, an array that stood there before: its length and its ints are written down in ad -/
def mScr (ad : Nat → Nat) (X : mHX) : Prop := mSh X 2000000 = (100, ad 3000000) ∧ mI X 2000000 = fun j => Int32.ofNat (ad (4000000 + j))
/-- the heap holds the pool: cell k at ad k -/
def mHR (D : va_G) (cA : Nat → ClassId) (ad : Nat → Nat) (h0 : Nat) (X : mHX) (H : Heap) : Prop :=
  (∀ k, k < mN X → va_at D mCl (ad k, mEnc cA ad X k) H) ∧ (mN X ≤ 1000000 ∧ mScr ad X) ∧ (∀ k, k < mN X → (mSh X k).1 < 100 → ∃ q : vw_C, mCl[(mSh X k).1]? = some q ∧ q.2.2 = (mSh X k).2) ∧ (mFz X = false → H.size = h0 + mN X)
def mAd (ad : Nat → Nat) (h0 : Nat) : Prop := ∀ k, k < 1000000 → ad k = h0 + k
theorem mAd.ne {ad : Nat → Nat} {h0 : Nat} (h : mAd ad h0) {a b : Nat} (ha : a < 1000000) (hb : b < 1000000) (hn : a ≠ b) : ad a ≠ ad b := by
  rw [h a ha, h b hb]; omega
/-- what a store of one cell leaves: the rest of the pool -/
theorem mHR.put {D : va_G} {cA : Nat → ClassId} {ad : Nat → Nat} {h0 : Nat} {X Y : mHX} {H H1 : Heap} (hA : mAd ad h0) (h : mHR D cA ad h0 X H) {a : Nat} (ha : a < mN X)
    (hz : H1.size = H.size) (oq : ∀ q : Nat, q ≠ ad a → H1[q]? = H[q]?) (hn : mN Y = mN X) (hf : mFz Y = mFz X) (hs : mSh Y = mSh X)
    (hI : ∀ k, k ≠ a → mI Y k = mI X k) (hL : ∀ k, k ≠ a → mL Y k = mL X k) (hP : ∀ k, k ≠ a → mP Y k = mP X k) (he : va_at D mCl (ad a, mEnc cA ad Y a) H1) : mHR D cA ad h0 Y H1 := by
  obtain ⟨h1, h2, h3, h4⟩ := h
  refine ⟨fun k hk => ?_, ⟨by rw [hn]; exact h2.1, by rw [hs]; exact h2.2.1, by rw [hI 2000000 (by have := h2.1; omega)]; exact h2.2.2⟩, fun k hk => ?_, fun hz2 => ?_⟩
  · rw [hn] at hk
    by_cases e : k = a
    · subst e; exact he
    · rw [mEnc_congr (by rw [hs]) (hI k e) (hL k e) (hP k e)]
      exact (h1 k hk).kept (oq _ (hA.ne (by omega) (by omega) e))
  · rw [hs]
    exact h3 k (by rw [← hn]; exact hk)
  · rw [hz, hn]
    exact h4 (by rw [← hf]; exact hz2)
theorem mUp_ne {α : Type} {f : Nat → Nat → α} {a j k : Nat} {v : α} (h : k ≠ a) : mUp f a j v k = f k := by
  simp [mUp, h]
theorem mUp_eq {α : Type} {f : Nat → Nat → α} {a j : Nat} {v : α} : mUp f a j v a = fun i => if i = j then v else f a i := by
  simp [mUp]
theorem mGet_mem {lv : mLV} {i : Nat} {v : Value} (h : mGet lv i = some v) : (i, v) ∈ lv := by
  induction lv with
  | nil => cases h
  | cons e t ih =>
    obtain ⟨e1, e2⟩ := e
    simp only [mGet] at h
    by_cases q : e1 = i
    · rw [if_pos q] at h
      cases h
      subst q
      exact List.mem_cons_self
    · rw [if_neg q] at h
      exact List.mem_cons_of_mem _ (ih h)
theorem mTl_at {ad : Nat → Nat} {ls : Array Slot} {nL : Nat} {lv : mLV} (h : lv_has ls nL (mTl ad lv)) {i : Nat} {v : Value} (hg : mGet lv i = some v) : ls[i]? = some (.val (mTau ad v)) :=
  h.2.2 (i, mTau ad v) (List.mem_map.mpr ⟨(i, v), mGet_mem hg, rfl⟩)
theorem mTl_mem {ad : Nat → Nat} {lv : mLV} {i : Nat} {v : Value} (hg : mGet lv i = some v) : ∃ k : Nat, (mTl ad lv)[k]? = some (i, mTau ad v) := by
  have h : (i, mTau ad v) ∈ mTl ad lv := List.mem_map.mpr ⟨(i, v), mGet_mem hg, rfl⟩
  exact List.getElem?_of_mem h
theorem mTl_keep1 (ad : Nat → Nat) (lv : mLV) (i : Nat) : (mTl ad lv).filter (fun q => !(q.1 == i) && !(q.1 + 1 == i && q.2.category == 2)) = mTl ad (lv.filter (mKeep1 i)) := by
  unfold mTl
  rw [List.filter_map]
  congr 1
  apply List.filter_congr
  intro q _
  simp only [Function.comp, mKeep1, mTau_cat]
theorem mTl_keep2 (ad : Nat → Nat) (lv : mLV) (i : Nat) : (mTl ad lv).filter (fun q => !(q.1 == i) && (!(q.1 == i + 1) && !(q.1 + 1 == i && q.2.category == 2))) = mTl ad (lv.filter (mKeep2 i)) := by
  unfold mTl
  rw [List.filter_map]
  congr 1
  apply List.filter_congr
  intro q _
  simp only [Function.comp, mKeep2, mTau_cat]
theorem mTo_eq {pc : Nat} {off : Int} (h : 0 ≤ (pc : Int) + off) : (pc : Int) + off = ((mTo pc off : Nat) : Int) := by
  unfold mTo
  omega
/-! the words that all methods share -/
def mT : List Cond := lw_tbl.filter goodWord
theorem mT_in {w : Cond} (h : w ∈ lw_tbl) (g : goodWord w = true) : w ∈ mT := List.mem_filter.mpr ⟨h, g⟩
theorem mT_at {i : Nat} {w : Cond} (h : lw_tbl[i]? = some w) (g : goodWord w = true) : w ∈ mT := mT_in (List.mem_of_getElem? h) g
theorem u_ws_good (C : String) (T : u_T) (N : Nat) : ∀ w ∈ u_ws C T N, goodWord w = true := by
  intro w hw
  obtain ⟨k, -, rfl⟩ := List.mem_map.mp hw
  unfold u_lay
  split <;> rfl
/-! the tables by chunks (places: wip/whole/tab.py) -/
def mCh (c : Nat) : List Cond := match c with
  | 0 => k2_sels lw_privs
  | 1 => tables_1_1
  | 2 => tables_1_2
  | 3 => tables_1_3
  | 4 => tables_1_4
  | 5 => tables_1_5
  | 6 => tables_1_6
  | 7 => tables_1_7
  | 8 => tables_1_8
  | 9 => tables_1_9
  | _ => tables_1_10
theorem mCh_in : ∀ (c : Nat) (w : Cond), w ∈ mCh c → w ∈ lw_tbl := by
  have t : ∀ w : Cond, w ∈ tables_1 → w ∈ lw_tbl := fun w h => List.mem_append_right _ h
  intro c w h
  match c, h with
  | 0, h => exact List.mem_append_left _ h
  | 1, h => exact t w (List.mem_append_left _ h)
  | 2, h => exact t w (List.mem_append_right _ (List.mem_append_left _ h))
  | 3, h => exact t w (List.mem_append_right _ (List.mem_append_right _ (List.mem_append_left _ h)))
  | 4, h => exact t w (List.mem_append_right _ (List.mem_append_right _ (List.mem_append_right _ (List.mem_append_left _ h))))
  | 5, h => exact t w (List.mem_append_right _ (List.mem_append_right _ (List.mem_append_right _ (List.mem_append_right _ (List.mem_append_left _ h)))))
  | 6, h => exact t w (List.mem_append_right _ (List.mem_append_right _ (List.mem_append_right _ (List.mem_append_right _ (List.mem_append_right _ (List.mem_append_left _ h))))))
  | 7, h => exact t w (List.mem_append_right _ (List.mem_append_right _ (List.mem_append_right _ (List.mem_append_right _ (List.mem_append_right _ (List.mem_append_right _ (List.mem_append_left _ h)))))))
  | 8, h => exact t w (List.mem_append_right _ (List.mem_append_right _ (List.mem_append_right _ (List.mem_append_right _ (List.mem_append_right _ (List.mem_append_right _ (List.mem_append_right _ (List.mem_append_left _ h))))))))
  | 9, h => exact t w (List.mem_append_right _ (List.mem_append_right _ (List.mem_append_right _ (List.mem_append_right _ (List.mem_append_right _ (List.mem_append_right _ (List.mem_append_right _ (List.mem_append_right _ (List.mem_append_left _ h)))))))))
  | n + 10, h => exact t w (List.mem_append_right _ (List.mem_append_right _ (List.mem_append_right _ (List.mem_append_right _ (List.mem_append_right _ (List.mem_append_right _ (List.mem_append_right _ (List.mem_append_right _ (List.mem_append_right _ h)))))))))
theorem mIn_at {c i : Nat} {w : Cond} (h : (mCh c)[i]? = some w) : w ∈ lw_tbl := mCh_in c w (List.mem_of_getElem? h)
theorem mIn_ps {ws : List Cond} (ps : List (Nat × Nat)) (h : ws = ps.filterMap (fun q => (mCh q.1)[q.2]?)) : ∀ w ∈ ws, w ∈ lw_tbl := by
  intro w hw
  rw [h] at hw
  obtain ⟨q, -, hq⟩ := List.mem_filterMap.mp hw
  exact mIn_at hq
set_option maxRecDepth 20000 in
theorem mCl_w1 : ∀ w ∈ u_ws RX1 TX1 12, w ∈ lw_tbl := mIn_ps [(1, 208), (1, 210), (1, 212), (1, 214), (1, 216), (1, 218), (1, 220), (1, 222), (1, 224), (1, 226), (1, 228), (1, 230)] (by decide +kernel)
set_option maxRecDepth 20000 in
theorem mCl_w2 : ∀ w ∈ u_ws RX2 TX2 3, w ∈ lw_tbl := mIn_ps [(2, 183), (2, 185), (2, 187)] (by decide +kernel)
set_option maxRecDepth 20000 in
theorem mCl_w3 : ∀ w ∈ u_ws RX3 TX3 11, w ∈ lw_tbl := mIn_ps [(2, 43), (2, 45), (2, 47), (2, 49), (2, 51), (2, 53), (2, 55), (2, 57), (2, 59), (2, 61), (2, 63)] (by decide +kernel)
set_option maxRecDepth 20000 in
theorem mCl_w4 : ∀ w ∈ u_ws RX4 TX4 14, w ∈ lw_tbl := mIn_ps [(1, 136), (1, 138), (1, 140), (1, 142), (1, 144), (1, 146), (1, 148), (1, 150), (1, 152), (1, 154), (1, 156), (1, 158), (1, 160), (1, 162)] (by decide +kernel)
set_option maxRecDepth 20000 in
theorem mCl_w5 : ∀ w ∈ u_ws RX5 TX5 7, w ∈ lw_tbl := mIn_ps [(2, 89), (2, 91), (2, 93), (2, 95), (2, 97), (2, 99), (2, 101)] (by decide +kernel)
set_option maxRecDepth 20000 in
theorem mCl_w6 : ∀ w ∈ u_ws RX6 TX6 6, w ∈ lw_tbl := mIn_ps [(1, 62), (1, 64), (1, 66), (1, 68), (1, 70), (1, 72)] (by decide +kernel)
set_option maxRecDepth 20000 in
theorem mCl_w7 : ∀ w ∈ u_ws RX7 TX7 8, w ∈ lw_tbl := mIn_ps [(2, 11), (2, 13), (2, 15), (2, 17), (2, 19), (2, 21), (2, 23), (2, 25)] (by decide +kernel)
set_option maxRecDepth 20000 in
theorem mCl_w8 : ∀ w ∈ u_ws RX8 TX8 10, w ∈ lw_tbl := mIn_ps [(2, 118), (2, 120), (2, 122), (2, 124), (2, 126), (2, 128), (2, 130), (2, 132), (2, 134), (2, 136)] (by decide +kernel)
set_option maxRecDepth 20000 in
theorem mCl_w9 : ∀ w ∈ u_ws RX9 TX9 6, w ∈ lw_tbl := mIn_ps [(2, 158), (2, 160), (2, 162), (2, 164), (2, 166), (2, 168)] (by decide +kernel)
set_option maxRecDepth 20000 in
theorem mCl_w11 : ∀ w ∈ u_ws RX11 TX11 16, w ∈ lw_tbl := mIn_ps [(2, 206), (2, 208), (2, 210), (2, 212), (2, 214), (2, 216), (2, 218), (2, 220), (2, 222), (2, 224), (2, 226), (2, 228), (2, 230), (2, 232), (2, 234), (2, 236)] (by decide +kernel)
set_option maxRecDepth 20000 in
theorem mCl_w12 : ∀ w ∈ u_ws RX12 TX12 87, w ∈ lw_tbl := mIn_ps [(7, 68), (7, 70), (7, 72), (7, 74), (7, 76), (7, 78), (7, 80), (7, 82), (7, 84), (7, 86), (7, 88), (7, 90), (7, 92), (7, 94), (7, 96), (7, 98), (7, 100), (7, 102), (7, 104), (7, 106), (7, 108), (7, 110), (7, 112), (7, 114), (7, 116), (7, 118), (7, 120), (7, 122), (7, 124), (7, 126), (7, 128), (7, 130), (7, 132), (7, 134), (7, 136), (7, 138), (7, 140), (7, 142), (7, 144), (7, 146), (7, 148), (7, 150), (7, 152), (7, 154), (7, 156), (7, 158), (7, 160), (7, 162), (7, 164), (7, 166), (7, 168), (7, 170), (7, 172), (7, 174), (7, 176), (7, 178), (7, 180), (7, 182), (7, 184), (7, 186), (7, 188), (7, 190), (7, 192), (7, 194), (7, 196), (7, 198), (7, 200), (7, 202), (7, 204), (7, 206), (7, 208), (7, 210), (7, 212), (7, 214), (7, 216), (7, 218), (7, 220), (7, 222), (7, 224), (7, 226), (7, 228), (7, 230), (7, 232), (7, 234), (7, 236), (7, 238), (8, 0)] (by decide +kernel)
theorem mCl_in0 {ci : Nat} {q : vw_C} (h : mCl[ci]? = some q) : ∀ w ∈ u_ws q.1 q.2.1 q.2.2, w ∈ lw_tbl := by
  match ci, h with
  | 0, h => cases h; exact mCl_w1
  | 1, h => cases h; exact mCl_w2
  | 2, h => cases h; exact mCl_w3
  | 3, h => cases h; exact mCl_w4
  | 4, h => cases h; exact mCl_w5
  | 5, h => cases h; exact mCl_w6
  | 6, h => cases h; exact mCl_w7
  | 7, h => cases h; exact mCl_w8
  | 8, h => cases h; exact mCl_w9
  | 9, h => cases h; exact mCl_w11
  | 10, h => cases h; exact mCl_w12
  | n + 11, h => simp [mCl] at h
theorem mCl_in {ci : Nat} {q : vw_C} (h : mCl[ci]? = some q) : ∀ w ∈ u_ws q.1 q.2.1 q.2.2, w ∈ mT := fun w hw => mT_in (mCl_in0 h w hw) (u_ws_good _ _ _ w hw)
theorem mCl_ty {ci : Nat} {q : vw_C} (h : mCl[ci]? = some q) : ∀ k, k < q.2.2 → parseFieldDescriptor (q.2.1 k).2.2.1 = some (mTy ci k) := by
  match ci, h with
  | 0, h => cases h; exact tyX1_ok
  | 1, h => cases h; exact tyX2_ok
  | 2, h => cases h; exact tyX3_ok
  | 3, h => cases h; exact tyX4_ok
  | 4, h => cases h; exact tyX5_ok
  | 5, h => cases h; exact tyX6_ok
  | 6, h => cases h; exact tyX7_ok
  | 7, h => cases h; exact tyX8_ok
  | 8, h => cases h; exact tyX9_ok
  | 9, h => cases h; exact tyX11_ok
  | 10, h => cases h; exact tyX12_ok
  | n + 11, h => simp [mCl] at h
theorem mCl_nm {ci : Nat} {q : vw_C} (h : mCl[ci]? = some q) : ∀ a, a < q.2.2 → ∀ b, b < q.2.2 → a ≠ b → (q.2.1 a).2.1 ≠ (q.2.1 b).2.1 := by
  match ci, h with
  | 0, h => cases h; exact nmX1
  | 1, h => cases h; exact nmX2
  | 2, h => cases h; exact nmX3
  | 3, h => cases h; exact nmX4
  | 4, h => cases h; exact nmX5
  | 5, h => cases h; exact nmX6
  | 6, h => cases h; exact nmX7
  | 7, h => cases h; exact nmX8
  | 8, h => cases h; exact nmX9
  | 9, h => cases h; exact nmX11
  | 10, h => cases h; exact nmX12
  | n + 11, h => simp [mCl] at h
