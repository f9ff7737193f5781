/-! ===== the blocks of the code; facts of the pool ===== -/
theorem mAt_in {c c2 : mCodeT} (hi : mInc c = true) (h : c = c2) {x : Nat × mIns} (hx : x ∈ c2) : mAt c x.1 = some x.2 := by subst h; exact mInc_at hi x hx
theorem nP64 : ∀ j, j < 12 → ∀ w, nP w 64 j = some (65 + j) := by
  intro j hj w
  have h : ∀ j, j < 12 → nP0 64 j = some (65 + j) := by decide +kernel
  unfold nP
  rw [if_neg (fun g => absurd g.1 (by decide)), if_neg (fun g => absurd g.1 (by decide))]
  exact h j hj
theorem nRow64 {i : Int32} (h : nG i 12 = true) : nC (65 + i.toNatClampNeg) 100 108 := by
  have g : ∀ j, j < 12 → nCb (65 + j) 100 108 = true := by decide +kernel
  have := nG_in h
  unfold vp_in at this
  exact nCb_ok (g _ (by omega))
theorem nTwo {α : Type} {d : Nat} {M : mRec} {q : α → mOut} {pc : Nat} {c : mCodeT} {rg : List (Option Value)} {st : List Value} {w : mW} {A B : Option (α × mW)} {v : Nat} (h1 : v = 42 → mRs d M q c pc rg (.ref v :: st) w A) (h2 : v = 46 → mRs d M q c pc rg (.ref v :: st) w B) : mRs d M q c pc rg (.ref v :: st) w (if v = 42 then A else if v = 46 then B else none) := by
  by_cases e : v = 42
  · rw [if_pos e]; exact h1 e
  · rw [if_neg e]
    by_cases e2 : v = 46
    · rw [if_pos e2]; exact h2 e2
    · rw [if_neg e2]; exact sT sNone
set_option maxRecDepth 8000 in
theorem hi1 : mInc mC1 = true := by decide +kernel
theorem hb1_0 : ∀ x ∈ mB1_0, mAt mC1 x.1 = some x.2 := fun x hx => mInc_at hi1 x hx
set_option maxRecDepth 8000 in
theorem hi2 : mInc mC2 = true := by decide +kernel
theorem hb2_0 : ∀ x ∈ mB2_0, mAt mC2 x.1 = some x.2 := fun x hx => mInc_at hi2 x hx
set_option maxRecDepth 8000 in
theorem hi3 : mInc mC3 = true := by decide +kernel
theorem hb3_0 : ∀ x ∈ mB3_0, mAt mC3 x.1 = some x.2 := fun x hx => mInc_at hi3 x (List.mem_append_left _ hx)
theorem hb3_35 : ∀ x ∈ mB3_35, mAt mC3 x.1 = some x.2 := fun x hx => mInc_at hi3 x (List.mem_append_right _ hx)
set_option maxRecDepth 8000 in
theorem hi4 : mInc mC4 = true := by decide +kernel
theorem hb4_0 : ∀ x ∈ mB4_0, mAt mC4 x.1 = some x.2 := fun x hx => mInc_at hi4 x (List.mem_append_left _ hx)
theorem hb4_9 : ∀ x ∈ mB4_9, mAt mC4 x.1 = some x.2 := fun x hx => mInc_at hi4 x (List.mem_append_right _ (List.mem_append_left _ hx))
theorem hb4_92 : ∀ x ∈ mB4_92, mAt mC4 x.1 = some x.2 := fun x hx => mInc_at hi4 x (List.mem_append_right _ (List.mem_append_right _ (List.mem_append_left _ hx)))
theorem hb4_102 : ∀ x ∈ mB4_102, mAt mC4 x.1 = some x.2 := fun x hx => mInc_at hi4 x (List.mem_append_right _ (List.mem_append_right _ (List.mem_append_right _ (List.mem_append_left _ hx))))
theorem hb4_110 : ∀ x ∈ mB4_110, mAt mC4 x.1 = some x.2 := fun x hx => mInc_at hi4 x (List.mem_append_right _ (List.mem_append_right _ (List.mem_append_right _ (List.mem_append_right _ (List.mem_append_left _ hx)))))
theorem hb4_120 : ∀ x ∈ mB4_120, mAt mC4 x.1 = some x.2 := fun x hx => mInc_at hi4 x (List.mem_append_right _ (List.mem_append_right _ (List.mem_append_right _ (List.mem_append_right _ (List.mem_append_right _ (List.mem_append_left _ hx))))))
theorem hb4_129 : ∀ x ∈ mB4_129, mAt mC4 x.1 = some x.2 := fun x hx => mInc_at hi4 x (List.mem_append_right _ (List.mem_append_right _ (List.mem_append_right _ (List.mem_append_right _ (List.mem_append_right _ (List.mem_append_right _ (List.mem_append_left _ hx)))))))
theorem hb4_137 : ∀ x ∈ mB4_137, mAt mC4 x.1 = some x.2 := fun x hx => mInc_at hi4 x (List.mem_append_right _ (List.mem_append_right _ (List.mem_append_right _ (List.mem_append_right _ (List.mem_append_right _ (List.mem_append_right _ (List.mem_append_right _ hx)))))))
set_option maxRecDepth 8000 in
theorem hi5 : mInc mC5 = true := by decide +kernel
theorem hb5_0 : ∀ x ∈ mB5_0, mAt mC5 x.1 = some x.2 := fun x hx => mInc_at hi5 x hx
set_option maxRecDepth 8000 in
theorem hi6 : mInc mC6 = true := by decide +kernel
theorem hb6_0 : ∀ x ∈ mB6_0, mAt mC6 x.1 = some x.2 := fun x hx => mInc_at hi6 x (List.mem_append_left _ hx)
theorem hb6_4 : ∀ x ∈ mB6_4, mAt mC6 x.1 = some x.2 := fun x hx => mInc_at hi6 x (List.mem_append_right _ (List.mem_append_left _ hx))
theorem hb6_27 : ∀ x ∈ mB6_27, mAt mC6 x.1 = some x.2 := fun x hx => mInc_at hi6 x (List.mem_append_right _ (List.mem_append_right _ hx))
set_option maxRecDepth 8000 in
theorem hi7 : mInc mC7 = true := by decide +kernel
theorem hb7_0 : ∀ x ∈ mB7_0, mAt mC7 x.1 = some x.2 := fun x hx => mInc_at hi7 x (List.mem_append_left _ hx)
theorem hb7_4 : ∀ x ∈ mB7_4, mAt mC7 x.1 = some x.2 := fun x hx => mInc_at hi7 x (List.mem_append_right _ (List.mem_append_left _ hx))
theorem hb7_29 : ∀ x ∈ mB7_29, mAt mC7 x.1 = some x.2 := fun x hx => mInc_at hi7 x (List.mem_append_right _ (List.mem_append_right _ hx))
set_option maxRecDepth 8000 in
theorem hi8 : mInc mC8 = true := by decide +kernel
theorem hb8_0 : ∀ x ∈ mB8_0, mAt mC8 x.1 = some x.2 := fun x hx => mInc_at hi8 x (List.mem_append_left _ hx)
theorem hb8_4 : ∀ x ∈ mB8_4, mAt mC8 x.1 = some x.2 := fun x hx => mInc_at hi8 x (List.mem_append_right _ (List.mem_append_left _ hx))
theorem hb8_25 : ∀ x ∈ mB8_25, mAt mC8 x.1 = some x.2 := fun x hx => mInc_at hi8 x (List.mem_append_right _ (List.mem_append_right _ (List.mem_append_left _ hx)))
theorem hb8_31 : ∀ x ∈ mB8_31, mAt mC8 x.1 = some x.2 := fun x hx => mInc_at hi8 x (List.mem_append_right _ (List.mem_append_right _ (List.mem_append_right _ hx)))
set_option maxRecDepth 8000 in
theorem hi10 : mInc mC10 = true := by decide +kernel
theorem hb10_0 : ∀ x ∈ mB10_0, mAt mC10 x.1 = some x.2 := fun x hx => mInc_at hi10 x (List.mem_append_left _ hx)
theorem hb10_17 : ∀ x ∈ mB10_17, mAt mC10 x.1 = some x.2 := fun x hx => mInc_at hi10 x (List.mem_append_right _ (List.mem_append_left _ hx))
theorem hb10_50 : ∀ x ∈ mB10_50, mAt mC10 x.1 = some x.2 := fun x hx => mInc_at hi10 x (List.mem_append_right _ (List.mem_append_right _ (List.mem_append_left _ hx)))
theorem hb10_67 : ∀ x ∈ mB10_67, mAt mC10 x.1 = some x.2 := fun x hx => mInc_at hi10 x (List.mem_append_right _ (List.mem_append_right _ (List.mem_append_right _ hx)))
set_option maxRecDepth 8000 in
theorem hi11 : mInc mC11 = true := by decide +kernel
theorem hb11_0 : ∀ x ∈ mB11_0, mAt mC11 x.1 = some x.2 := fun x hx => mInc_at hi11 x (List.mem_append_left _ hx)
theorem hb11_5 : ∀ x ∈ mB11_5, mAt mC11 x.1 = some x.2 := fun x hx => mInc_at hi11 x (List.mem_append_right _ (List.mem_append_left _ hx))
theorem hb11_36 : ∀ x ∈ mB11_36, mAt mC11 x.1 = some x.2 := fun x hx => mInc_at hi11 x (List.mem_append_right _ (List.mem_append_right _ (List.mem_append_left _ hx)))
theorem hb11_42 : ∀ x ∈ mB11_42, mAt mC11 x.1 = some x.2 := fun x hx => mInc_at hi11 x (List.mem_append_right _ (List.mem_append_right _ (List.mem_append_right _ hx)))
set_option maxRecDepth 8000 in
theorem hi12 : mInc mC12 = true := by decide +kernel
theorem hb12_0 : ∀ x ∈ mB12_0, mAt mC12 x.1 = some x.2 := fun x hx => mInc_at hi12 x (List.mem_append_left _ hx)
theorem hb12_12 : ∀ x ∈ mB12_12, mAt mC12 x.1 = some x.2 := fun x hx => mInc_at hi12 x (List.mem_append_right _ (List.mem_append_left _ hx))
theorem hb12_56 : ∀ x ∈ mB12_56, mAt mC12 x.1 = some x.2 := fun x hx => mInc_at hi12 x (List.mem_append_right _ (List.mem_append_right _ (List.mem_append_left _ hx)))
theorem hb12_65 : ∀ x ∈ mB12_65, mAt mC12 x.1 = some x.2 := fun x hx => mInc_at hi12 x (List.mem_append_right _ (List.mem_append_right _ (List.mem_append_right _ (List.mem_append_left _ hx))))
theorem hb12_71 : ∀ x ∈ mB12_71, mAt mC12 x.1 = some x.2 := fun x hx => mInc_at hi12 x (List.mem_append_right _ (List.mem_append_right _ (List.mem_append_right _ (List.mem_append_right _ (List.mem_append_left _ hx)))))
theorem hb12_91 : ∀ x ∈ mB12_91, mAt mC12 x.1 = some x.2 := fun x hx => mInc_at hi12 x (List.mem_append_right _ (List.mem_append_right _ (List.mem_append_right _ (List.mem_append_right _ (List.mem_append_right _ (List.mem_append_left _ hx))))))
theorem hb12_140 : ∀ x ∈ mB12_140, mAt mC12 x.1 = some x.2 := fun x hx => mInc_at hi12 x (List.mem_append_right _ (List.mem_append_right _ (List.mem_append_right _ (List.mem_append_right _ (List.mem_append_right _ (List.mem_append_right _ hx))))))
set_option maxRecDepth 8000 in
theorem hi13 : mInc mC13 = true := by decide +kernel
theorem hb13_0 : ∀ x ∈ mB13_0, mAt mC13 x.1 = some x.2 := fun x hx => mInc_at hi13 x (List.mem_append_left _ hx)
theorem hb13_7 : ∀ x ∈ mB13_7, mAt mC13 x.1 = some x.2 := fun x hx => mInc_at hi13 x (List.mem_append_right _ (List.mem_append_left _ hx))
theorem hb13_11 : ∀ x ∈ mB13_11, mAt mC13 x.1 = some x.2 := fun x hx => mInc_at hi13 x (List.mem_append_right _ (List.mem_append_right _ (List.mem_append_left _ hx)))
theorem hb13_32 : ∀ x ∈ mB13_32, mAt mC13 x.1 = some x.2 := fun x hx => mInc_at hi13 x (List.mem_append_right _ (List.mem_append_right _ (List.mem_append_right _ hx)))
set_option maxRecDepth 8000 in
theorem hi14 : mInc mC14 = true := by decide +kernel
theorem hb14_0 : ∀ x ∈ mB14_0, mAt mC14 x.1 = some x.2 := fun x hx => mInc_at hi14 x (List.mem_append_left _ hx)
theorem hb14_7 : ∀ x ∈ mB14_7, mAt mC14 x.1 = some x.2 := fun x hx => mInc_at hi14 x (List.mem_append_right _ (List.mem_append_left _ hx))
theorem hb14_39 : ∀ x ∈ mB14_39, mAt mC14 x.1 = some x.2 := fun x hx => mInc_at hi14 x (List.mem_append_right _ (List.mem_append_right _ hx))
set_option maxRecDepth 8000 in
theorem hi16 : mInc mC16 = true := by decide +kernel
theorem hb16_0 : ∀ x ∈ mB16_0, mAt mC16 x.1 = some x.2 := fun x hx => mInc_at hi16 x (List.mem_append_left _ hx)
theorem hb16_70 : ∀ x ∈ mB16_70, mAt mC16 x.1 = some x.2 := fun x hx => mInc_at hi16 x (List.mem_append_right _ (List.mem_append_left _ hx))
theorem hb16_72 : ∀ x ∈ mB16_72, mAt mC16 x.1 = some x.2 := fun x hx => mInc_at hi16 x (List.mem_append_right _ (List.mem_append_right _ (List.mem_append_left _ hx)))
theorem hb16_105 : ∀ x ∈ mB16_105, mAt mC16 x.1 = some x.2 := fun x hx => mInc_at hi16 x (List.mem_append_right _ (List.mem_append_right _ (List.mem_append_right _ (List.mem_append_left _ hx))))
theorem hb16_107 : ∀ x ∈ mB16_107, mAt mC16 x.1 = some x.2 := fun x hx => mInc_at hi16 x (List.mem_append_right _ (List.mem_append_right _ (List.mem_append_right _ (List.mem_append_right _ (List.mem_append_left _ hx)))))
theorem hb16_113 : ∀ x ∈ mB16_113, mAt mC16 x.1 = some x.2 := fun x hx => mInc_at hi16 x (List.mem_append_right _ (List.mem_append_right _ (List.mem_append_right _ (List.mem_append_right _ (List.mem_append_right _ hx)))))
set_option maxRecDepth 8000 in
theorem hi17 : mInc mC17 = true := by decide +kernel
theorem hb17_0 : ∀ x ∈ mB17_0, mAt mC17 x.1 = some x.2 := fun x hx => mInc_at hi17 x hx
set_option maxRecDepth 8000 in
theorem hi18 : mInc mC18 = true := by decide +kernel
theorem hb18_0 : ∀ x ∈ mB18_0, mAt mC18 x.1 = some x.2 := fun x hx => mInc_at hi18 x (List.mem_append_left _ hx)
theorem hb18_17 : ∀ x ∈ mB18_17, mAt mC18 x.1 = some x.2 := fun x hx => mInc_at hi18 x (List.mem_append_right _ hx)
set_option maxRecDepth 8000 in
theorem hi19 : mInc mC19 = true := by decide +kernel
theorem hb19_0 : ∀ x ∈ mB19_0, mAt mC19 x.1 = some x.2 := fun x hx => mInc_at hi19 x (List.mem_append_left _ hx)
theorem hb19_17 : ∀ x ∈ mB19_17, mAt mC19 x.1 = some x.2 := fun x hx => mInc_at hi19 x (List.mem_append_right _ (List.mem_append_left _ hx))
theorem hb19_44 : ∀ x ∈ mB19_44, mAt mC19 x.1 = some x.2 := fun x hx => mInc_at hi19 x (List.mem_append_right _ (List.mem_append_right _ (List.mem_append_left _ hx)))
theorem hb19_52 : ∀ x ∈ mB19_52, mAt mC19 x.1 = some x.2 := fun x hx => mInc_at hi19 x (List.mem_append_right _ (List.mem_append_right _ (List.mem_append_right _ (List.mem_append_left _ hx))))
theorem hb19_56 : ∀ x ∈ mB19_56, mAt mC19 x.1 = some x.2 := fun x hx => mInc_at hi19 x (List.mem_append_right _ (List.mem_append_right _ (List.mem_append_right _ (List.mem_append_right _ (List.mem_append_left _ hx)))))
theorem hb19_57 : ∀ x ∈ mB19_57, mAt mC19 x.1 = some x.2 := fun x hx => mInc_at hi19 x (List.mem_append_right _ (List.mem_append_right _ (List.mem_append_right _ (List.mem_append_right _ (List.mem_append_right _ hx)))))
set_option maxRecDepth 8000 in
theorem hi20 : mInc mC20 = true := by decide +kernel
theorem hb20_0 : ∀ x ∈ mB20_0, mAt mC20 x.1 = some x.2 := fun x hx => mInc_at hi20 x (List.mem_append_left _ hx)
theorem hb20_11 : ∀ x ∈ mB20_11, mAt mC20 x.1 = some x.2 := fun x hx => mInc_at hi20 x (List.mem_append_right _ hx)
set_option maxRecDepth 8000 in
theorem hi21 : mInc mC21 = true := by decide +kernel
theorem hb21_0 : ∀ x ∈ mB21_0, mAt mC21 x.1 = some x.2 := fun x hx => mInc_at hi21 x (List.mem_append_left _ hx)
theorem hb21_11 : ∀ x ∈ mB21_11, mAt mC21 x.1 = some x.2 := fun x hx => mInc_at hi21 x (List.mem_append_right _ hx)
set_option maxRecDepth 8000 in
theorem hi22 : mInc mC22 = true := by decide +kernel
theorem hb22_0 : ∀ x ∈ mB22_0, mAt mC22 x.1 = some x.2 := fun x hx => mInc_at hi22 x (List.mem_append_left _ hx)
theorem hb22_15 : ∀ x ∈ mB22_15, mAt mC22 x.1 = some x.2 := fun x hx => mInc_at hi22 x (List.mem_append_right _ hx)
set_option maxRecDepth 8000 in
theorem hi23 : mInc mC23 = true := by decide +kernel
theorem hb23_0 : ∀ x ∈ mB23_0, mAt mC23 x.1 = some x.2 := fun x hx => mInc_at hi23 x (List.mem_append_left _ hx)
theorem hb23_19 : ∀ x ∈ mB23_19, mAt mC23 x.1 = some x.2 := fun x hx => mInc_at hi23 x (List.mem_append_right _ (List.mem_append_left _ hx))
theorem hb23_53 : ∀ x ∈ mB23_53, mAt mC23 x.1 = some x.2 := fun x hx => mInc_at hi23 x (List.mem_append_right _ (List.mem_append_right _ (List.mem_append_left _ hx)))
theorem hb23_93 : ∀ x ∈ mB23_93, mAt mC23 x.1 = some x.2 := fun x hx => mInc_at hi23 x (List.mem_append_right _ (List.mem_append_right _ (List.mem_append_right _ hx)))
set_option maxRecDepth 8000 in
theorem hi24 : mInc mC24 = true := by decide +kernel
theorem hb24_0 : ∀ x ∈ mB24_0, mAt mC24 x.1 = some x.2 := fun x hx => mInc_at hi24 x (List.mem_append_left _ hx)
theorem hb24_19 : ∀ x ∈ mB24_19, mAt mC24 x.1 = some x.2 := fun x hx => mInc_at hi24 x (List.mem_append_right _ (List.mem_append_left _ hx))
theorem hb24_41 : ∀ x ∈ mB24_41, mAt mC24 x.1 = some x.2 := fun x hx => mInc_at hi24 x (List.mem_append_right _ (List.mem_append_right _ hx))
set_option maxRecDepth 8000 in
theorem hi25 : mInc mC25 = true := by decide +kernel
theorem hb25_0 : ∀ x ∈ mB25_0, mAt mC25 x.1 = some x.2 := fun x hx => mInc_at hi25 x (List.mem_append_left _ hx)
theorem hb25_21 : ∀ x ∈ mB25_21, mAt mC25 x.1 = some x.2 := fun x hx => mInc_at hi25 x (List.mem_append_right _ (List.mem_append_left _ hx))
theorem hb25_22 : ∀ x ∈ mB25_22, mAt mC25 x.1 = some x.2 := fun x hx => mInc_at hi25 x (List.mem_append_right _ (List.mem_append_right _ (List.mem_append_left _ hx)))
theorem hb25_33 : ∀ x ∈ mB25_33, mAt mC25 x.1 = some x.2 := fun x hx => mInc_at hi25 x (List.mem_append_right _ (List.mem_append_right _ (List.mem_append_right _ (List.mem_append_left _ hx))))
theorem hb25_100 : ∀ x ∈ mB25_100, mAt mC25 x.1 = some x.2 := fun x hx => mInc_at hi25 x (List.mem_append_right _ (List.mem_append_right _ (List.mem_append_right _ (List.mem_append_right _ (List.mem_append_left _ hx)))))
theorem hb25_105 : ∀ x ∈ mB25_105, mAt mC25 x.1 = some x.2 := fun x hx => mInc_at hi25 x (List.mem_append_right _ (List.mem_append_right _ (List.mem_append_right _ (List.mem_append_right _ (List.mem_append_right _ (List.mem_append_left _ hx))))))
theorem hb25_110 : ∀ x ∈ mB25_110, mAt mC25 x.1 = some x.2 := fun x hx => mInc_at hi25 x (List.mem_append_right _ (List.mem_append_right _ (List.mem_append_right _ (List.mem_append_right _ (List.mem_append_right _ (List.mem_append_right _ (List.mem_append_left _ hx)))))))
theorem hb25_115 : ∀ x ∈ mB25_115, mAt mC25 x.1 = some x.2 := fun x hx => mInc_at hi25 x (List.mem_append_right _ (List.mem_append_right _ (List.mem_append_right _ (List.mem_append_right _ (List.mem_append_right _ (List.mem_append_right _ (List.mem_append_right _ (List.mem_append_left _ hx))))))))
theorem hb25_120 : ∀ x ∈ mB25_120, mAt mC25 x.1 = some x.2 := fun x hx => mInc_at hi25 x (List.mem_append_right _ (List.mem_append_right _ (List.mem_append_right _ (List.mem_append_right _ (List.mem_append_right _ (List.mem_append_right _ (List.mem_append_right _ (List.mem_append_right _ (List.mem_append_left _ hx)))))))))
theorem hb25_125 : ∀ x ∈ mB25_125, mAt mC25 x.1 = some x.2 := fun x hx => mInc_at hi25 x (List.mem_append_right _ (List.mem_append_right _ (List.mem_append_right _ (List.mem_append_right _ (List.mem_append_right _ (List.mem_append_right _ (List.mem_append_right _ (List.mem_append_right _ (List.mem_append_right _ (List.mem_append_left _ hx))))))))))
theorem hb25_130 : ∀ x ∈ mB25_130, mAt mC25 x.1 = some x.2 := fun x hx => mInc_at hi25 x (List.mem_append_right _ (List.mem_append_right _ (List.mem_append_right _ (List.mem_append_right _ (List.mem_append_right _ (List.mem_append_right _ (List.mem_append_right _ (List.mem_append_right _ (List.mem_append_right _ (List.mem_append_right _ (List.mem_append_left _ hx)))))))))))
theorem hb25_135 : ∀ x ∈ mB25_135, mAt mC25 x.1 = some x.2 := fun x hx => mInc_at hi25 x (List.mem_append_right _ (List.mem_append_right _ (List.mem_append_right _ (List.mem_append_right _ (List.mem_append_right _ (List.mem_append_right _ (List.mem_append_right _ (List.mem_append_right _ (List.mem_append_right _ (List.mem_append_right _ (List.mem_append_right _ (List.mem_append_left _ hx))))))))))))
theorem hb25_140 : ∀ x ∈ mB25_140, mAt mC25 x.1 = some x.2 := fun x hx => mInc_at hi25 x (List.mem_append_right _ (List.mem_append_right _ (List.mem_append_right _ (List.mem_append_right _ (List.mem_append_right _ (List.mem_append_right _ (List.mem_append_right _ (List.mem_append_right _ (List.mem_append_right _ (List.mem_append_right _ (List.mem_append_right _ (List.mem_append_right _ (List.mem_append_left _ hx)))))))))))))
theorem hb25_162 : ∀ x ∈ mB25_162, mAt mC25 x.1 = some x.2 := fun x hx => mInc_at hi25 x (List.mem_append_right _ (List.mem_append_right _ (List.mem_append_right _ (List.mem_append_right _ (List.mem_append_right _ (List.mem_append_right _ (List.mem_append_right _ (List.mem_append_right _ (List.mem_append_right _ (List.mem_append_right _ (List.mem_append_right _ (List.mem_append_right _ (List.mem_append_right _ (List.mem_append_left _ hx))))))))))))))
theorem hb25_163 : ∀ x ∈ mB25_163, mAt mC25 x.1 = some x.2 := fun x hx => mInc_at hi25 x (List.mem_append_right _ (List.mem_append_right _ (List.mem_append_right _ (List.mem_append_right _ (List.mem_append_right _ (List.mem_append_right _ (List.mem_append_right _ (List.mem_append_right _ (List.mem_append_right _ (List.mem_append_right _ (List.mem_append_right _ (List.mem_append_right _ (List.mem_append_right _ (List.mem_append_right _ (List.mem_append_left _ hx)))))))))))))))
theorem hb25_164 : ∀ x ∈ mB25_164, mAt mC25 x.1 = some x.2 := fun x hx => mInc_at hi25 x (List.mem_append_right _ (List.mem_append_right _ (List.mem_append_right _ (List.mem_append_right _ (List.mem_append_right _ (List.mem_append_right _ (List.mem_append_right _ (List.mem_append_right _ (List.mem_append_right _ (List.mem_append_right _ (List.mem_append_right _ (List.mem_append_right _ (List.mem_append_right _ (List.mem_append_right _ (List.mem_append_right _ (List.mem_append_left _ hx))))))))))))))))
theorem hb25_186 : ∀ x ∈ mB25_186, mAt mC25 x.1 = some x.2 := fun x hx => mInc_at hi25 x (List.mem_append_right _ (List.mem_append_right _ (List.mem_append_right _ (List.mem_append_right _ (List.mem_append_right _ (List.mem_append_right _ (List.mem_append_right _ (List.mem_append_right _ (List.mem_append_right _ (List.mem_append_right _ (List.mem_append_right _ (List.mem_append_right _ (List.mem_append_right _ (List.mem_append_right _ (List.mem_append_right _ (List.mem_append_right _ (List.mem_append_left _ hx)))))))))))))))))
theorem hb25_187 : ∀ x ∈ mB25_187, mAt mC25 x.1 = some x.2 := fun x hx => mInc_at hi25 x (List.mem_append_right _ (List.mem_append_right _ (List.mem_append_right _ (List.mem_append_right _ (List.mem_append_right _ (List.mem_append_right _ (List.mem_append_right _ (List.mem_append_right _ (List.mem_append_right _ (List.mem_append_right _ (List.mem_append_right _ (List.mem_append_right _ (List.mem_append_right _ (List.mem_append_right _ (List.mem_append_right _ (List.mem_append_right _ (List.mem_append_right _ (List.mem_append_left _ hx))))))))))))))))))
theorem hb25_188 : ∀ x ∈ mB25_188, mAt mC25 x.1 = some x.2 := fun x hx => mInc_at hi25 x (List.mem_append_right _ (List.mem_append_right _ (List.mem_append_right _ (List.mem_append_right _ (List.mem_append_right _ (List.mem_append_right _ (List.mem_append_right _ (List.mem_append_right _ (List.mem_append_right _ (List.mem_append_right _ (List.mem_append_right _ (List.mem_append_right _ (List.mem_append_right _ (List.mem_append_right _ (List.mem_append_right _ (List.mem_append_right _ (List.mem_append_right _ (List.mem_append_right _ (List.mem_append_left _ hx)))))))))))))))))))
theorem hb25_224 : ∀ x ∈ mB25_224, mAt mC25 x.1 = some x.2 := fun x hx => mInc_at hi25 x (List.mem_append_right _ (List.mem_append_right _ (List.mem_append_right _ (List.mem_append_right _ (List.mem_append_right _ (List.mem_append_right _ (List.mem_append_right _ (List.mem_append_right _ (List.mem_append_right _ (List.mem_append_right _ (List.mem_append_right _ (List.mem_append_right _ (List.mem_append_right _ (List.mem_append_right _ (List.mem_append_right _ (List.mem_append_right _ (List.mem_append_right _ (List.mem_append_right _ (List.mem_append_right _ (List.mem_append_left _ hx))))))))))))))))))))
theorem hb25_225 : ∀ x ∈ mB25_225, mAt mC25 x.1 = some x.2 := fun x hx => mInc_at hi25 x (List.mem_append_right _ (List.mem_append_right _ (List.mem_append_right _ (List.mem_append_right _ (List.mem_append_right _ (List.mem_append_right _ (List.mem_append_right _ (List.mem_append_right _ (List.mem_append_right _ (List.mem_append_right _ (List.mem_append_right _ (List.mem_append_right _ (List.mem_append_right _ (List.mem_append_right _ (List.mem_append_right _ (List.mem_append_right _ (List.mem_append_right _ (List.mem_append_right _ (List.mem_append_right _ (List.mem_append_right _ (List.mem_append_left _ hx)))))))))))))))))))))
theorem hb25_226 : ∀ x ∈ mB25_226, mAt mC25 x.1 = some x.2 := fun x hx => mInc_at hi25 x (List.mem_append_right _ (List.mem_append_right _ (List.mem_append_right _ (List.mem_append_right _ (List.mem_append_right _ (List.mem_append_right _ (List.mem_append_right _ (List.mem_append_right _ (List.mem_append_right _ (List.mem_append_right _ (List.mem_append_right _ (List.mem_append_right _ (List.mem_append_right _ (List.mem_append_right _ (List.mem_append_right _ (List.mem_append_right _ (List.mem_append_right _ (List.mem_append_right _ (List.mem_append_right _ (List.mem_append_right _ (List.mem_append_right _ hx)))))))))))))))))))))
set_option maxRecDepth 8000 in
theorem hi26 : mInc mC26 = true := by decide +kernel
theorem hb26_0 : ∀ x ∈ mB26_0, mAt mC26 x.1 = some x.2 := fun x hx => mInc_at hi26 x (List.mem_append_left _ hx)
theorem hb26_28 : ∀ x ∈ mB26_28, mAt mC26 x.1 = some x.2 := fun x hx => mInc_at hi26 x (List.mem_append_right _ (List.mem_append_left _ hx))
theorem hb26_30 : ∀ x ∈ mB26_30, mAt mC26 x.1 = some x.2 := fun x hx => mInc_at hi26 x (List.mem_append_right _ (List.mem_append_right _ hx))
set_option maxRecDepth 8000 in
theorem hi27 : mInc mC27 = true := by decide +kernel
theorem hb27_0 : ∀ x ∈ mB27_0, mAt mC27 x.1 = some x.2 := fun x hx => mInc_at hi27 x (List.mem_append_left _ hx)
theorem hb27_28 : ∀ x ∈ mB27_28, mAt mC27 x.1 = some x.2 := fun x hx => mInc_at hi27 x (List.mem_append_right _ (List.mem_append_left _ hx))
theorem hb27_30 : ∀ x ∈ mB27_30, mAt mC27 x.1 = some x.2 := fun x hx => mInc_at hi27 x (List.mem_append_right _ (List.mem_append_right _ hx))
set_option maxRecDepth 8000 in
theorem hi28 : mInc mC28 = true := by decide +kernel
theorem hb28_0 : ∀ x ∈ mB28_0, mAt mC28 x.1 = some x.2 := fun x hx => mInc_at hi28 x (List.mem_append_left _ hx)
theorem hb28_34 : ∀ x ∈ mB28_34, mAt mC28 x.1 = some x.2 := fun x hx => mInc_at hi28 x (List.mem_append_right _ (List.mem_append_left _ hx))
theorem hb28_36 : ∀ x ∈ mB28_36, mAt mC28 x.1 = some x.2 := fun x hx => mInc_at hi28 x (List.mem_append_right _ (List.mem_append_right _ hx))
set_option maxRecDepth 8000 in
theorem hi29 : mInc mC29 = true := by decide +kernel
theorem hb29_0 : ∀ x ∈ mB29_0, mAt mC29 x.1 = some x.2 := fun x hx => mInc_at hi29 x (List.mem_append_left _ hx)
theorem hb29_16 : ∀ x ∈ mB29_16, mAt mC29 x.1 = some x.2 := fun x hx => mInc_at hi29 x (List.mem_append_right _ (List.mem_append_left _ hx))
theorem hb29_18 : ∀ x ∈ mB29_18, mAt mC29 x.1 = some x.2 := fun x hx => mInc_at hi29 x (List.mem_append_right _ (List.mem_append_right _ hx))
set_option maxRecDepth 8000 in
theorem hi30 : mInc mC30 = true := by decide +kernel
theorem hb30_0 : ∀ x ∈ mB30_0, mAt mC30 x.1 = some x.2 := fun x hx => mInc_at hi30 x (List.mem_append_left _ hx)
theorem hb30_34 : ∀ x ∈ mB30_34, mAt mC30 x.1 = some x.2 := fun x hx => mInc_at hi30 x (List.mem_append_right _ (List.mem_append_left _ hx))
theorem hb30_36 : ∀ x ∈ mB30_36, mAt mC30 x.1 = some x.2 := fun x hx => mInc_at hi30 x (List.mem_append_right _ (List.mem_append_right _ hx))
set_option maxRecDepth 8000 in
theorem hi31 : mInc mC31 = true := by decide +kernel
theorem hb31_0 : ∀ x ∈ mB31_0, mAt mC31 x.1 = some x.2 := fun x hx => mInc_at hi31 x (List.mem_append_left _ hx)
theorem hb31_19 : ∀ x ∈ mB31_19, mAt mC31 x.1 = some x.2 := fun x hx => mInc_at hi31 x (List.mem_append_right _ (List.mem_append_left _ hx))
theorem hb31_21 : ∀ x ∈ mB31_21, mAt mC31 x.1 = some x.2 := fun x hx => mInc_at hi31 x (List.mem_append_right _ (List.mem_append_right _ hx))
set_option maxRecDepth 8000 in
theorem hi32 : mInc mC32 = true := by decide +kernel
theorem hb32_0 : ∀ x ∈ mB32_0, mAt mC32 x.1 = some x.2 := fun x hx => mInc_at hi32 x (List.mem_append_left _ hx)
theorem hb32_18 : ∀ x ∈ mB32_18, mAt mC32 x.1 = some x.2 := fun x hx => mInc_at hi32 x (List.mem_append_right _ (List.mem_append_left _ hx))
theorem hb32_20 : ∀ x ∈ mB32_20, mAt mC32 x.1 = some x.2 := fun x hx => mInc_at hi32 x (List.mem_append_right _ (List.mem_append_right _ hx))
set_option maxRecDepth 8000 in
theorem hi33 : mInc mC33 = true := by decide +kernel
theorem hb33_0 : ∀ x ∈ mB33_0, mAt mC33 x.1 = some x.2 := fun x hx => mInc_at hi33 x (List.mem_append_left _ hx)
theorem hb33_18 : ∀ x ∈ mB33_18, mAt mC33 x.1 = some x.2 := fun x hx => mInc_at hi33 x (List.mem_append_right _ (List.mem_append_left _ hx))
theorem hb33_20 : ∀ x ∈ mB33_20, mAt mC33 x.1 = some x.2 := fun x hx => mInc_at hi33 x (List.mem_append_right _ (List.mem_append_right _ (List.mem_append_left _ hx)))
theorem hb33_37 : ∀ x ∈ mB33_37, mAt mC33 x.1 = some x.2 := fun x hx => mInc_at hi33 x (List.mem_append_right _ (List.mem_append_right _ (List.mem_append_right _ (List.mem_append_left _ hx))))
theorem hb33_66 : ∀ x ∈ mB33_66, mAt mC33 x.1 = some x.2 := fun x hx => mInc_at hi33 x (List.mem_append_right _ (List.mem_append_right _ (List.mem_append_right _ (List.mem_append_right _ (List.mem_append_left _ hx)))))
theorem hb33_98 : ∀ x ∈ mB33_98, mAt mC33 x.1 = some x.2 := fun x hx => mInc_at hi33 x (List.mem_append_right _ (List.mem_append_right _ (List.mem_append_right _ (List.mem_append_right _ (List.mem_append_right _ (List.mem_append_left _ hx))))))
theorem hb33_132 : ∀ x ∈ mB33_132, mAt mC33 x.1 = some x.2 := fun x hx => mInc_at hi33 x (List.mem_append_right _ (List.mem_append_right _ (List.mem_append_right _ (List.mem_append_right _ (List.mem_append_right _ (List.mem_append_right _ hx))))))
set_option maxRecDepth 8000 in
theorem hi34 : mInc mC34 = true := by decide +kernel
theorem hb34_0 : ∀ x ∈ mB34_0, mAt mC34 x.1 = some x.2 := fun x hx => mInc_at hi34 x (List.mem_append_left _ hx)
theorem hb34_26 : ∀ x ∈ mB34_26, mAt mC34 x.1 = some x.2 := fun x hx => mInc_at hi34 x (List.mem_append_right _ (List.mem_append_left _ hx))
theorem hb34_55 : ∀ x ∈ mB34_55, mAt mC34 x.1 = some x.2 := fun x hx => mInc_at hi34 x (List.mem_append_right _ (List.mem_append_right _ hx))
set_option maxRecDepth 8000 in
theorem hi35 : mInc mC35 = true := by decide +kernel
theorem hb35_0 : ∀ x ∈ mB35_0, mAt mC35 x.1 = some x.2 := fun x hx => mInc_at hi35 x (List.mem_append_left _ hx)
theorem hb35_21 : ∀ x ∈ mB35_21, mAt mC35 x.1 = some x.2 := fun x hx => mInc_at hi35 x (List.mem_append_right _ (List.mem_append_left _ hx))
theorem hb35_22 : ∀ x ∈ mB35_22, mAt mC35 x.1 = some x.2 := fun x hx => mInc_at hi35 x (List.mem_append_right _ (List.mem_append_right _ (List.mem_append_left _ hx)))
theorem hb35_26 : ∀ x ∈ mB35_26, mAt mC35 x.1 = some x.2 := fun x hx => mInc_at hi35 x (List.mem_append_right _ (List.mem_append_right _ (List.mem_append_right _ (List.mem_append_left _ hx))))
theorem hb35_36 : ∀ x ∈ mB35_36, mAt mC35 x.1 = some x.2 := fun x hx => mInc_at hi35 x (List.mem_append_right _ (List.mem_append_right _ (List.mem_append_right _ (List.mem_append_right _ (List.mem_append_left _ hx)))))
theorem hb35_38 : ∀ x ∈ mB35_38, mAt mC35 x.1 = some x.2 := fun x hx => mInc_at hi35 x (List.mem_append_right _ (List.mem_append_right _ (List.mem_append_right _ (List.mem_append_right _ (List.mem_append_right _ (List.mem_append_left _ hx))))))
theorem hb35_75 : ∀ x ∈ mB35_75, mAt mC35 x.1 = some x.2 := fun x hx => mInc_at hi35 x (List.mem_append_right _ (List.mem_append_right _ (List.mem_append_right _ (List.mem_append_right _ (List.mem_append_right _ (List.mem_append_right _ (List.mem_append_left _ hx)))))))
theorem hb35_92 : ∀ x ∈ mB35_92, mAt mC35 x.1 = some x.2 := fun x hx => mInc_at hi35 x (List.mem_append_right _ (List.mem_append_right _ (List.mem_append_right _ (List.mem_append_right _ (List.mem_append_right _ (List.mem_append_right _ (List.mem_append_right _ hx)))))))
set_option maxRecDepth 8000 in
theorem hi36 : mInc mC36 = true := by decide +kernel
theorem hb36_0 : ∀ x ∈ mB36_0, mAt mC36 x.1 = some x.2 := fun x hx => mInc_at hi36 x (List.mem_append_left _ hx)
theorem hb36_10 : ∀ x ∈ mB36_10, mAt mC36 x.1 = some x.2 := fun x hx => mInc_at hi36 x (List.mem_append_right _ (List.mem_append_left _ hx))
theorem hb36_12 : ∀ x ∈ mB36_12, mAt mC36 x.1 = some x.2 := fun x hx => mInc_at hi36 x (List.mem_append_right _ (List.mem_append_right _ (List.mem_append_left _ hx)))
theorem hb36_49 : ∀ x ∈ mB36_49, mAt mC36 x.1 = some x.2 := fun x hx => mInc_at hi36 x (List.mem_append_right _ (List.mem_append_right _ (List.mem_append_right _ (List.mem_append_left _ hx))))
theorem hb36_67 : ∀ x ∈ mB36_67, mAt mC36 x.1 = some x.2 := fun x hx => mInc_at hi36 x (List.mem_append_right _ (List.mem_append_right _ (List.mem_append_right _ (List.mem_append_right _ hx))))
set_option maxRecDepth 8000 in
theorem hi37 : mInc mC37 = true := by decide +kernel
theorem hb37_0 : ∀ x ∈ mB37_0, mAt mC37 x.1 = some x.2 := fun x hx => mInc_at hi37 x (List.mem_append_left _ hx)
theorem hb37_2 : ∀ x ∈ mB37_2, mAt mC37 x.1 = some x.2 := fun x hx => mInc_at hi37 x (List.mem_append_right _ (List.mem_append_left _ hx))
theorem hb37_34 : ∀ x ∈ mB37_34, mAt mC37 x.1 = some x.2 := fun x hx => mInc_at hi37 x (List.mem_append_right _ (List.mem_append_right _ (List.mem_append_left _ hx)))
theorem hb37_59 : ∀ x ∈ mB37_59, mAt mC37 x.1 = some x.2 := fun x hx => mInc_at hi37 x (List.mem_append_right _ (List.mem_append_right _ (List.mem_append_right _ (List.mem_append_left _ hx))))
theorem hb37_69 : ∀ x ∈ mB37_69, mAt mC37 x.1 = some x.2 := fun x hx => mInc_at hi37 x (List.mem_append_right _ (List.mem_append_right _ (List.mem_append_right _ (List.mem_append_right _ (List.mem_append_left _ hx)))))
theorem hb37_71 : ∀ x ∈ mB37_71, mAt mC37 x.1 = some x.2 := fun x hx => mInc_at hi37 x (List.mem_append_right _ (List.mem_append_right _ (List.mem_append_right _ (List.mem_append_right _ (List.mem_append_right _ (List.mem_append_left _ hx))))))
theorem hb37_94 : ∀ x ∈ mB37_94, mAt mC37 x.1 = some x.2 := fun x hx => mInc_at hi37 x (List.mem_append_right _ (List.mem_append_right _ (List.mem_append_right _ (List.mem_append_right _ (List.mem_append_right _ (List.mem_append_right _ hx))))))
set_option maxRecDepth 8000 in
theorem hi38 : mInc mC38 = true := by decide +kernel
theorem hb38_0 : ∀ x ∈ mB38_0, mAt mC38 x.1 = some x.2 := fun x hx => mInc_at hi38 x (List.mem_append_left _ hx)
theorem hb38_10 : ∀ x ∈ mB38_10, mAt mC38 x.1 = some x.2 := fun x hx => mInc_at hi38 x (List.mem_append_right _ (List.mem_append_left _ hx))
theorem hb38_36 : ∀ x ∈ mB38_36, mAt mC38 x.1 = some x.2 := fun x hx => mInc_at hi38 x (List.mem_append_right _ (List.mem_append_right _ (List.mem_append_left _ hx)))
theorem hb38_53 : ∀ x ∈ mB38_53, mAt mC38 x.1 = some x.2 := fun x hx => mInc_at hi38 x (List.mem_append_right _ (List.mem_append_right _ (List.mem_append_right _ (List.mem_append_left _ hx))))
theorem hb38_55 : ∀ x ∈ mB38_55, mAt mC38 x.1 = some x.2 := fun x hx => mInc_at hi38 x (List.mem_append_right _ (List.mem_append_right _ (List.mem_append_right _ (List.mem_append_right _ (List.mem_append_left _ hx)))))
theorem hb38_73 : ∀ x ∈ mB38_73, mAt mC38 x.1 = some x.2 := fun x hx => mInc_at hi38 x (List.mem_append_right _ (List.mem_append_right _ (List.mem_append_right _ (List.mem_append_right _ (List.mem_append_right _ hx)))))
set_option maxRecDepth 8000 in
theorem hi39 : mInc mC39 = true := by decide +kernel
theorem hb39_0 : ∀ x ∈ mB39_0, mAt mC39 x.1 = some x.2 := fun x hx => mInc_at hi39 x (List.mem_append_left _ hx)
theorem hb39_10 : ∀ x ∈ mB39_10, mAt mC39 x.1 = some x.2 := fun x hx => mInc_at hi39 x (List.mem_append_right _ (List.mem_append_left _ hx))
theorem hb39_12 : ∀ x ∈ mB39_12, mAt mC39 x.1 = some x.2 := fun x hx => mInc_at hi39 x (List.mem_append_right _ (List.mem_append_right _ (List.mem_append_left _ hx)))
theorem hb39_43 : ∀ x ∈ mB39_43, mAt mC39 x.1 = some x.2 := fun x hx => mInc_at hi39 x (List.mem_append_right _ (List.mem_append_right _ (List.mem_append_right _ (List.mem_append_left _ hx))))
theorem hb39_60 : ∀ x ∈ mB39_60, mAt mC39 x.1 = some x.2 := fun x hx => mInc_at hi39 x (List.mem_append_right _ (List.mem_append_right _ (List.mem_append_right _ (List.mem_append_right _ (List.mem_append_left _ hx)))))
theorem hb39_62 : ∀ x ∈ mB39_62, mAt mC39 x.1 = some x.2 := fun x hx => mInc_at hi39 x (List.mem_append_right _ (List.mem_append_right _ (List.mem_append_right _ (List.mem_append_right _ (List.mem_append_right _ (List.mem_append_left _ hx))))))
theorem hb39_80 : ∀ x ∈ mB39_80, mAt mC39 x.1 = some x.2 := fun x hx => mInc_at hi39 x (List.mem_append_right _ (List.mem_append_right _ (List.mem_append_right _ (List.mem_append_right _ (List.mem_append_right _ (List.mem_append_right _ (List.mem_append_left _ hx)))))))
theorem hb39_97 : ∀ x ∈ mB39_97, mAt mC39 x.1 = some x.2 := fun x hx => mInc_at hi39 x (List.mem_append_right _ (List.mem_append_right _ (List.mem_append_right _ (List.mem_append_right _ (List.mem_append_right _ (List.mem_append_right _ (List.mem_append_right _ hx)))))))
set_option maxRecDepth 8000 in
theorem hi40 : mInc mC40 = true := by decide +kernel
theorem hb40_0 : ∀ x ∈ mB40_0, mAt mC40 x.1 = some x.2 := fun x hx => mInc_at hi40 x (List.mem_append_left _ hx)
theorem hb40_10 : ∀ x ∈ mB40_10, mAt mC40 x.1 = some x.2 := fun x hx => mInc_at hi40 x (List.mem_append_right _ (List.mem_append_left _ hx))
theorem hb40_12 : ∀ x ∈ mB40_12, mAt mC40 x.1 = some x.2 := fun x hx => mInc_at hi40 x (List.mem_append_right _ (List.mem_append_right _ (List.mem_append_left _ hx)))
theorem hb40_43 : ∀ x ∈ mB40_43, mAt mC40 x.1 = some x.2 := fun x hx => mInc_at hi40 x (List.mem_append_right _ (List.mem_append_right _ (List.mem_append_right _ (List.mem_append_left _ hx))))
theorem hb40_60 : ∀ x ∈ mB40_60, mAt mC40 x.1 = some x.2 := fun x hx => mInc_at hi40 x (List.mem_append_right _ (List.mem_append_right _ (List.mem_append_right _ (List.mem_append_right _ (List.mem_append_left _ hx)))))
theorem hb40_62 : ∀ x ∈ mB40_62, mAt mC40 x.1 = some x.2 := fun x hx => mInc_at hi40 x (List.mem_append_right _ (List.mem_append_right _ (List.mem_append_right _ (List.mem_append_right _ (List.mem_append_right _ (List.mem_append_left _ hx))))))
theorem hb40_80 : ∀ x ∈ mB40_80, mAt mC40 x.1 = some x.2 := fun x hx => mInc_at hi40 x (List.mem_append_right _ (List.mem_append_right _ (List.mem_append_right _ (List.mem_append_right _ (List.mem_append_right _ (List.mem_append_right _ (List.mem_append_left _ hx)))))))
theorem hb40_97 : ∀ x ∈ mB40_97, mAt mC40 x.1 = some x.2 := fun x hx => mInc_at hi40 x (List.mem_append_right _ (List.mem_append_right _ (List.mem_append_right _ (List.mem_append_right _ (List.mem_append_right _ (List.mem_append_right _ (List.mem_append_right _ hx)))))))
set_option maxRecDepth 8000 in
theorem hi41 : mInc mC41 = true := by decide +kernel
theorem hb41_0 : ∀ x ∈ mB41_0, mAt mC41 x.1 = some x.2 := fun x hx => mInc_at hi41 x (List.mem_append_left _ hx)
theorem hb41_24 : ∀ x ∈ mB41_24, mAt mC41 x.1 = some x.2 := fun x hx => mInc_at hi41 x (List.mem_append_right _ (List.mem_append_left _ hx))
theorem hb41_40 : ∀ x ∈ mB41_40, mAt mC41 x.1 = some x.2 := fun x hx => mInc_at hi41 x (List.mem_append_right _ (List.mem_append_right _ (List.mem_append_left _ hx)))
theorem hb41_83 : ∀ x ∈ mB41_83, mAt mC41 x.1 = some x.2 := fun x hx => mInc_at hi41 x (List.mem_append_right _ (List.mem_append_right _ (List.mem_append_right _ (List.mem_append_left _ hx))))
theorem hb41_84 : ∀ x ∈ mB41_84, mAt mC41 x.1 = some x.2 := fun x hx => mInc_at hi41 x (List.mem_append_right _ (List.mem_append_right _ (List.mem_append_right _ (List.mem_append_right _ (List.mem_append_left _ hx)))))
theorem hb41_85 : ∀ x ∈ mB41_85, mAt mC41 x.1 = some x.2 := fun x hx => mInc_at hi41 x (List.mem_append_right _ (List.mem_append_right _ (List.mem_append_right _ (List.mem_append_right _ (List.mem_append_right _ (List.mem_append_left _ hx))))))
theorem hb41_109 : ∀ x ∈ mB41_109, mAt mC41 x.1 = some x.2 := fun x hx => mInc_at hi41 x (List.mem_append_right _ (List.mem_append_right _ (List.mem_append_right _ (List.mem_append_right _ (List.mem_append_right _ (List.mem_append_right _ (List.mem_append_left _ hx)))))))
theorem hb41_115 : ∀ x ∈ mB41_115, mAt mC41 x.1 = some x.2 := fun x hx => mInc_at hi41 x (List.mem_append_right _ (List.mem_append_right _ (List.mem_append_right _ (List.mem_append_right _ (List.mem_append_right _ (List.mem_append_right _ (List.mem_append_right _ hx)))))))
set_option maxRecDepth 8000 in
theorem hi43 : mInc mC43 = true := by decide +kernel
theorem hb43_0 : ∀ x ∈ mB43_0, mAt mC43 x.1 = some x.2 := fun x hx => mInc_at hi43 x hx
set_option maxRecDepth 8000 in
theorem hi44 : mInc mC44 = true := by decide +kernel
theorem hb44_0 : ∀ x ∈ mB44_0, mAt mC44 x.1 = some x.2 := fun x hx => mInc_at hi44 x hx
set_option maxRecDepth 8000 in
theorem hi45 : mInc mC45 = true := by decide +kernel
theorem hb45_0 : ∀ x ∈ mB45_0, mAt mC45 x.1 = some x.2 := fun x hx => mInc_at hi45 x hx
set_option maxRecDepth 8000 in
theorem hi46 : mInc mC46 = true := by decide +kernel
theorem hb46_0 : ∀ x ∈ mB46_0, mAt mC46 x.1 = some x.2 := fun x hx => mInc_at hi46 x (List.mem_append_left _ hx)
theorem hb46_21 : ∀ x ∈ mB46_21, mAt mC46 x.1 = some x.2 := fun x hx => mInc_at hi46 x (List.mem_append_right _ (List.mem_append_left _ hx))
theorem hb46_22 : ∀ x ∈ mB46_22, mAt mC46 x.1 = some x.2 := fun x hx => mInc_at hi46 x (List.mem_append_right _ (List.mem_append_right _ hx))
set_option maxRecDepth 8000 in
theorem hi47 : mInc mC47 = true := by decide +kernel
theorem hb47_0 : ∀ x ∈ mB47_0, mAt mC47 x.1 = some x.2 := fun x hx => mInc_at hi47 x (List.mem_append_left _ hx)
theorem hb47_16 : ∀ x ∈ mB47_16, mAt mC47 x.1 = some x.2 := fun x hx => mInc_at hi47 x (List.mem_append_right _ (List.mem_append_left _ hx))
theorem hb47_17 : ∀ x ∈ mB47_17, mAt mC47 x.1 = some x.2 := fun x hx => mInc_at hi47 x (List.mem_append_right _ (List.mem_append_right _ hx))
set_option maxRecDepth 8000 in
theorem hi48 : mInc mC48 = true := by decide +kernel
theorem hb48_0 : ∀ x ∈ mB48_0, mAt mC48 x.1 = some x.2 := fun x hx => mInc_at hi48 x (List.mem_append_left _ hx)
theorem hb48_12 : ∀ x ∈ mB48_12, mAt mC48 x.1 = some x.2 := fun x hx => mInc_at hi48 x (List.mem_append_right _ (List.mem_append_left _ hx))
theorem hb48_18 : ∀ x ∈ mB48_18, mAt mC48 x.1 = some x.2 := fun x hx => mInc_at hi48 x (List.mem_append_right _ (List.mem_append_right _ hx))
set_option maxRecDepth 8000 in
theorem hi49 : mInc mC49 = true := by decide +kernel
theorem hb49_0 : ∀ x ∈ mB49_0, mAt mC49 x.1 = some x.2 := fun x hx => mInc_at hi49 x (List.mem_append_left _ hx)
theorem hb49_12 : ∀ x ∈ mB49_12, mAt mC49 x.1 = some x.2 := fun x hx => mInc_at hi49 x (List.mem_append_right _ (List.mem_append_left _ hx))
theorem hb49_18 : ∀ x ∈ mB49_18, mAt mC49 x.1 = some x.2 := fun x hx => mInc_at hi49 x (List.mem_append_right _ (List.mem_append_right _ hx))
set_option maxRecDepth 8000 in
theorem hi50 : mInc mC50 = true := by decide +kernel
theorem hb50_0 : ∀ x ∈ mB50_0, mAt mC50 x.1 = some x.2 := fun x hx => mInc_at hi50 x hx
set_option maxRecDepth 8000 in
theorem hi52 : mInc mC52 = true := by decide +kernel
theorem hb52_0 : ∀ x ∈ mB52_0, mAt mC52 x.1 = some x.2 := fun x hx => mInc_at hi52 x hx
set_option maxRecDepth 8000 in
theorem hi53 : mInc mC53 = true := by decide +kernel
theorem hb53_0 : ∀ x ∈ mB53_0, mAt mC53 x.1 = some x.2 := fun x hx => mInc_at hi53 x (List.mem_append_left _ hx)
theorem hb53_46 : ∀ x ∈ mB53_46, mAt mC53 x.1 = some x.2 := fun x hx => mInc_at hi53 x (List.mem_append_right _ hx)
set_option maxRecDepth 8000 in
theorem hi54 : mInc mC54 = true := by decide +kernel
theorem hb54_0 : ∀ x ∈ mB54_0, mAt mC54 x.1 = some x.2 := fun x hx => mInc_at hi54 x (List.mem_append_left _ hx)
theorem hb54_23 : ∀ x ∈ mB54_23, mAt mC54 x.1 = some x.2 := fun x hx => mInc_at hi54 x (List.mem_append_right _ (List.mem_append_left _ hx))
theorem hb54_24 : ∀ x ∈ mB54_24, mAt mC54 x.1 = some x.2 := fun x hx => mInc_at hi54 x (List.mem_append_right _ (List.mem_append_right _ (List.mem_append_left _ hx)))
theorem hb54_25 : ∀ x ∈ mB54_25, mAt mC54 x.1 = some x.2 := fun x hx => mInc_at hi54 x (List.mem_append_right _ (List.mem_append_right _ (List.mem_append_right _ (List.mem_append_left _ hx))))
theorem hb54_49 : ∀ x ∈ mB54_49, mAt mC54 x.1 = some x.2 := fun x hx => mInc_at hi54 x (List.mem_append_right _ (List.mem_append_right _ (List.mem_append_right _ (List.mem_append_right _ (List.mem_append_left _ hx)))))
theorem hb54_84 : ∀ x ∈ mB54_84, mAt mC54 x.1 = some x.2 := fun x hx => mInc_at hi54 x (List.mem_append_right _ (List.mem_append_right _ (List.mem_append_right _ (List.mem_append_right _ (List.mem_append_right _ (List.mem_append_left _ hx))))))
theorem hb54_110 : ∀ x ∈ mB54_110, mAt mC54 x.1 = some x.2 := fun x hx => mInc_at hi54 x (List.mem_append_right _ (List.mem_append_right _ (List.mem_append_right _ (List.mem_append_right _ (List.mem_append_right _ (List.mem_append_right _ (List.mem_append_left _ hx)))))))
theorem hb54_128 : ∀ x ∈ mB54_128, mAt mC54 x.1 = some x.2 := fun x hx => mInc_at hi54 x (List.mem_append_right _ (List.mem_append_right _ (List.mem_append_right _ (List.mem_append_right _ (List.mem_append_right _ (List.mem_append_right _ (List.mem_append_right _ (List.mem_append_left _ hx))))))))
theorem hb54_129 : ∀ x ∈ mB54_129, mAt mC54 x.1 = some x.2 := fun x hx => mInc_at hi54 x (List.mem_append_right _ (List.mem_append_right _ (List.mem_append_right _ (List.mem_append_right _ (List.mem_append_right _ (List.mem_append_right _ (List.mem_append_right _ (List.mem_append_right _ (List.mem_append_left _ hx)))))))))
theorem hb54_137 : ∀ x ∈ mB54_137, mAt mC54 x.1 = some x.2 := fun x hx => mInc_at hi54 x (List.mem_append_right _ (List.mem_append_right _ (List.mem_append_right _ (List.mem_append_right _ (List.mem_append_right _ (List.mem_append_right _ (List.mem_append_right _ (List.mem_append_right _ (List.mem_append_right _ (List.mem_append_left _ hx))))))))))
theorem hb54_155 : ∀ x ∈ mB54_155, mAt mC54 x.1 = some x.2 := fun x hx => mInc_at hi54 x (List.mem_append_right _ (List.mem_append_right _ (List.mem_append_right _ (List.mem_append_right _ (List.mem_append_right _ (List.mem_append_right _ (List.mem_append_right _ (List.mem_append_right _ (List.mem_append_right _ (List.mem_append_right _ hx))))))))))
set_option maxRecDepth 8000 in
theorem hi55 : mInc mC55 = true := by decide +kernel
theorem hb55_0 : ∀ x ∈ mB55_0, mAt mC55 x.1 = some x.2 := fun x hx => mInc_at hi55 x (List.mem_append_left _ hx)
theorem hb55_2 : ∀ x ∈ mB55_2, mAt mC55 x.1 = some x.2 := fun x hx => mInc_at hi55 x (List.mem_append_right _ (List.mem_append_left _ hx))
theorem hb55_22 : ∀ x ∈ mB55_22, mAt mC55 x.1 = some x.2 := fun x hx => mInc_at hi55 x (List.mem_append_right _ (List.mem_append_right _ (List.mem_append_left _ hx)))
theorem hb55_28 : ∀ x ∈ mB55_28, mAt mC55 x.1 = some x.2 := fun x hx => mInc_at hi55 x (List.mem_append_right _ (List.mem_append_right _ (List.mem_append_right _ hx)))
set_option maxRecDepth 8000 in
theorem hi56 : mInc mC56 = true := by decide +kernel
theorem hb56_0 : ∀ x ∈ mB56_0, mAt mC56 x.1 = some x.2 := fun x hx => mInc_at hi56 x (List.mem_append_left _ hx)
theorem hb56_16 : ∀ x ∈ mB56_16, mAt mC56 x.1 = some x.2 := fun x hx => mInc_at hi56 x (List.mem_append_right _ (List.mem_append_left _ hx))
theorem hb56_35 : ∀ x ∈ mB56_35, mAt mC56 x.1 = some x.2 := fun x hx => mInc_at hi56 x (List.mem_append_right _ (List.mem_append_right _ (List.mem_append_left _ hx)))
theorem hb56_50 : ∀ x ∈ mB56_50, mAt mC56 x.1 = some x.2 := fun x hx => mInc_at hi56 x (List.mem_append_right _ (List.mem_append_right _ (List.mem_append_right _ hx)))
set_option maxRecDepth 8000 in
theorem hi57 : mInc mC57 = true := by decide +kernel
theorem hb57_0 : ∀ x ∈ mB57_0, mAt mC57 x.1 = some x.2 := fun x hx => mInc_at hi57 x (List.mem_append_left _ hx)
theorem hb57_12 : ∀ x ∈ mB57_12, mAt mC57 x.1 = some x.2 := fun x hx => mInc_at hi57 x (List.mem_append_right _ (List.mem_append_left _ hx))
theorem hb57_28 : ∀ x ∈ mB57_28, mAt mC57 x.1 = some x.2 := fun x hx => mInc_at hi57 x (List.mem_append_right _ (List.mem_append_right _ (List.mem_append_left _ hx)))
theorem hb57_54 : ∀ x ∈ mB57_54, mAt mC57 x.1 = some x.2 := fun x hx => mInc_at hi57 x (List.mem_append_right _ (List.mem_append_right _ (List.mem_append_right _ (List.mem_append_left _ hx))))
theorem hb57_55 : ∀ x ∈ mB57_55, mAt mC57 x.1 = some x.2 := fun x hx => mInc_at hi57 x (List.mem_append_right _ (List.mem_append_right _ (List.mem_append_right _ (List.mem_append_right _ (List.mem_append_left _ hx)))))
theorem hb57_69 : ∀ x ∈ mB57_69, mAt mC57 x.1 = some x.2 := fun x hx => mInc_at hi57 x (List.mem_append_right _ (List.mem_append_right _ (List.mem_append_right _ (List.mem_append_right _ (List.mem_append_right _ (List.mem_append_left _ hx))))))
theorem hb57_79 : ∀ x ∈ mB57_79, mAt mC57 x.1 = some x.2 := fun x hx => mInc_at hi57 x (List.mem_append_right _ (List.mem_append_right _ (List.mem_append_right _ (List.mem_append_right _ (List.mem_append_right _ (List.mem_append_right _ (List.mem_append_left _ hx)))))))
theorem hb57_99 : ∀ x ∈ mB57_99, mAt mC57 x.1 = some x.2 := fun x hx => mInc_at hi57 x (List.mem_append_right _ (List.mem_append_right _ (List.mem_append_right _ (List.mem_append_right _ (List.mem_append_right _ (List.mem_append_right _ (List.mem_append_right _ (List.mem_append_left _ hx))))))))
theorem hb57_105 : ∀ x ∈ mB57_105, mAt mC57 x.1 = some x.2 := fun x hx => mInc_at hi57 x (List.mem_append_right _ (List.mem_append_right _ (List.mem_append_right _ (List.mem_append_right _ (List.mem_append_right _ (List.mem_append_right _ (List.mem_append_right _ (List.mem_append_right _ hx))))))))
set_option maxRecDepth 8000 in
theorem hi58 : mInc mC58 = true := by decide +kernel
theorem hb58_0 : ∀ x ∈ mB58_0, mAt mC58 x.1 = some x.2 := fun x hx => mInc_at hi58 x (List.mem_append_left _ hx)
theorem hb58_4 : ∀ x ∈ mB58_4, mAt mC58 x.1 = some x.2 := fun x hx => mInc_at hi58 x (List.mem_append_right _ (List.mem_append_left _ hx))
theorem hb58_14 : ∀ x ∈ mB58_14, mAt mC58 x.1 = some x.2 := fun x hx => mInc_at hi58 x (List.mem_append_right _ (List.mem_append_right _ (List.mem_append_left _ hx)))
theorem hb58_54 : ∀ x ∈ mB58_54, mAt mC58 x.1 = some x.2 := fun x hx => mInc_at hi58 x (List.mem_append_right _ (List.mem_append_right _ (List.mem_append_right _ (List.mem_append_left _ hx))))
theorem hb58_60 : ∀ x ∈ mB58_60, mAt mC58 x.1 = some x.2 := fun x hx => mInc_at hi58 x (List.mem_append_right _ (List.mem_append_right _ (List.mem_append_right _ (List.mem_append_right _ hx))))
set_option maxRecDepth 8000 in
theorem hi60 : mInc mC60 = true := by decide +kernel
theorem hb60_0 : ∀ x ∈ mB60_0, mAt mC60 x.1 = some x.2 := fun x hx => mInc_at hi60 x hx
set_option maxRecDepth 8000 in
theorem hi61 : mInc mC61 = true := by decide +kernel
theorem hb61_0 : ∀ x ∈ mB61_0, mAt mC61 x.1 = some x.2 := fun x hx => mInc_at hi61 x hx
set_option maxRecDepth 8000 in
theorem hi62 : mInc mC62 = true := by decide +kernel
theorem hb62_0 : ∀ x ∈ mB62_0, mAt mC62 x.1 = some x.2 := fun x hx => mInc_at hi62 x hx
set_option maxRecDepth 8000 in
theorem hi63 : mInc mC63 = true := by decide +kernel
theorem hb63_0 : ∀ x ∈ mB63_0, mAt mC63 x.1 = some x.2 := fun x hx => mInc_at hi63 x hx
set_option maxRecDepth 8000 in
theorem hi64 : mInc mC64 = true := by decide +kernel
theorem hb64_0 : ∀ x ∈ mB64_0, mAt mC64 x.1 = some x.2 := fun x hx => mInc_at hi64 x (List.mem_append_left _ hx)
theorem hb64_19 : ∀ x ∈ mB64_19, mAt mC64 x.1 = some x.2 := fun x hx => mInc_at hi64 x (List.mem_append_right _ (List.mem_append_left _ hx))
theorem hb64_20 : ∀ x ∈ mB64_20, mAt mC64 x.1 = some x.2 := fun x hx => mInc_at hi64 x (List.mem_append_right _ (List.mem_append_right _ hx))
set_option maxRecDepth 8000 in
theorem hi65 : mInc mC65 = true := by decide +kernel
theorem hb65_0 : ∀ x ∈ mB65_0, mAt mC65 x.1 = some x.2 := fun x hx => mInc_at hi65 x (List.mem_append_left _ hx)
theorem hb65_32 : ∀ x ∈ mB65_32, mAt mC65 x.1 = some x.2 := fun x hx => mInc_at hi65 x (List.mem_append_right _ (List.mem_append_left _ hx))
theorem hb65_43 : ∀ x ∈ mB65_43, mAt mC65 x.1 = some x.2 := fun x hx => mInc_at hi65 x (List.mem_append_right _ (List.mem_append_right _ hx))
set_option maxRecDepth 8000 in
theorem hi66 : mInc mC66 = true := by decide +kernel
theorem hb66_0 : ∀ x ∈ mB66_0, mAt mC66 x.1 = some x.2 := fun x hx => mInc_at hi66 x (List.mem_append_left _ hx)
theorem hb66_10 : ∀ x ∈ mB66_10, mAt mC66 x.1 = some x.2 := fun x hx => mInc_at hi66 x (List.mem_append_right _ (List.mem_append_left _ hx))
theorem hb66_42 : ∀ x ∈ mB66_42, mAt mC66 x.1 = some x.2 := fun x hx => mInc_at hi66 x (List.mem_append_right _ (List.mem_append_right _ (List.mem_append_left _ hx)))
theorem hb66_66 : ∀ x ∈ mB66_66, mAt mC66 x.1 = some x.2 := fun x hx => mInc_at hi66 x (List.mem_append_right _ (List.mem_append_right _ (List.mem_append_right _ (List.mem_append_left _ hx))))
theorem hb66_73 : ∀ x ∈ mB66_73, mAt mC66 x.1 = some x.2 := fun x hx => mInc_at hi66 x (List.mem_append_right _ (List.mem_append_right _ (List.mem_append_right _ (List.mem_append_right _ (List.mem_append_left _ hx)))))
theorem hb66_80 : ∀ x ∈ mB66_80, mAt mC66 x.1 = some x.2 := fun x hx => mInc_at hi66 x (List.mem_append_right _ (List.mem_append_right _ (List.mem_append_right _ (List.mem_append_right _ (List.mem_append_right _ (List.mem_append_left _ hx))))))
theorem hb66_114 : ∀ x ∈ mB66_114, mAt mC66 x.1 = some x.2 := fun x hx => mInc_at hi66 x (List.mem_append_right _ (List.mem_append_right _ (List.mem_append_right _ (List.mem_append_right _ (List.mem_append_right _ (List.mem_append_right _ (List.mem_append_left _ hx)))))))
theorem hb66_115 : ∀ x ∈ mB66_115, mAt mC66 x.1 = some x.2 := fun x hx => mInc_at hi66 x (List.mem_append_right _ (List.mem_append_right _ (List.mem_append_right _ (List.mem_append_right _ (List.mem_append_right _ (List.mem_append_right _ (List.mem_append_right _ (List.mem_append_left _ hx))))))))
theorem hb66_119 : ∀ x ∈ mB66_119, mAt mC66 x.1 = some x.2 := fun x hx => mInc_at hi66 x (List.mem_append_right _ (List.mem_append_right _ (List.mem_append_right _ (List.mem_append_right _ (List.mem_append_right _ (List.mem_append_right _ (List.mem_append_right _ (List.mem_append_right _ (List.mem_append_left _ hx)))))))))
theorem hb66_156 : ∀ x ∈ mB66_156, mAt mC66 x.1 = some x.2 := fun x hx => mInc_at hi66 x (List.mem_append_right _ (List.mem_append_right _ (List.mem_append_right _ (List.mem_append_right _ (List.mem_append_right _ (List.mem_append_right _ (List.mem_append_right _ (List.mem_append_right _ (List.mem_append_right _ (List.mem_append_left _ hx))))))))))
theorem hb66_162 : ∀ x ∈ mB66_162, mAt mC66 x.1 = some x.2 := fun x hx => mInc_at hi66 x (List.mem_append_right _ (List.mem_append_right _ (List.mem_append_right _ (List.mem_append_right _ (List.mem_append_right _ (List.mem_append_right _ (List.mem_append_right _ (List.mem_append_right _ (List.mem_append_right _ (List.mem_append_right _ (List.mem_append_left _ hx)))))))))))
theorem hb66_178 : ∀ x ∈ mB66_178, mAt mC66 x.1 = some x.2 := fun x hx => mInc_at hi66 x (List.mem_append_right _ (List.mem_append_right _ (List.mem_append_right _ (List.mem_append_right _ (List.mem_append_right _ (List.mem_append_right _ (List.mem_append_right _ (List.mem_append_right _ (List.mem_append_right _ (List.mem_append_right _ (List.mem_append_right _ (List.mem_append_left _ hx))))))))))))
theorem hb66_179 : ∀ x ∈ mB66_179, mAt mC66 x.1 = some x.2 := fun x hx => mInc_at hi66 x (List.mem_append_right _ (List.mem_append_right _ (List.mem_append_right _ (List.mem_append_right _ (List.mem_append_right _ (List.mem_append_right _ (List.mem_append_right _ (List.mem_append_right _ (List.mem_append_right _ (List.mem_append_right _ (List.mem_append_right _ (List.mem_append_right _ hx))))))))))))
set_option maxRecDepth 8000 in
theorem hi67 : mInc mC67 = true := by decide +kernel
theorem hb67_0 : ∀ x ∈ mB67_0, mAt mC67 x.1 = some x.2 := fun x hx => mInc_at hi67 x (List.mem_append_left _ hx)
theorem hb67_48 : ∀ x ∈ mB67_48, mAt mC67 x.1 = some x.2 := fun x hx => mInc_at hi67 x (List.mem_append_right _ (List.mem_append_left _ hx))
theorem hb67_56 : ∀ x ∈ mB67_56, mAt mC67 x.1 = some x.2 := fun x hx => mInc_at hi67 x (List.mem_append_right _ (List.mem_append_right _ (List.mem_append_left _ hx)))
theorem hb67_60 : ∀ x ∈ mB67_60, mAt mC67 x.1 = some x.2 := fun x hx => mInc_at hi67 x (List.mem_append_right _ (List.mem_append_right _ (List.mem_append_right _ (List.mem_append_left _ hx))))
theorem hb67_61 : ∀ x ∈ mB67_61, mAt mC67 x.1 = some x.2 := fun x hx => mInc_at hi67 x (List.mem_append_right _ (List.mem_append_right _ (List.mem_append_right _ (List.mem_append_right _ (List.mem_append_left _ hx)))))
theorem hb67_62 : ∀ x ∈ mB67_62, mAt mC67 x.1 = some x.2 := fun x hx => mInc_at hi67 x (List.mem_append_right _ (List.mem_append_right _ (List.mem_append_right _ (List.mem_append_right _ (List.mem_append_right _ (List.mem_append_left _ hx))))))
theorem hb67_74 : ∀ x ∈ mB67_74, mAt mC67 x.1 = some x.2 := fun x hx => mInc_at hi67 x (List.mem_append_right _ (List.mem_append_right _ (List.mem_append_right _ (List.mem_append_right _ (List.mem_append_right _ (List.mem_append_right _ (List.mem_append_left _ hx)))))))
theorem hb67_75 : ∀ x ∈ mB67_75, mAt mC67 x.1 = some x.2 := fun x hx => mInc_at hi67 x (List.mem_append_right _ (List.mem_append_right _ (List.mem_append_right _ (List.mem_append_right _ (List.mem_append_right _ (List.mem_append_right _ (List.mem_append_right _ (List.mem_append_left _ hx))))))))
theorem hb67_76 : ∀ x ∈ mB67_76, mAt mC67 x.1 = some x.2 := fun x hx => mInc_at hi67 x (List.mem_append_right _ (List.mem_append_right _ (List.mem_append_right _ (List.mem_append_right _ (List.mem_append_right _ (List.mem_append_right _ (List.mem_append_right _ (List.mem_append_right _ (List.mem_append_left _ hx)))))))))
theorem hb67_85 : ∀ x ∈ mB67_85, mAt mC67 x.1 = some x.2 := fun x hx => mInc_at hi67 x (List.mem_append_right _ (List.mem_append_right _ (List.mem_append_right _ (List.mem_append_right _ (List.mem_append_right _ (List.mem_append_right _ (List.mem_append_right _ (List.mem_append_right _ (List.mem_append_right _ (List.mem_append_left _ hx))))))))))
theorem hb67_86 : ∀ x ∈ mB67_86, mAt mC67 x.1 = some x.2 := fun x hx => mInc_at hi67 x (List.mem_append_right _ (List.mem_append_right _ (List.mem_append_right _ (List.mem_append_right _ (List.mem_append_right _ (List.mem_append_right _ (List.mem_append_right _ (List.mem_append_right _ (List.mem_append_right _ (List.mem_append_right _ (List.mem_append_left _ hx)))))))))))
theorem hb67_87 : ∀ x ∈ mB67_87, mAt mC67 x.1 = some x.2 := fun x hx => mInc_at hi67 x (List.mem_append_right _ (List.mem_append_right _ (List.mem_append_right _ (List.mem_append_right _ (List.mem_append_right _ (List.mem_append_right _ (List.mem_append_right _ (List.mem_append_right _ (List.mem_append_right _ (List.mem_append_right _ (List.mem_append_right _ (List.mem_append_left _ hx))))))))))))
theorem hb67_96 : ∀ x ∈ mB67_96, mAt mC67 x.1 = some x.2 := fun x hx => mInc_at hi67 x (List.mem_append_right _ (List.mem_append_right _ (List.mem_append_right _ (List.mem_append_right _ (List.mem_append_right _ (List.mem_append_right _ (List.mem_append_right _ (List.mem_append_right _ (List.mem_append_right _ (List.mem_append_right _ (List.mem_append_right _ (List.mem_append_right _ (List.mem_append_left _ hx)))))))))))))
theorem hb67_97 : ∀ x ∈ mB67_97, mAt mC67 x.1 = some x.2 := fun x hx => mInc_at hi67 x (List.mem_append_right _ (List.mem_append_right _ (List.mem_append_right _ (List.mem_append_right _ (List.mem_append_right _ (List.mem_append_right _ (List.mem_append_right _ (List.mem_append_right _ (List.mem_append_right _ (List.mem_append_right _ (List.mem_append_right _ (List.mem_append_right _ (List.mem_append_right _ (List.mem_append_left _ hx))))))))))))))
theorem hb67_98 : ∀ x ∈ mB67_98, mAt mC67 x.1 = some x.2 := fun x hx => mInc_at hi67 x (List.mem_append_right _ (List.mem_append_right _ (List.mem_append_right _ (List.mem_append_right _ (List.mem_append_right _ (List.mem_append_right _ (List.mem_append_right _ (List.mem_append_right _ (List.mem_append_right _ (List.mem_append_right _ (List.mem_append_right _ (List.mem_append_right _ (List.mem_append_right _ (List.mem_append_right _ (List.mem_append_left _ hx)))))))))))))))
theorem hb67_102 : ∀ x ∈ mB67_102, mAt mC67 x.1 = some x.2 := fun x hx => mInc_at hi67 x (List.mem_append_right _ (List.mem_append_right _ (List.mem_append_right _ (List.mem_append_right _ (List.mem_append_right _ (List.mem_append_right _ (List.mem_append_right _ (List.mem_append_right _ (List.mem_append_right _ (List.mem_append_right _ (List.mem_append_right _ (List.mem_append_right _ (List.mem_append_right _ (List.mem_append_right _ (List.mem_append_right _ (List.mem_append_left _ hx))))))))))))))))
theorem hb67_106 : ∀ x ∈ mB67_106, mAt mC67 x.1 = some x.2 := fun x hx => mInc_at hi67 x (List.mem_append_right _ (List.mem_append_right _ (List.mem_append_right _ (List.mem_append_right _ (List.mem_append_right _ (List.mem_append_right _ (List.mem_append_right _ (List.mem_append_right _ (List.mem_append_right _ (List.mem_append_right _ (List.mem_append_right _ (List.mem_append_right _ (List.mem_append_right _ (List.mem_append_right _ (List.mem_append_right _ (List.mem_append_right _ (List.mem_append_left _ hx)))))))))))))))))
theorem hb67_110 : ∀ x ∈ mB67_110, mAt mC67 x.1 = some x.2 := fun x hx => mInc_at hi67 x (List.mem_append_right _ (List.mem_append_right _ (List.mem_append_right _ (List.mem_append_right _ (List.mem_append_right _ (List.mem_append_right _ (List.mem_append_right _ (List.mem_append_right _ (List.mem_append_right _ (List.mem_append_right _ (List.mem_append_right _ (List.mem_append_right _ (List.mem_append_right _ (List.mem_append_right _ (List.mem_append_right _ (List.mem_append_right _ (List.mem_append_right _ (List.mem_append_left _ hx))))))))))))))))))
theorem hb67_118 : ∀ x ∈ mB67_118, mAt mC67 x.1 = some x.2 := fun x hx => mInc_at hi67 x (List.mem_append_right _ (List.mem_append_right _ (List.mem_append_right _ (List.mem_append_right _ (List.mem_append_right _ (List.mem_append_right _ (List.mem_append_right _ (List.mem_append_right _ (List.mem_append_right _ (List.mem_append_right _ (List.mem_append_right _ (List.mem_append_right _ (List.mem_append_right _ (List.mem_append_right _ (List.mem_append_right _ (List.mem_append_right _ (List.mem_append_right _ (List.mem_append_right _ (List.mem_append_left _ hx)))))))))))))))))))
theorem hb67_121 : ∀ x ∈ mB67_121, mAt mC67 x.1 = some x.2 := fun x hx => mInc_at hi67 x (List.mem_append_right _ (List.mem_append_right _ (List.mem_append_right _ (List.mem_append_right _ (List.mem_append_right _ (List.mem_append_right _ (List.mem_append_right _ (List.mem_append_right _ (List.mem_append_right _ (List.mem_append_right _ (List.mem_append_right _ (List.mem_append_right _ (List.mem_append_right _ (List.mem_append_right _ (List.mem_append_right _ (List.mem_append_right _ (List.mem_append_right _ (List.mem_append_right _ (List.mem_append_right _ hx)))))))))))))))))))
set_option maxRecDepth 8000 in
theorem hi69 : mInc mC69 = true := by decide +kernel
theorem hb69_0 : ∀ x ∈ mB69_0, mAt mC69 x.1 = some x.2 := fun x hx => mInc_at hi69 x hx
set_option maxRecDepth 8000 in
theorem hi70 : mInc mC70 = true := by decide +kernel
theorem hb70_0 : ∀ x ∈ mB70_0, mAt mC70 x.1 = some x.2 := fun x hx => mInc_at hi70 x (List.mem_append_left _ hx)
theorem hb70_8 : ∀ x ∈ mB70_8, mAt mC70 x.1 = some x.2 := fun x hx => mInc_at hi70 x (List.mem_append_right _ (List.mem_append_left _ hx))
theorem hb70_47 : ∀ x ∈ mB70_47, mAt mC70 x.1 = some x.2 := fun x hx => mInc_at hi70 x (List.mem_append_right _ (List.mem_append_right _ (List.mem_append_left _ hx)))
theorem hb70_60 : ∀ x ∈ mB70_60, mAt mC70 x.1 = some x.2 := fun x hx => mInc_at hi70 x (List.mem_append_right _ (List.mem_append_right _ (List.mem_append_right _ (List.mem_append_left _ hx))))
theorem hb70_92 : ∀ x ∈ mB70_92, mAt mC70 x.1 = some x.2 := fun x hx => mInc_at hi70 x (List.mem_append_right _ (List.mem_append_right _ (List.mem_append_right _ (List.mem_append_right _ (List.mem_append_left _ hx)))))
theorem hb70_114 : ∀ x ∈ mB70_114, mAt mC70 x.1 = some x.2 := fun x hx => mInc_at hi70 x (List.mem_append_right _ (List.mem_append_right _ (List.mem_append_right _ (List.mem_append_right _ (List.mem_append_right _ (List.mem_append_left _ hx))))))
theorem hb70_136 : ∀ x ∈ mB70_136, mAt mC70 x.1 = some x.2 := fun x hx => mInc_at hi70 x (List.mem_append_right _ (List.mem_append_right _ (List.mem_append_right _ (List.mem_append_right _ (List.mem_append_right _ (List.mem_append_right _ (List.mem_append_left _ hx)))))))
theorem hb70_164 : ∀ x ∈ mB70_164, mAt mC70 x.1 = some x.2 := fun x hx => mInc_at hi70 x (List.mem_append_right _ (List.mem_append_right _ (List.mem_append_right _ (List.mem_append_right _ (List.mem_append_right _ (List.mem_append_right _ (List.mem_append_right _ (List.mem_append_left _ hx))))))))
theorem hb70_165 : ∀ x ∈ mB70_165, mAt mC70 x.1 = some x.2 := fun x hx => mInc_at hi70 x (List.mem_append_right _ (List.mem_append_right _ (List.mem_append_right _ (List.mem_append_right _ (List.mem_append_right _ (List.mem_append_right _ (List.mem_append_right _ (List.mem_append_right _ (List.mem_append_left _ hx)))))))))
theorem hb70_178 : ∀ x ∈ mB70_178, mAt mC70 x.1 = some x.2 := fun x hx => mInc_at hi70 x (List.mem_append_right _ (List.mem_append_right _ (List.mem_append_right _ (List.mem_append_right _ (List.mem_append_right _ (List.mem_append_right _ (List.mem_append_right _ (List.mem_append_right _ (List.mem_append_right _ hx)))))))))
set_option maxRecDepth 8000 in
theorem hi71 : mInc mC71 = true := by decide +kernel
theorem hb71_0 : ∀ x ∈ mB71_0, mAt mC71 x.1 = some x.2 := fun x hx => mInc_at hi71 x (List.mem_append_left _ hx)
theorem hb71_5 : ∀ x ∈ mB71_5, mAt mC71 x.1 = some x.2 := fun x hx => mInc_at hi71 x (List.mem_append_right _ (List.mem_append_left _ hx))
theorem hb71_44 : ∀ x ∈ mB71_44, mAt mC71 x.1 = some x.2 := fun x hx => mInc_at hi71 x (List.mem_append_right _ (List.mem_append_right _ (List.mem_append_left _ hx)))
theorem hb71_46 : ∀ x ∈ mB71_46, mAt mC71 x.1 = some x.2 := fun x hx => mInc_at hi71 x (List.mem_append_right _ (List.mem_append_right _ (List.mem_append_right _ (List.mem_append_left _ hx))))
theorem hb71_93 : ∀ x ∈ mB71_93, mAt mC71 x.1 = some x.2 := fun x hx => mInc_at hi71 x (List.mem_append_right _ (List.mem_append_right _ (List.mem_append_right _ (List.mem_append_right _ (List.mem_append_left _ hx)))))
theorem hb71_99 : ∀ x ∈ mB71_99, mAt mC71 x.1 = some x.2 := fun x hx => mInc_at hi71 x (List.mem_append_right _ (List.mem_append_right _ (List.mem_append_right _ (List.mem_append_right _ (List.mem_append_right _ hx)))))
set_option maxRecDepth 8000 in
theorem hi72 : mInc mC72 = true := by decide +kernel
theorem hb72_0 : ∀ x ∈ mB72_0, mAt mC72 x.1 = some x.2 := fun x hx => mInc_at hi72 x (List.mem_append_left _ hx)
theorem hb72_10 : ∀ x ∈ mB72_10, mAt mC72 x.1 = some x.2 := fun x hx => mInc_at hi72 x (List.mem_append_right _ (List.mem_append_left _ hx))
theorem hb72_73 : ∀ x ∈ mB72_73, mAt mC72 x.1 = some x.2 := fun x hx => mInc_at hi72 x (List.mem_append_right _ (List.mem_append_right _ (List.mem_append_left _ hx)))
theorem hb72_76 : ∀ x ∈ mB72_76, mAt mC72 x.1 = some x.2 := fun x hx => mInc_at hi72 x (List.mem_append_right _ (List.mem_append_right _ (List.mem_append_right _ (List.mem_append_left _ hx))))
theorem hb72_92 : ∀ x ∈ mB72_92, mAt mC72 x.1 = some x.2 := fun x hx => mInc_at hi72 x (List.mem_append_right _ (List.mem_append_right _ (List.mem_append_right _ (List.mem_append_right _ hx))))
set_option maxRecDepth 8000 in
theorem hi73 : mInc mC73 = true := by decide +kernel
theorem hb73_0 : ∀ x ∈ mB73_0, mAt mC73 x.1 = some x.2 := fun x hx => mInc_at hi73 x (List.mem_append_left _ hx)
theorem hb73_20 : ∀ x ∈ mB73_20, mAt mC73 x.1 = some x.2 := fun x hx => mInc_at hi73 x (List.mem_append_right _ (List.mem_append_left _ hx))
theorem hb73_21 : ∀ x ∈ mB73_21, mAt mC73 x.1 = some x.2 := fun x hx => mInc_at hi73 x (List.mem_append_right _ (List.mem_append_right _ hx))
set_option maxRecDepth 8000 in
theorem hi74 : mInc mC74 = true := by decide +kernel
theorem hb74_0 : ∀ x ∈ mB74_0, mAt mC74 x.1 = some x.2 := fun x hx => mInc_at hi74 x (List.mem_append_left _ hx)
theorem hb74_20 : ∀ x ∈ mB74_20, mAt mC74 x.1 = some x.2 := fun x hx => mInc_at hi74 x (List.mem_append_right _ (List.mem_append_left _ hx))
theorem hb74_21 : ∀ x ∈ mB74_21, mAt mC74 x.1 = some x.2 := fun x hx => mInc_at hi74 x (List.mem_append_right _ (List.mem_append_right _ hx))
set_option maxRecDepth 8000 in
theorem hi75 : mInc mC75 = true := by decide +kernel
theorem hb75_0 : ∀ x ∈ mB75_0, mAt mC75 x.1 = some x.2 := fun x hx => mInc_at hi75 x (List.mem_append_left _ hx)
theorem hb75_25 : ∀ x ∈ mB75_25, mAt mC75 x.1 = some x.2 := fun x hx => mInc_at hi75 x (List.mem_append_right _ (List.mem_append_left _ hx))
theorem hb75_29 : ∀ x ∈ mB75_29, mAt mC75 x.1 = some x.2 := fun x hx => mInc_at hi75 x (List.mem_append_right _ (List.mem_append_right _ (List.mem_append_left _ hx)))
theorem hb75_30 : ∀ x ∈ mB75_30, mAt mC75 x.1 = some x.2 := fun x hx => mInc_at hi75 x (List.mem_append_right _ (List.mem_append_right _ (List.mem_append_right _ hx)))
set_option maxRecDepth 8000 in
theorem hi76 : mInc mC76 = true := by decide +kernel
theorem hb76_0 : ∀ x ∈ mB76_0, mAt mC76 x.1 = some x.2 := fun x hx => mInc_at hi76 x (List.mem_append_left _ hx)
theorem hb76_16 : ∀ x ∈ mB76_16, mAt mC76 x.1 = some x.2 := fun x hx => mInc_at hi76 x (List.mem_append_right _ (List.mem_append_left _ hx))
theorem hb76_17 : ∀ x ∈ mB76_17, mAt mC76 x.1 = some x.2 := fun x hx => mInc_at hi76 x (List.mem_append_right _ (List.mem_append_right _ hx))
set_option maxRecDepth 8000 in
theorem hi77 : mInc mC77 = true := by decide +kernel
theorem hb77_0 : ∀ x ∈ mB77_0, mAt mC77 x.1 = some x.2 := fun x hx => mInc_at hi77 x (List.mem_append_left _ hx)
theorem hb77_16 : ∀ x ∈ mB77_16, mAt mC77 x.1 = some x.2 := fun x hx => mInc_at hi77 x (List.mem_append_right _ (List.mem_append_left _ hx))
theorem hb77_17 : ∀ x ∈ mB77_17, mAt mC77 x.1 = some x.2 := fun x hx => mInc_at hi77 x (List.mem_append_right _ (List.mem_append_right _ hx))
set_option maxRecDepth 8000 in
theorem hi78 : mInc mC78 = true := by decide +kernel
theorem hb78_0 : ∀ x ∈ mB78_0, mAt mC78 x.1 = some x.2 := fun x hx => mInc_at hi78 x (List.mem_append_left _ hx)
theorem hb78_54 : ∀ x ∈ mB78_54, mAt mC78 x.1 = some x.2 := fun x hx => mInc_at hi78 x (List.mem_append_right _ (List.mem_append_left _ hx))
theorem hb78_58 : ∀ x ∈ mB78_58, mAt mC78 x.1 = some x.2 := fun x hx => mInc_at hi78 x (List.mem_append_right _ (List.mem_append_right _ (List.mem_append_left _ hx)))
theorem hb78_59 : ∀ x ∈ mB78_59, mAt mC78 x.1 = some x.2 := fun x hx => mInc_at hi78 x (List.mem_append_right _ (List.mem_append_right _ (List.mem_append_right _ hx)))
set_option maxRecDepth 8000 in
theorem hi80 : mInc mC80 = true := by decide +kernel
theorem hb80_0 : ∀ x ∈ mB80_0, mAt mC80 x.1 = some x.2 := fun x hx => mInc_at hi80 x (List.mem_append_left _ hx)
theorem hb80_4 : ∀ x ∈ mB80_4, mAt mC80 x.1 = some x.2 := fun x hx => mInc_at hi80 x (List.mem_append_right _ (List.mem_append_left _ hx))
theorem hb80_33 : ∀ x ∈ mB80_33, mAt mC80 x.1 = some x.2 := fun x hx => mInc_at hi80 x (List.mem_append_right _ (List.mem_append_right _ hx))
set_option maxRecDepth 8000 in
theorem hi81 : mInc mC81 = true := by decide +kernel
theorem hb81_0 : ∀ x ∈ mB81_0, mAt mC81 x.1 = some x.2 := fun x hx => mInc_at hi81 x (List.mem_append_left _ hx)
theorem hb81_4 : ∀ x ∈ mB81_4, mAt mC81 x.1 = some x.2 := fun x hx => mInc_at hi81 x (List.mem_append_right _ (List.mem_append_left _ hx))
theorem hb81_35 : ∀ x ∈ mB81_35, mAt mC81 x.1 = some x.2 := fun x hx => mInc_at hi81 x (List.mem_append_right _ (List.mem_append_right _ hx))
set_option maxRecDepth 8000 in
theorem hi82 : mInc mC82 = true := by decide +kernel
theorem hb82_0 : ∀ x ∈ mB82_0, mAt mC82 x.1 = some x.2 := fun x hx => mInc_at hi82 x (List.mem_append_left _ hx)
theorem hb82_4 : ∀ x ∈ mB82_4, mAt mC82 x.1 = some x.2 := fun x hx => mInc_at hi82 x (List.mem_append_right _ (List.mem_append_left _ hx))
theorem hb82_34 : ∀ x ∈ mB82_34, mAt mC82 x.1 = some x.2 := fun x hx => mInc_at hi82 x (List.mem_append_right _ (List.mem_append_right _ (List.mem_append_left _ hx)))
theorem hb82_40 : ∀ x ∈ mB82_40, mAt mC82 x.1 = some x.2 := fun x hx => mInc_at hi82 x (List.mem_append_right _ (List.mem_append_right _ (List.mem_append_right _ hx)))
set_option maxRecDepth 8000 in
theorem hi83 : mInc mC83 = true := by decide +kernel
theorem hb83_0 : ∀ x ∈ mB83_0, mAt mC83 x.1 = some x.2 := fun x hx => mInc_at hi83 x hx
set_option maxRecDepth 8000 in
theorem hi84 : mInc mC84 = true := by decide +kernel
theorem hb84_0 : ∀ x ∈ mB84_0, mAt mC84 x.1 = some x.2 := fun x hx => mInc_at hi84 x (List.mem_append_left _ hx)
theorem hb84_48 : ∀ x ∈ mB84_48, mAt mC84 x.1 = some x.2 := fun x hx => mInc_at hi84 x (List.mem_append_right _ (List.mem_append_left _ hx))
theorem hb84_123 : ∀ x ∈ mB84_123, mAt mC84 x.1 = some x.2 := fun x hx => mInc_at hi84 x (List.mem_append_right _ (List.mem_append_right _ (List.mem_append_left _ hx)))
theorem hb84_132 : ∀ x ∈ mB84_132, mAt mC84 x.1 = some x.2 := fun x hx => mInc_at hi84 x (List.mem_append_right _ (List.mem_append_right _ (List.mem_append_right _ hx)))
set_option maxRecDepth 8000 in
theorem hi85 : mInc mC85 = true := by decide +kernel
theorem hb85_0 : ∀ x ∈ mB85_0, mAt mC85 x.1 = some x.2 := fun x hx => mInc_at hi85 x (List.mem_append_left _ hx)
theorem hb85_27 : ∀ x ∈ mB85_27, mAt mC85 x.1 = some x.2 := fun x hx => mInc_at hi85 x (List.mem_append_right _ hx)
set_option maxRecDepth 8000 in
theorem hi86 : mInc mC86 = true := by decide +kernel
theorem hb86_0 : ∀ x ∈ mB86_0, mAt mC86 x.1 = some x.2 := fun x hx => mInc_at hi86 x (List.mem_append_left _ hx)
theorem hb86_4 : ∀ x ∈ mB86_4, mAt mC86 x.1 = some x.2 := fun x hx => mInc_at hi86 x (List.mem_append_right _ (List.mem_append_left _ hx))
theorem hb86_29 : ∀ x ∈ mB86_29, mAt mC86 x.1 = some x.2 := fun x hx => mInc_at hi86 x (List.mem_append_right _ (List.mem_append_right _ hx))
set_option maxRecDepth 8000 in
theorem hi87 : mInc mC87 = true := by decide +kernel
theorem hb87_0 : ∀ x ∈ mB87_0, mAt mC87 x.1 = some x.2 := fun x hx => mInc_at hi87 x (List.mem_append_left _ hx)
theorem hb87_2 : ∀ x ∈ mB87_2, mAt mC87 x.1 = some x.2 := fun x hx => mInc_at hi87 x (List.mem_append_right _ (List.mem_append_left _ hx))
theorem hb87_35 : ∀ x ∈ mB87_35, mAt mC87 x.1 = some x.2 := fun x hx => mInc_at hi87 x (List.mem_append_right _ (List.mem_append_right _ (List.mem_append_left _ hx)))
theorem hb87_59 : ∀ x ∈ mB87_59, mAt mC87 x.1 = some x.2 := fun x hx => mInc_at hi87 x (List.mem_append_right _ (List.mem_append_right _ (List.mem_append_right _ (List.mem_append_left _ hx))))
theorem hb87_60 : ∀ x ∈ mB87_60, mAt mC87 x.1 = some x.2 := fun x hx => mInc_at hi87 x (List.mem_append_right _ (List.mem_append_right _ (List.mem_append_right _ (List.mem_append_right _ hx))))
set_option maxRecDepth 8000 in
theorem hi88 : mInc mC88 = true := by decide +kernel
theorem hb88_0 : ∀ x ∈ mB88_0, mAt mC88 x.1 = some x.2 := fun x hx => mInc_at hi88 x (List.mem_append_left _ hx)
theorem hb88_5 : ∀ x ∈ mB88_5, mAt mC88 x.1 = some x.2 := fun x hx => mInc_at hi88 x (List.mem_append_right _ (List.mem_append_left _ hx))
theorem hb88_36 : ∀ x ∈ mB88_36, mAt mC88 x.1 = some x.2 := fun x hx => mInc_at hi88 x (List.mem_append_right _ (List.mem_append_right _ (List.mem_append_left _ hx)))
theorem hb88_37 : ∀ x ∈ mB88_37, mAt mC88 x.1 = some x.2 := fun x hx => mInc_at hi88 x (List.mem_append_right _ (List.mem_append_right _ (List.mem_append_right _ (List.mem_append_left _ hx))))
theorem hb88_59 : ∀ x ∈ mB88_59, mAt mC88 x.1 = some x.2 := fun x hx => mInc_at hi88 x (List.mem_append_right _ (List.mem_append_right _ (List.mem_append_right _ (List.mem_append_right _ (List.mem_append_left _ hx)))))
theorem hb88_65 : ∀ x ∈ mB88_65, mAt mC88 x.1 = some x.2 := fun x hx => mInc_at hi88 x (List.mem_append_right _ (List.mem_append_right _ (List.mem_append_right _ (List.mem_append_right _ (List.mem_append_right _ hx)))))
set_option maxRecDepth 8000 in
theorem hi89 : mInc mC89 = true := by decide +kernel
theorem hb89_0 : ∀ x ∈ mB89_0, mAt mC89 x.1 = some x.2 := fun x hx => mInc_at hi89 x (List.mem_append_left _ hx)
theorem hb89_6 : ∀ x ∈ mB89_6, mAt mC89 x.1 = some x.2 := fun x hx => mInc_at hi89 x (List.mem_append_right _ (List.mem_append_left _ hx))
theorem hb89_45 : ∀ x ∈ mB89_45, mAt mC89 x.1 = some x.2 := fun x hx => mInc_at hi89 x (List.mem_append_right _ (List.mem_append_right _ (List.mem_append_left _ hx)))
theorem hb89_50 : ∀ x ∈ mB89_50, mAt mC89 x.1 = some x.2 := fun x hx => mInc_at hi89 x (List.mem_append_right _ (List.mem_append_right _ (List.mem_append_right _ (List.mem_append_left _ hx))))
theorem hb89_56 : ∀ x ∈ mB89_56, mAt mC89 x.1 = some x.2 := fun x hx => mInc_at hi89 x (List.mem_append_right _ (List.mem_append_right _ (List.mem_append_right _ (List.mem_append_right _ hx))))
set_option maxRecDepth 8000 in
theorem hi90 : mInc mC90 = true := by decide +kernel
theorem hb90_0 : ∀ x ∈ mB90_0, mAt mC90 x.1 = some x.2 := fun x hx => mInc_at hi90 x hx
set_option maxRecDepth 8000 in
theorem hi91 : mInc mC91 = true := by decide +kernel
theorem hb91_0 : ∀ x ∈ mB91_0, mAt mC91 x.1 = some x.2 := fun x hx => mInc_at hi91 x (List.mem_append_left _ hx)
theorem hb91_9 : ∀ x ∈ mB91_9, mAt mC91 x.1 = some x.2 := fun x hx => mInc_at hi91 x (List.mem_append_right _ (List.mem_append_left _ hx))
theorem hb91_50 : ∀ x ∈ mB91_50, mAt mC91 x.1 = some x.2 := fun x hx => mInc_at hi91 x (List.mem_append_right _ (List.mem_append_right _ (List.mem_append_left _ hx)))
theorem hb91_56 : ∀ x ∈ mB91_56, mAt mC91 x.1 = some x.2 := fun x hx => mInc_at hi91 x (List.mem_append_right _ (List.mem_append_right _ (List.mem_append_right _ hx)))
set_option maxRecDepth 8000 in
theorem hi92 : mInc mC92 = true := by decide +kernel
theorem hb92_0 : ∀ x ∈ mB92_0, mAt mC92 x.1 = some x.2 := fun x hx => mInc_at hi92 x (List.mem_append_left _ hx)
theorem hb92_11 : ∀ x ∈ mB92_11, mAt mC92 x.1 = some x.2 := fun x hx => mInc_at hi92 x (List.mem_append_right _ (List.mem_append_left _ hx))
theorem hb92_95 : ∀ x ∈ mB92_95, mAt mC92 x.1 = some x.2 := fun x hx => mInc_at hi92 x (List.mem_append_right _ (List.mem_append_right _ (List.mem_append_left _ hx)))
theorem hb92_101 : ∀ x ∈ mB92_101, mAt mC92 x.1 = some x.2 := fun x hx => mInc_at hi92 x (List.mem_append_right _ (List.mem_append_right _ (List.mem_append_right _ hx)))
set_option maxRecDepth 8000 in
theorem hi93 : mInc mC93 = true := by decide +kernel
theorem hb93_0 : ∀ x ∈ mB93_0, mAt mC93 x.1 = some x.2 := fun x hx => mInc_at hi93 x (List.mem_append_left _ hx)
theorem hb93_4 : ∀ x ∈ mB93_4, mAt mC93 x.1 = some x.2 := fun x hx => mInc_at hi93 x (List.mem_append_right _ (List.mem_append_left _ hx))
theorem hb93_42 : ∀ x ∈ mB93_42, mAt mC93 x.1 = some x.2 := fun x hx => mInc_at hi93 x (List.mem_append_right _ (List.mem_append_right _ hx))
set_option maxRecDepth 8000 in
theorem hi94 : mInc mC94 = true := by decide +kernel
theorem hb94_0 : ∀ x ∈ mB94_0, mAt mC94 x.1 = some x.2 := fun x hx => mInc_at hi94 x hx
set_option maxRecDepth 8000 in
theorem hi95 : mInc mC95 = true := by decide +kernel
theorem hb95_0 : ∀ x ∈ mB95_0, mAt mC95 x.1 = some x.2 := fun x hx => mInc_at hi95 x (List.mem_append_left _ hx)
theorem hb95_9 : ∀ x ∈ mB95_9, mAt mC95 x.1 = some x.2 := fun x hx => mInc_at hi95 x (List.mem_append_right _ (List.mem_append_left _ hx))
theorem hb95_55 : ∀ x ∈ mB95_55, mAt mC95 x.1 = some x.2 := fun x hx => mInc_at hi95 x (List.mem_append_right _ (List.mem_append_right _ (List.mem_append_left _ hx)))
theorem hb95_62 : ∀ x ∈ mB95_62, mAt mC95 x.1 = some x.2 := fun x hx => mInc_at hi95 x (List.mem_append_right _ (List.mem_append_right _ (List.mem_append_right _ (List.mem_append_left _ hx))))
theorem hb95_68 : ∀ x ∈ mB95_68, mAt mC95 x.1 = some x.2 := fun x hx => mInc_at hi95 x (List.mem_append_right _ (List.mem_append_right _ (List.mem_append_right _ (List.mem_append_right _ hx))))
set_option maxRecDepth 8000 in
theorem hi96 : mInc mC96 = true := by decide +kernel
theorem hb96_0 : ∀ x ∈ mB96_0, mAt mC96 x.1 = some x.2 := fun x hx => mInc_at hi96 x hx
set_option maxRecDepth 8000 in
theorem hi97 : mInc mC97 = true := by decide +kernel
theorem hb97_0 : ∀ x ∈ mB97_0, mAt mC97 x.1 = some x.2 := fun x hx => mInc_at hi97 x hx
set_option maxRecDepth 8000 in
theorem hi98 : mInc mC98 = true := by decide +kernel
theorem hb98_0 : ∀ x ∈ mB98_0, mAt mC98 x.1 = some x.2 := fun x hx => mInc_at hi98 x hx
set_option maxRecDepth 8000 in
theorem hi99 : mInc mC99 = true := by decide +kernel
theorem hb99_0 : ∀ x ∈ mB99_0, mAt mC99 x.1 = some x.2 := fun x hx => mInc_at hi99 x (List.mem_append_left _ hx)
theorem hb99_8 : ∀ x ∈ mB99_8, mAt mC99 x.1 = some x.2 := fun x hx => mInc_at hi99 x (List.mem_append_right _ (List.mem_append_left _ hx))
theorem hb99_43 : ∀ x ∈ mB99_43, mAt mC99 x.1 = some x.2 := fun x hx => mInc_at hi99 x (List.mem_append_right _ (List.mem_append_right _ (List.mem_append_left _ hx)))
theorem hb99_49 : ∀ x ∈ mB99_49, mAt mC99 x.1 = some x.2 := fun x hx => mInc_at hi99 x (List.mem_append_right _ (List.mem_append_right _ (List.mem_append_right _ hx)))
set_option maxRecDepth 8000 in
theorem hi100 : mInc mC100 = true := by decide +kernel
theorem hb100_0 : ∀ x ∈ mB100_0, mAt mC100 x.1 = some x.2 := fun x hx => mInc_at hi100 x hx
set_option maxRecDepth 8000 in
theorem hi101 : mInc mC101 = true := by decide +kernel
theorem hb101_0 : ∀ x ∈ mB101_0, mAt mC101 x.1 = some x.2 := fun x hx => mInc_at hi101 x (List.mem_append_left _ hx)
theorem hb101_22 : ∀ x ∈ mB101_22, mAt mC101 x.1 = some x.2 := fun x hx => mInc_at hi101 x (List.mem_append_right _ (List.mem_append_left _ hx))
theorem hb101_27 : ∀ x ∈ mB101_27, mAt mC101 x.1 = some x.2 := fun x hx => mInc_at hi101 x (List.mem_append_right _ (List.mem_append_right _ (List.mem_append_left _ hx)))
theorem hb101_33 : ∀ x ∈ mB101_33, mAt mC101 x.1 = some x.2 := fun x hx => mInc_at hi101 x (List.mem_append_right _ (List.mem_append_right _ (List.mem_append_right _ hx)))
set_option maxRecDepth 8000 in
theorem hi102 : mInc mC102 = true := by decide +kernel
theorem hb102_0 : ∀ x ∈ mB102_0, mAt mC102 x.1 = some x.2 := fun x hx => mInc_at hi102 x (List.mem_append_left _ hx)
theorem hb102_19 : ∀ x ∈ mB102_19, mAt mC102 x.1 = some x.2 := fun x hx => mInc_at hi102 x (List.mem_append_right _ (List.mem_append_left _ hx))
theorem hb102_55 : ∀ x ∈ mB102_55, mAt mC102 x.1 = some x.2 := fun x hx => mInc_at hi102 x (List.mem_append_right _ (List.mem_append_right _ (List.mem_append_left _ hx)))
theorem hb102_61 : ∀ x ∈ mB102_61, mAt mC102 x.1 = some x.2 := fun x hx => mInc_at hi102 x (List.mem_append_right _ (List.mem_append_right _ (List.mem_append_right _ hx)))
set_option maxRecDepth 8000 in
theorem hi103 : mInc mC103 = true := by decide +kernel
theorem hb103_0 : ∀ x ∈ mB103_0, mAt mC103 x.1 = some x.2 := fun x hx => mInc_at hi103 x (List.mem_append_left _ hx)
theorem hb103_4 : ∀ x ∈ mB103_4, mAt mC103 x.1 = some x.2 := fun x hx => mInc_at hi103 x (List.mem_append_right _ (List.mem_append_left _ hx))
theorem hb103_43 : ∀ x ∈ mB103_43, mAt mC103 x.1 = some x.2 := fun x hx => mInc_at hi103 x (List.mem_append_right _ (List.mem_append_right _ hx))
set_option maxRecDepth 8000 in
theorem hi104 : mInc mC104 = true := by decide +kernel
theorem hb104_0 : ∀ x ∈ mB104_0, mAt mC104 x.1 = some x.2 := fun x hx => mInc_at hi104 x (List.mem_append_left _ hx)
theorem hb104_21 : ∀ x ∈ mB104_21, mAt mC104 x.1 = some x.2 := fun x hx => mInc_at hi104 x (List.mem_append_right _ (List.mem_append_left _ hx))
theorem hb104_45 : ∀ x ∈ mB104_45, mAt mC104 x.1 = some x.2 := fun x hx => mInc_at hi104 x (List.mem_append_right _ (List.mem_append_right _ (List.mem_append_left _ hx)))
theorem hb104_69 : ∀ x ∈ mB104_69, mAt mC104 x.1 = some x.2 := fun x hx => mInc_at hi104 x (List.mem_append_right _ (List.mem_append_right _ (List.mem_append_right _ (List.mem_append_left _ hx))))
theorem hb104_115 : ∀ x ∈ mB104_115, mAt mC104 x.1 = some x.2 := fun x hx => mInc_at hi104 x (List.mem_append_right _ (List.mem_append_right _ (List.mem_append_right _ (List.mem_append_right _ (List.mem_append_left _ hx)))))
theorem hb104_121 : ∀ x ∈ mB104_121, mAt mC104 x.1 = some x.2 := fun x hx => mInc_at hi104 x (List.mem_append_right _ (List.mem_append_right _ (List.mem_append_right _ (List.mem_append_right _ (List.mem_append_right _ hx)))))
set_option maxRecDepth 8000 in
theorem hi105 : mInc mC105 = true := by decide +kernel
theorem hb105_0 : ∀ x ∈ mB105_0, mAt mC105 x.1 = some x.2 := fun x hx => mInc_at hi105 x (List.mem_append_left _ hx)
theorem hb105_9 : ∀ x ∈ mB105_9, mAt mC105 x.1 = some x.2 := fun x hx => mInc_at hi105 x (List.mem_append_right _ (List.mem_append_left _ hx))
theorem hb105_61 : ∀ x ∈ mB105_61, mAt mC105 x.1 = some x.2 := fun x hx => mInc_at hi105 x (List.mem_append_right _ (List.mem_append_right _ hx))
set_option maxRecDepth 8000 in
theorem hi106 : mInc mC106 = true := by decide +kernel
theorem hb106_0 : ∀ x ∈ mB106_0, mAt mC106 x.1 = some x.2 := fun x hx => mInc_at hi106 x (List.mem_append_left _ hx)
theorem hb106_14 : ∀ x ∈ mB106_14, mAt mC106 x.1 = some x.2 := fun x hx => mInc_at hi106 x (List.mem_append_right _ (List.mem_append_left _ hx))
theorem hb106_42 : ∀ x ∈ mB106_42, mAt mC106 x.1 = some x.2 := fun x hx => mInc_at hi106 x (List.mem_append_right _ (List.mem_append_right _ (List.mem_append_left _ hx)))
theorem hb106_49 : ∀ x ∈ mB106_49, mAt mC106 x.1 = some x.2 := fun x hx => mInc_at hi106 x (List.mem_append_right _ (List.mem_append_right _ (List.mem_append_right _ (List.mem_append_left _ hx))))
theorem hb106_51 : ∀ x ∈ mB106_51, mAt mC106 x.1 = some x.2 := fun x hx => mInc_at hi106 x (List.mem_append_right _ (List.mem_append_right _ (List.mem_append_right _ (List.mem_append_right _ (List.mem_append_left _ hx)))))
theorem hb106_77 : ∀ x ∈ mB106_77, mAt mC106 x.1 = some x.2 := fun x hx => mInc_at hi106 x (List.mem_append_right _ (List.mem_append_right _ (List.mem_append_right _ (List.mem_append_right _ (List.mem_append_right _ (List.mem_append_left _ hx))))))
theorem hb106_91 : ∀ x ∈ mB106_91, mAt mC106 x.1 = some x.2 := fun x hx => mInc_at hi106 x (List.mem_append_right _ (List.mem_append_right _ (List.mem_append_right _ (List.mem_append_right _ (List.mem_append_right _ (List.mem_append_right _ (List.mem_append_left _ hx)))))))
theorem hb106_115 : ∀ x ∈ mB106_115, mAt mC106 x.1 = some x.2 := fun x hx => mInc_at hi106 x (List.mem_append_right _ (List.mem_append_right _ (List.mem_append_right _ (List.mem_append_right _ (List.mem_append_right _ (List.mem_append_right _ (List.mem_append_right _ hx)))))))
set_option maxRecDepth 8000 in
theorem hi107 : mInc mC107 = true := by decide +kernel
theorem hb107_0 : ∀ x ∈ mB107_0, mAt mC107 x.1 = some x.2 := fun x hx => mInc_at hi107 x hx
set_option maxRecDepth 8000 in
theorem hi108 : mInc mC108 = true := by decide +kernel
theorem hb108_0 : ∀ x ∈ mB108_0, mAt mC108 x.1 = some x.2 := fun x hx => mInc_at hi108 x (List.mem_append_left _ hx)
theorem hb108_44 : ∀ x ∈ mB108_44, mAt mC108 x.1 = some x.2 := fun x hx => mInc_at hi108 x (List.mem_append_right _ (List.mem_append_left _ hx))
theorem hb108_61 : ∀ x ∈ mB108_61, mAt mC108 x.1 = some x.2 := fun x hx => mInc_at hi108 x (List.mem_append_right _ (List.mem_append_right _ (List.mem_append_left _ hx)))
theorem hb108_104 : ∀ x ∈ mB108_104, mAt mC108 x.1 = some x.2 := fun x hx => mInc_at hi108 x (List.mem_append_right _ (List.mem_append_right _ (List.mem_append_right _ (List.mem_append_left _ hx))))
theorem hb108_122 : ∀ x ∈ mB108_122, mAt mC108 x.1 = some x.2 := fun x hx => mInc_at hi108 x (List.mem_append_right _ (List.mem_append_right _ (List.mem_append_right _ (List.mem_append_right _ (List.mem_append_left _ hx)))))
theorem hb108_128 : ∀ x ∈ mB108_128, mAt mC108 x.1 = some x.2 := fun x hx => mInc_at hi108 x (List.mem_append_right _ (List.mem_append_right _ (List.mem_append_right _ (List.mem_append_right _ (List.mem_append_right _ (List.mem_append_left _ hx))))))
theorem hb108_131 : ∀ x ∈ mB108_131, mAt mC108 x.1 = some x.2 := fun x hx => mInc_at hi108 x (List.mem_append_right _ (List.mem_append_right _ (List.mem_append_right _ (List.mem_append_right _ (List.mem_append_right _ (List.mem_append_right _ (List.mem_append_left _ hx)))))))
theorem hb108_160 : ∀ x ∈ mB108_160, mAt mC108 x.1 = some x.2 := fun x hx => mInc_at hi108 x (List.mem_append_right _ (List.mem_append_right _ (List.mem_append_right _ (List.mem_append_right _ (List.mem_append_right _ (List.mem_append_right _ (List.mem_append_right _ hx)))))))
set_option maxRecDepth 8000 in
theorem hi109 : mInc mC109 = true := by decide +kernel
theorem hb109_0 : ∀ x ∈ mB109_0, mAt mC109 x.1 = some x.2 := fun x hx => mInc_at hi109 x hx
set_option maxRecDepth 8000 in
theorem hi110 : mInc mC110 = true := by decide +kernel
theorem hb110_0 : ∀ x ∈ mB110_0, mAt mC110 x.1 = some x.2 := fun x hx => mInc_at hi110 x (List.mem_append_left _ hx)
theorem hb110_7 : ∀ x ∈ mB110_7, mAt mC110 x.1 = some x.2 := fun x hx => mInc_at hi110 x (List.mem_append_right _ (List.mem_append_left _ hx))
theorem hb110_36 : ∀ x ∈ mB110_36, mAt mC110 x.1 = some x.2 := fun x hx => mInc_at hi110 x (List.mem_append_right _ (List.mem_append_right _ (List.mem_append_left _ hx)))
theorem hb110_42 : ∀ x ∈ mB110_42, mAt mC110 x.1 = some x.2 := fun x hx => mInc_at hi110 x (List.mem_append_right _ (List.mem_append_right _ (List.mem_append_right _ hx)))
set_option maxRecDepth 8000 in
theorem hi111 : mInc mC111 = true := by decide +kernel
theorem hb111_0 : ∀ x ∈ mB111_0, mAt mC111 x.1 = some x.2 := fun x hx => mInc_at hi111 x (List.mem_append_left _ hx)
theorem hb111_22 : ∀ x ∈ mB111_22, mAt mC111 x.1 = some x.2 := fun x hx => mInc_at hi111 x (List.mem_append_right _ (List.mem_append_left _ hx))
theorem hb111_35 : ∀ x ∈ mB111_35, mAt mC111 x.1 = some x.2 := fun x hx => mInc_at hi111 x (List.mem_append_right _ (List.mem_append_right _ (List.mem_append_left _ hx)))
theorem hb111_85 : ∀ x ∈ mB111_85, mAt mC111 x.1 = some x.2 := fun x hx => mInc_at hi111 x (List.mem_append_right _ (List.mem_append_right _ (List.mem_append_right _ (List.mem_append_left _ hx))))
theorem hb111_91 : ∀ x ∈ mB111_91, mAt mC111 x.1 = some x.2 := fun x hx => mInc_at hi111 x (List.mem_append_right _ (List.mem_append_right _ (List.mem_append_right _ (List.mem_append_right _ (List.mem_append_left _ hx)))))
theorem hb111_107 : ∀ x ∈ mB111_107, mAt mC111 x.1 = some x.2 := fun x hx => mInc_at hi111 x (List.mem_append_right _ (List.mem_append_right _ (List.mem_append_right _ (List.mem_append_right _ (List.mem_append_right _ (List.mem_append_left _ hx))))))
theorem hb111_113 : ∀ x ∈ mB111_113, mAt mC111 x.1 = some x.2 := fun x hx => mInc_at hi111 x (List.mem_append_right _ (List.mem_append_right _ (List.mem_append_right _ (List.mem_append_right _ (List.mem_append_right _ (List.mem_append_right _ hx))))))
set_option maxRecDepth 8000 in
theorem hi112 : mInc mC112 = true := by decide +kernel
theorem hb112_0 : ∀ x ∈ mB112_0, mAt mC112 x.1 = some x.2 := fun x hx => mInc_at hi112 x (List.mem_append_left _ hx)
theorem hb112_31 : ∀ x ∈ mB112_31, mAt mC112 x.1 = some x.2 := fun x hx => mInc_at hi112 x (List.mem_append_right _ (List.mem_append_left _ hx))
theorem hb112_34 : ∀ x ∈ mB112_34, mAt mC112 x.1 = some x.2 := fun x hx => mInc_at hi112 x (List.mem_append_right _ (List.mem_append_right _ (List.mem_append_left _ hx)))
theorem hb112_37 : ∀ x ∈ mB112_37, mAt mC112 x.1 = some x.2 := fun x hx => mInc_at hi112 x (List.mem_append_right _ (List.mem_append_right _ (List.mem_append_right _ (List.mem_append_left _ hx))))
theorem hb112_79 : ∀ x ∈ mB112_79, mAt mC112 x.1 = some x.2 := fun x hx => mInc_at hi112 x (List.mem_append_right _ (List.mem_append_right _ (List.mem_append_right _ (List.mem_append_right _ (List.mem_append_left _ hx)))))
theorem hb112_82 : ∀ x ∈ mB112_82, mAt mC112 x.1 = some x.2 := fun x hx => mInc_at hi112 x (List.mem_append_right _ (List.mem_append_right _ (List.mem_append_right _ (List.mem_append_right _ (List.mem_append_right _ (List.mem_append_left _ hx))))))
theorem hb112_83 : ∀ x ∈ mB112_83, mAt mC112 x.1 = some x.2 := fun x hx => mInc_at hi112 x (List.mem_append_right _ (List.mem_append_right _ (List.mem_append_right _ (List.mem_append_right _ (List.mem_append_right _ (List.mem_append_right _ (List.mem_append_left _ hx)))))))
theorem hb112_90 : ∀ x ∈ mB112_90, mAt mC112 x.1 = some x.2 := fun x hx => mInc_at hi112 x (List.mem_append_right _ (List.mem_append_right _ (List.mem_append_right _ (List.mem_append_right _ (List.mem_append_right _ (List.mem_append_right _ (List.mem_append_right _ hx)))))))
set_option maxRecDepth 8000 in
theorem hi113 : mInc mC113 = true := by decide +kernel
theorem hb113_0 : ∀ x ∈ mB113_0, mAt mC113 x.1 = some x.2 := fun x hx => mInc_at hi113 x (List.mem_append_left _ hx)
theorem hb113_6 : ∀ x ∈ mB113_6, mAt mC113 x.1 = some x.2 := fun x hx => mInc_at hi113 x (List.mem_append_right _ (List.mem_append_left _ hx))
theorem hb113_53 : ∀ x ∈ mB113_53, mAt mC113 x.1 = some x.2 := fun x hx => mInc_at hi113 x (List.mem_append_right _ (List.mem_append_right _ (List.mem_append_left _ hx)))
theorem hb113_56 : ∀ x ∈ mB113_56, mAt mC113 x.1 = some x.2 := fun x hx => mInc_at hi113 x (List.mem_append_right _ (List.mem_append_right _ (List.mem_append_right _ (List.mem_append_left _ hx))))
theorem hb113_57 : ∀ x ∈ mB113_57, mAt mC113 x.1 = some x.2 := fun x hx => mInc_at hi113 x (List.mem_append_right _ (List.mem_append_right _ (List.mem_append_right _ (List.mem_append_right _ (List.mem_append_left _ hx)))))
theorem hb113_63 : ∀ x ∈ mB113_63, mAt mC113 x.1 = some x.2 := fun x hx => mInc_at hi113 x (List.mem_append_right _ (List.mem_append_right _ (List.mem_append_right _ (List.mem_append_right _ (List.mem_append_right _ hx)))))
set_option maxRecDepth 8000 in
theorem hi114 : mInc mC114 = true := by decide +kernel
theorem hb114_0 : ∀ x ∈ mB114_0, mAt mC114 x.1 = some x.2 := fun x hx => mInc_at hi114 x (List.mem_append_left _ hx)
theorem hb114_35 : ∀ x ∈ mB114_35, mAt mC114 x.1 = some x.2 := fun x hx => mInc_at hi114 x (List.mem_append_right _ (List.mem_append_left _ hx))
theorem hb114_87 : ∀ x ∈ mB114_87, mAt mC114 x.1 = some x.2 := fun x hx => mInc_at hi114 x (List.mem_append_right _ (List.mem_append_right _ (List.mem_append_left _ hx)))
theorem hb114_91 : ∀ x ∈ mB114_91, mAt mC114 x.1 = some x.2 := fun x hx => mInc_at hi114 x (List.mem_append_right _ (List.mem_append_right _ (List.mem_append_right _ (List.mem_append_left _ hx))))
theorem hb114_136 : ∀ x ∈ mB114_136, mAt mC114 x.1 = some x.2 := fun x hx => mInc_at hi114 x (List.mem_append_right _ (List.mem_append_right _ (List.mem_append_right _ (List.mem_append_right _ hx))))
set_option maxRecDepth 8000 in
theorem hi115 : mInc mC115 = true := by decide +kernel
theorem hb115_0 : ∀ x ∈ mB115_0, mAt mC115 x.1 = some x.2 := fun x hx => mInc_at hi115 x (List.mem_append_left _ hx)
theorem hb115_19 : ∀ x ∈ mB115_19, mAt mC115 x.1 = some x.2 := fun x hx => mInc_at hi115 x (List.mem_append_right _ (List.mem_append_left _ hx))
theorem hb115_23 : ∀ x ∈ mB115_23, mAt mC115 x.1 = some x.2 := fun x hx => mInc_at hi115 x (List.mem_append_right _ (List.mem_append_right _ hx))
set_option maxRecDepth 8000 in
theorem hi116 : mInc mC116 = true := by decide +kernel
theorem hb116_0 : ∀ x ∈ mB116_0, mAt mC116 x.1 = some x.2 := fun x hx => mInc_at hi116 x (List.mem_append_left _ hx)
theorem hb116_6 : ∀ x ∈ mB116_6, mAt mC116 x.1 = some x.2 := fun x hx => mInc_at hi116 x (List.mem_append_right _ (List.mem_append_left _ hx))
theorem hb116_35 : ∀ x ∈ mB116_35, mAt mC116 x.1 = some x.2 := fun x hx => mInc_at hi116 x (List.mem_append_right _ (List.mem_append_right _ (List.mem_append_left _ hx)))
theorem hb116_40 : ∀ x ∈ mB116_40, mAt mC116 x.1 = some x.2 := fun x hx => mInc_at hi116 x (List.mem_append_right _ (List.mem_append_right _ (List.mem_append_right _ (List.mem_append_left _ hx))))
theorem hb116_46 : ∀ x ∈ mB116_46, mAt mC116 x.1 = some x.2 := fun x hx => mInc_at hi116 x (List.mem_append_right _ (List.mem_append_right _ (List.mem_append_right _ (List.mem_append_right _ hx))))
set_option maxRecDepth 8000 in
theorem hi117 : mInc mC117 = true := by decide +kernel
theorem hb117_0 : ∀ x ∈ mB117_0, mAt mC117 x.1 = some x.2 := fun x hx => mInc_at hi117 x (List.mem_append_left _ hx)
theorem hb117_39 : ∀ x ∈ mB117_39, mAt mC117 x.1 = some x.2 := fun x hx => mInc_at hi117 x (List.mem_append_right _ (List.mem_append_left _ hx))
theorem hb117_41 : ∀ x ∈ mB117_41, mAt mC117 x.1 = some x.2 := fun x hx => mInc_at hi117 x (List.mem_append_right _ (List.mem_append_right _ (List.mem_append_left _ hx)))
theorem hb117_42 : ∀ x ∈ mB117_42, mAt mC117 x.1 = some x.2 := fun x hx => mInc_at hi117 x (List.mem_append_right _ (List.mem_append_right _ (List.mem_append_right _ (List.mem_append_left _ hx))))
theorem hb117_46 : ∀ x ∈ mB117_46, mAt mC117 x.1 = some x.2 := fun x hx => mInc_at hi117 x (List.mem_append_right _ (List.mem_append_right _ (List.mem_append_right _ (List.mem_append_right _ (List.mem_append_left _ hx)))))
theorem hb117_71 : ∀ x ∈ mB117_71, mAt mC117 x.1 = some x.2 := fun x hx => mInc_at hi117 x (List.mem_append_right _ (List.mem_append_right _ (List.mem_append_right _ (List.mem_append_right _ (List.mem_append_right _ (List.mem_append_left _ hx))))))
theorem hb117_125 : ∀ x ∈ mB117_125, mAt mC117 x.1 = some x.2 := fun x hx => mInc_at hi117 x (List.mem_append_right _ (List.mem_append_right _ (List.mem_append_right _ (List.mem_append_right _ (List.mem_append_right _ (List.mem_append_right _ (List.mem_append_left _ hx)))))))
theorem hb117_131 : ∀ x ∈ mB117_131, mAt mC117 x.1 = some x.2 := fun x hx => mInc_at hi117 x (List.mem_append_right _ (List.mem_append_right _ (List.mem_append_right _ (List.mem_append_right _ (List.mem_append_right _ (List.mem_append_right _ (List.mem_append_right _ hx)))))))
set_option maxRecDepth 8000 in
theorem hi119 : mInc mC119 = true := by decide +kernel
theorem hb119_0 : ∀ x ∈ mB119_0, mAt mC119 x.1 = some x.2 := fun x hx => mInc_at hi119 x (List.mem_append_left _ hx)
theorem hb119_41 : ∀ x ∈ mB119_41, mAt mC119 x.1 = some x.2 := fun x hx => mInc_at hi119 x (List.mem_append_right _ (List.mem_append_left _ hx))
theorem hb119_100 : ∀ x ∈ mB119_100, mAt mC119 x.1 = some x.2 := fun x hx => mInc_at hi119 x (List.mem_append_right _ (List.mem_append_right _ (List.mem_append_left _ hx)))
theorem hb119_106 : ∀ x ∈ mB119_106, mAt mC119 x.1 = some x.2 := fun x hx => mInc_at hi119 x (List.mem_append_right _ (List.mem_append_right _ (List.mem_append_right _ (List.mem_append_left _ hx))))
theorem hb119_109 : ∀ x ∈ mB119_109, mAt mC119 x.1 = some x.2 := fun x hx => mInc_at hi119 x (List.mem_append_right _ (List.mem_append_right _ (List.mem_append_right _ (List.mem_append_right _ (List.mem_append_left _ hx)))))
theorem hb119_140 : ∀ x ∈ mB119_140, mAt mC119 x.1 = some x.2 := fun x hx => mInc_at hi119 x (List.mem_append_right _ (List.mem_append_right _ (List.mem_append_right _ (List.mem_append_right _ (List.mem_append_right _ (List.mem_append_left _ hx))))))
theorem hb119_154 : ∀ x ∈ mB119_154, mAt mC119 x.1 = some x.2 := fun x hx => mInc_at hi119 x (List.mem_append_right _ (List.mem_append_right _ (List.mem_append_right _ (List.mem_append_right _ (List.mem_append_right _ (List.mem_append_right _ (List.mem_append_left _ hx)))))))
theorem hb119_170 : ∀ x ∈ mB119_170, mAt mC119 x.1 = some x.2 := fun x hx => mInc_at hi119 x (List.mem_append_right _ (List.mem_append_right _ (List.mem_append_right _ (List.mem_append_right _ (List.mem_append_right _ (List.mem_append_right _ (List.mem_append_right _ hx)))))))
set_option maxRecDepth 8000 in
theorem hi120 : mInc mC120 = true := by decide +kernel
theorem hb120_0 : ∀ x ∈ mB120_0, mAt mC120 x.1 = some x.2 := fun x hx => mInc_at hi120 x (List.mem_append_left _ hx)
theorem hb120_24 : ∀ x ∈ mB120_24, mAt mC120 x.1 = some x.2 := fun x hx => mInc_at hi120 x (List.mem_append_right _ (List.mem_append_left _ hx))
theorem hb120_37 : ∀ x ∈ mB120_37, mAt mC120 x.1 = some x.2 := fun x hx => mInc_at hi120 x (List.mem_append_right _ (List.mem_append_right _ hx))
set_option maxRecDepth 8000 in
theorem hi121 : mInc mC121 = true := by decide +kernel
theorem hb121_0 : ∀ x ∈ mB121_0, mAt mC121 x.1 = some x.2 := fun x hx => mInc_at hi121 x (List.mem_append_left _ hx)
theorem hb121_5 : ∀ x ∈ mB121_5, mAt mC121 x.1 = some x.2 := fun x hx => mInc_at hi121 x (List.mem_append_right _ (List.mem_append_left _ hx))
theorem hb121_25 : ∀ x ∈ mB121_25, mAt mC121 x.1 = some x.2 := fun x hx => mInc_at hi121 x (List.mem_append_right _ (List.mem_append_right _ (List.mem_append_left _ hx)))
theorem hb121_41 : ∀ x ∈ mB121_41, mAt mC121 x.1 = some x.2 := fun x hx => mInc_at hi121 x (List.mem_append_right _ (List.mem_append_right _ (List.mem_append_right _ hx)))
set_option maxRecDepth 8000 in
theorem hi122 : mInc mC122 = true := by decide +kernel
theorem hb122_0 : ∀ x ∈ mB122_0, mAt mC122 x.1 = some x.2 := fun x hx => mInc_at hi122 x (List.mem_append_left _ hx)
theorem hb122_15 : ∀ x ∈ mB122_15, mAt mC122 x.1 = some x.2 := fun x hx => mInc_at hi122 x (List.mem_append_right _ hx)
set_option maxRecDepth 8000 in
theorem hi123 : mInc mC123 = true := by decide +kernel
theorem hb123_0 : ∀ x ∈ mB123_0, mAt mC123 x.1 = some x.2 := fun x hx => mInc_at hi123 x (List.mem_append_left _ hx)
theorem hb123_23 : ∀ x ∈ mB123_23, mAt mC123 x.1 = some x.2 := fun x hx => mInc_at hi123 x (List.mem_append_right _ (List.mem_append_left _ hx))
theorem hb123_25 : ∀ x ∈ mB123_25, mAt mC123 x.1 = some x.2 := fun x hx => mInc_at hi123 x (List.mem_append_right _ (List.mem_append_right _ (List.mem_append_left _ hx)))
theorem hb123_28 : ∀ x ∈ mB123_28, mAt mC123 x.1 = some x.2 := fun x hx => mInc_at hi123 x (List.mem_append_right _ (List.mem_append_right _ (List.mem_append_right _ (List.mem_append_left _ hx))))
theorem hb123_60 : ∀ x ∈ mB123_60, mAt mC123 x.1 = some x.2 := fun x hx => mInc_at hi123 x (List.mem_append_right _ (List.mem_append_right _ (List.mem_append_right _ (List.mem_append_right _ (List.mem_append_left _ hx)))))
theorem hb123_66 : ∀ x ∈ mB123_66, mAt mC123 x.1 = some x.2 := fun x hx => mInc_at hi123 x (List.mem_append_right _ (List.mem_append_right _ (List.mem_append_right _ (List.mem_append_right _ (List.mem_append_right _ hx)))))
set_option maxRecDepth 8000 in
theorem hi125 : mInc mC125 = true := by decide +kernel
theorem hb125_0 : ∀ x ∈ mB125_0, mAt mC125 x.1 = some x.2 := fun x hx => mInc_at hi125 x (List.mem_append_left _ hx)
theorem hb125_15 : ∀ x ∈ mB125_15, mAt mC125 x.1 = some x.2 := fun x hx => mInc_at hi125 x (List.mem_append_right _ hx)
set_option maxRecDepth 8000 in
theorem hi126 : mInc mC126 = true := by decide +kernel
theorem hb126_0 : ∀ x ∈ mB126_0, mAt mC126 x.1 = some x.2 := fun x hx => mInc_at hi126 x (List.mem_append_left _ hx)
theorem hb126_3 : ∀ x ∈ mB126_3, mAt mC126 x.1 = some x.2 := fun x hx => mInc_at hi126 x (List.mem_append_right _ (List.mem_append_left _ hx))
theorem hb126_48 : ∀ x ∈ mB126_48, mAt mC126 x.1 = some x.2 := fun x hx => mInc_at hi126 x (List.mem_append_right _ (List.mem_append_right _ hx))
set_option maxRecDepth 8000 in
theorem hi127 : mInc mC127 = true := by decide +kernel
theorem hb127_0 : ∀ x ∈ mB127_0, mAt mC127 x.1 = some x.2 := fun x hx => mInc_at hi127 x (List.mem_append_left _ hx)
theorem hb127_12 : ∀ x ∈ mB127_12, mAt mC127 x.1 = some x.2 := fun x hx => mInc_at hi127 x (List.mem_append_right _ (List.mem_append_left _ hx))
theorem hb127_22 : ∀ x ∈ mB127_22, mAt mC127 x.1 = some x.2 := fun x hx => mInc_at hi127 x (List.mem_append_right _ (List.mem_append_right _ (List.mem_append_left _ hx)))
theorem hb127_71 : ∀ x ∈ mB127_71, mAt mC127 x.1 = some x.2 := fun x hx => mInc_at hi127 x (List.mem_append_right _ (List.mem_append_right _ (List.mem_append_right _ hx)))
set_option maxRecDepth 8000 in
theorem hi128 : mInc mC128 = true := by decide +kernel
theorem hb128_0 : ∀ x ∈ mB128_0, mAt mC128 x.1 = some x.2 := fun x hx => mInc_at hi128 x hx
set_option maxRecDepth 8000 in
theorem hi129 : mInc mC129 = true := by decide +kernel
theorem hb129_0 : ∀ x ∈ mB129_0, mAt mC129 x.1 = some x.2 := fun x hx => mInc_at hi129 x (List.mem_append_left _ hx)
theorem hb129_96 : ∀ x ∈ mB129_96, mAt mC129 x.1 = some x.2 := fun x hx => mInc_at hi129 x (List.mem_append_right _ (List.mem_append_left _ hx))
theorem hb129_104 : ∀ x ∈ mB129_104, mAt mC129 x.1 = some x.2 := fun x hx => mInc_at hi129 x (List.mem_append_right _ (List.mem_append_right _ (List.mem_append_left _ hx)))
theorem hb129_112 : ∀ x ∈ mB129_112, mAt mC129 x.1 = some x.2 := fun x hx => mInc_at hi129 x (List.mem_append_right _ (List.mem_append_right _ (List.mem_append_right _ (List.mem_append_left _ hx))))
theorem hb129_120 : ∀ x ∈ mB129_120, mAt mC129 x.1 = some x.2 := fun x hx => mInc_at hi129 x (List.mem_append_right _ (List.mem_append_right _ (List.mem_append_right _ (List.mem_append_right _ (List.mem_append_left _ hx)))))
theorem hb129_128 : ∀ x ∈ mB129_128, mAt mC129 x.1 = some x.2 := fun x hx => mInc_at hi129 x (List.mem_append_right _ (List.mem_append_right _ (List.mem_append_right _ (List.mem_append_right _ (List.mem_append_right _ (List.mem_append_left _ hx))))))
theorem hb129_136 : ∀ x ∈ mB129_136, mAt mC129 x.1 = some x.2 := fun x hx => mInc_at hi129 x (List.mem_append_right _ (List.mem_append_right _ (List.mem_append_right _ (List.mem_append_right _ (List.mem_append_right _ (List.mem_append_right _ (List.mem_append_left _ hx)))))))
theorem hb129_144 : ∀ x ∈ mB129_144, mAt mC129 x.1 = some x.2 := fun x hx => mInc_at hi129 x (List.mem_append_right _ (List.mem_append_right _ (List.mem_append_right _ (List.mem_append_right _ (List.mem_append_right _ (List.mem_append_right _ (List.mem_append_right _ (List.mem_append_left _ hx))))))))
theorem hb129_152 : ∀ x ∈ mB129_152, mAt mC129 x.1 = some x.2 := fun x hx => mInc_at hi129 x (List.mem_append_right _ (List.mem_append_right _ (List.mem_append_right _ (List.mem_append_right _ (List.mem_append_right _ (List.mem_append_right _ (List.mem_append_right _ (List.mem_append_right _ (List.mem_append_left _ hx)))))))))
theorem hb129_160 : ∀ x ∈ mB129_160, mAt mC129 x.1 = some x.2 := fun x hx => mInc_at hi129 x (List.mem_append_right _ (List.mem_append_right _ (List.mem_append_right _ (List.mem_append_right _ (List.mem_append_right _ (List.mem_append_right _ (List.mem_append_right _ (List.mem_append_right _ (List.mem_append_right _ (List.mem_append_left _ hx))))))))))
theorem hb129_168 : ∀ x ∈ mB129_168, mAt mC129 x.1 = some x.2 := fun x hx => mInc_at hi129 x (List.mem_append_right _ (List.mem_append_right _ (List.mem_append_right _ (List.mem_append_right _ (List.mem_append_right _ (List.mem_append_right _ (List.mem_append_right _ (List.mem_append_right _ (List.mem_append_right _ (List.mem_append_right _ (List.mem_append_left _ hx)))))))))))
theorem hb129_176 : ∀ x ∈ mB129_176, mAt mC129 x.1 = some x.2 := fun x hx => mInc_at hi129 x (List.mem_append_right _ (List.mem_append_right _ (List.mem_append_right _ (List.mem_append_right _ (List.mem_append_right _ (List.mem_append_right _ (List.mem_append_right _ (List.mem_append_right _ (List.mem_append_right _ (List.mem_append_right _ (List.mem_append_right _ (List.mem_append_left _ hx))))))))))))
theorem hb129_184 : ∀ x ∈ mB129_184, mAt mC129 x.1 = some x.2 := fun x hx => mInc_at hi129 x (List.mem_append_right _ (List.mem_append_right _ (List.mem_append_right _ (List.mem_append_right _ (List.mem_append_right _ (List.mem_append_right _ (List.mem_append_right _ (List.mem_append_right _ (List.mem_append_right _ (List.mem_append_right _ (List.mem_append_right _ (List.mem_append_right _ (List.mem_append_left _ hx)))))))))))))
theorem hb129_192 : ∀ x ∈ mB129_192, mAt mC129 x.1 = some x.2 := fun x hx => mInc_at hi129 x (List.mem_append_right _ (List.mem_append_right _ (List.mem_append_right _ (List.mem_append_right _ (List.mem_append_right _ (List.mem_append_right _ (List.mem_append_right _ (List.mem_append_right _ (List.mem_append_right _ (List.mem_append_right _ (List.mem_append_right _ (List.mem_append_right _ (List.mem_append_right _ (List.mem_append_left _ hx))))))))))))))
theorem hb129_200 : ∀ x ∈ mB129_200, mAt mC129 x.1 = some x.2 := fun x hx => mInc_at hi129 x (List.mem_append_right _ (List.mem_append_right _ (List.mem_append_right _ (List.mem_append_right _ (List.mem_append_right _ (List.mem_append_right _ (List.mem_append_right _ (List.mem_append_right _ (List.mem_append_right _ (List.mem_append_right _ (List.mem_append_right _ (List.mem_append_right _ (List.mem_append_right _ (List.mem_append_right _ (List.mem_append_left _ hx)))))))))))))))
theorem hb129_208 : ∀ x ∈ mB129_208, mAt mC129 x.1 = some x.2 := fun x hx => mInc_at hi129 x (List.mem_append_right _ (List.mem_append_right _ (List.mem_append_right _ (List.mem_append_right _ (List.mem_append_right _ (List.mem_append_right _ (List.mem_append_right _ (List.mem_append_right _ (List.mem_append_right _ (List.mem_append_right _ (List.mem_append_right _ (List.mem_append_right _ (List.mem_append_right _ (List.mem_append_right _ (List.mem_append_right _ (List.mem_append_left _ hx))))))))))))))))
theorem hb129_213 : ∀ x ∈ mB129_213, mAt mC129 x.1 = some x.2 := fun x hx => mInc_at hi129 x (List.mem_append_right _ (List.mem_append_right _ (List.mem_append_right _ (List.mem_append_right _ (List.mem_append_right _ (List.mem_append_right _ (List.mem_append_right _ (List.mem_append_right _ (List.mem_append_right _ (List.mem_append_right _ (List.mem_append_right _ (List.mem_append_right _ (List.mem_append_right _ (List.mem_append_right _ (List.mem_append_right _ (List.mem_append_right _ (List.mem_append_left _ hx)))))))))))))))))
theorem hb129_218 : ∀ x ∈ mB129_218, mAt mC129 x.1 = some x.2 := fun x hx => mInc_at hi129 x (List.mem_append_right _ (List.mem_append_right _ (List.mem_append_right _ (List.mem_append_right _ (List.mem_append_right _ (List.mem_append_right _ (List.mem_append_right _ (List.mem_append_right _ (List.mem_append_right _ (List.mem_append_right _ (List.mem_append_right _ (List.mem_append_right _ (List.mem_append_right _ (List.mem_append_right _ (List.mem_append_right _ (List.mem_append_right _ (List.mem_append_right _ (List.mem_append_left _ hx))))))))))))))))))
theorem hb129_223 : ∀ x ∈ mB129_223, mAt mC129 x.1 = some x.2 := fun x hx => mInc_at hi129 x (List.mem_append_right _ (List.mem_append_right _ (List.mem_append_right _ (List.mem_append_right _ (List.mem_append_right _ (List.mem_append_right _ (List.mem_append_right _ (List.mem_append_right _ (List.mem_append_right _ (List.mem_append_right _ (List.mem_append_right _ (List.mem_append_right _ (List.mem_append_right _ (List.mem_append_right _ (List.mem_append_right _ (List.mem_append_right _ (List.mem_append_right _ (List.mem_append_right _ (List.mem_append_left _ hx)))))))))))))))))))
theorem hb129_228 : ∀ x ∈ mB129_228, mAt mC129 x.1 = some x.2 := fun x hx => mInc_at hi129 x (List.mem_append_right _ (List.mem_append_right _ (List.mem_append_right _ (List.mem_append_right _ (List.mem_append_right _ (List.mem_append_right _ (List.mem_append_right _ (List.mem_append_right _ (List.mem_append_right _ (List.mem_append_right _ (List.mem_append_right _ (List.mem_append_right _ (List.mem_append_right _ (List.mem_append_right _ (List.mem_append_right _ (List.mem_append_right _ (List.mem_append_right _ (List.mem_append_right _ (List.mem_append_right _ hx)))))))))))))))))))
set_option maxRecDepth 8000 in
theorem hi130 : mInc mC130 = true := by decide +kernel
theorem hb130_0 : ∀ x ∈ mB130_0, mAt mC130 x.1 = some x.2 := fun x hx => mInc_at hi130 x (List.mem_append_left _ hx)
theorem hb130_52 : ∀ x ∈ mB130_52, mAt mC130 x.1 = some x.2 := fun x hx => mInc_at hi130 x (List.mem_append_right _ (List.mem_append_left _ hx))
theorem hb130_62 : ∀ x ∈ mB130_62, mAt mC130 x.1 = some x.2 := fun x hx => mInc_at hi130 x (List.mem_append_right _ (List.mem_append_right _ (List.mem_append_left _ hx)))
theorem hb130_72 : ∀ x ∈ mB130_72, mAt mC130 x.1 = some x.2 := fun x hx => mInc_at hi130 x (List.mem_append_right _ (List.mem_append_right _ (List.mem_append_right _ (List.mem_append_left _ hx))))
theorem hb130_88 : ∀ x ∈ mB130_88, mAt mC130 x.1 = some x.2 := fun x hx => mInc_at hi130 x (List.mem_append_right _ (List.mem_append_right _ (List.mem_append_right _ (List.mem_append_right _ (List.mem_append_left _ hx)))))
theorem hb130_97 : ∀ x ∈ mB130_97, mAt mC130 x.1 = some x.2 := fun x hx => mInc_at hi130 x (List.mem_append_right _ (List.mem_append_right _ (List.mem_append_right _ (List.mem_append_right _ (List.mem_append_right _ (List.mem_append_left _ hx))))))
theorem hb130_106 : ∀ x ∈ mB130_106, mAt mC130 x.1 = some x.2 := fun x hx => mInc_at hi130 x (List.mem_append_right _ (List.mem_append_right _ (List.mem_append_right _ (List.mem_append_right _ (List.mem_append_right _ (List.mem_append_right _ (List.mem_append_left _ hx)))))))
theorem hb130_118 : ∀ x ∈ mB130_118, mAt mC130 x.1 = some x.2 := fun x hx => mInc_at hi130 x (List.mem_append_right _ (List.mem_append_right _ (List.mem_append_right _ (List.mem_append_right _ (List.mem_append_right _ (List.mem_append_right _ (List.mem_append_right _ hx)))))))
set_option maxRecDepth 8000 in
theorem hi131 : mInc mC131 = true := by decide +kernel
theorem hb131_0 : ∀ x ∈ mB131_0, mAt mC131 x.1 = some x.2 := fun x hx => mInc_at hi131 x (List.mem_append_left _ hx)
theorem hb131_27 : ∀ x ∈ mB131_27, mAt mC131 x.1 = some x.2 := fun x hx => mInc_at hi131 x (List.mem_append_right _ (List.mem_append_left _ hx))
theorem hb131_36 : ∀ x ∈ mB131_36, mAt mC131 x.1 = some x.2 := fun x hx => mInc_at hi131 x (List.mem_append_right _ (List.mem_append_right _ hx))
set_option maxRecDepth 8000 in
theorem hi132 : mInc mC132 = true := by decide +kernel
theorem hb132_0 : ∀ x ∈ mB132_0, mAt mC132 x.1 = some x.2 := fun x hx => mInc_at hi132 x (List.mem_append_left _ hx)
theorem hb132_40 : ∀ x ∈ mB132_40, mAt mC132 x.1 = some x.2 := fun x hx => mInc_at hi132 x (List.mem_append_right _ (List.mem_append_left _ hx))
theorem hb132_50 : ∀ x ∈ mB132_50, mAt mC132 x.1 = some x.2 := fun x hx => mInc_at hi132 x (List.mem_append_right _ (List.mem_append_right _ (List.mem_append_left _ hx)))
theorem hb132_60 : ∀ x ∈ mB132_60, mAt mC132 x.1 = some x.2 := fun x hx => mInc_at hi132 x (List.mem_append_right _ (List.mem_append_right _ (List.mem_append_right _ hx)))
set_option maxRecDepth 8000 in
theorem hi133 : mInc mC133 = true := by decide +kernel
theorem hb133_0 : ∀ x ∈ mB133_0, mAt mC133 x.1 = some x.2 := fun x hx => mInc_at hi133 x (List.mem_append_left _ hx)
theorem hb133_20 : ∀ x ∈ mB133_20, mAt mC133 x.1 = some x.2 := fun x hx => mInc_at hi133 x (List.mem_append_right _ (List.mem_append_left _ hx))
theorem hb133_30 : ∀ x ∈ mB133_30, mAt mC133 x.1 = some x.2 := fun x hx => mInc_at hi133 x (List.mem_append_right _ (List.mem_append_right _ hx))
set_option maxRecDepth 8000 in
theorem hi134 : mInc mC134 = true := by decide +kernel
theorem hb134_0 : ∀ x ∈ mB134_0, mAt mC134 x.1 = some x.2 := fun x hx => mInc_at hi134 x (List.mem_append_left _ hx)
theorem hb134_23 : ∀ x ∈ mB134_23, mAt mC134 x.1 = some x.2 := fun x hx => mInc_at hi134 x (List.mem_append_right _ (List.mem_append_left _ hx))
theorem hb134_30 : ∀ x ∈ mB134_30, mAt mC134 x.1 = some x.2 := fun x hx => mInc_at hi134 x (List.mem_append_right _ (List.mem_append_right _ hx))
set_option maxRecDepth 8000 in
theorem hi135 : mInc mC135 = true := by decide +kernel
theorem hb135_0 : ∀ x ∈ mB135_0, mAt mC135 x.1 = some x.2 := fun x hx => mInc_at hi135 x (List.mem_append_left _ hx)
theorem hb135_28 : ∀ x ∈ mB135_28, mAt mC135 x.1 = some x.2 := fun x hx => mInc_at hi135 x (List.mem_append_right _ hx)
set_option maxRecDepth 8000 in
theorem hi136 : mInc mC136 = true := by decide +kernel
theorem hb136_0 : ∀ x ∈ mB136_0, mAt mC136 x.1 = some x.2 := fun x hx => mInc_at hi136 x (List.mem_append_left _ hx)
theorem hb136_23 : ∀ x ∈ mB136_23, mAt mC136 x.1 = some x.2 := fun x hx => mInc_at hi136 x (List.mem_append_right _ hx)
set_option maxRecDepth 8000 in
theorem hi137 : mInc mC137 = true := by decide +kernel
theorem hb137_0 : ∀ x ∈ mB137_0, mAt mC137 x.1 = some x.2 := fun x hx => mInc_at hi137 x (List.mem_append_left _ hx)
theorem hb137_16 : ∀ x ∈ mB137_16, mAt mC137 x.1 = some x.2 := fun x hx => mInc_at hi137 x (List.mem_append_right _ (List.mem_append_left _ hx))
theorem hb137_28 : ∀ x ∈ mB137_28, mAt mC137 x.1 = some x.2 := fun x hx => mInc_at hi137 x (List.mem_append_right _ (List.mem_append_right _ hx))
set_option maxRecDepth 8000 in
theorem hi138 : mInc mC138 = true := by decide +kernel
theorem hb138_0 : ∀ x ∈ mB138_0, mAt mC138 x.1 = some x.2 := fun x hx => mInc_at hi138 x (List.mem_append_left _ hx)
theorem hb138_27 : ∀ x ∈ mB138_27, mAt mC138 x.1 = some x.2 := fun x hx => mInc_at hi138 x (List.mem_append_right _ (List.mem_append_left _ hx))
theorem hb138_39 : ∀ x ∈ mB138_39, mAt mC138 x.1 = some x.2 := fun x hx => mInc_at hi138 x (List.mem_append_right _ (List.mem_append_right _ hx))
set_option maxRecDepth 8000 in
theorem hi139 : mInc mC139 = true := by decide +kernel
theorem hb139_0 : ∀ x ∈ mB139_0, mAt mC139 x.1 = some x.2 := fun x hx => mInc_at hi139 x (List.mem_append_left _ hx)
theorem hb139_11 : ∀ x ∈ mB139_11, mAt mC139 x.1 = some x.2 := fun x hx => mInc_at hi139 x (List.mem_append_right _ (List.mem_append_left _ hx))
theorem hb139_23 : ∀ x ∈ mB139_23, mAt mC139 x.1 = some x.2 := fun x hx => mInc_at hi139 x (List.mem_append_right _ (List.mem_append_right _ hx))
set_option maxRecDepth 8000 in
theorem hi140 : mInc mC140 = true := by decide +kernel
theorem hb140_0 : ∀ x ∈ mB140_0, mAt mC140 x.1 = some x.2 := fun x hx => mInc_at hi140 x (List.mem_append_left _ hx)
theorem hb140_12 : ∀ x ∈ mB140_12, mAt mC140 x.1 = some x.2 := fun x hx => mInc_at hi140 x (List.mem_append_right _ hx)
set_option maxRecDepth 8000 in
theorem hi141 : mInc mC141 = true := by decide +kernel
theorem hb141_0 : ∀ x ∈ mB141_0, mAt mC141 x.1 = some x.2 := fun x hx => mInc_at hi141 x (List.mem_append_left _ hx)
theorem hb141_15 : ∀ x ∈ mB141_15, mAt mC141 x.1 = some x.2 := fun x hx => mInc_at hi141 x (List.mem_append_right _ hx)
set_option maxRecDepth 8000 in
theorem hi142 : mInc mC142 = true := by decide +kernel
theorem hb142_0 : ∀ x ∈ mB142_0, mAt mC142 x.1 = some x.2 := fun x hx => mInc_at hi142 x (List.mem_append_left _ hx)
theorem hb142_14 : ∀ x ∈ mB142_14, mAt mC142 x.1 = some x.2 := fun x hx => mInc_at hi142 x (List.mem_append_right _ hx)
set_option maxRecDepth 8000 in
theorem hi143 : mInc mC143 = true := by decide +kernel
theorem hb143_0 : ∀ x ∈ mB143_0, mAt mC143 x.1 = some x.2 := fun x hx => mInc_at hi143 x (List.mem_append_left _ hx)
theorem hb143_12 : ∀ x ∈ mB143_12, mAt mC143 x.1 = some x.2 := fun x hx => mInc_at hi143 x (List.mem_append_right _ (List.mem_append_left _ hx))
theorem hb143_22 : ∀ x ∈ mB143_22, mAt mC143 x.1 = some x.2 := fun x hx => mInc_at hi143 x (List.mem_append_right _ (List.mem_append_right _ hx))
set_option maxRecDepth 8000 in
theorem hi144 : mInc mC144 = true := by decide +kernel
theorem hb144_0 : ∀ x ∈ mB144_0, mAt mC144 x.1 = some x.2 := fun x hx => mInc_at hi144 x (List.mem_append_left _ hx)
theorem hb144_22 : ∀ x ∈ mB144_22, mAt mC144 x.1 = some x.2 := fun x hx => mInc_at hi144 x (List.mem_append_right _ (List.mem_append_left _ hx))
theorem hb144_33 : ∀ x ∈ mB144_33, mAt mC144 x.1 = some x.2 := fun x hx => mInc_at hi144 x (List.mem_append_right _ (List.mem_append_right _ hx))
set_option maxRecDepth 8000 in
theorem hi145 : mInc mC145 = true := by decide +kernel
theorem hb145_0 : ∀ x ∈ mB145_0, mAt mC145 x.1 = some x.2 := fun x hx => mInc_at hi145 x hx
set_option maxRecDepth 8000 in
theorem hi146 : mInc mC146 = true := by decide +kernel
theorem hb146_0 : ∀ x ∈ mB146_0, mAt mC146 x.1 = some x.2 := fun x hx => mInc_at hi146 x hx
set_option maxRecDepth 8000 in
theorem hi147 : mInc mC147 = true := by decide +kernel
theorem hb147_0 : ∀ x ∈ mB147_0, mAt mC147 x.1 = some x.2 := fun x hx => mInc_at hi147 x hx
set_option maxRecDepth 8000 in
theorem hi148 : mInc mC148 = true := by decide +kernel
theorem hb148_0 : ∀ x ∈ mB148_0, mAt mC148 x.1 = some x.2 := fun x hx => mInc_at hi148 x (List.mem_append_left _ hx)
theorem hb148_16 : ∀ x ∈ mB148_16, mAt mC148 x.1 = some x.2 := fun x hx => mInc_at hi148 x (List.mem_append_right _ (List.mem_append_left _ hx))
theorem hb148_27 : ∀ x ∈ mB148_27, mAt mC148 x.1 = some x.2 := fun x hx => mInc_at hi148 x (List.mem_append_right _ (List.mem_append_right _ hx))
set_option maxRecDepth 8000 in
theorem hi149 : mInc mC149 = true := by decide +kernel
theorem hb149_0 : ∀ x ∈ mB149_0, mAt mC149 x.1 = some x.2 := fun x hx => mInc_at hi149 x (List.mem_append_left _ hx)
theorem hb149_22 : ∀ x ∈ mB149_22, mAt mC149 x.1 = some x.2 := fun x hx => mInc_at hi149 x (List.mem_append_right _ (List.mem_append_left _ hx))
theorem hb149_39 : ∀ x ∈ mB149_39, mAt mC149 x.1 = some x.2 := fun x hx => mInc_at hi149 x (List.mem_append_right _ (List.mem_append_right _ (List.mem_append_left _ hx)))
theorem hb149_41 : ∀ x ∈ mB149_41, mAt mC149 x.1 = some x.2 := fun x hx => mInc_at hi149 x (List.mem_append_right _ (List.mem_append_right _ (List.mem_append_right _ hx)))
set_option maxRecDepth 8000 in
theorem hi150 : mInc mC150 = true := by decide +kernel
theorem hb150_0 : ∀ x ∈ mB150_0, mAt mC150 x.1 = some x.2 := fun x hx => mInc_at hi150 x (List.mem_append_left _ hx)
theorem hb150_15 : ∀ x ∈ mB150_15, mAt mC150 x.1 = some x.2 := fun x hx => mInc_at hi150 x (List.mem_append_right _ (List.mem_append_left _ hx))
theorem hb150_26 : ∀ x ∈ mB150_26, mAt mC150 x.1 = some x.2 := fun x hx => mInc_at hi150 x (List.mem_append_right _ (List.mem_append_right _ (List.mem_append_left _ hx)))
theorem hb150_46 : ∀ x ∈ mB150_46, mAt mC150 x.1 = some x.2 := fun x hx => mInc_at hi150 x (List.mem_append_right _ (List.mem_append_right _ (List.mem_append_right _ (List.mem_append_left _ hx))))
theorem hb150_47 : ∀ x ∈ mB150_47, mAt mC150 x.1 = some x.2 := fun x hx => mInc_at hi150 x (List.mem_append_right _ (List.mem_append_right _ (List.mem_append_right _ (List.mem_append_right _ hx))))
set_option maxRecDepth 8000 in
theorem hi151 : mInc mC151 = true := by decide +kernel
theorem hb151_0 : ∀ x ∈ mB151_0, mAt mC151 x.1 = some x.2 := fun x hx => mInc_at hi151 x hx
set_option maxRecDepth 8000 in
theorem hi152 : mInc mC152 = true := by decide +kernel
theorem hb152_0 : ∀ x ∈ mB152_0, mAt mC152 x.1 = some x.2 := fun x hx => mInc_at hi152 x (List.mem_append_left _ hx)
theorem hb152_12 : ∀ x ∈ mB152_12, mAt mC152 x.1 = some x.2 := fun x hx => mInc_at hi152 x (List.mem_append_right _ (List.mem_append_left _ hx))
theorem hb152_32 : ∀ x ∈ mB152_32, mAt mC152 x.1 = some x.2 := fun x hx => mInc_at hi152 x (List.mem_append_right _ (List.mem_append_right _ (List.mem_append_left _ hx)))
theorem hb152_38 : ∀ x ∈ mB152_38, mAt mC152 x.1 = some x.2 := fun x hx => mInc_at hi152 x (List.mem_append_right _ (List.mem_append_right _ (List.mem_append_right _ hx)))
set_option maxRecDepth 8000 in
theorem hi153 : mInc mC153 = true := by decide +kernel
theorem hb153_0 : ∀ x ∈ mB153_0, mAt mC153 x.1 = some x.2 := fun x hx => mInc_at hi153 x (List.mem_append_left _ hx)
theorem hb153_23 : ∀ x ∈ mB153_23, mAt mC153 x.1 = some x.2 := fun x hx => mInc_at hi153 x (List.mem_append_right _ (List.mem_append_left _ hx))
theorem hb153_35 : ∀ x ∈ mB153_35, mAt mC153 x.1 = some x.2 := fun x hx => mInc_at hi153 x (List.mem_append_right _ (List.mem_append_right _ hx))
set_option maxRecDepth 8000 in
theorem hi154 : mInc mC154 = true := by decide +kernel
theorem hb154_0 : ∀ x ∈ mB154_0, mAt mC154 x.1 = some x.2 := fun x hx => mInc_at hi154 x (List.mem_append_left _ hx)
theorem hb154_32 : ∀ x ∈ mB154_32, mAt mC154 x.1 = some x.2 := fun x hx => mInc_at hi154 x (List.mem_append_right _ (List.mem_append_left _ hx))
theorem hb154_50 : ∀ x ∈ mB154_50, mAt mC154 x.1 = some x.2 := fun x hx => mInc_at hi154 x (List.mem_append_right _ (List.mem_append_right _ (List.mem_append_left _ hx)))
theorem hb154_68 : ∀ x ∈ mB154_68, mAt mC154 x.1 = some x.2 := fun x hx => mInc_at hi154 x (List.mem_append_right _ (List.mem_append_right _ (List.mem_append_right _ (List.mem_append_left _ hx))))
theorem hb154_76 : ∀ x ∈ mB154_76, mAt mC154 x.1 = some x.2 := fun x hx => mInc_at hi154 x (List.mem_append_right _ (List.mem_append_right _ (List.mem_append_right _ (List.mem_append_right _ hx))))
set_option maxRecDepth 8000 in
theorem hi155 : mInc mC155 = true := by decide +kernel
theorem hb155_0 : ∀ x ∈ mB155_0, mAt mC155 x.1 = some x.2 := fun x hx => mInc_at hi155 x (List.mem_append_left _ hx)
theorem hb155_14 : ∀ x ∈ mB155_14, mAt mC155 x.1 = some x.2 := fun x hx => mInc_at hi155 x (List.mem_append_right _ (List.mem_append_left _ hx))
theorem hb155_27 : ∀ x ∈ mB155_27, mAt mC155 x.1 = some x.2 := fun x hx => mInc_at hi155 x (List.mem_append_right _ (List.mem_append_right _ hx))
set_option maxRecDepth 8000 in
theorem hi156 : mInc mC156 = true := by decide +kernel
theorem hb156_0 : ∀ x ∈ mB156_0, mAt mC156 x.1 = some x.2 := fun x hx => mInc_at hi156 x (List.mem_append_left _ hx)
theorem hb156_37 : ∀ x ∈ mB156_37, mAt mC156 x.1 = some x.2 := fun x hx => mInc_at hi156 x (List.mem_append_right _ (List.mem_append_left _ hx))
theorem hb156_49 : ∀ x ∈ mB156_49, mAt mC156 x.1 = some x.2 := fun x hx => mInc_at hi156 x (List.mem_append_right _ (List.mem_append_right _ hx))
set_option maxRecDepth 8000 in
theorem hi157 : mInc mC157 = true := by decide +kernel
theorem hb157_0 : ∀ x ∈ mB157_0, mAt mC157 x.1 = some x.2 := fun x hx => mInc_at hi157 x hx
set_option maxRecDepth 8000 in
theorem hi158 : mInc mC158 = true := by decide +kernel
theorem hb158_0 : ∀ x ∈ mB158_0, mAt mC158 x.1 = some x.2 := fun x hx => mInc_at hi158 x (List.mem_append_left _ hx)
theorem hb158_48 : ∀ x ∈ mB158_48, mAt mC158 x.1 = some x.2 := fun x hx => mInc_at hi158 x (List.mem_append_right _ (List.mem_append_left _ hx))
theorem hb158_56 : ∀ x ∈ mB158_56, mAt mC158 x.1 = some x.2 := fun x hx => mInc_at hi158 x (List.mem_append_right _ (List.mem_append_right _ (List.mem_append_left _ hx)))
theorem hb158_64 : ∀ x ∈ mB158_64, mAt mC158 x.1 = some x.2 := fun x hx => mInc_at hi158 x (List.mem_append_right _ (List.mem_append_right _ (List.mem_append_right _ hx)))
set_option maxRecDepth 8000 in
theorem hi159 : mInc mC159 = true := by decide +kernel
theorem hb159_0 : ∀ x ∈ mB159_0, mAt mC159 x.1 = some x.2 := fun x hx => mInc_at hi159 x (List.mem_append_left _ hx)
theorem hb159_16 : ∀ x ∈ mB159_16, mAt mC159 x.1 = some x.2 := fun x hx => mInc_at hi159 x (List.mem_append_right _ (List.mem_append_left _ hx))
theorem hb159_27 : ∀ x ∈ mB159_27, mAt mC159 x.1 = some x.2 := fun x hx => mInc_at hi159 x (List.mem_append_right _ (List.mem_append_right _ (List.mem_append_left _ hx)))
theorem hb159_68 : ∀ x ∈ mB159_68, mAt mC159 x.1 = some x.2 := fun x hx => mInc_at hi159 x (List.mem_append_right _ (List.mem_append_right _ (List.mem_append_right _ (List.mem_append_left _ hx))))
theorem hb159_76 : ∀ x ∈ mB159_76, mAt mC159 x.1 = some x.2 := fun x hx => mInc_at hi159 x (List.mem_append_right _ (List.mem_append_right _ (List.mem_append_right _ (List.mem_append_right _ (List.mem_append_left _ hx)))))
theorem hb159_84 : ∀ x ∈ mB159_84, mAt mC159 x.1 = some x.2 := fun x hx => mInc_at hi159 x (List.mem_append_right _ (List.mem_append_right _ (List.mem_append_right _ (List.mem_append_right _ (List.mem_append_right _ hx)))))
set_option maxRecDepth 8000 in
theorem hi160 : mInc mC160 = true := by decide +kernel
theorem hb160_0 : ∀ x ∈ mB160_0, mAt mC160 x.1 = some x.2 := fun x hx => mInc_at hi160 x hx
set_option maxRecDepth 8000 in
theorem hi161 : mInc mC161 = true := by decide +kernel
theorem hb161_0 : ∀ x ∈ mB161_0, mAt mC161 x.1 = some x.2 := fun x hx => mInc_at hi161 x hx
set_option maxRecDepth 8000 in
theorem hi162 : mInc mC162 = true := by decide +kernel
theorem hb162_0 : ∀ x ∈ mB162_0, mAt mC162 x.1 = some x.2 := fun x hx => mInc_at hi162 x (List.mem_append_left _ hx)
theorem hb162_26 : ∀ x ∈ mB162_26, mAt mC162 x.1 = some x.2 := fun x hx => mInc_at hi162 x (List.mem_append_right _ (List.mem_append_left _ hx))
theorem hb162_27 : ∀ x ∈ mB162_27, mAt mC162 x.1 = some x.2 := fun x hx => mInc_at hi162 x (List.mem_append_right _ (List.mem_append_right _ (List.mem_append_left _ hx)))
theorem hb162_28 : ∀ x ∈ mB162_28, mAt mC162 x.1 = some x.2 := fun x hx => mInc_at hi162 x (List.mem_append_right _ (List.mem_append_right _ (List.mem_append_right _ (List.mem_append_left _ hx))))
theorem hb162_42 : ∀ x ∈ mB162_42, mAt mC162 x.1 = some x.2 := fun x hx => mInc_at hi162 x (List.mem_append_right _ (List.mem_append_right _ (List.mem_append_right _ (List.mem_append_right _ (List.mem_append_left _ hx)))))
theorem hb162_66 : ∀ x ∈ mB162_66, mAt mC162 x.1 = some x.2 := fun x hx => mInc_at hi162 x (List.mem_append_right _ (List.mem_append_right _ (List.mem_append_right _ (List.mem_append_right _ (List.mem_append_right _ (List.mem_append_left _ hx))))))
theorem hb162_74 : ∀ x ∈ mB162_74, mAt mC162 x.1 = some x.2 := fun x hx => mInc_at hi162 x (List.mem_append_right _ (List.mem_append_right _ (List.mem_append_right _ (List.mem_append_right _ (List.mem_append_right _ (List.mem_append_right _ hx))))))
set_option maxRecDepth 8000 in
theorem hi163 : mInc mC163 = true := by decide +kernel
theorem hb163_0 : ∀ x ∈ mB163_0, mAt mC163 x.1 = some x.2 := fun x hx => mInc_at hi163 x hx
set_option maxRecDepth 8000 in
theorem hi164 : mInc mC164 = true := by decide +kernel
theorem hb164_0 : ∀ x ∈ mB164_0, mAt mC164 x.1 = some x.2 := fun x hx => mInc_at hi164 x (List.mem_append_left _ hx)
theorem hb164_9 : ∀ x ∈ mB164_9, mAt mC164 x.1 = some x.2 := fun x hx => mInc_at hi164 x (List.mem_append_right _ hx)
set_option maxRecDepth 8000 in
theorem hi165 : mInc mC165 = true := by decide +kernel
theorem hb165_0 : ∀ x ∈ mB165_0, mAt mC165 x.1 = some x.2 := fun x hx => mInc_at hi165 x (List.mem_append_left _ hx)
theorem hb165_9 : ∀ x ∈ mB165_9, mAt mC165 x.1 = some x.2 := fun x hx => mInc_at hi165 x (List.mem_append_right _ (List.mem_append_left _ hx))
theorem hb165_20 : ∀ x ∈ mB165_20, mAt mC165 x.1 = some x.2 := fun x hx => mInc_at hi165 x (List.mem_append_right _ (List.mem_append_right _ hx))
set_option maxRecDepth 8000 in
theorem hi166 : mInc mC166 = true := by decide +kernel
theorem hb166_0 : ∀ x ∈ mB166_0, mAt mC166 x.1 = some x.2 := fun x hx => mInc_at hi166 x (List.mem_append_left _ hx)
theorem hb166_22 : ∀ x ∈ mB166_22, mAt mC166 x.1 = some x.2 := fun x hx => mInc_at hi166 x (List.mem_append_right _ hx)
set_option maxRecDepth 8000 in
theorem hi167 : mInc mC167 = true := by decide +kernel
theorem hb167_0 : ∀ x ∈ mB167_0, mAt mC167 x.1 = some x.2 := fun x hx => mInc_at hi167 x (List.mem_append_left _ hx)
theorem hb167_22 : ∀ x ∈ mB167_22, mAt mC167 x.1 = some x.2 := fun x hx => mInc_at hi167 x (List.mem_append_right _ hx)
set_option maxRecDepth 8000 in
theorem hi168 : mInc mC168 = true := by decide +kernel
theorem hb168_0 : ∀ x ∈ mB168_0, mAt mC168 x.1 = some x.2 := fun x hx => mInc_at hi168 x (List.mem_append_left _ hx)
theorem hb168_15 : ∀ x ∈ mB168_15, mAt mC168 x.1 = some x.2 := fun x hx => mInc_at hi168 x (List.mem_append_right _ (List.mem_append_left _ hx))
theorem hb168_26 : ∀ x ∈ mB168_26, mAt mC168 x.1 = some x.2 := fun x hx => mInc_at hi168 x (List.mem_append_right _ (List.mem_append_right _ hx))
set_option maxRecDepth 8000 in
theorem hi169 : mInc mC169 = true := by decide +kernel
theorem hb169_0 : ∀ x ∈ mB169_0, mAt mC169 x.1 = some x.2 := fun x hx => mInc_at hi169 x (List.mem_append_left _ hx)
theorem hb169_12 : ∀ x ∈ mB169_12, mAt mC169 x.1 = some x.2 := fun x hx => mInc_at hi169 x (List.mem_append_right _ (List.mem_append_left _ hx))
theorem hb169_23 : ∀ x ∈ mB169_23, mAt mC169 x.1 = some x.2 := fun x hx => mInc_at hi169 x (List.mem_append_right _ (List.mem_append_right _ hx))
set_option maxRecDepth 8000 in
theorem hi170 : mInc mC170 = true := by decide +kernel
theorem hb170_0 : ∀ x ∈ mB170_0, mAt mC170 x.1 = some x.2 := fun x hx => mInc_at hi170 x (List.mem_append_left _ hx)
theorem hb170_11 : ∀ x ∈ mB170_11, mAt mC170 x.1 = some x.2 := fun x hx => mInc_at hi170 x (List.mem_append_right _ (List.mem_append_left _ hx))
theorem hb170_12 : ∀ x ∈ mB170_12, mAt mC170 x.1 = some x.2 := fun x hx => mInc_at hi170 x (List.mem_append_right _ (List.mem_append_right _ hx))
set_option maxRecDepth 8000 in
theorem hi171 : mInc mC171 = true := by decide +kernel
theorem hb171_0 : ∀ x ∈ mB171_0, mAt mC171 x.1 = some x.2 := fun x hx => mInc_at hi171 x (List.mem_append_left _ hx)
theorem hb171_14 : ∀ x ∈ mB171_14, mAt mC171 x.1 = some x.2 := fun x hx => mInc_at hi171 x (List.mem_append_right _ (List.mem_append_left _ hx))
theorem hb171_18 : ∀ x ∈ mB171_18, mAt mC171 x.1 = some x.2 := fun x hx => mInc_at hi171 x (List.mem_append_right _ (List.mem_append_right _ (List.mem_append_left _ hx)))
theorem hb171_21 : ∀ x ∈ mB171_21, mAt mC171 x.1 = some x.2 := fun x hx => mInc_at hi171 x (List.mem_append_right _ (List.mem_append_right _ (List.mem_append_right _ hx)))
set_option maxRecDepth 8000 in
theorem hi172 : mInc mC172 = true := by decide +kernel
theorem hb172_0 : ∀ x ∈ mB172_0, mAt mC172 x.1 = some x.2 := fun x hx => mInc_at hi172 x (List.mem_append_left _ hx)
theorem hb172_14 : ∀ x ∈ mB172_14, mAt mC172 x.1 = some x.2 := fun x hx => mInc_at hi172 x (List.mem_append_right _ (List.mem_append_left _ hx))
theorem hb172_18 : ∀ x ∈ mB172_18, mAt mC172 x.1 = some x.2 := fun x hx => mInc_at hi172 x (List.mem_append_right _ (List.mem_append_right _ (List.mem_append_left _ hx)))
theorem hb172_21 : ∀ x ∈ mB172_21, mAt mC172 x.1 = some x.2 := fun x hx => mInc_at hi172 x (List.mem_append_right _ (List.mem_append_right _ (List.mem_append_right _ hx)))
set_option maxRecDepth 8000 in
theorem hi173 : mInc mC173 = true := by decide +kernel
theorem hb173_0 : ∀ x ∈ mB173_0, mAt mC173 x.1 = some x.2 := fun x hx => mInc_at hi173 x (List.mem_append_left _ hx)
theorem hb173_7 : ∀ x ∈ mB173_7, mAt mC173 x.1 = some x.2 := fun x hx => mInc_at hi173 x (List.mem_append_right _ (List.mem_append_left _ hx))
theorem hb173_34 : ∀ x ∈ mB173_34, mAt mC173 x.1 = some x.2 := fun x hx => mInc_at hi173 x (List.mem_append_right _ (List.mem_append_right _ hx))
set_option maxRecDepth 8000 in
theorem hi174 : mInc mC174 = true := by decide +kernel
theorem hb174_0 : ∀ x ∈ mB174_0, mAt mC174 x.1 = some x.2 := fun x hx => mInc_at hi174 x hx
set_option maxRecDepth 8000 in
theorem hi176 : mInc mC176 = true := by decide +kernel
theorem hb176_0 : ∀ x ∈ mB176_0, mAt mC176 x.1 = some x.2 := fun x hx => mInc_at hi176 x hx
set_option maxRecDepth 8000 in
theorem hi177 : mInc mC177 = true := by decide +kernel
theorem hb177_0 : ∀ x ∈ mB177_0, mAt mC177 x.1 = some x.2 := fun x hx => mInc_at hi177 x (List.mem_append_left _ hx)
theorem hb177_16 : ∀ x ∈ mB177_16, mAt mC177 x.1 = some x.2 := fun x hx => mInc_at hi177 x (List.mem_append_right _ (List.mem_append_left _ hx))
theorem hb177_27 : ∀ x ∈ mB177_27, mAt mC177 x.1 = some x.2 := fun x hx => mInc_at hi177 x (List.mem_append_right _ (List.mem_append_right _ (List.mem_append_left _ hx)))
theorem hb177_28 : ∀ x ∈ mB177_28, mAt mC177 x.1 = some x.2 := fun x hx => mInc_at hi177 x (List.mem_append_right _ (List.mem_append_right _ (List.mem_append_right _ hx)))
set_option maxRecDepth 8000 in
theorem hi178 : mInc mC178 = true := by decide +kernel
theorem hb178_0 : ∀ x ∈ mB178_0, mAt mC178 x.1 = some x.2 := fun x hx => mInc_at hi178 x (List.mem_append_left _ hx)
theorem hb178_14 : ∀ x ∈ mB178_14, mAt mC178 x.1 = some x.2 := fun x hx => mInc_at hi178 x (List.mem_append_right _ (List.mem_append_left _ hx))
theorem hb178_15 : ∀ x ∈ mB178_15, mAt mC178 x.1 = some x.2 := fun x hx => mInc_at hi178 x (List.mem_append_right _ (List.mem_append_right _ hx))
set_option maxRecDepth 8000 in
theorem hi179 : mInc mC179 = true := by decide +kernel
theorem hb179_0 : ∀ x ∈ mB179_0, mAt mC179 x.1 = some x.2 := fun x hx => mInc_at hi179 x (List.mem_append_left _ hx)
theorem hb179_11 : ∀ x ∈ mB179_11, mAt mC179 x.1 = some x.2 := fun x hx => mInc_at hi179 x (List.mem_append_right _ (List.mem_append_left _ hx))
theorem hb179_14 : ∀ x ∈ mB179_14, mAt mC179 x.1 = some x.2 := fun x hx => mInc_at hi179 x (List.mem_append_right _ (List.mem_append_right _ hx))
set_option maxRecDepth 8000 in
theorem hi180 : mInc mC180 = true := by decide +kernel
theorem hb180_0 : ∀ x ∈ mB180_0, mAt mC180 x.1 = some x.2 := fun x hx => mInc_at hi180 x (List.mem_append_left _ hx)
theorem hb180_2 : ∀ x ∈ mB180_2, mAt mC180 x.1 = some x.2 := fun x hx => mInc_at hi180 x (List.mem_append_right _ (List.mem_append_left _ hx))
theorem hb180_20 : ∀ x ∈ mB180_20, mAt mC180 x.1 = some x.2 := fun x hx => mInc_at hi180 x (List.mem_append_right _ (List.mem_append_right _ hx))
set_option maxRecDepth 8000 in
theorem hi181 : mInc mC181 = true := by decide +kernel
theorem hb181_0 : ∀ x ∈ mB181_0, mAt mC181 x.1 = some x.2 := fun x hx => mInc_at hi181 x (List.mem_append_left _ hx)
theorem hb181_4 : ∀ x ∈ mB181_4, mAt mC181 x.1 = some x.2 := fun x hx => mInc_at hi181 x (List.mem_append_right _ (List.mem_append_left _ hx))
theorem hb181_24 : ∀ x ∈ mB181_24, mAt mC181 x.1 = some x.2 := fun x hx => mInc_at hi181 x (List.mem_append_right _ (List.mem_append_right _ hx))
set_option maxRecDepth 8000 in
theorem hi182 : mInc mC182 = true := by decide +kernel
theorem hb182_0 : ∀ x ∈ mB182_0, mAt mC182 x.1 = some x.2 := fun x hx => mInc_at hi182 x (List.mem_append_left _ hx)
theorem hb182_20 : ∀ x ∈ mB182_20, mAt mC182 x.1 = some x.2 := fun x hx => mInc_at hi182 x (List.mem_append_right _ hx)
set_option maxRecDepth 8000 in
theorem hi183 : mInc mC183 = true := by decide +kernel
theorem hb183_0 : ∀ x ∈ mB183_0, mAt mC183 x.1 = some x.2 := fun x hx => mInc_at hi183 x (List.mem_append_left _ hx)
theorem hb183_3 : ∀ x ∈ mB183_3, mAt mC183 x.1 = some x.2 := fun x hx => mInc_at hi183 x (List.mem_append_right _ (List.mem_append_left _ hx))
theorem hb183_39 : ∀ x ∈ mB183_39, mAt mC183 x.1 = some x.2 := fun x hx => mInc_at hi183 x (List.mem_append_right _ (List.mem_append_right _ hx))
set_option maxRecDepth 8000 in
theorem hi184 : mInc mC184 = true := by decide +kernel
theorem hb184_0 : ∀ x ∈ mB184_0, mAt mC184 x.1 = some x.2 := fun x hx => mInc_at hi184 x (List.mem_append_left _ hx)
theorem hb184_17 : ∀ x ∈ mB184_17, mAt mC184 x.1 = some x.2 := fun x hx => mInc_at hi184 x (List.mem_append_right _ (List.mem_append_left _ hx))
theorem hb184_18 : ∀ x ∈ mB184_18, mAt mC184 x.1 = some x.2 := fun x hx => mInc_at hi184 x (List.mem_append_right _ (List.mem_append_right _ hx))
set_option maxRecDepth 8000 in
theorem hi185 : mInc mC185 = true := by decide +kernel
theorem hb185_0 : ∀ x ∈ mB185_0, mAt mC185 x.1 = some x.2 := fun x hx => mInc_at hi185 x (List.mem_append_left _ hx)
theorem hb185_16 : ∀ x ∈ mB185_16, mAt mC185 x.1 = some x.2 := fun x hx => mInc_at hi185 x (List.mem_append_right _ (List.mem_append_left _ hx))
theorem hb185_17 : ∀ x ∈ mB185_17, mAt mC185 x.1 = some x.2 := fun x hx => mInc_at hi185 x (List.mem_append_right _ (List.mem_append_right _ hx))
set_option maxRecDepth 8000 in
theorem hi186 : mInc mC186 = true := by decide +kernel
theorem hb186_0 : ∀ x ∈ mB186_0, mAt mC186 x.1 = some x.2 := fun x hx => mInc_at hi186 x (List.mem_append_left _ hx)
theorem hb186_16 : ∀ x ∈ mB186_16, mAt mC186 x.1 = some x.2 := fun x hx => mInc_at hi186 x (List.mem_append_right _ (List.mem_append_left _ hx))
theorem hb186_17 : ∀ x ∈ mB186_17, mAt mC186 x.1 = some x.2 := fun x hx => mInc_at hi186 x (List.mem_append_right _ (List.mem_append_right _ hx))
set_option maxRecDepth 8000 in
theorem hi187 : mInc mC187 = true := by decide +kernel
theorem hb187_0 : ∀ x ∈ mB187_0, mAt mC187 x.1 = some x.2 := fun x hx => mInc_at hi187 x (List.mem_append_left _ (List.mem_append_left _ hx))
theorem hb187_37 : ∀ x ∈ mB187_37, mAt mC187 x.1 = some x.2 := fun x hx => mInc_at hi187 x (List.mem_append_left _ (List.mem_append_right _ hx))
theorem hb187_50 : ∀ x ∈ mB187_50, mAt mC187 x.1 = some x.2 := fun x hx => mInc_at hi187 x (List.mem_append_right _ (List.mem_append_left _ (List.mem_append_left _ hx)))
theorem hb187_101 : ∀ x ∈ mB187_101, mAt mC187 x.1 = some x.2 := fun x hx => mInc_at hi187 x (List.mem_append_right _ (List.mem_append_left _ (List.mem_append_right _ hx)))
theorem hb187_108 : ∀ x ∈ mB187_108, mAt mC187 x.1 = some x.2 := fun x hx => mInc_at hi187 x (List.mem_append_right _ (List.mem_append_right _ (List.mem_append_left _ (List.mem_append_left _ hx))))
theorem hb187_159 : ∀ x ∈ mB187_159, mAt mC187 x.1 = some x.2 := fun x hx => mInc_at hi187 x (List.mem_append_right _ (List.mem_append_right _ (List.mem_append_left _ (List.mem_append_right _ (List.mem_append_left _ hx)))))
theorem hb187_172 : ∀ x ∈ mB187_172, mAt mC187 x.1 = some x.2 := fun x hx => mInc_at hi187 x (List.mem_append_right _ (List.mem_append_right _ (List.mem_append_left _ (List.mem_append_right _ (List.mem_append_right _ (List.mem_append_left _ hx))))))
theorem hb187_180 : ∀ x ∈ mB187_180, mAt mC187 x.1 = some x.2 := fun x hx => mInc_at hi187 x (List.mem_append_right _ (List.mem_append_right _ (List.mem_append_left _ (List.mem_append_right _ (List.mem_append_right _ (List.mem_append_right _ hx))))))
theorem hb187_187 : ∀ x ∈ mB187_187, mAt mC187 x.1 = some x.2 := fun x hx => mInc_at hi187 x (List.mem_append_right _ (List.mem_append_right _ (List.mem_append_right _ (List.mem_append_left _ (List.mem_append_left _ hx)))))
theorem hb187_237 : ∀ x ∈ mB187_237, mAt mC187 x.1 = some x.2 := fun x hx => mInc_at hi187 x (List.mem_append_right _ (List.mem_append_right _ (List.mem_append_right _ (List.mem_append_left _ (List.mem_append_right _ (List.mem_append_left _ hx))))))
theorem hb187_250 : ∀ x ∈ mB187_250, mAt mC187 x.1 = some x.2 := fun x hx => mInc_at hi187 x (List.mem_append_right _ (List.mem_append_right _ (List.mem_append_right _ (List.mem_append_left _ (List.mem_append_right _ (List.mem_append_right _ hx))))))
theorem hb187_258 : ∀ x ∈ mB187_258, mAt mC187 x.1 = some x.2 := fun x hx => mInc_at hi187 x (List.mem_append_right _ (List.mem_append_right _ (List.mem_append_right _ (List.mem_append_right _ (List.mem_append_left _ hx)))))
theorem hb187_323 : ∀ x ∈ mB187_323, mAt mC187 x.1 = some x.2 := fun x hx => mInc_at hi187 x (List.mem_append_right _ (List.mem_append_right _ (List.mem_append_right _ (List.mem_append_right _ (List.mem_append_right _ (List.mem_append_left _ hx))))))
theorem hb187_327 : ∀ x ∈ mB187_327, mAt mC187 x.1 = some x.2 := fun x hx => mInc_at hi187 x (List.mem_append_right _ (List.mem_append_right _ (List.mem_append_right _ (List.mem_append_right _ (List.mem_append_right _ (List.mem_append_right _ (List.mem_append_left _ hx)))))))
theorem hb187_328 : ∀ x ∈ mB187_328, mAt mC187 x.1 = some x.2 := fun x hx => mInc_at hi187 x (List.mem_append_right _ (List.mem_append_right _ (List.mem_append_right _ (List.mem_append_right _ (List.mem_append_right _ (List.mem_append_right _ (List.mem_append_right _ (List.mem_append_left _ hx))))))))
theorem hb187_331 : ∀ x ∈ mB187_331, mAt mC187 x.1 = some x.2 := fun x hx => mInc_at hi187 x (List.mem_append_right _ (List.mem_append_right _ (List.mem_append_right _ (List.mem_append_right _ (List.mem_append_right _ (List.mem_append_right _ (List.mem_append_right _ (List.mem_append_right _ hx))))))))
set_option maxRecDepth 8000 in
theorem hi188 : mInc mC188 = true := by decide +kernel
theorem hb188_0 : ∀ x ∈ mB188_0, mAt mC188 x.1 = some x.2 := fun x hx => mInc_at hi188 x (List.mem_append_left _ hx)
theorem hb188_32 : ∀ x ∈ mB188_32, mAt mC188 x.1 = some x.2 := fun x hx => mInc_at hi188 x (List.mem_append_right _ (List.mem_append_left _ hx))
theorem hb188_48 : ∀ x ∈ mB188_48, mAt mC188 x.1 = some x.2 := fun x hx => mInc_at hi188 x (List.mem_append_right _ (List.mem_append_right _ (List.mem_append_left _ hx)))
theorem hb188_66 : ∀ x ∈ mB188_66, mAt mC188 x.1 = some x.2 := fun x hx => mInc_at hi188 x (List.mem_append_right _ (List.mem_append_right _ (List.mem_append_right _ (List.mem_append_left _ hx))))
theorem hb188_84 : ∀ x ∈ mB188_84, mAt mC188 x.1 = some x.2 := fun x hx => mInc_at hi188 x (List.mem_append_right _ (List.mem_append_right _ (List.mem_append_right _ (List.mem_append_right _ (List.mem_append_left _ hx)))))
theorem hb188_102 : ∀ x ∈ mB188_102, mAt mC188 x.1 = some x.2 := fun x hx => mInc_at hi188 x (List.mem_append_right _ (List.mem_append_right _ (List.mem_append_right _ (List.mem_append_right _ (List.mem_append_right _ hx)))))
set_option maxRecDepth 8000 in
theorem hi189 : mInc mC189 = true := by decide +kernel
theorem hb189_0 : ∀ x ∈ mB189_0, mAt mC189 x.1 = some x.2 := fun x hx => mInc_at hi189 x (List.mem_append_left _ (List.mem_append_left _ hx))
theorem hb189_112 : ∀ x ∈ mB189_112, mAt mC189 x.1 = some x.2 := fun x hx => mInc_at hi189 x (List.mem_append_left _ (List.mem_append_right _ (List.mem_append_left _ hx)))
theorem hb189_128 : ∀ x ∈ mB189_128, mAt mC189 x.1 = some x.2 := fun x hx => mInc_at hi189 x (List.mem_append_left _ (List.mem_append_right _ (List.mem_append_right _ (List.mem_append_left _ hx))))
theorem hb189_144 : ∀ x ∈ mB189_144, mAt mC189 x.1 = some x.2 := fun x hx => mInc_at hi189 x (List.mem_append_left _ (List.mem_append_right _ (List.mem_append_right _ (List.mem_append_right _ (List.mem_append_left _ hx)))))
theorem hb189_160 : ∀ x ∈ mB189_160, mAt mC189 x.1 = some x.2 := fun x hx => mInc_at hi189 x (List.mem_append_left _ (List.mem_append_right _ (List.mem_append_right _ (List.mem_append_right _ (List.mem_append_right _ (List.mem_append_left _ hx))))))
theorem hb189_174 : ∀ x ∈ mB189_174, mAt mC189 x.1 = some x.2 := fun x hx => mInc_at hi189 x (List.mem_append_left _ (List.mem_append_right _ (List.mem_append_right _ (List.mem_append_right _ (List.mem_append_right _ (List.mem_append_right _ hx))))))
theorem hb189_190 : ∀ x ∈ mB189_190, mAt mC189 x.1 = some x.2 := fun x hx => mInc_at hi189 x (List.mem_append_right _ (List.mem_append_left _ (List.mem_append_left _ hx)))
theorem hb189_206 : ∀ x ∈ mB189_206, mAt mC189 x.1 = some x.2 := fun x hx => mInc_at hi189 x (List.mem_append_right _ (List.mem_append_left _ (List.mem_append_right _ (List.mem_append_left _ hx))))
theorem hb189_221 : ∀ x ∈ mB189_221, mAt mC189 x.1 = some x.2 := fun x hx => mInc_at hi189 x (List.mem_append_right _ (List.mem_append_left _ (List.mem_append_right _ (List.mem_append_right _ (List.mem_append_left _ hx)))))
theorem hb189_237 : ∀ x ∈ mB189_237, mAt mC189 x.1 = some x.2 := fun x hx => mInc_at hi189 x (List.mem_append_right _ (List.mem_append_left _ (List.mem_append_right _ (List.mem_append_right _ (List.mem_append_right _ (List.mem_append_left _ hx))))))
theorem hb189_253 : ∀ x ∈ mB189_253, mAt mC189 x.1 = some x.2 := fun x hx => mInc_at hi189 x (List.mem_append_right _ (List.mem_append_left _ (List.mem_append_right _ (List.mem_append_right _ (List.mem_append_right _ (List.mem_append_right _ hx))))))
theorem hb189_271 : ∀ x ∈ mB189_271, mAt mC189 x.1 = some x.2 := fun x hx => mInc_at hi189 x (List.mem_append_right _ (List.mem_append_right _ (List.mem_append_left _ (List.mem_append_left _ hx))))
theorem hb189_286 : ∀ x ∈ mB189_286, mAt mC189 x.1 = some x.2 := fun x hx => mInc_at hi189 x (List.mem_append_right _ (List.mem_append_right _ (List.mem_append_left _ (List.mem_append_right _ (List.mem_append_left _ hx)))))
theorem hb189_301 : ∀ x ∈ mB189_301, mAt mC189 x.1 = some x.2 := fun x hx => mInc_at hi189 x (List.mem_append_right _ (List.mem_append_right _ (List.mem_append_left _ (List.mem_append_right _ (List.mem_append_right _ (List.mem_append_left _ hx))))))
theorem hb189_319 : ∀ x ∈ mB189_319, mAt mC189 x.1 = some x.2 := fun x hx => mInc_at hi189 x (List.mem_append_right _ (List.mem_append_right _ (List.mem_append_left _ (List.mem_append_right _ (List.mem_append_right _ (List.mem_append_right _ (List.mem_append_left _ hx)))))))
theorem hb189_335 : ∀ x ∈ mB189_335, mAt mC189 x.1 = some x.2 := fun x hx => mInc_at hi189 x (List.mem_append_right _ (List.mem_append_right _ (List.mem_append_left _ (List.mem_append_right _ (List.mem_append_right _ (List.mem_append_right _ (List.mem_append_right _ hx)))))))
theorem hb189_350 : ∀ x ∈ mB189_350, mAt mC189 x.1 = some x.2 := fun x hx => mInc_at hi189 x (List.mem_append_right _ (List.mem_append_right _ (List.mem_append_right _ (List.mem_append_left _ (List.mem_append_left _ hx)))))
theorem hb189_365 : ∀ x ∈ mB189_365, mAt mC189 x.1 = some x.2 := fun x hx => mInc_at hi189 x (List.mem_append_right _ (List.mem_append_right _ (List.mem_append_right _ (List.mem_append_left _ (List.mem_append_right _ (List.mem_append_left _ hx))))))
theorem hb189_380 : ∀ x ∈ mB189_380, mAt mC189 x.1 = some x.2 := fun x hx => mInc_at hi189 x (List.mem_append_right _ (List.mem_append_right _ (List.mem_append_right _ (List.mem_append_left _ (List.mem_append_right _ (List.mem_append_right _ (List.mem_append_left _ hx)))))))
theorem hb189_395 : ∀ x ∈ mB189_395, mAt mC189 x.1 = some x.2 := fun x hx => mInc_at hi189 x (List.mem_append_right _ (List.mem_append_right _ (List.mem_append_right _ (List.mem_append_left _ (List.mem_append_right _ (List.mem_append_right _ (List.mem_append_right _ (List.mem_append_left _ hx))))))))
theorem hb189_413 : ∀ x ∈ mB189_413, mAt mC189 x.1 = some x.2 := fun x hx => mInc_at hi189 x (List.mem_append_right _ (List.mem_append_right _ (List.mem_append_right _ (List.mem_append_left _ (List.mem_append_right _ (List.mem_append_right _ (List.mem_append_right _ (List.mem_append_right _ hx))))))))
theorem hb189_427 : ∀ x ∈ mB189_427, mAt mC189 x.1 = some x.2 := fun x hx => mInc_at hi189 x (List.mem_append_right _ (List.mem_append_right _ (List.mem_append_right _ (List.mem_append_right _ (List.mem_append_left _ hx)))))
theorem hb189_443 : ∀ x ∈ mB189_443, mAt mC189 x.1 = some x.2 := fun x hx => mInc_at hi189 x (List.mem_append_right _ (List.mem_append_right _ (List.mem_append_right _ (List.mem_append_right _ (List.mem_append_right _ (List.mem_append_left _ hx))))))
theorem hb189_458 : ∀ x ∈ mB189_458, mAt mC189 x.1 = some x.2 := fun x hx => mInc_at hi189 x (List.mem_append_right _ (List.mem_append_right _ (List.mem_append_right _ (List.mem_append_right _ (List.mem_append_right _ (List.mem_append_right _ (List.mem_append_left _ hx)))))))
theorem hb189_472 : ∀ x ∈ mB189_472, mAt mC189 x.1 = some x.2 := fun x hx => mInc_at hi189 x (List.mem_append_right _ (List.mem_append_right _ (List.mem_append_right _ (List.mem_append_right _ (List.mem_append_right _ (List.mem_append_right _ (List.mem_append_right _ (List.mem_append_left _ hx))))))))
theorem hb189_485 : ∀ x ∈ mB189_485, mAt mC189 x.1 = some x.2 := fun x hx => mInc_at hi189 x (List.mem_append_right _ (List.mem_append_right _ (List.mem_append_right _ (List.mem_append_right _ (List.mem_append_right _ (List.mem_append_right _ (List.mem_append_right _ (List.mem_append_right _ hx))))))))
set_option maxRecDepth 8000 in
theorem hi190 : mInc mC190 = true := by decide +kernel
theorem hb190_0 : ∀ x ∈ mB190_0, mAt mC190 x.1 = some x.2 := fun x hx => mInc_at hi190 x (List.mem_append_left _ hx)
theorem hb190_17 : ∀ x ∈ mB190_17, mAt mC190 x.1 = some x.2 := fun x hx => mInc_at hi190 x (List.mem_append_right _ (List.mem_append_left _ hx))
theorem hb190_19 : ∀ x ∈ mB190_19, mAt mC190 x.1 = some x.2 := fun x hx => mInc_at hi190 x (List.mem_append_right _ (List.mem_append_right _ (List.mem_append_left _ hx)))
theorem hb190_21 : ∀ x ∈ mB190_21, mAt mC190 x.1 = some x.2 := fun x hx => mInc_at hi190 x (List.mem_append_right _ (List.mem_append_right _ (List.mem_append_right _ (List.mem_append_left _ hx))))
theorem hb190_41 : ∀ x ∈ mB190_41, mAt mC190 x.1 = some x.2 := fun x hx => mInc_at hi190 x (List.mem_append_right _ (List.mem_append_right _ (List.mem_append_right _ (List.mem_append_right _ (List.mem_append_left _ hx)))))
theorem hb190_47 : ∀ x ∈ mB190_47, mAt mC190 x.1 = some x.2 := fun x hx => mInc_at hi190 x (List.mem_append_right _ (List.mem_append_right _ (List.mem_append_right _ (List.mem_append_right _ (List.mem_append_right _ hx)))))
set_option maxRecDepth 8000 in
theorem hi191 : mInc mC191 = true := by decide +kernel
theorem hb191_0 : ∀ x ∈ mB191_0, mAt mC191 x.1 = some x.2 := fun x hx => mInc_at hi191 x (List.mem_append_left _ hx)
theorem hb191_8 : ∀ x ∈ mB191_8, mAt mC191 x.1 = some x.2 := fun x hx => mInc_at hi191 x (List.mem_append_right _ hx)
set_option maxRecDepth 8000 in
theorem hi192 : mInc mC192 = true := by decide +kernel
theorem hb192_0 : ∀ x ∈ mB192_0, mAt mC192 x.1 = some x.2 := fun x hx => mInc_at hi192 x (List.mem_append_left _ hx)
theorem hb192_11 : ∀ x ∈ mB192_11, mAt mC192 x.1 = some x.2 := fun x hx => mInc_at hi192 x (List.mem_append_right _ (List.mem_append_left _ hx))
theorem hb192_12 : ∀ x ∈ mB192_12, mAt mC192 x.1 = some x.2 := fun x hx => mInc_at hi192 x (List.mem_append_right _ (List.mem_append_right _ hx))
set_option maxRecDepth 8000 in
theorem hi193 : mInc mC193 = true := by decide +kernel
theorem hb193_0 : ∀ x ∈ mB193_0, mAt mC193 x.1 = some x.2 := fun x hx => mInc_at hi193 x (List.mem_append_left _ hx)
theorem hb193_20 : ∀ x ∈ mB193_20, mAt mC193 x.1 = some x.2 := fun x hx => mInc_at hi193 x (List.mem_append_right _ (List.mem_append_left _ hx))
theorem hb193_21 : ∀ x ∈ mB193_21, mAt mC193 x.1 = some x.2 := fun x hx => mInc_at hi193 x (List.mem_append_right _ (List.mem_append_right _ hx))
set_option maxRecDepth 8000 in
theorem hi194 : mInc mC194 = true := by decide +kernel
theorem hb194_0 : ∀ x ∈ mB194_0, mAt mC194 x.1 = some x.2 := fun x hx => mInc_at hi194 x (List.mem_append_left _ hx)
theorem hb194_8 : ∀ x ∈ mB194_8, mAt mC194 x.1 = some x.2 := fun x hx => mInc_at hi194 x (List.mem_append_right _ (List.mem_append_left _ hx))
theorem hb194_19 : ∀ x ∈ mB194_19, mAt mC194 x.1 = some x.2 := fun x hx => mInc_at hi194 x (List.mem_append_right _ (List.mem_append_right _ (List.mem_append_left _ hx)))
theorem hb194_24 : ∀ x ∈ mB194_24, mAt mC194 x.1 = some x.2 := fun x hx => mInc_at hi194 x (List.mem_append_right _ (List.mem_append_right _ (List.mem_append_right _ hx)))
set_option maxRecDepth 8000 in
theorem hi195 : mInc mC195 = true := by decide +kernel
theorem hb195_0 : ∀ x ∈ mB195_0, mAt mC195 x.1 = some x.2 := fun x hx => mInc_at hi195 x (List.mem_append_left _ hx)
theorem hb195_9 : ∀ x ∈ mB195_9, mAt mC195 x.1 = some x.2 := fun x hx => mInc_at hi195 x (List.mem_append_right _ (List.mem_append_left _ hx))
theorem hb195_25 : ∀ x ∈ mB195_25, mAt mC195 x.1 = some x.2 := fun x hx => mInc_at hi195 x (List.mem_append_right _ (List.mem_append_right _ (List.mem_append_left _ hx)))
theorem hb195_49 : ∀ x ∈ mB195_49, mAt mC195 x.1 = some x.2 := fun x hx => mInc_at hi195 x (List.mem_append_right _ (List.mem_append_right _ (List.mem_append_right _ (List.mem_append_left _ hx))))
theorem hb195_54 : ∀ x ∈ mB195_54, mAt mC195 x.1 = some x.2 := fun x hx => mInc_at hi195 x (List.mem_append_right _ (List.mem_append_right _ (List.mem_append_right _ (List.mem_append_right _ hx))))
set_option maxRecDepth 8000 in
theorem hi196 : mInc mC196 = true := by decide +kernel
theorem hb196_0 : ∀ x ∈ mB196_0, mAt mC196 x.1 = some x.2 := fun x hx => mInc_at hi196 x (List.mem_append_left _ hx)
theorem hb196_16 : ∀ x ∈ mB196_16, mAt mC196 x.1 = some x.2 := fun x hx => mInc_at hi196 x (List.mem_append_right _ (List.mem_append_left _ hx))
theorem hb196_17 : ∀ x ∈ mB196_17, mAt mC196 x.1 = some x.2 := fun x hx => mInc_at hi196 x (List.mem_append_right _ (List.mem_append_right _ (List.mem_append_left _ hx)))
theorem hb196_29 : ∀ x ∈ mB196_29, mAt mC196 x.1 = some x.2 := fun x hx => mInc_at hi196 x (List.mem_append_right _ (List.mem_append_right _ (List.mem_append_right _ hx)))
set_option maxRecDepth 8000 in
theorem hi197 : mInc mC197 = true := by decide +kernel
theorem hb197_0 : ∀ x ∈ mB197_0, mAt mC197 x.1 = some x.2 := fun x hx => mInc_at hi197 x hx
set_option maxRecDepth 8000 in
theorem hi198 : mInc mC198 = true := by decide +kernel
theorem hb198_0 : ∀ x ∈ mB198_0, mAt mC198 x.1 = some x.2 := fun x hx => mInc_at hi198 x (List.mem_append_left _ hx)
theorem hb198_10 : ∀ x ∈ mB198_10, mAt mC198 x.1 = some x.2 := fun x hx => mInc_at hi198 x (List.mem_append_right _ (List.mem_append_left _ hx))
theorem hb198_11 : ∀ x ∈ mB198_11, mAt mC198 x.1 = some x.2 := fun x hx => mInc_at hi198 x (List.mem_append_right _ (List.mem_append_right _ hx))
set_option maxRecDepth 8000 in
theorem hi199 : mInc mC199 = true := by decide +kernel
theorem hb199_0 : ∀ x ∈ mB199_0, mAt mC199 x.1 = some x.2 := fun x hx => mInc_at hi199 x (List.mem_append_left _ hx)
theorem hb199_9 : ∀ x ∈ mB199_9, mAt mC199 x.1 = some x.2 := fun x hx => mInc_at hi199 x (List.mem_append_right _ (List.mem_append_left _ hx))
theorem hb199_18 : ∀ x ∈ mB199_18, mAt mC199 x.1 = some x.2 := fun x hx => mInc_at hi199 x (List.mem_append_right _ (List.mem_append_right _ (List.mem_append_left _ hx)))
theorem hb199_27 : ∀ x ∈ mB199_27, mAt mC199 x.1 = some x.2 := fun x hx => mInc_at hi199 x (List.mem_append_right _ (List.mem_append_right _ (List.mem_append_right _ (List.mem_append_left _ hx))))
theorem hb199_39 : ∀ x ∈ mB199_39, mAt mC199 x.1 = some x.2 := fun x hx => mInc_at hi199 x (List.mem_append_right _ (List.mem_append_right _ (List.mem_append_right _ (List.mem_append_right _ (List.mem_append_left _ hx)))))
theorem hb199_43 : ∀ x ∈ mB199_43, mAt mC199 x.1 = some x.2 := fun x hx => mInc_at hi199 x (List.mem_append_right _ (List.mem_append_right _ (List.mem_append_right _ (List.mem_append_right _ (List.mem_append_right _ (List.mem_append_left _ hx))))))
theorem hb199_55 : ∀ x ∈ mB199_55, mAt mC199 x.1 = some x.2 := fun x hx => mInc_at hi199 x (List.mem_append_right _ (List.mem_append_right _ (List.mem_append_right _ (List.mem_append_right _ (List.mem_append_right _ (List.mem_append_right _ (List.mem_append_left _ hx)))))))
theorem hb199_59 : ∀ x ∈ mB199_59, mAt mC199 x.1 = some x.2 := fun x hx => mInc_at hi199 x (List.mem_append_right _ (List.mem_append_right _ (List.mem_append_right _ (List.mem_append_right _ (List.mem_append_right _ (List.mem_append_right _ (List.mem_append_right _ (List.mem_append_left _ hx))))))))
theorem hb199_61 : ∀ x ∈ mB199_61, mAt mC199 x.1 = some x.2 := fun x hx => mInc_at hi199 x (List.mem_append_right _ (List.mem_append_right _ (List.mem_append_right _ (List.mem_append_right _ (List.mem_append_right _ (List.mem_append_right _ (List.mem_append_right _ (List.mem_append_right _ hx))))))))
set_option maxRecDepth 8000 in
theorem hi200 : mInc mC200 = true := by decide +kernel
theorem hb200_0 : ∀ x ∈ mB200_0, mAt mC200 x.1 = some x.2 := fun x hx => mInc_at hi200 x (List.mem_append_left _ hx)
theorem hb200_68 : ∀ x ∈ mB200_68, mAt mC200 x.1 = some x.2 := fun x hx => mInc_at hi200 x (List.mem_append_right _ hx)
set_option maxRecDepth 8000 in
theorem hi201 : mInc mC201 = true := by decide +kernel
theorem hb201_0 : ∀ x ∈ mB201_0, mAt mC201 x.1 = some x.2 := fun x hx => mInc_at hi201 x hx
set_option maxRecDepth 8000 in
theorem hi202 : mInc mC202 = true := by decide +kernel
theorem hb202_0 : ∀ x ∈ mB202_0, mAt mC202 x.1 = some x.2 := fun x hx => mInc_at hi202 x (List.mem_append_left _ hx)
theorem hb202_8 : ∀ x ∈ mB202_8, mAt mC202 x.1 = some x.2 := fun x hx => mInc_at hi202 x (List.mem_append_right _ (List.mem_append_left _ hx))
theorem hb202_29 : ∀ x ∈ mB202_29, mAt mC202 x.1 = some x.2 := fun x hx => mInc_at hi202 x (List.mem_append_right _ (List.mem_append_right _ (List.mem_append_left _ hx)))
theorem hb202_45 : ∀ x ∈ mB202_45, mAt mC202 x.1 = some x.2 := fun x hx => mInc_at hi202 x (List.mem_append_right _ (List.mem_append_right _ (List.mem_append_right _ (List.mem_append_left _ hx))))
theorem hb202_74 : ∀ x ∈ mB202_74, mAt mC202 x.1 = some x.2 := fun x hx => mInc_at hi202 x (List.mem_append_right _ (List.mem_append_right _ (List.mem_append_right _ (List.mem_append_right _ (List.mem_append_left _ hx)))))
theorem hb202_79 : ∀ x ∈ mB202_79, mAt mC202 x.1 = some x.2 := fun x hx => mInc_at hi202 x (List.mem_append_right _ (List.mem_append_right _ (List.mem_append_right _ (List.mem_append_right _ (List.mem_append_right _ (List.mem_append_left _ hx))))))
theorem hb202_92 : ∀ x ∈ mB202_92, mAt mC202 x.1 = some x.2 := fun x hx => mInc_at hi202 x (List.mem_append_right _ (List.mem_append_right _ (List.mem_append_right _ (List.mem_append_right _ (List.mem_append_right _ (List.mem_append_right _ (List.mem_append_left _ hx)))))))
theorem hb202_97 : ∀ x ∈ mB202_97, mAt mC202 x.1 = some x.2 := fun x hx => mInc_at hi202 x (List.mem_append_right _ (List.mem_append_right _ (List.mem_append_right _ (List.mem_append_right _ (List.mem_append_right _ (List.mem_append_right _ (List.mem_append_right _ (List.mem_append_left _ hx))))))))
theorem hb202_108 : ∀ x ∈ mB202_108, mAt mC202 x.1 = some x.2 := fun x hx => mInc_at hi202 x (List.mem_append_right _ (List.mem_append_right _ (List.mem_append_right _ (List.mem_append_right _ (List.mem_append_right _ (List.mem_append_right _ (List.mem_append_right _ (List.mem_append_right _ hx))))))))
set_option maxRecDepth 8000 in
theorem hi203 : mInc mC203 = true := by decide +kernel
theorem hb203_0 : ∀ x ∈ mB203_0, mAt mC203 x.1 = some x.2 := fun x hx => mInc_at hi203 x (List.mem_append_left _ hx)
theorem hb203_30 : ∀ x ∈ mB203_30, mAt mC203 x.1 = some x.2 := fun x hx => mInc_at hi203 x (List.mem_append_right _ (List.mem_append_left _ hx))
theorem hb203_56 : ∀ x ∈ mB203_56, mAt mC203 x.1 = some x.2 := fun x hx => mInc_at hi203 x (List.mem_append_right _ (List.mem_append_right _ (List.mem_append_left _ hx)))
theorem hb203_60 : ∀ x ∈ mB203_60, mAt mC203 x.1 = some x.2 := fun x hx => mInc_at hi203 x (List.mem_append_right _ (List.mem_append_right _ (List.mem_append_right _ (List.mem_append_left _ hx))))
theorem hb203_61 : ∀ x ∈ mB203_61, mAt mC203 x.1 = some x.2 := fun x hx => mInc_at hi203 x (List.mem_append_right _ (List.mem_append_right _ (List.mem_append_right _ (List.mem_append_right _ hx))))
set_option maxRecDepth 8000 in
theorem hi204 : mInc mC204 = true := by decide +kernel
theorem hb204_0 : ∀ x ∈ mB204_0, mAt mC204 x.1 = some x.2 := fun x hx => mInc_at hi204 x (List.mem_append_left _ hx)
theorem hb204_4 : ∀ x ∈ mB204_4, mAt mC204 x.1 = some x.2 := fun x hx => mInc_at hi204 x (List.mem_append_right _ (List.mem_append_left _ hx))
theorem hb204_18 : ∀ x ∈ mB204_18, mAt mC204 x.1 = some x.2 := fun x hx => mInc_at hi204 x (List.mem_append_right _ (List.mem_append_right _ (List.mem_append_left _ hx)))
theorem hb204_50 : ∀ x ∈ mB204_50, mAt mC204 x.1 = some x.2 := fun x hx => mInc_at hi204 x (List.mem_append_right _ (List.mem_append_right _ (List.mem_append_right _ (List.mem_append_left _ hx))))
theorem hb204_63 : ∀ x ∈ mB204_63, mAt mC204 x.1 = some x.2 := fun x hx => mInc_at hi204 x (List.mem_append_right _ (List.mem_append_right _ (List.mem_append_right _ (List.mem_append_right _ (List.mem_append_left _ hx)))))
theorem hb204_75 : ∀ x ∈ mB204_75, mAt mC204 x.1 = some x.2 := fun x hx => mInc_at hi204 x (List.mem_append_right _ (List.mem_append_right _ (List.mem_append_right _ (List.mem_append_right _ (List.mem_append_right _ (List.mem_append_left _ hx))))))
theorem hb204_95 : ∀ x ∈ mB204_95, mAt mC204 x.1 = some x.2 := fun x hx => mInc_at hi204 x (List.mem_append_right _ (List.mem_append_right _ (List.mem_append_right _ (List.mem_append_right _ (List.mem_append_right _ (List.mem_append_right _ (List.mem_append_left _ hx)))))))
theorem hb204_96 : ∀ x ∈ mB204_96, mAt mC204 x.1 = some x.2 := fun x hx => mInc_at hi204 x (List.mem_append_right _ (List.mem_append_right _ (List.mem_append_right _ (List.mem_append_right _ (List.mem_append_right _ (List.mem_append_right _ (List.mem_append_right _ (List.mem_append_left _ hx))))))))
theorem hb204_117 : ∀ x ∈ mB204_117, mAt mC204 x.1 = some x.2 := fun x hx => mInc_at hi204 x (List.mem_append_right _ (List.mem_append_right _ (List.mem_append_right _ (List.mem_append_right _ (List.mem_append_right _ (List.mem_append_right _ (List.mem_append_right _ (List.mem_append_right _ (List.mem_append_left _ hx)))))))))
theorem hb204_120 : ∀ x ∈ mB204_120, mAt mC204 x.1 = some x.2 := fun x hx => mInc_at hi204 x (List.mem_append_right _ (List.mem_append_right _ (List.mem_append_right _ (List.mem_append_right _ (List.mem_append_right _ (List.mem_append_right _ (List.mem_append_right _ (List.mem_append_right _ (List.mem_append_right _ hx)))))))))
set_option maxRecDepth 8000 in
theorem hi205 : mInc mC205 = true := by decide +kernel
theorem hb205_0 : ∀ x ∈ mB205_0, mAt mC205 x.1 = some x.2 := fun x hx => mInc_at hi205 x (List.mem_append_left _ hx)
theorem hb205_7 : ∀ x ∈ mB205_7, mAt mC205 x.1 = some x.2 := fun x hx => mInc_at hi205 x (List.mem_append_right _ (List.mem_append_left _ hx))
theorem hb205_29 : ∀ x ∈ mB205_29, mAt mC205 x.1 = some x.2 := fun x hx => mInc_at hi205 x (List.mem_append_right _ (List.mem_append_right _ (List.mem_append_left _ hx)))
theorem hb205_37 : ∀ x ∈ mB205_37, mAt mC205 x.1 = some x.2 := fun x hx => mInc_at hi205 x (List.mem_append_right _ (List.mem_append_right _ (List.mem_append_right _ (List.mem_append_left _ hx))))
theorem hb205_38 : ∀ x ∈ mB205_38, mAt mC205 x.1 = some x.2 := fun x hx => mInc_at hi205 x (List.mem_append_right _ (List.mem_append_right _ (List.mem_append_right _ (List.mem_append_right _ hx))))
set_option maxRecDepth 8000 in
theorem hi206 : mInc mC206 = true := by decide +kernel
theorem hb206_0 : ∀ x ∈ mB206_0, mAt mC206 x.1 = some x.2 := fun x hx => mInc_at hi206 x hx
set_option maxRecDepth 8000 in
theorem hi207 : mInc mC207 = true := by decide +kernel
theorem hb207_0 : ∀ x ∈ mB207_0, mAt mC207 x.1 = some x.2 := fun x hx => mInc_at hi207 x (List.mem_append_left _ (List.mem_append_left _ hx))
theorem hb207_8 : ∀ x ∈ mB207_8, mAt mC207 x.1 = some x.2 := fun x hx => mInc_at hi207 x (List.mem_append_left _ (List.mem_append_right _ (List.mem_append_left _ hx)))
theorem hb207_39 : ∀ x ∈ mB207_39, mAt mC207 x.1 = some x.2 := fun x hx => mInc_at hi207 x (List.mem_append_left _ (List.mem_append_right _ (List.mem_append_right _ (List.mem_append_left _ hx))))
theorem hb207_70 : ∀ x ∈ mB207_70, mAt mC207 x.1 = some x.2 := fun x hx => mInc_at hi207 x (List.mem_append_left _ (List.mem_append_right _ (List.mem_append_right _ (List.mem_append_right _ (List.mem_append_left _ hx)))))
theorem hb207_82 : ∀ x ∈ mB207_82, mAt mC207 x.1 = some x.2 := fun x hx => mInc_at hi207 x (List.mem_append_left _ (List.mem_append_right _ (List.mem_append_right _ (List.mem_append_right _ (List.mem_append_right _ hx)))))
theorem hb207_83 : ∀ x ∈ mB207_83, mAt mC207 x.1 = some x.2 := fun x hx => mInc_at hi207 x (List.mem_append_right _ (List.mem_append_left _ (List.mem_append_left _ hx)))
theorem hb207_98 : ∀ x ∈ mB207_98, mAt mC207 x.1 = some x.2 := fun x hx => mInc_at hi207 x (List.mem_append_right _ (List.mem_append_left _ (List.mem_append_right _ (List.mem_append_left _ hx))))
theorem hb207_99 : ∀ x ∈ mB207_99, mAt mC207 x.1 = some x.2 := fun x hx => mInc_at hi207 x (List.mem_append_right _ (List.mem_append_left _ (List.mem_append_right _ (List.mem_append_right _ (List.mem_append_left _ hx)))))
theorem hb207_124 : ∀ x ∈ mB207_124, mAt mC207 x.1 = some x.2 := fun x hx => mInc_at hi207 x (List.mem_append_right _ (List.mem_append_left _ (List.mem_append_right _ (List.mem_append_right _ (List.mem_append_right _ (List.mem_append_left _ hx))))))
theorem hb207_142 : ∀ x ∈ mB207_142, mAt mC207 x.1 = some x.2 := fun x hx => mInc_at hi207 x (List.mem_append_right _ (List.mem_append_left _ (List.mem_append_right _ (List.mem_append_right _ (List.mem_append_right _ (List.mem_append_right _ (List.mem_append_left _ hx)))))))
theorem hb207_174 : ∀ x ∈ mB207_174, mAt mC207 x.1 = some x.2 := fun x hx => mInc_at hi207 x (List.mem_append_right _ (List.mem_append_left _ (List.mem_append_right _ (List.mem_append_right _ (List.mem_append_right _ (List.mem_append_right _ (List.mem_append_right _ hx)))))))
theorem hb207_176 : ∀ x ∈ mB207_176, mAt mC207 x.1 = some x.2 := fun x hx => mInc_at hi207 x (List.mem_append_right _ (List.mem_append_right _ (List.mem_append_left _ (List.mem_append_left _ hx))))
theorem hb207_201 : ∀ x ∈ mB207_201, mAt mC207 x.1 = some x.2 := fun x hx => mInc_at hi207 x (List.mem_append_right _ (List.mem_append_right _ (List.mem_append_left _ (List.mem_append_right _ (List.mem_append_left _ hx)))))
theorem hb207_219 : ∀ x ∈ mB207_219, mAt mC207 x.1 = some x.2 := fun x hx => mInc_at hi207 x (List.mem_append_right _ (List.mem_append_right _ (List.mem_append_left _ (List.mem_append_right _ (List.mem_append_right _ (List.mem_append_left _ hx))))))
theorem hb207_239 : ∀ x ∈ mB207_239, mAt mC207 x.1 = some x.2 := fun x hx => mInc_at hi207 x (List.mem_append_right _ (List.mem_append_right _ (List.mem_append_left _ (List.mem_append_right _ (List.mem_append_right _ (List.mem_append_right _ (List.mem_append_left _ hx)))))))
theorem hb207_241 : ∀ x ∈ mB207_241, mAt mC207 x.1 = some x.2 := fun x hx => mInc_at hi207 x (List.mem_append_right _ (List.mem_append_right _ (List.mem_append_left _ (List.mem_append_right _ (List.mem_append_right _ (List.mem_append_right _ (List.mem_append_right _ (List.mem_append_left _ hx))))))))
theorem hb207_256 : ∀ x ∈ mB207_256, mAt mC207 x.1 = some x.2 := fun x hx => mInc_at hi207 x (List.mem_append_right _ (List.mem_append_right _ (List.mem_append_left _ (List.mem_append_right _ (List.mem_append_right _ (List.mem_append_right _ (List.mem_append_right _ (List.mem_append_right _ hx))))))))
theorem hb207_274 : ∀ x ∈ mB207_274, mAt mC207 x.1 = some x.2 := fun x hx => mInc_at hi207 x (List.mem_append_right _ (List.mem_append_right _ (List.mem_append_right _ (List.mem_append_left _ hx))))
theorem hb207_295 : ∀ x ∈ mB207_295, mAt mC207 x.1 = some x.2 := fun x hx => mInc_at hi207 x (List.mem_append_right _ (List.mem_append_right _ (List.mem_append_right _ (List.mem_append_right _ (List.mem_append_left _ hx)))))
theorem hb207_297 : ∀ x ∈ mB207_297, mAt mC207 x.1 = some x.2 := fun x hx => mInc_at hi207 x (List.mem_append_right _ (List.mem_append_right _ (List.mem_append_right _ (List.mem_append_right _ (List.mem_append_right _ (List.mem_append_left _ hx))))))
theorem hb207_312 : ∀ x ∈ mB207_312, mAt mC207 x.1 = some x.2 := fun x hx => mInc_at hi207 x (List.mem_append_right _ (List.mem_append_right _ (List.mem_append_right _ (List.mem_append_right _ (List.mem_append_right _ (List.mem_append_right _ (List.mem_append_left _ hx)))))))
theorem hb207_335 : ∀ x ∈ mB207_335, mAt mC207 x.1 = some x.2 := fun x hx => mInc_at hi207 x (List.mem_append_right _ (List.mem_append_right _ (List.mem_append_right _ (List.mem_append_right _ (List.mem_append_right _ (List.mem_append_right _ (List.mem_append_right _ (List.mem_append_left _ hx))))))))
theorem hb207_337 : ∀ x ∈ mB207_337, mAt mC207 x.1 = some x.2 := fun x hx => mInc_at hi207 x (List.mem_append_right _ (List.mem_append_right _ (List.mem_append_right _ (List.mem_append_right _ (List.mem_append_right _ (List.mem_append_right _ (List.mem_append_right _ (List.mem_append_right _ (List.mem_append_left _ hx)))))))))
theorem hb207_340 : ∀ x ∈ mB207_340, mAt mC207 x.1 = some x.2 := fun x hx => mInc_at hi207 x (List.mem_append_right _ (List.mem_append_right _ (List.mem_append_right _ (List.mem_append_right _ (List.mem_append_right _ (List.mem_append_right _ (List.mem_append_right _ (List.mem_append_right _ (List.mem_append_right _ (List.mem_append_left _ hx))))))))))
theorem hb207_360 : ∀ x ∈ mB207_360, mAt mC207 x.1 = some x.2 := fun x hx => mInc_at hi207 x (List.mem_append_right _ (List.mem_append_right _ (List.mem_append_right _ (List.mem_append_right _ (List.mem_append_right _ (List.mem_append_right _ (List.mem_append_right _ (List.mem_append_right _ (List.mem_append_right _ (List.mem_append_right _ hx))))))))))
set_option maxRecDepth 8000 in
theorem hi208 : mInc mC208 = true := by decide +kernel
theorem hb208_0 : ∀ x ∈ mB208_0, mAt mC208 x.1 = some x.2 := fun x hx => mInc_at hi208 x (List.mem_append_left _ hx)
theorem hb208_17 : ∀ x ∈ mB208_17, mAt mC208 x.1 = some x.2 := fun x hx => mInc_at hi208 x (List.mem_append_right _ (List.mem_append_left _ hx))
theorem hb208_40 : ∀ x ∈ mB208_40, mAt mC208 x.1 = some x.2 := fun x hx => mInc_at hi208 x (List.mem_append_right _ (List.mem_append_right _ hx))
set_option maxRecDepth 8000 in
theorem hi209 : mInc mC209 = true := by decide +kernel
theorem hb209_0 : ∀ x ∈ mB209_0, mAt mC209 x.1 = some x.2 := fun x hx => mInc_at hi209 x (List.mem_append_left _ hx)
theorem hb209_40 : ∀ x ∈ mB209_40, mAt mC209 x.1 = some x.2 := fun x hx => mInc_at hi209 x (List.mem_append_right _ (List.mem_append_left _ hx))
theorem hb209_41 : ∀ x ∈ mB209_41, mAt mC209 x.1 = some x.2 := fun x hx => mInc_at hi209 x (List.mem_append_right _ (List.mem_append_right _ hx))
set_option maxRecDepth 8000 in
theorem hi210 : mInc mC210 = true := by decide +kernel
theorem hb210_0 : ∀ x ∈ mB210_0, mAt mC210 x.1 = some x.2 := fun x hx => mInc_at hi210 x (List.mem_append_left _ hx)
theorem hb210_16 : ∀ x ∈ mB210_16, mAt mC210 x.1 = some x.2 := fun x hx => mInc_at hi210 x (List.mem_append_right _ hx)
set_option maxRecDepth 8000 in
theorem hi211 : mInc mC211 = true := by decide +kernel
theorem hb211_0 : ∀ x ∈ mB211_0, mAt mC211 x.1 = some x.2 := fun x hx => mInc_at hi211 x (List.mem_append_left _ hx)
theorem hb211_14 : ∀ x ∈ mB211_14, mAt mC211 x.1 = some x.2 := fun x hx => mInc_at hi211 x (List.mem_append_right _ (List.mem_append_left _ hx))
theorem hb211_22 : ∀ x ∈ mB211_22, mAt mC211 x.1 = some x.2 := fun x hx => mInc_at hi211 x (List.mem_append_right _ (List.mem_append_right _ (List.mem_append_left _ hx)))
theorem hb211_35 : ∀ x ∈ mB211_35, mAt mC211 x.1 = some x.2 := fun x hx => mInc_at hi211 x (List.mem_append_right _ (List.mem_append_right _ (List.mem_append_right _ (List.mem_append_left _ hx))))
theorem hb211_61 : ∀ x ∈ mB211_61, mAt mC211 x.1 = some x.2 := fun x hx => mInc_at hi211 x (List.mem_append_right _ (List.mem_append_right _ (List.mem_append_right _ (List.mem_append_right _ (List.mem_append_left _ hx)))))
theorem hb211_75 : ∀ x ∈ mB211_75, mAt mC211 x.1 = some x.2 := fun x hx => mInc_at hi211 x (List.mem_append_right _ (List.mem_append_right _ (List.mem_append_right _ (List.mem_append_right _ (List.mem_append_right _ (List.mem_append_left _ hx))))))
theorem hb211_76 : ∀ x ∈ mB211_76, mAt mC211 x.1 = some x.2 := fun x hx => mInc_at hi211 x (List.mem_append_right _ (List.mem_append_right _ (List.mem_append_right _ (List.mem_append_right _ (List.mem_append_right _ (List.mem_append_right _ (List.mem_append_left _ hx)))))))
theorem hb211_94 : ∀ x ∈ mB211_94, mAt mC211 x.1 = some x.2 := fun x hx => mInc_at hi211 x (List.mem_append_right _ (List.mem_append_right _ (List.mem_append_right _ (List.mem_append_right _ (List.mem_append_right _ (List.mem_append_right _ (List.mem_append_right _ (List.mem_append_left _ hx))))))))
theorem hb211_95 : ∀ x ∈ mB211_95, mAt mC211 x.1 = some x.2 := fun x hx => mInc_at hi211 x (List.mem_append_right _ (List.mem_append_right _ (List.mem_append_right _ (List.mem_append_right _ (List.mem_append_right _ (List.mem_append_right _ (List.mem_append_right _ (List.mem_append_right _ (List.mem_append_left _ hx)))))))))
theorem hb211_109 : ∀ x ∈ mB211_109, mAt mC211 x.1 = some x.2 := fun x hx => mInc_at hi211 x (List.mem_append_right _ (List.mem_append_right _ (List.mem_append_right _ (List.mem_append_right _ (List.mem_append_right _ (List.mem_append_right _ (List.mem_append_right _ (List.mem_append_right _ (List.mem_append_right _ (List.mem_append_left _ hx))))))))))
theorem hb211_113 : ∀ x ∈ mB211_113, mAt mC211 x.1 = some x.2 := fun x hx => mInc_at hi211 x (List.mem_append_right _ (List.mem_append_right _ (List.mem_append_right _ (List.mem_append_right _ (List.mem_append_right _ (List.mem_append_right _ (List.mem_append_right _ (List.mem_append_right _ (List.mem_append_right _ (List.mem_append_right _ (List.mem_append_left _ hx)))))))))))
theorem hb211_114 : ∀ x ∈ mB211_114, mAt mC211 x.1 = some x.2 := fun x hx => mInc_at hi211 x (List.mem_append_right _ (List.mem_append_right _ (List.mem_append_right _ (List.mem_append_right _ (List.mem_append_right _ (List.mem_append_right _ (List.mem_append_right _ (List.mem_append_right _ (List.mem_append_right _ (List.mem_append_right _ (List.mem_append_right _ (List.mem_append_left _ hx))))))))))))
theorem hb211_134 : ∀ x ∈ mB211_134, mAt mC211 x.1 = some x.2 := fun x hx => mInc_at hi211 x (List.mem_append_right _ (List.mem_append_right _ (List.mem_append_right _ (List.mem_append_right _ (List.mem_append_right _ (List.mem_append_right _ (List.mem_append_right _ (List.mem_append_right _ (List.mem_append_right _ (List.mem_append_right _ (List.mem_append_right _ (List.mem_append_right _ hx))))))))))))
set_option maxRecDepth 8000 in
theorem hi212 : mInc mC212 = true := by decide +kernel
theorem hb212_0 : ∀ x ∈ mB212_0, mAt mC212 x.1 = some x.2 := fun x hx => mInc_at hi212 x (List.mem_append_left _ (List.mem_append_left _ hx))
theorem hb212_16 : ∀ x ∈ mB212_16, mAt mC212 x.1 = some x.2 := fun x hx => mInc_at hi212 x (List.mem_append_left _ (List.mem_append_right _ (List.mem_append_left _ hx)))
theorem hb212_45 : ∀ x ∈ mB212_45, mAt mC212 x.1 = some x.2 := fun x hx => mInc_at hi212 x (List.mem_append_left _ (List.mem_append_right _ (List.mem_append_right _ (List.mem_append_left _ hx))))
theorem hb212_49 : ∀ x ∈ mB212_49, mAt mC212 x.1 = some x.2 := fun x hx => mInc_at hi212 x (List.mem_append_left _ (List.mem_append_right _ (List.mem_append_right _ (List.mem_append_right _ (List.mem_append_left _ hx)))))
theorem hb212_63 : ∀ x ∈ mB212_63, mAt mC212 x.1 = some x.2 := fun x hx => mInc_at hi212 x (List.mem_append_left _ (List.mem_append_right _ (List.mem_append_right _ (List.mem_append_right _ (List.mem_append_right _ (List.mem_append_left _ hx))))))
theorem hb212_71 : ∀ x ∈ mB212_71, mAt mC212 x.1 = some x.2 := fun x hx => mInc_at hi212 x (List.mem_append_left _ (List.mem_append_right _ (List.mem_append_right _ (List.mem_append_right _ (List.mem_append_right _ (List.mem_append_right _ (List.mem_append_left _ hx)))))))
theorem hb212_86 : ∀ x ∈ mB212_86, mAt mC212 x.1 = some x.2 := fun x hx => mInc_at hi212 x (List.mem_append_left _ (List.mem_append_right _ (List.mem_append_right _ (List.mem_append_right _ (List.mem_append_right _ (List.mem_append_right _ (List.mem_append_right _ hx)))))))
theorem hb212_87 : ∀ x ∈ mB212_87, mAt mC212 x.1 = some x.2 := fun x hx => mInc_at hi212 x (List.mem_append_right _ (List.mem_append_left _ (List.mem_append_left _ hx)))
theorem hb212_121 : ∀ x ∈ mB212_121, mAt mC212 x.1 = some x.2 := fun x hx => mInc_at hi212 x (List.mem_append_right _ (List.mem_append_left _ (List.mem_append_right _ (List.mem_append_left _ hx))))
theorem hb212_140 : ∀ x ∈ mB212_140, mAt mC212 x.1 = some x.2 := fun x hx => mInc_at hi212 x (List.mem_append_right _ (List.mem_append_left _ (List.mem_append_right _ (List.mem_append_right _ (List.mem_append_left _ hx)))))
theorem hb212_143 : ∀ x ∈ mB212_143, mAt mC212 x.1 = some x.2 := fun x hx => mInc_at hi212 x (List.mem_append_right _ (List.mem_append_left _ (List.mem_append_right _ (List.mem_append_right _ (List.mem_append_right _ (List.mem_append_left _ hx))))))
theorem hb212_163 : ∀ x ∈ mB212_163, mAt mC212 x.1 = some x.2 := fun x hx => mInc_at hi212 x (List.mem_append_right _ (List.mem_append_left _ (List.mem_append_right _ (List.mem_append_right _ (List.mem_append_right _ (List.mem_append_right _ hx))))))
theorem hb212_171 : ∀ x ∈ mB212_171, mAt mC212 x.1 = some x.2 := fun x hx => mInc_at hi212 x (List.mem_append_right _ (List.mem_append_right _ (List.mem_append_left _ (List.mem_append_left _ hx))))
theorem hb212_224 : ∀ x ∈ mB212_224, mAt mC212 x.1 = some x.2 := fun x hx => mInc_at hi212 x (List.mem_append_right _ (List.mem_append_right _ (List.mem_append_left _ (List.mem_append_right _ (List.mem_append_left _ hx)))))
theorem hb212_249 : ∀ x ∈ mB212_249, mAt mC212 x.1 = some x.2 := fun x hx => mInc_at hi212 x (List.mem_append_right _ (List.mem_append_right _ (List.mem_append_left _ (List.mem_append_right _ (List.mem_append_right _ hx)))))
theorem hb212_269 : ∀ x ∈ mB212_269, mAt mC212 x.1 = some x.2 := fun x hx => mInc_at hi212 x (List.mem_append_right _ (List.mem_append_right _ (List.mem_append_right _ (List.mem_append_left _ (List.mem_append_left _ hx)))))
theorem hb212_277 : ∀ x ∈ mB212_277, mAt mC212 x.1 = some x.2 := fun x hx => mInc_at hi212 x (List.mem_append_right _ (List.mem_append_right _ (List.mem_append_right _ (List.mem_append_left _ (List.mem_append_right _ (List.mem_append_left _ hx))))))
theorem hb212_330 : ∀ x ∈ mB212_330, mAt mC212 x.1 = some x.2 := fun x hx => mInc_at hi212 x (List.mem_append_right _ (List.mem_append_right _ (List.mem_append_right _ (List.mem_append_left _ (List.mem_append_right _ (List.mem_append_right _ hx))))))
theorem hb212_359 : ∀ x ∈ mB212_359, mAt mC212 x.1 = some x.2 := fun x hx => mInc_at hi212 x (List.mem_append_right _ (List.mem_append_right _ (List.mem_append_right _ (List.mem_append_right _ (List.mem_append_left _ (List.mem_append_left _ hx))))))
theorem hb212_387 : ∀ x ∈ mB212_387, mAt mC212 x.1 = some x.2 := fun x hx => mInc_at hi212 x (List.mem_append_right _ (List.mem_append_right _ (List.mem_append_right _ (List.mem_append_right _ (List.mem_append_left _ (List.mem_append_right _ (List.mem_append_left _ hx)))))))
theorem hb212_400 : ∀ x ∈ mB212_400, mAt mC212 x.1 = some x.2 := fun x hx => mInc_at hi212 x (List.mem_append_right _ (List.mem_append_right _ (List.mem_append_right _ (List.mem_append_right _ (List.mem_append_left _ (List.mem_append_right _ (List.mem_append_right _ (List.mem_append_left _ hx))))))))
theorem hb212_415 : ∀ x ∈ mB212_415, mAt mC212 x.1 = some x.2 := fun x hx => mInc_at hi212 x (List.mem_append_right _ (List.mem_append_right _ (List.mem_append_right _ (List.mem_append_right _ (List.mem_append_left _ (List.mem_append_right _ (List.mem_append_right _ (List.mem_append_right _ (List.mem_append_left _ hx)))))))))
theorem hb212_432 : ∀ x ∈ mB212_432, mAt mC212 x.1 = some x.2 := fun x hx => mInc_at hi212 x (List.mem_append_right _ (List.mem_append_right _ (List.mem_append_right _ (List.mem_append_right _ (List.mem_append_left _ (List.mem_append_right _ (List.mem_append_right _ (List.mem_append_right _ (List.mem_append_right _ hx)))))))))
theorem hb212_447 : ∀ x ∈ mB212_447, mAt mC212 x.1 = some x.2 := fun x hx => mInc_at hi212 x (List.mem_append_right _ (List.mem_append_right _ (List.mem_append_right _ (List.mem_append_right _ (List.mem_append_right _ (List.mem_append_left _ (List.mem_append_left _ hx)))))))
theorem hb212_464 : ∀ x ∈ mB212_464, mAt mC212 x.1 = some x.2 := fun x hx => mInc_at hi212 x (List.mem_append_right _ (List.mem_append_right _ (List.mem_append_right _ (List.mem_append_right _ (List.mem_append_right _ (List.mem_append_left _ (List.mem_append_right _ (List.mem_append_left _ hx))))))))
theorem hb212_483 : ∀ x ∈ mB212_483, mAt mC212 x.1 = some x.2 := fun x hx => mInc_at hi212 x (List.mem_append_right _ (List.mem_append_right _ (List.mem_append_right _ (List.mem_append_right _ (List.mem_append_right _ (List.mem_append_left _ (List.mem_append_right _ (List.mem_append_right _ (List.mem_append_left _ hx)))))))))
theorem hb212_491 : ∀ x ∈ mB212_491, mAt mC212 x.1 = some x.2 := fun x hx => mInc_at hi212 x (List.mem_append_right _ (List.mem_append_right _ (List.mem_append_right _ (List.mem_append_right _ (List.mem_append_right _ (List.mem_append_left _ (List.mem_append_right _ (List.mem_append_right _ (List.mem_append_right _ (List.mem_append_left _ hx))))))))))
theorem hb212_529 : ∀ x ∈ mB212_529, mAt mC212 x.1 = some x.2 := fun x hx => mInc_at hi212 x (List.mem_append_right _ (List.mem_append_right _ (List.mem_append_right _ (List.mem_append_right _ (List.mem_append_right _ (List.mem_append_left _ (List.mem_append_right _ (List.mem_append_right _ (List.mem_append_right _ (List.mem_append_right _ hx))))))))))
theorem hb212_534 : ∀ x ∈ mB212_534, mAt mC212 x.1 = some x.2 := fun x hx => mInc_at hi212 x (List.mem_append_right _ (List.mem_append_right _ (List.mem_append_right _ (List.mem_append_right _ (List.mem_append_right _ (List.mem_append_right _ hx))))))
set_option maxRecDepth 8000 in
theorem hi213 : mInc mC213 = true := by decide +kernel
theorem hb213_0 : ∀ x ∈ mB213_0, mAt mC213 x.1 = some x.2 := fun x hx => mInc_at hi213 x (List.mem_append_left _ (List.mem_append_left _ hx))
theorem hb213_22 : ∀ x ∈ mB213_22, mAt mC213 x.1 = some x.2 := fun x hx => mInc_at hi213 x (List.mem_append_left _ (List.mem_append_right _ (List.mem_append_left _ hx)))
theorem hb213_23 : ∀ x ∈ mB213_23, mAt mC213 x.1 = some x.2 := fun x hx => mInc_at hi213 x (List.mem_append_left _ (List.mem_append_right _ (List.mem_append_right _ hx)))
theorem hb213_32 : ∀ x ∈ mB213_32, mAt mC213 x.1 = some x.2 := fun x hx => mInc_at hi213 x (List.mem_append_right _ (List.mem_append_left _ hx))
theorem hb213_137 : ∀ x ∈ mB213_137, mAt mC213 x.1 = some x.2 := fun x hx => mInc_at hi213 x (List.mem_append_right _ (List.mem_append_right _ (List.mem_append_left _ (List.mem_append_left _ hx))))
theorem hb213_163 : ∀ x ∈ mB213_163, mAt mC213 x.1 = some x.2 := fun x hx => mInc_at hi213 x (List.mem_append_right _ (List.mem_append_right _ (List.mem_append_left _ (List.mem_append_right _ (List.mem_append_left _ hx)))))
theorem hb213_211 : ∀ x ∈ mB213_211, mAt mC213 x.1 = some x.2 := fun x hx => mInc_at hi213 x (List.mem_append_right _ (List.mem_append_right _ (List.mem_append_left _ (List.mem_append_right _ (List.mem_append_right _ hx)))))
theorem hb213_232 : ∀ x ∈ mB213_232, mAt mC213 x.1 = some x.2 := fun x hx => mInc_at hi213 x (List.mem_append_right _ (List.mem_append_right _ (List.mem_append_right _ (List.mem_append_left _ hx))))
theorem hb213_254 : ∀ x ∈ mB213_254, mAt mC213 x.1 = some x.2 := fun x hx => mInc_at hi213 x (List.mem_append_right _ (List.mem_append_right _ (List.mem_append_right _ (List.mem_append_right _ (List.mem_append_left _ hx)))))
theorem hb213_408 : ∀ x ∈ mB213_408, mAt mC213 x.1 = some x.2 := fun x hx => mInc_at hi213 x (List.mem_append_right _ (List.mem_append_right _ (List.mem_append_right _ (List.mem_append_right _ (List.mem_append_right _ (List.mem_append_left _ hx))))))
theorem hb213_464 : ∀ x ∈ mB213_464, mAt mC213 x.1 = some x.2 := fun x hx => mInc_at hi213 x (List.mem_append_right _ (List.mem_append_right _ (List.mem_append_right _ (List.mem_append_right _ (List.mem_append_right _ (List.mem_append_right _ hx))))))
set_option maxRecDepth 8000 in
theorem hi214 : mInc mC214 = true := by decide +kernel
theorem hb214_0 : ∀ x ∈ mB214_0, mAt mC214 x.1 = some x.2 := fun x hx => mInc_at hi214 x hx
set_option maxRecDepth 8000 in
theorem hi215 : mInc mC215 = true := by decide +kernel
theorem hb215_0 : ∀ x ∈ mB215_0, mAt mC215 x.1 = some x.2 := fun x hx => mInc_at hi215 x (List.mem_append_left _ hx)
theorem hb215_12 : ∀ x ∈ mB215_12, mAt mC215 x.1 = some x.2 := fun x hx => mInc_at hi215 x (List.mem_append_right _ (List.mem_append_left _ hx))
theorem hb215_40 : ∀ x ∈ mB215_40, mAt mC215 x.1 = some x.2 := fun x hx => mInc_at hi215 x (List.mem_append_right _ (List.mem_append_right _ (List.mem_append_left _ hx)))
theorem hb215_50 : ∀ x ∈ mB215_50, mAt mC215 x.1 = some x.2 := fun x hx => mInc_at hi215 x (List.mem_append_right _ (List.mem_append_right _ (List.mem_append_right _ (List.mem_append_left _ hx))))
theorem hb215_52 : ∀ x ∈ mB215_52, mAt mC215 x.1 = some x.2 := fun x hx => mInc_at hi215 x (List.mem_append_right _ (List.mem_append_right _ (List.mem_append_right _ (List.mem_append_right _ (List.mem_append_left _ hx)))))
theorem hb215_84 : ∀ x ∈ mB215_84, mAt mC215 x.1 = some x.2 := fun x hx => mInc_at hi215 x (List.mem_append_right _ (List.mem_append_right _ (List.mem_append_right _ (List.mem_append_right _ (List.mem_append_right _ hx)))))
set_option maxRecDepth 8000 in
theorem hi216 : mInc mC216 = true := by decide +kernel
theorem hb216_0 : ∀ x ∈ mB216_0, mAt mC216 x.1 = some x.2 := fun x hx => mInc_at hi216 x hx
set_option maxRecDepth 8000 in
theorem hi217 : mInc mC217 = true := by decide +kernel
theorem hb217_0 : ∀ x ∈ mB217_0, mAt mC217 x.1 = some x.2 := fun x hx => mInc_at hi217 x (List.mem_append_left _ hx)
theorem hb217_14 : ∀ x ∈ mB217_14, mAt mC217 x.1 = some x.2 := fun x hx => mInc_at hi217 x (List.mem_append_right _ (List.mem_append_left _ hx))
theorem hb217_26 : ∀ x ∈ mB217_26, mAt mC217 x.1 = some x.2 := fun x hx => mInc_at hi217 x (List.mem_append_right _ (List.mem_append_right _ (List.mem_append_left _ hx)))
theorem hb217_58 : ∀ x ∈ mB217_58, mAt mC217 x.1 = some x.2 := fun x hx => mInc_at hi217 x (List.mem_append_right _ (List.mem_append_right _ (List.mem_append_right _ hx)))
set_option maxRecDepth 8000 in
theorem hi218 : mInc mC218 = true := by decide +kernel
theorem hb218_0 : ∀ x ∈ mB218_0, mAt mC218 x.1 = some x.2 := fun x hx => mInc_at hi218 x hx
set_option maxRecDepth 8000 in
theorem hi219 : mInc mC219 = true := by decide +kernel
theorem hb219_0 : ∀ x ∈ mB219_0, mAt mC219 x.1 = some x.2 := fun x hx => mInc_at hi219 x (List.mem_append_left _ hx)
theorem hb219_4 : ∀ x ∈ mB219_4, mAt mC219 x.1 = some x.2 := fun x hx => mInc_at hi219 x (List.mem_append_right _ (List.mem_append_left _ hx))
theorem hb219_30 : ∀ x ∈ mB219_30, mAt mC219 x.1 = some x.2 := fun x hx => mInc_at hi219 x (List.mem_append_right _ (List.mem_append_right _ hx))
set_option maxRecDepth 8000 in
theorem hi220 : mInc mC220 = true := by decide +kernel
theorem hb220_0 : ∀ x ∈ mB220_0, mAt mC220 x.1 = some x.2 := fun x hx => mInc_at hi220 x (List.mem_append_left _ hx)
theorem hb220_44 : ∀ x ∈ mB220_44, mAt mC220 x.1 = some x.2 := fun x hx => mInc_at hi220 x (List.mem_append_right _ (List.mem_append_left _ hx))
theorem hb220_56 : ∀ x ∈ mB220_56, mAt mC220 x.1 = some x.2 := fun x hx => mInc_at hi220 x (List.mem_append_right _ (List.mem_append_right _ (List.mem_append_left _ hx)))
theorem hb220_57 : ∀ x ∈ mB220_57, mAt mC220 x.1 = some x.2 := fun x hx => mInc_at hi220 x (List.mem_append_right _ (List.mem_append_right _ (List.mem_append_right _ (List.mem_append_left _ hx))))
theorem hb220_58 : ∀ x ∈ mB220_58, mAt mC220 x.1 = some x.2 := fun x hx => mInc_at hi220 x (List.mem_append_right _ (List.mem_append_right _ (List.mem_append_right _ (List.mem_append_right _ (List.mem_append_left _ hx)))))
theorem hb220_66 : ∀ x ∈ mB220_66, mAt mC220 x.1 = some x.2 := fun x hx => mInc_at hi220 x (List.mem_append_right _ (List.mem_append_right _ (List.mem_append_right _ (List.mem_append_right _ (List.mem_append_right _ (List.mem_append_left _ hx))))))
theorem hb220_70 : ∀ x ∈ mB220_70, mAt mC220 x.1 = some x.2 := fun x hx => mInc_at hi220 x (List.mem_append_right _ (List.mem_append_right _ (List.mem_append_right _ (List.mem_append_right _ (List.mem_append_right _ (List.mem_append_right _ (List.mem_append_left _ hx)))))))
theorem hb220_71 : ∀ x ∈ mB220_71, mAt mC220 x.1 = some x.2 := fun x hx => mInc_at hi220 x (List.mem_append_right _ (List.mem_append_right _ (List.mem_append_right _ (List.mem_append_right _ (List.mem_append_right _ (List.mem_append_right _ (List.mem_append_right _ (List.mem_append_left _ hx))))))))
theorem hb220_72 : ∀ x ∈ mB220_72, mAt mC220 x.1 = some x.2 := fun x hx => mInc_at hi220 x (List.mem_append_right _ (List.mem_append_right _ (List.mem_append_right _ (List.mem_append_right _ (List.mem_append_right _ (List.mem_append_right _ (List.mem_append_right _ (List.mem_append_right _ (List.mem_append_left _ hx)))))))))
theorem hb220_81 : ∀ x ∈ mB220_81, mAt mC220 x.1 = some x.2 := fun x hx => mInc_at hi220 x (List.mem_append_right _ (List.mem_append_right _ (List.mem_append_right _ (List.mem_append_right _ (List.mem_append_right _ (List.mem_append_right _ (List.mem_append_right _ (List.mem_append_right _ (List.mem_append_right _ (List.mem_append_left _ hx))))))))))
theorem hb220_82 : ∀ x ∈ mB220_82, mAt mC220 x.1 = some x.2 := fun x hx => mInc_at hi220 x (List.mem_append_right _ (List.mem_append_right _ (List.mem_append_right _ (List.mem_append_right _ (List.mem_append_right _ (List.mem_append_right _ (List.mem_append_right _ (List.mem_append_right _ (List.mem_append_right _ (List.mem_append_right _ (List.mem_append_left _ hx)))))))))))
theorem hb220_83 : ∀ x ∈ mB220_83, mAt mC220 x.1 = some x.2 := fun x hx => mInc_at hi220 x (List.mem_append_right _ (List.mem_append_right _ (List.mem_append_right _ (List.mem_append_right _ (List.mem_append_right _ (List.mem_append_right _ (List.mem_append_right _ (List.mem_append_right _ (List.mem_append_right _ (List.mem_append_right _ (List.mem_append_right _ (List.mem_append_left _ hx))))))))))))
theorem hb220_92 : ∀ x ∈ mB220_92, mAt mC220 x.1 = some x.2 := fun x hx => mInc_at hi220 x (List.mem_append_right _ (List.mem_append_right _ (List.mem_append_right _ (List.mem_append_right _ (List.mem_append_right _ (List.mem_append_right _ (List.mem_append_right _ (List.mem_append_right _ (List.mem_append_right _ (List.mem_append_right _ (List.mem_append_right _ (List.mem_append_right _ (List.mem_append_left _ hx)))))))))))))
theorem hb220_93 : ∀ x ∈ mB220_93, mAt mC220 x.1 = some x.2 := fun x hx => mInc_at hi220 x (List.mem_append_right _ (List.mem_append_right _ (List.mem_append_right _ (List.mem_append_right _ (List.mem_append_right _ (List.mem_append_right _ (List.mem_append_right _ (List.mem_append_right _ (List.mem_append_right _ (List.mem_append_right _ (List.mem_append_right _ (List.mem_append_right _ (List.mem_append_right _ (List.mem_append_left _ hx))))))))))))))
theorem hb220_94 : ∀ x ∈ mB220_94, mAt mC220 x.1 = some x.2 := fun x hx => mInc_at hi220 x (List.mem_append_right _ (List.mem_append_right _ (List.mem_append_right _ (List.mem_append_right _ (List.mem_append_right _ (List.mem_append_right _ (List.mem_append_right _ (List.mem_append_right _ (List.mem_append_right _ (List.mem_append_right _ (List.mem_append_right _ (List.mem_append_right _ (List.mem_append_right _ (List.mem_append_right _ (List.mem_append_left _ hx)))))))))))))))
theorem hb220_98 : ∀ x ∈ mB220_98, mAt mC220 x.1 = some x.2 := fun x hx => mInc_at hi220 x (List.mem_append_right _ (List.mem_append_right _ (List.mem_append_right _ (List.mem_append_right _ (List.mem_append_right _ (List.mem_append_right _ (List.mem_append_right _ (List.mem_append_right _ (List.mem_append_right _ (List.mem_append_right _ (List.mem_append_right _ (List.mem_append_right _ (List.mem_append_right _ (List.mem_append_right _ (List.mem_append_right _ (List.mem_append_left _ hx))))))))))))))))
theorem hb220_102 : ∀ x ∈ mB220_102, mAt mC220 x.1 = some x.2 := fun x hx => mInc_at hi220 x (List.mem_append_right _ (List.mem_append_right _ (List.mem_append_right _ (List.mem_append_right _ (List.mem_append_right _ (List.mem_append_right _ (List.mem_append_right _ (List.mem_append_right _ (List.mem_append_right _ (List.mem_append_right _ (List.mem_append_right _ (List.mem_append_right _ (List.mem_append_right _ (List.mem_append_right _ (List.mem_append_right _ (List.mem_append_right _ (List.mem_append_left _ hx)))))))))))))))))
theorem hb220_106 : ∀ x ∈ mB220_106, mAt mC220 x.1 = some x.2 := fun x hx => mInc_at hi220 x (List.mem_append_right _ (List.mem_append_right _ (List.mem_append_right _ (List.mem_append_right _ (List.mem_append_right _ (List.mem_append_right _ (List.mem_append_right _ (List.mem_append_right _ (List.mem_append_right _ (List.mem_append_right _ (List.mem_append_right _ (List.mem_append_right _ (List.mem_append_right _ (List.mem_append_right _ (List.mem_append_right _ (List.mem_append_right _ (List.mem_append_right _ (List.mem_append_left _ hx))))))))))))))))))
theorem hb220_114 : ∀ x ∈ mB220_114, mAt mC220 x.1 = some x.2 := fun x hx => mInc_at hi220 x (List.mem_append_right _ (List.mem_append_right _ (List.mem_append_right _ (List.mem_append_right _ (List.mem_append_right _ (List.mem_append_right _ (List.mem_append_right _ (List.mem_append_right _ (List.mem_append_right _ (List.mem_append_right _ (List.mem_append_right _ (List.mem_append_right _ (List.mem_append_right _ (List.mem_append_right _ (List.mem_append_right _ (List.mem_append_right _ (List.mem_append_right _ (List.mem_append_right _ (List.mem_append_left _ hx)))))))))))))))))))
theorem hb220_117 : ∀ x ∈ mB220_117, mAt mC220 x.1 = some x.2 := fun x hx => mInc_at hi220 x (List.mem_append_right _ (List.mem_append_right _ (List.mem_append_right _ (List.mem_append_right _ (List.mem_append_right _ (List.mem_append_right _ (List.mem_append_right _ (List.mem_append_right _ (List.mem_append_right _ (List.mem_append_right _ (List.mem_append_right _ (List.mem_append_right _ (List.mem_append_right _ (List.mem_append_right _ (List.mem_append_right _ (List.mem_append_right _ (List.mem_append_right _ (List.mem_append_right _ (List.mem_append_right _ hx)))))))))))))))))))
set_option maxRecDepth 8000 in
theorem hi221 : mInc mC221 = true := by decide +kernel
theorem hb221_0 : ∀ x ∈ mB221_0, mAt mC221 x.1 = some x.2 := fun x hx => mInc_at hi221 x (List.mem_append_left _ hx)
theorem hb221_4 : ∀ x ∈ mB221_4, mAt mC221 x.1 = some x.2 := fun x hx => mInc_at hi221 x (List.mem_append_right _ (List.mem_append_left _ hx))
theorem hb221_36 : ∀ x ∈ mB221_36, mAt mC221 x.1 = some x.2 := fun x hx => mInc_at hi221 x (List.mem_append_right _ (List.mem_append_right _ (List.mem_append_left _ hx)))
theorem hb221_56 : ∀ x ∈ mB221_56, mAt mC221 x.1 = some x.2 := fun x hx => mInc_at hi221 x (List.mem_append_right _ (List.mem_append_right _ (List.mem_append_right _ (List.mem_append_left _ hx))))
theorem hb221_67 : ∀ x ∈ mB221_67, mAt mC221 x.1 = some x.2 := fun x hx => mInc_at hi221 x (List.mem_append_right _ (List.mem_append_right _ (List.mem_append_right _ (List.mem_append_right _ (List.mem_append_left _ hx)))))
theorem hb221_77 : ∀ x ∈ mB221_77, mAt mC221 x.1 = some x.2 := fun x hx => mInc_at hi221 x (List.mem_append_right _ (List.mem_append_right _ (List.mem_append_right _ (List.mem_append_right _ (List.mem_append_right _ (List.mem_append_left _ hx))))))
theorem hb221_105 : ∀ x ∈ mB221_105, mAt mC221 x.1 = some x.2 := fun x hx => mInc_at hi221 x (List.mem_append_right _ (List.mem_append_right _ (List.mem_append_right _ (List.mem_append_right _ (List.mem_append_right _ (List.mem_append_right _ (List.mem_append_left _ hx)))))))
theorem hb221_106 : ∀ x ∈ mB221_106, mAt mC221 x.1 = some x.2 := fun x hx => mInc_at hi221 x (List.mem_append_right _ (List.mem_append_right _ (List.mem_append_right _ (List.mem_append_right _ (List.mem_append_right _ (List.mem_append_right _ (List.mem_append_right _ (List.mem_append_left _ hx))))))))
theorem hb221_110 : ∀ x ∈ mB221_110, mAt mC221 x.1 = some x.2 := fun x hx => mInc_at hi221 x (List.mem_append_right _ (List.mem_append_right _ (List.mem_append_right _ (List.mem_append_right _ (List.mem_append_right _ (List.mem_append_right _ (List.mem_append_right _ (List.mem_append_right _ (List.mem_append_left _ hx)))))))))
theorem hb221_140 : ∀ x ∈ mB221_140, mAt mC221 x.1 = some x.2 := fun x hx => mInc_at hi221 x (List.mem_append_right _ (List.mem_append_right _ (List.mem_append_right _ (List.mem_append_right _ (List.mem_append_right _ (List.mem_append_right _ (List.mem_append_right _ (List.mem_append_right _ (List.mem_append_right _ (List.mem_append_left _ hx))))))))))
theorem hb221_143 : ∀ x ∈ mB221_143, mAt mC221 x.1 = some x.2 := fun x hx => mInc_at hi221 x (List.mem_append_right _ (List.mem_append_right _ (List.mem_append_right _ (List.mem_append_right _ (List.mem_append_right _ (List.mem_append_right _ (List.mem_append_right _ (List.mem_append_right _ (List.mem_append_right _ (List.mem_append_right _ hx))))))))))
set_option maxRecDepth 8000 in
theorem hi222 : mInc mC222 = true := by decide +kernel
theorem hb222_0 : ∀ x ∈ mB222_0, mAt mC222 x.1 = some x.2 := fun x hx => mInc_at hi222 x hx
set_option maxRecDepth 8000 in
theorem hi223 : mInc mC223 = true := by decide +kernel
theorem hb223_0 : ∀ x ∈ mB223_0, mAt mC223 x.1 = some x.2 := fun x hx => mInc_at hi223 x (List.mem_append_left _ hx)
theorem hb223_4 : ∀ x ∈ mB223_4, mAt mC223 x.1 = some x.2 := fun x hx => mInc_at hi223 x (List.mem_append_right _ (List.mem_append_left _ hx))
theorem hb223_31 : ∀ x ∈ mB223_31, mAt mC223 x.1 = some x.2 := fun x hx => mInc_at hi223 x (List.mem_append_right _ (List.mem_append_right _ (List.mem_append_left _ hx)))
theorem hb223_32 : ∀ x ∈ mB223_32, mAt mC223 x.1 = some x.2 := fun x hx => mInc_at hi223 x (List.mem_append_right _ (List.mem_append_right _ (List.mem_append_right _ (List.mem_append_left _ hx))))
theorem hb223_40 : ∀ x ∈ mB223_40, mAt mC223 x.1 = some x.2 := fun x hx => mInc_at hi223 x (List.mem_append_right _ (List.mem_append_right _ (List.mem_append_right _ (List.mem_append_right _ hx))))
set_option maxRecDepth 8000 in
theorem hi224 : mInc mC224 = true := by decide +kernel
theorem hb224_0 : ∀ x ∈ mB224_0, mAt mC224 x.1 = some x.2 := fun x hx => mInc_at hi224 x (List.mem_append_left _ hx)
theorem hb224_62 : ∀ x ∈ mB224_62, mAt mC224 x.1 = some x.2 := fun x hx => mInc_at hi224 x (List.mem_append_right _ (List.mem_append_left _ hx))
theorem hb224_63 : ∀ x ∈ mB224_63, mAt mC224 x.1 = some x.2 := fun x hx => mInc_at hi224 x (List.mem_append_right _ (List.mem_append_right _ hx))
set_option maxRecDepth 8000 in
theorem hi225 : mInc mC225 = true := by decide +kernel
theorem hb225_0 : ∀ x ∈ mB225_0, mAt mC225 x.1 = some x.2 := fun x hx => mInc_at hi225 x (List.mem_append_left _ hx)
theorem hb225_39 : ∀ x ∈ mB225_39, mAt mC225 x.1 = some x.2 := fun x hx => mInc_at hi225 x (List.mem_append_right _ (List.mem_append_left _ hx))
theorem hb225_48 : ∀ x ∈ mB225_48, mAt mC225 x.1 = some x.2 := fun x hx => mInc_at hi225 x (List.mem_append_right _ (List.mem_append_right _ (List.mem_append_left _ hx)))
theorem hb225_59 : ∀ x ∈ mB225_59, mAt mC225 x.1 = some x.2 := fun x hx => mInc_at hi225 x (List.mem_append_right _ (List.mem_append_right _ (List.mem_append_right _ (List.mem_append_left _ hx))))
theorem hb225_60 : ∀ x ∈ mB225_60, mAt mC225 x.1 = some x.2 := fun x hx => mInc_at hi225 x (List.mem_append_right _ (List.mem_append_right _ (List.mem_append_right _ (List.mem_append_right _ hx))))
set_option maxRecDepth 8000 in
theorem hi226 : mInc mC226 = true := by decide +kernel
theorem hb226_0 : ∀ x ∈ mB226_0, mAt mC226 x.1 = some x.2 := fun x hx => mInc_at hi226 x (List.mem_append_left _ hx)
theorem hb226_51 : ∀ x ∈ mB226_51, mAt mC226 x.1 = some x.2 := fun x hx => mInc_at hi226 x (List.mem_append_right _ (List.mem_append_left _ hx))
theorem hb226_59 : ∀ x ∈ mB226_59, mAt mC226 x.1 = some x.2 := fun x hx => mInc_at hi226 x (List.mem_append_right _ (List.mem_append_right _ (List.mem_append_left _ hx)))
theorem hb226_70 : ∀ x ∈ mB226_70, mAt mC226 x.1 = some x.2 := fun x hx => mInc_at hi226 x (List.mem_append_right _ (List.mem_append_right _ (List.mem_append_right _ (List.mem_append_left _ hx))))
theorem hb226_71 : ∀ x ∈ mB226_71, mAt mC226 x.1 = some x.2 := fun x hx => mInc_at hi226 x (List.mem_append_right _ (List.mem_append_right _ (List.mem_append_right _ (List.mem_append_right _ hx))))
set_option maxRecDepth 8000 in
theorem hi227 : mInc mC227 = true := by decide +kernel
theorem hb227_0 : ∀ x ∈ mB227_0, mAt mC227 x.1 = some x.2 := fun x hx => mInc_at hi227 x (List.mem_append_left _ hx)
theorem hb227_8 : ∀ x ∈ mB227_8, mAt mC227 x.1 = some x.2 := fun x hx => mInc_at hi227 x (List.mem_append_right _ (List.mem_append_left _ hx))
theorem hb227_54 : ∀ x ∈ mB227_54, mAt mC227 x.1 = some x.2 := fun x hx => mInc_at hi227 x (List.mem_append_right _ (List.mem_append_right _ (List.mem_append_left _ hx)))
theorem hb227_96 : ∀ x ∈ mB227_96, mAt mC227 x.1 = some x.2 := fun x hx => mInc_at hi227 x (List.mem_append_right _ (List.mem_append_right _ (List.mem_append_right _ (List.mem_append_left _ hx))))
theorem hb227_99 : ∀ x ∈ mB227_99, mAt mC227 x.1 = some x.2 := fun x hx => mInc_at hi227 x (List.mem_append_right _ (List.mem_append_right _ (List.mem_append_right _ (List.mem_append_right _ (List.mem_append_left _ hx)))))
theorem hb227_138 : ∀ x ∈ mB227_138, mAt mC227 x.1 = some x.2 := fun x hx => mInc_at hi227 x (List.mem_append_right _ (List.mem_append_right _ (List.mem_append_right _ (List.mem_append_right _ (List.mem_append_right _ (List.mem_append_left _ hx))))))
theorem hb227_144 : ∀ x ∈ mB227_144, mAt mC227 x.1 = some x.2 := fun x hx => mInc_at hi227 x (List.mem_append_right _ (List.mem_append_right _ (List.mem_append_right _ (List.mem_append_right _ (List.mem_append_right _ (List.mem_append_right _ hx))))))
set_option maxRecDepth 8000 in
theorem hi228 : mInc mC228 = true := by decide +kernel
theorem hb228_0 : ∀ x ∈ mB228_0, mAt mC228 x.1 = some x.2 := fun x hx => mInc_at hi228 x hx
set_option maxRecDepth 8000 in
theorem hi229 : mInc mC229 = true := by decide +kernel
theorem hb229_0 : ∀ x ∈ mB229_0, mAt mC229 x.1 = some x.2 := fun x hx => mInc_at hi229 x (List.mem_append_left _ hx)
theorem hb229_5 : ∀ x ∈ mB229_5, mAt mC229 x.1 = some x.2 := fun x hx => mInc_at hi229 x (List.mem_append_right _ (List.mem_append_left _ hx))
theorem hb229_43 : ∀ x ∈ mB229_43, mAt mC229 x.1 = some x.2 := fun x hx => mInc_at hi229 x (List.mem_append_right _ (List.mem_append_right _ (List.mem_append_left _ hx)))
theorem hb229_55 : ∀ x ∈ mB229_55, mAt mC229 x.1 = some x.2 := fun x hx => mInc_at hi229 x (List.mem_append_right _ (List.mem_append_right _ (List.mem_append_right _ (List.mem_append_left _ hx))))
theorem hb229_57 : ∀ x ∈ mB229_57, mAt mC229 x.1 = some x.2 := fun x hx => mInc_at hi229 x (List.mem_append_right _ (List.mem_append_right _ (List.mem_append_right _ (List.mem_append_right _ (List.mem_append_left _ hx)))))
theorem hb229_72 : ∀ x ∈ mB229_72, mAt mC229 x.1 = some x.2 := fun x hx => mInc_at hi229 x (List.mem_append_right _ (List.mem_append_right _ (List.mem_append_right _ (List.mem_append_right _ (List.mem_append_right _ (List.mem_append_left _ hx))))))
theorem hb229_88 : ∀ x ∈ mB229_88, mAt mC229 x.1 = some x.2 := fun x hx => mInc_at hi229 x (List.mem_append_right _ (List.mem_append_right _ (List.mem_append_right _ (List.mem_append_right _ (List.mem_append_right _ (List.mem_append_right _ (List.mem_append_left _ hx)))))))
theorem hb229_113 : ∀ x ∈ mB229_113, mAt mC229 x.1 = some x.2 := fun x hx => mInc_at hi229 x (List.mem_append_right _ (List.mem_append_right _ (List.mem_append_right _ (List.mem_append_right _ (List.mem_append_right _ (List.mem_append_right _ (List.mem_append_right _ (List.mem_append_left _ hx))))))))
theorem hb229_128 : ∀ x ∈ mB229_128, mAt mC229 x.1 = some x.2 := fun x hx => mInc_at hi229 x (List.mem_append_right _ (List.mem_append_right _ (List.mem_append_right _ (List.mem_append_right _ (List.mem_append_right _ (List.mem_append_right _ (List.mem_append_right _ (List.mem_append_right _ hx))))))))
set_option maxRecDepth 8000 in
theorem hi230 : mInc mC230 = true := by decide +kernel
theorem hb230_0 : ∀ x ∈ mB230_0, mAt mC230 x.1 = some x.2 := fun x hx => mInc_at hi230 x (List.mem_append_left _ hx)
theorem hb230_24 : ∀ x ∈ mB230_24, mAt mC230 x.1 = some x.2 := fun x hx => mInc_at hi230 x (List.mem_append_right _ (List.mem_append_left _ hx))
theorem hb230_29 : ∀ x ∈ mB230_29, mAt mC230 x.1 = some x.2 := fun x hx => mInc_at hi230 x (List.mem_append_right _ (List.mem_append_right _ hx))
set_option maxRecDepth 8000 in
theorem hi231 : mInc mC231 = true := by decide +kernel
theorem hb231_0 : ∀ x ∈ mB231_0, mAt mC231 x.1 = some x.2 := fun x hx => mInc_at hi231 x (List.mem_append_left _ hx)
theorem hb231_11 : ∀ x ∈ mB231_11, mAt mC231 x.1 = some x.2 := fun x hx => mInc_at hi231 x (List.mem_append_right _ (List.mem_append_left _ hx))
theorem hb231_28 : ∀ x ∈ mB231_28, mAt mC231 x.1 = some x.2 := fun x hx => mInc_at hi231 x (List.mem_append_right _ (List.mem_append_right _ (List.mem_append_left _ hx)))
theorem hb231_58 : ∀ x ∈ mB231_58, mAt mC231 x.1 = some x.2 := fun x hx => mInc_at hi231 x (List.mem_append_right _ (List.mem_append_right _ (List.mem_append_right _ (List.mem_append_left _ hx))))
theorem hb231_59 : ∀ x ∈ mB231_59, mAt mC231 x.1 = some x.2 := fun x hx => mInc_at hi231 x (List.mem_append_right _ (List.mem_append_right _ (List.mem_append_right _ (List.mem_append_right _ (List.mem_append_left _ hx)))))
theorem hb231_66 : ∀ x ∈ mB231_66, mAt mC231 x.1 = some x.2 := fun x hx => mInc_at hi231 x (List.mem_append_right _ (List.mem_append_right _ (List.mem_append_right _ (List.mem_append_right _ (List.mem_append_right _ hx)))))
set_option maxRecDepth 8000 in
theorem hi232 : mInc mC232 = true := by decide +kernel
theorem hb232_0 : ∀ x ∈ mB232_0, mAt mC232 x.1 = some x.2 := fun x hx => mInc_at hi232 x (List.mem_append_left _ hx)
theorem hb232_32 : ∀ x ∈ mB232_32, mAt mC232 x.1 = some x.2 := fun x hx => mInc_at hi232 x (List.mem_append_right _ (List.mem_append_left _ hx))
theorem hb232_33 : ∀ x ∈ mB232_33, mAt mC232 x.1 = some x.2 := fun x hx => mInc_at hi232 x (List.mem_append_right _ (List.mem_append_right _ hx))
set_option maxRecDepth 8000 in
theorem hi233 : mInc mC233 = true := by decide +kernel
theorem hb233_0 : ∀ x ∈ mB233_0, mAt mC233 x.1 = some x.2 := fun x hx => mInc_at hi233 x (List.mem_append_left _ hx)
theorem hb233_5 : ∀ x ∈ mB233_5, mAt mC233 x.1 = some x.2 := fun x hx => mInc_at hi233 x (List.mem_append_right _ (List.mem_append_left _ hx))
theorem hb233_28 : ∀ x ∈ mB233_28, mAt mC233 x.1 = some x.2 := fun x hx => mInc_at hi233 x (List.mem_append_right _ (List.mem_append_right _ (List.mem_append_left _ hx)))
theorem hb233_47 : ∀ x ∈ mB233_47, mAt mC233 x.1 = some x.2 := fun x hx => mInc_at hi233 x (List.mem_append_right _ (List.mem_append_right _ (List.mem_append_right _ (List.mem_append_left _ hx))))
theorem hb233_48 : ∀ x ∈ mB233_48, mAt mC233 x.1 = some x.2 := fun x hx => mInc_at hi233 x (List.mem_append_right _ (List.mem_append_right _ (List.mem_append_right _ (List.mem_append_right _ (List.mem_append_left _ hx)))))
theorem hb233_49 : ∀ x ∈ mB233_49, mAt mC233 x.1 = some x.2 := fun x hx => mInc_at hi233 x (List.mem_append_right _ (List.mem_append_right _ (List.mem_append_right _ (List.mem_append_right _ (List.mem_append_right _ (List.mem_append_left _ hx))))))
theorem hb233_55 : ∀ x ∈ mB233_55, mAt mC233 x.1 = some x.2 := fun x hx => mInc_at hi233 x (List.mem_append_right _ (List.mem_append_right _ (List.mem_append_right _ (List.mem_append_right _ (List.mem_append_right _ (List.mem_append_right _ hx))))))
set_option maxRecDepth 8000 in
theorem hi234 : mInc mC234 = true := by decide +kernel
theorem hb234_0 : ∀ x ∈ mB234_0, mAt mC234 x.1 = some x.2 := fun x hx => mInc_at hi234 x hx
set_option maxRecDepth 8000 in
theorem hi235 : mInc mC235 = true := by decide +kernel
theorem hb235_0 : ∀ x ∈ mB235_0, mAt mC235 x.1 = some x.2 := fun x hx => mInc_at hi235 x (List.mem_append_left _ hx)
theorem hb235_11 : ∀ x ∈ mB235_11, mAt mC235 x.1 = some x.2 := fun x hx => mInc_at hi235 x (List.mem_append_right _ (List.mem_append_left _ hx))
theorem hb235_12 : ∀ x ∈ mB235_12, mAt mC235 x.1 = some x.2 := fun x hx => mInc_at hi235 x (List.mem_append_right _ (List.mem_append_right _ hx))
set_option maxRecDepth 8000 in
theorem hi236 : mInc mC236 = true := by decide +kernel
theorem hb236_0 : ∀ x ∈ mB236_0, mAt mC236 x.1 = some x.2 := fun x hx => mInc_at hi236 x (List.mem_append_left _ hx)
theorem hb236_4 : ∀ x ∈ mB236_4, mAt mC236 x.1 = some x.2 := fun x hx => mInc_at hi236 x (List.mem_append_right _ (List.mem_append_left _ hx))
theorem hb236_17 : ∀ x ∈ mB236_17, mAt mC236 x.1 = some x.2 := fun x hx => mInc_at hi236 x (List.mem_append_right _ (List.mem_append_right _ (List.mem_append_left _ hx)))
theorem hb236_44 : ∀ x ∈ mB236_44, mAt mC236 x.1 = some x.2 := fun x hx => mInc_at hi236 x (List.mem_append_right _ (List.mem_append_right _ (List.mem_append_right _ (List.mem_append_left _ hx))))
theorem hb236_48 : ∀ x ∈ mB236_48, mAt mC236 x.1 = some x.2 := fun x hx => mInc_at hi236 x (List.mem_append_right _ (List.mem_append_right _ (List.mem_append_right _ (List.mem_append_right _ (List.mem_append_left _ hx)))))
theorem hb236_49 : ∀ x ∈ mB236_49, mAt mC236 x.1 = some x.2 := fun x hx => mInc_at hi236 x (List.mem_append_right _ (List.mem_append_right _ (List.mem_append_right _ (List.mem_append_right _ (List.mem_append_right _ (List.mem_append_left _ hx))))))
theorem hb236_56 : ∀ x ∈ mB236_56, mAt mC236 x.1 = some x.2 := fun x hx => mInc_at hi236 x (List.mem_append_right _ (List.mem_append_right _ (List.mem_append_right _ (List.mem_append_right _ (List.mem_append_right _ (List.mem_append_right _ (List.mem_append_left _ hx)))))))
theorem hb236_65 : ∀ x ∈ mB236_65, mAt mC236 x.1 = some x.2 := fun x hx => mInc_at hi236 x (List.mem_append_right _ (List.mem_append_right _ (List.mem_append_right _ (List.mem_append_right _ (List.mem_append_right _ (List.mem_append_right _ (List.mem_append_right _ (List.mem_append_left _ hx))))))))
theorem hb236_66 : ∀ x ∈ mB236_66, mAt mC236 x.1 = some x.2 := fun x hx => mInc_at hi236 x (List.mem_append_right _ (List.mem_append_right _ (List.mem_append_right _ (List.mem_append_right _ (List.mem_append_right _ (List.mem_append_right _ (List.mem_append_right _ (List.mem_append_right _ (List.mem_append_left _ hx)))))))))
theorem hb236_74 : ∀ x ∈ mB236_74, mAt mC236 x.1 = some x.2 := fun x hx => mInc_at hi236 x (List.mem_append_right _ (List.mem_append_right _ (List.mem_append_right _ (List.mem_append_right _ (List.mem_append_right _ (List.mem_append_right _ (List.mem_append_right _ (List.mem_append_right _ (List.mem_append_right _ hx)))))))))
set_option maxRecDepth 8000 in
theorem hi237 : mInc mC237 = true := by decide +kernel
theorem hb237_0 : ∀ x ∈ mB237_0, mAt mC237 x.1 = some x.2 := fun x hx => mInc_at hi237 x (List.mem_append_left _ hx)
theorem hb237_22 : ∀ x ∈ mB237_22, mAt mC237 x.1 = some x.2 := fun x hx => mInc_at hi237 x (List.mem_append_right _ (List.mem_append_left _ hx))
theorem hb237_112 : ∀ x ∈ mB237_112, mAt mC237 x.1 = some x.2 := fun x hx => mInc_at hi237 x (List.mem_append_right _ (List.mem_append_right _ (List.mem_append_left _ hx)))
theorem hb237_117 : ∀ x ∈ mB237_117, mAt mC237 x.1 = some x.2 := fun x hx => mInc_at hi237 x (List.mem_append_right _ (List.mem_append_right _ (List.mem_append_right _ (List.mem_append_left _ hx))))
theorem hb237_122 : ∀ x ∈ mB237_122, mAt mC237 x.1 = some x.2 := fun x hx => mInc_at hi237 x (List.mem_append_right _ (List.mem_append_right _ (List.mem_append_right _ (List.mem_append_right _ (List.mem_append_left _ hx)))))
theorem hb237_127 : ∀ x ∈ mB237_127, mAt mC237 x.1 = some x.2 := fun x hx => mInc_at hi237 x (List.mem_append_right _ (List.mem_append_right _ (List.mem_append_right _ (List.mem_append_right _ (List.mem_append_right _ (List.mem_append_left _ hx))))))
theorem hb237_132 : ∀ x ∈ mB237_132, mAt mC237 x.1 = some x.2 := fun x hx => mInc_at hi237 x (List.mem_append_right _ (List.mem_append_right _ (List.mem_append_right _ (List.mem_append_right _ (List.mem_append_right _ (List.mem_append_right _ (List.mem_append_left _ hx)))))))
theorem hb237_137 : ∀ x ∈ mB237_137, mAt mC237 x.1 = some x.2 := fun x hx => mInc_at hi237 x (List.mem_append_right _ (List.mem_append_right _ (List.mem_append_right _ (List.mem_append_right _ (List.mem_append_right _ (List.mem_append_right _ (List.mem_append_right _ (List.mem_append_left _ hx))))))))
theorem hb237_145 : ∀ x ∈ mB237_145, mAt mC237 x.1 = some x.2 := fun x hx => mInc_at hi237 x (List.mem_append_right _ (List.mem_append_right _ (List.mem_append_right _ (List.mem_append_right _ (List.mem_append_right _ (List.mem_append_right _ (List.mem_append_right _ (List.mem_append_right _ (List.mem_append_left _ hx)))))))))
theorem hb237_150 : ∀ x ∈ mB237_150, mAt mC237 x.1 = some x.2 := fun x hx => mInc_at hi237 x (List.mem_append_right _ (List.mem_append_right _ (List.mem_append_right _ (List.mem_append_right _ (List.mem_append_right _ (List.mem_append_right _ (List.mem_append_right _ (List.mem_append_right _ (List.mem_append_right _ (List.mem_append_left _ hx))))))))))
theorem hb237_155 : ∀ x ∈ mB237_155, mAt mC237 x.1 = some x.2 := fun x hx => mInc_at hi237 x (List.mem_append_right _ (List.mem_append_right _ (List.mem_append_right _ (List.mem_append_right _ (List.mem_append_right _ (List.mem_append_right _ (List.mem_append_right _ (List.mem_append_right _ (List.mem_append_right _ (List.mem_append_right _ (List.mem_append_left _ hx)))))))))))
theorem hb237_163 : ∀ x ∈ mB237_163, mAt mC237 x.1 = some x.2 := fun x hx => mInc_at hi237 x (List.mem_append_right _ (List.mem_append_right _ (List.mem_append_right _ (List.mem_append_right _ (List.mem_append_right _ (List.mem_append_right _ (List.mem_append_right _ (List.mem_append_right _ (List.mem_append_right _ (List.mem_append_right _ (List.mem_append_right _ (List.mem_append_left _ hx))))))))))))
theorem hb237_168 : ∀ x ∈ mB237_168, mAt mC237 x.1 = some x.2 := fun x hx => mInc_at hi237 x (List.mem_append_right _ (List.mem_append_right _ (List.mem_append_right _ (List.mem_append_right _ (List.mem_append_right _ (List.mem_append_right _ (List.mem_append_right _ (List.mem_append_right _ (List.mem_append_right _ (List.mem_append_right _ (List.mem_append_right _ (List.mem_append_right _ (List.mem_append_left _ hx)))))))))))))
theorem hb237_173 : ∀ x ∈ mB237_173, mAt mC237 x.1 = some x.2 := fun x hx => mInc_at hi237 x (List.mem_append_right _ (List.mem_append_right _ (List.mem_append_right _ (List.mem_append_right _ (List.mem_append_right _ (List.mem_append_right _ (List.mem_append_right _ (List.mem_append_right _ (List.mem_append_right _ (List.mem_append_right _ (List.mem_append_right _ (List.mem_append_right _ (List.mem_append_right _ (List.mem_append_left _ hx))))))))))))))
theorem hb237_178 : ∀ x ∈ mB237_178, mAt mC237 x.1 = some x.2 := fun x hx => mInc_at hi237 x (List.mem_append_right _ (List.mem_append_right _ (List.mem_append_right _ (List.mem_append_right _ (List.mem_append_right _ (List.mem_append_right _ (List.mem_append_right _ (List.mem_append_right _ (List.mem_append_right _ (List.mem_append_right _ (List.mem_append_right _ (List.mem_append_right _ (List.mem_append_right _ (List.mem_append_right _ (List.mem_append_left _ hx)))))))))))))))
theorem hb237_183 : ∀ x ∈ mB237_183, mAt mC237 x.1 = some x.2 := fun x hx => mInc_at hi237 x (List.mem_append_right _ (List.mem_append_right _ (List.mem_append_right _ (List.mem_append_right _ (List.mem_append_right _ (List.mem_append_right _ (List.mem_append_right _ (List.mem_append_right _ (List.mem_append_right _ (List.mem_append_right _ (List.mem_append_right _ (List.mem_append_right _ (List.mem_append_right _ (List.mem_append_right _ (List.mem_append_right _ (List.mem_append_left _ hx))))))))))))))))
theorem hb237_188 : ∀ x ∈ mB237_188, mAt mC237 x.1 = some x.2 := fun x hx => mInc_at hi237 x (List.mem_append_right _ (List.mem_append_right _ (List.mem_append_right _ (List.mem_append_right _ (List.mem_append_right _ (List.mem_append_right _ (List.mem_append_right _ (List.mem_append_right _ (List.mem_append_right _ (List.mem_append_right _ (List.mem_append_right _ (List.mem_append_right _ (List.mem_append_right _ (List.mem_append_right _ (List.mem_append_right _ (List.mem_append_right _ (List.mem_append_left _ hx)))))))))))))))))
theorem hb237_193 : ∀ x ∈ mB237_193, mAt mC237 x.1 = some x.2 := fun x hx => mInc_at hi237 x (List.mem_append_right _ (List.mem_append_right _ (List.mem_append_right _ (List.mem_append_right _ (List.mem_append_right _ (List.mem_append_right _ (List.mem_append_right _ (List.mem_append_right _ (List.mem_append_right _ (List.mem_append_right _ (List.mem_append_right _ (List.mem_append_right _ (List.mem_append_right _ (List.mem_append_right _ (List.mem_append_right _ (List.mem_append_right _ (List.mem_append_right _ (List.mem_append_left _ hx))))))))))))))))))
theorem hb237_198 : ∀ x ∈ mB237_198, mAt mC237 x.1 = some x.2 := fun x hx => mInc_at hi237 x (List.mem_append_right _ (List.mem_append_right _ (List.mem_append_right _ (List.mem_append_right _ (List.mem_append_right _ (List.mem_append_right _ (List.mem_append_right _ (List.mem_append_right _ (List.mem_append_right _ (List.mem_append_right _ (List.mem_append_right _ (List.mem_append_right _ (List.mem_append_right _ (List.mem_append_right _ (List.mem_append_right _ (List.mem_append_right _ (List.mem_append_right _ (List.mem_append_right _ hx))))))))))))))))))
set_option maxRecDepth 8000 in
theorem hi238 : mInc mC238 = true := by decide +kernel
theorem hb238_0 : ∀ x ∈ mB238_0, mAt mC238 x.1 = some x.2 := fun x hx => mInc_at hi238 x (List.mem_append_left _ hx)
theorem hb238_17 : ∀ x ∈ mB238_17, mAt mC238 x.1 = some x.2 := fun x hx => mInc_at hi238 x (List.mem_append_right _ (List.mem_append_left _ hx))
theorem hb238_18 : ∀ x ∈ mB238_18, mAt mC238 x.1 = some x.2 := fun x hx => mInc_at hi238 x (List.mem_append_right _ (List.mem_append_right _ hx))
set_option maxRecDepth 8000 in
theorem hi239 : mInc mC239 = true := by decide +kernel
theorem hb239_0 : ∀ x ∈ mB239_0, mAt mC239 x.1 = some x.2 := fun x hx => mInc_at hi239 x (List.mem_append_left _ hx)
theorem hb239_17 : ∀ x ∈ mB239_17, mAt mC239 x.1 = some x.2 := fun x hx => mInc_at hi239 x (List.mem_append_right _ (List.mem_append_left _ hx))
theorem hb239_18 : ∀ x ∈ mB239_18, mAt mC239 x.1 = some x.2 := fun x hx => mInc_at hi239 x (List.mem_append_right _ (List.mem_append_right _ hx))
set_option maxRecDepth 8000 in
theorem hi240 : mInc mC240 = true := by decide +kernel
theorem hb240_0 : ∀ x ∈ mB240_0, mAt mC240 x.1 = some x.2 := fun x hx => mInc_at hi240 x (List.mem_append_left _ hx)
theorem hb240_17 : ∀ x ∈ mB240_17, mAt mC240 x.1 = some x.2 := fun x hx => mInc_at hi240 x (List.mem_append_right _ (List.mem_append_left _ hx))
theorem hb240_18 : ∀ x ∈ mB240_18, mAt mC240 x.1 = some x.2 := fun x hx => mInc_at hi240 x (List.mem_append_right _ (List.mem_append_right _ hx))
set_option maxRecDepth 8000 in
theorem hi241 : mInc mC241 = true := by decide +kernel
theorem hb241_0 : ∀ x ∈ mB241_0, mAt mC241 x.1 = some x.2 := fun x hx => mInc_at hi241 x hx
set_option maxRecDepth 8000 in
theorem hi242 : mInc mC242 = true := by decide +kernel
theorem hb242_0 : ∀ x ∈ mB242_0, mAt mC242 x.1 = some x.2 := fun x hx => mInc_at hi242 x (List.mem_append_left _ hx)
theorem hb242_13 : ∀ x ∈ mB242_13, mAt mC242 x.1 = some x.2 := fun x hx => mInc_at hi242 x (List.mem_append_right _ (List.mem_append_left _ hx))
theorem hb242_30 : ∀ x ∈ mB242_30, mAt mC242 x.1 = some x.2 := fun x hx => mInc_at hi242 x (List.mem_append_right _ (List.mem_append_right _ (List.mem_append_left _ hx)))
theorem hb242_58 : ∀ x ∈ mB242_58, mAt mC242 x.1 = some x.2 := fun x hx => mInc_at hi242 x (List.mem_append_right _ (List.mem_append_right _ (List.mem_append_right _ (List.mem_append_left _ hx))))
theorem hb242_59 : ∀ x ∈ mB242_59, mAt mC242 x.1 = some x.2 := fun x hx => mInc_at hi242 x (List.mem_append_right _ (List.mem_append_right _ (List.mem_append_right _ (List.mem_append_right _ (List.mem_append_left _ hx)))))
theorem hb242_67 : ∀ x ∈ mB242_67, mAt mC242 x.1 = some x.2 := fun x hx => mInc_at hi242 x (List.mem_append_right _ (List.mem_append_right _ (List.mem_append_right _ (List.mem_append_right _ (List.mem_append_right _ hx)))))
set_option maxRecDepth 8000 in
theorem hi243 : mInc mC243 = true := by decide +kernel
theorem hb243_0 : ∀ x ∈ mB243_0, mAt mC243 x.1 = some x.2 := fun x hx => mInc_at hi243 x (List.mem_append_left _ hx)
theorem hb243_23 : ∀ x ∈ mB243_23, mAt mC243 x.1 = some x.2 := fun x hx => mInc_at hi243 x (List.mem_append_right _ (List.mem_append_left _ hx))
theorem hb243_25 : ∀ x ∈ mB243_25, mAt mC243 x.1 = some x.2 := fun x hx => mInc_at hi243 x (List.mem_append_right _ (List.mem_append_right _ (List.mem_append_left _ hx)))
theorem hb243_64 : ∀ x ∈ mB243_64, mAt mC243 x.1 = some x.2 := fun x hx => mInc_at hi243 x (List.mem_append_right _ (List.mem_append_right _ (List.mem_append_right _ (List.mem_append_left _ hx))))
theorem hb243_71 : ∀ x ∈ mB243_71, mAt mC243 x.1 = some x.2 := fun x hx => mInc_at hi243 x (List.mem_append_right _ (List.mem_append_right _ (List.mem_append_right _ (List.mem_append_right _ (List.mem_append_left _ hx)))))
theorem hb243_78 : ∀ x ∈ mB243_78, mAt mC243 x.1 = some x.2 := fun x hx => mInc_at hi243 x (List.mem_append_right _ (List.mem_append_right _ (List.mem_append_right _ (List.mem_append_right _ (List.mem_append_right _ (List.mem_append_left _ hx))))))
theorem hb243_84 : ∀ x ∈ mB243_84, mAt mC243 x.1 = some x.2 := fun x hx => mInc_at hi243 x (List.mem_append_right _ (List.mem_append_right _ (List.mem_append_right _ (List.mem_append_right _ (List.mem_append_right _ (List.mem_append_right _ (List.mem_append_left _ hx)))))))
theorem hb243_90 : ∀ x ∈ mB243_90, mAt mC243 x.1 = some x.2 := fun x hx => mInc_at hi243 x (List.mem_append_right _ (List.mem_append_right _ (List.mem_append_right _ (List.mem_append_right _ (List.mem_append_right _ (List.mem_append_right _ (List.mem_append_right _ (List.mem_append_left _ hx))))))))
theorem hb243_96 : ∀ x ∈ mB243_96, mAt mC243 x.1 = some x.2 := fun x hx => mInc_at hi243 x (List.mem_append_right _ (List.mem_append_right _ (List.mem_append_right _ (List.mem_append_right _ (List.mem_append_right _ (List.mem_append_right _ (List.mem_append_right _ (List.mem_append_right _ (List.mem_append_left _ hx)))))))))
theorem hb243_109 : ∀ x ∈ mB243_109, mAt mC243 x.1 = some x.2 := fun x hx => mInc_at hi243 x (List.mem_append_right _ (List.mem_append_right _ (List.mem_append_right _ (List.mem_append_right _ (List.mem_append_right _ (List.mem_append_right _ (List.mem_append_right _ (List.mem_append_right _ (List.mem_append_right _ hx)))))))))
set_option maxRecDepth 8000 in
theorem hi244 : mInc mC244 = true := by decide +kernel
theorem hb244_0 : ∀ x ∈ mB244_0, mAt mC244 x.1 = some x.2 := fun x hx => mInc_at hi244 x (List.mem_append_left _ hx)
theorem hb244_35 : ∀ x ∈ mB244_35, mAt mC244 x.1 = some x.2 := fun x hx => mInc_at hi244 x (List.mem_append_right _ (List.mem_append_left _ hx))
theorem hb244_37 : ∀ x ∈ mB244_37, mAt mC244 x.1 = some x.2 := fun x hx => mInc_at hi244 x (List.mem_append_right _ (List.mem_append_right _ (List.mem_append_left _ hx)))
theorem hb244_43 : ∀ x ∈ mB244_43, mAt mC244 x.1 = some x.2 := fun x hx => mInc_at hi244 x (List.mem_append_right _ (List.mem_append_right _ (List.mem_append_right _ (List.mem_append_left _ hx))))
theorem hb244_44 : ∀ x ∈ mB244_44, mAt mC244 x.1 = some x.2 := fun x hx => mInc_at hi244 x (List.mem_append_right _ (List.mem_append_right _ (List.mem_append_right _ (List.mem_append_right _ hx))))
set_option maxRecDepth 8000 in
theorem hi245 : mInc mC245 = true := by decide +kernel
theorem hb245_0 : ∀ x ∈ mB245_0, mAt mC245 x.1 = some x.2 := fun x hx => mInc_at hi245 x (List.mem_append_left _ hx)
theorem hb245_22 : ∀ x ∈ mB245_22, mAt mC245 x.1 = some x.2 := fun x hx => mInc_at hi245 x (List.mem_append_right _ (List.mem_append_left _ hx))
theorem hb245_24 : ∀ x ∈ mB245_24, mAt mC245 x.1 = some x.2 := fun x hx => mInc_at hi245 x (List.mem_append_right _ (List.mem_append_right _ (List.mem_append_left _ hx)))
theorem hb245_39 : ∀ x ∈ mB245_39, mAt mC245 x.1 = some x.2 := fun x hx => mInc_at hi245 x (List.mem_append_right _ (List.mem_append_right _ (List.mem_append_right _ (List.mem_append_left _ hx))))
theorem hb245_53 : ∀ x ∈ mB245_53, mAt mC245 x.1 = some x.2 := fun x hx => mInc_at hi245 x (List.mem_append_right _ (List.mem_append_right _ (List.mem_append_right _ (List.mem_append_right _ (List.mem_append_left _ hx)))))
theorem hb245_58 : ∀ x ∈ mB245_58, mAt mC245 x.1 = some x.2 := fun x hx => mInc_at hi245 x (List.mem_append_right _ (List.mem_append_right _ (List.mem_append_right _ (List.mem_append_right _ (List.mem_append_right _ hx)))))
set_option maxRecDepth 8000 in
theorem hi246 : mInc mC246 = true := by decide +kernel
theorem hb246_0 : ∀ x ∈ mB246_0, mAt mC246 x.1 = some x.2 := fun x hx => mInc_at hi246 x (List.mem_append_left _ hx)
theorem hb246_30 : ∀ x ∈ mB246_30, mAt mC246 x.1 = some x.2 := fun x hx => mInc_at hi246 x (List.mem_append_right _ (List.mem_append_left _ hx))
theorem hb246_31 : ∀ x ∈ mB246_31, mAt mC246 x.1 = some x.2 := fun x hx => mInc_at hi246 x (List.mem_append_right _ (List.mem_append_right _ (List.mem_append_left _ hx)))
theorem hb246_38 : ∀ x ∈ mB246_38, mAt mC246 x.1 = some x.2 := fun x hx => mInc_at hi246 x (List.mem_append_right _ (List.mem_append_right _ (List.mem_append_right _ (List.mem_append_left _ hx))))
theorem hb246_40 : ∀ x ∈ mB246_40, mAt mC246 x.1 = some x.2 := fun x hx => mInc_at hi246 x (List.mem_append_right _ (List.mem_append_right _ (List.mem_append_right _ (List.mem_append_right _ hx))))
set_option maxRecDepth 8000 in
theorem hi247 : mInc mC247 = true := by decide +kernel
theorem hb247_0 : ∀ x ∈ mB247_0, mAt mC247 x.1 = some x.2 := fun x hx => mInc_at hi247 x (List.mem_append_left _ hx)
theorem hb247_16 : ∀ x ∈ mB247_16, mAt mC247 x.1 = some x.2 := fun x hx => mInc_at hi247 x (List.mem_append_right _ (List.mem_append_left _ hx))
theorem hb247_30 : ∀ x ∈ mB247_30, mAt mC247 x.1 = some x.2 := fun x hx => mInc_at hi247 x (List.mem_append_right _ (List.mem_append_right _ (List.mem_append_left _ hx)))
theorem hb247_32 : ∀ x ∈ mB247_32, mAt mC247 x.1 = some x.2 := fun x hx => mInc_at hi247 x (List.mem_append_right _ (List.mem_append_right _ (List.mem_append_right _ (List.mem_append_left _ hx))))
theorem hb247_64 : ∀ x ∈ mB247_64, mAt mC247 x.1 = some x.2 := fun x hx => mInc_at hi247 x (List.mem_append_right _ (List.mem_append_right _ (List.mem_append_right _ (List.mem_append_right _ (List.mem_append_left _ hx)))))
theorem hb247_70 : ∀ x ∈ mB247_70, mAt mC247 x.1 = some x.2 := fun x hx => mInc_at hi247 x (List.mem_append_right _ (List.mem_append_right _ (List.mem_append_right _ (List.mem_append_right _ (List.mem_append_right _ hx)))))
set_option maxRecDepth 8000 in
theorem hi248 : mInc mC248 = true := by decide +kernel
theorem hb248_0 : ∀ x ∈ mB248_0, mAt mC248 x.1 = some x.2 := fun x hx => mInc_at hi248 x (List.mem_append_left _ hx)
theorem hb248_15 : ∀ x ∈ mB248_15, mAt mC248 x.1 = some x.2 := fun x hx => mInc_at hi248 x (List.mem_append_right _ (List.mem_append_left _ hx))
theorem hb248_27 : ∀ x ∈ mB248_27, mAt mC248 x.1 = some x.2 := fun x hx => mInc_at hi248 x (List.mem_append_right _ (List.mem_append_right _ (List.mem_append_left _ hx)))
theorem hb248_33 : ∀ x ∈ mB248_33, mAt mC248 x.1 = some x.2 := fun x hx => mInc_at hi248 x (List.mem_append_right _ (List.mem_append_right _ (List.mem_append_right _ hx)))
set_option maxRecDepth 8000 in
theorem hi249 : mInc mC249 = true := by decide +kernel
theorem hb249_0 : ∀ x ∈ mB249_0, mAt mC249 x.1 = some x.2 := fun x hx => mInc_at hi249 x hx
set_option maxRecDepth 8000 in
theorem hi250 : mInc mC250 = true := by decide +kernel
theorem hb250_0 : ∀ x ∈ mB250_0, mAt mC250 x.1 = some x.2 := fun x hx => mInc_at hi250 x (List.mem_append_left _ hx)
theorem hb250_17 : ∀ x ∈ mB250_17, mAt mC250 x.1 = some x.2 := fun x hx => mInc_at hi250 x (List.mem_append_right _ (List.mem_append_left _ hx))
theorem hb250_25 : ∀ x ∈ mB250_25, mAt mC250 x.1 = some x.2 := fun x hx => mInc_at hi250 x (List.mem_append_right _ (List.mem_append_right _ (List.mem_append_left _ hx)))
theorem hb250_32 : ∀ x ∈ mB250_32, mAt mC250 x.1 = some x.2 := fun x hx => mInc_at hi250 x (List.mem_append_right _ (List.mem_append_right _ (List.mem_append_right _ hx)))
set_option maxRecDepth 8000 in
theorem hi251 : mInc mC251 = true := by decide +kernel
theorem hb251_0 : ∀ x ∈ mB251_0, mAt mC251 x.1 = some x.2 := fun x hx => mInc_at hi251 x (List.mem_append_left _ hx)
theorem hb251_15 : ∀ x ∈ mB251_15, mAt mC251 x.1 = some x.2 := fun x hx => mInc_at hi251 x (List.mem_append_right _ (List.mem_append_left _ hx))
theorem hb251_37 : ∀ x ∈ mB251_37, mAt mC251 x.1 = some x.2 := fun x hx => mInc_at hi251 x (List.mem_append_right _ (List.mem_append_right _ (List.mem_append_left _ hx)))
theorem hb251_42 : ∀ x ∈ mB251_42, mAt mC251 x.1 = some x.2 := fun x hx => mInc_at hi251 x (List.mem_append_right _ (List.mem_append_right _ (List.mem_append_right _ hx)))
set_option maxRecDepth 8000 in
theorem hi252 : mInc mC252 = true := by decide +kernel
theorem hb252_0 : ∀ x ∈ mB252_0, mAt mC252 x.1 = some x.2 := fun x hx => mInc_at hi252 x (List.mem_append_left _ hx)
theorem hb252_3 : ∀ x ∈ mB252_3, mAt mC252 x.1 = some x.2 := fun x hx => mInc_at hi252 x (List.mem_append_right _ (List.mem_append_left _ hx))
theorem hb252_51 : ∀ x ∈ mB252_51, mAt mC252 x.1 = some x.2 := fun x hx => mInc_at hi252 x (List.mem_append_right _ (List.mem_append_right _ hx))
set_option maxRecDepth 8000 in
theorem hi253 : mInc mC253 = true := by decide +kernel
theorem hb253_0 : ∀ x ∈ mB253_0, mAt mC253 x.1 = some x.2 := fun x hx => mInc_at hi253 x (List.mem_append_left _ hx)
theorem hb253_34 : ∀ x ∈ mB253_34, mAt mC253 x.1 = some x.2 := fun x hx => mInc_at hi253 x (List.mem_append_right _ (List.mem_append_left _ hx))
theorem hb253_46 : ∀ x ∈ mB253_46, mAt mC253 x.1 = some x.2 := fun x hx => mInc_at hi253 x (List.mem_append_right _ (List.mem_append_right _ (List.mem_append_left _ hx)))
theorem hb253_47 : ∀ x ∈ mB253_47, mAt mC253 x.1 = some x.2 := fun x hx => mInc_at hi253 x (List.mem_append_right _ (List.mem_append_right _ (List.mem_append_right _ (List.mem_append_left _ hx))))
theorem hb253_48 : ∀ x ∈ mB253_48, mAt mC253 x.1 = some x.2 := fun x hx => mInc_at hi253 x (List.mem_append_right _ (List.mem_append_right _ (List.mem_append_right _ (List.mem_append_right _ hx))))
set_option maxRecDepth 8000 in
theorem hi254 : mInc mC254 = true := by decide +kernel
theorem hb254_0 : ∀ x ∈ mB254_0, mAt mC254 x.1 = some x.2 := fun x hx => mInc_at hi254 x (List.mem_append_left _ hx)
theorem hb254_26 : ∀ x ∈ mB254_26, mAt mC254 x.1 = some x.2 := fun x hx => mInc_at hi254 x (List.mem_append_right _ (List.mem_append_left _ hx))
theorem hb254_31 : ∀ x ∈ mB254_31, mAt mC254 x.1 = some x.2 := fun x hx => mInc_at hi254 x (List.mem_append_right _ (List.mem_append_right _ hx))
set_option maxRecDepth 8000 in
theorem hi255 : mInc mC255 = true := by decide +kernel
theorem hb255_0 : ∀ x ∈ mB255_0, mAt mC255 x.1 = some x.2 := fun x hx => mInc_at hi255 x (List.mem_append_left _ hx)
theorem hb255_2 : ∀ x ∈ mB255_2, mAt mC255 x.1 = some x.2 := fun x hx => mInc_at hi255 x (List.mem_append_right _ (List.mem_append_left _ hx))
theorem hb255_62 : ∀ x ∈ mB255_62, mAt mC255 x.1 = some x.2 := fun x hx => mInc_at hi255 x (List.mem_append_right _ (List.mem_append_right _ hx))
set_option maxRecDepth 8000 in
theorem hi256 : mInc mC256 = true := by decide +kernel
theorem hb256_0 : ∀ x ∈ mB256_0, mAt mC256 x.1 = some x.2 := fun x hx => mInc_at hi256 x (List.mem_append_left _ hx)
theorem hb256_7 : ∀ x ∈ mB256_7, mAt mC256 x.1 = some x.2 := fun x hx => mInc_at hi256 x (List.mem_append_right _ (List.mem_append_left _ hx))
theorem hb256_35 : ∀ x ∈ mB256_35, mAt mC256 x.1 = some x.2 := fun x hx => mInc_at hi256 x (List.mem_append_right _ (List.mem_append_right _ (List.mem_append_left _ hx)))
theorem hb256_42 : ∀ x ∈ mB256_42, mAt mC256 x.1 = some x.2 := fun x hx => mInc_at hi256 x (List.mem_append_right _ (List.mem_append_right _ (List.mem_append_right _ (List.mem_append_left _ hx))))
theorem hb256_49 : ∀ x ∈ mB256_49, mAt mC256 x.1 = some x.2 := fun x hx => mInc_at hi256 x (List.mem_append_right _ (List.mem_append_right _ (List.mem_append_right _ (List.mem_append_right _ (List.mem_append_left _ hx)))))
theorem hb256_70 : ∀ x ∈ mB256_70, mAt mC256 x.1 = some x.2 := fun x hx => mInc_at hi256 x (List.mem_append_right _ (List.mem_append_right _ (List.mem_append_right _ (List.mem_append_right _ (List.mem_append_right _ (List.mem_append_left _ hx))))))
theorem hb256_88 : ∀ x ∈ mB256_88, mAt mC256 x.1 = some x.2 := fun x hx => mInc_at hi256 x (List.mem_append_right _ (List.mem_append_right _ (List.mem_append_right _ (List.mem_append_right _ (List.mem_append_right _ (List.mem_append_right _ (List.mem_append_left _ hx)))))))
theorem hb256_110 : ∀ x ∈ mB256_110, mAt mC256 x.1 = some x.2 := fun x hx => mInc_at hi256 x (List.mem_append_right _ (List.mem_append_right _ (List.mem_append_right _ (List.mem_append_right _ (List.mem_append_right _ (List.mem_append_right _ (List.mem_append_right _ hx)))))))
set_option maxRecDepth 8000 in
theorem hi257 : mInc mC257 = true := by decide +kernel
theorem hb257_0 : ∀ x ∈ mB257_0, mAt mC257 x.1 = some x.2 := fun x hx => mInc_at hi257 x hx
set_option maxRecDepth 8000 in
theorem hi258 : mInc mC258 = true := by decide +kernel
theorem hb258_0 : ∀ x ∈ mB258_0, mAt mC258 x.1 = some x.2 := fun x hx => mInc_at hi258 x (List.mem_append_left _ hx)
theorem hb258_17 : ∀ x ∈ mB258_17, mAt mC258 x.1 = some x.2 := fun x hx => mInc_at hi258 x (List.mem_append_right _ (List.mem_append_left _ hx))
theorem hb258_31 : ∀ x ∈ mB258_31, mAt mC258 x.1 = some x.2 := fun x hx => mInc_at hi258 x (List.mem_append_right _ (List.mem_append_right _ (List.mem_append_left _ hx)))
theorem hb258_52 : ∀ x ∈ mB258_52, mAt mC258 x.1 = some x.2 := fun x hx => mInc_at hi258 x (List.mem_append_right _ (List.mem_append_right _ (List.mem_append_right _ (List.mem_append_left _ hx))))
theorem hb258_56 : ∀ x ∈ mB258_56, mAt mC258 x.1 = some x.2 := fun x hx => mInc_at hi258 x (List.mem_append_right _ (List.mem_append_right _ (List.mem_append_right _ (List.mem_append_right _ (List.mem_append_left _ hx)))))
theorem hb258_79 : ∀ x ∈ mB258_79, mAt mC258 x.1 = some x.2 := fun x hx => mInc_at hi258 x (List.mem_append_right _ (List.mem_append_right _ (List.mem_append_right _ (List.mem_append_right _ (List.mem_append_right _ (List.mem_append_left _ hx))))))
theorem hb258_93 : ∀ x ∈ mB258_93, mAt mC258 x.1 = some x.2 := fun x hx => mInc_at hi258 x (List.mem_append_right _ (List.mem_append_right _ (List.mem_append_right _ (List.mem_append_right _ (List.mem_append_right _ (List.mem_append_right _ (List.mem_append_left _ hx)))))))
theorem hb258_101 : ∀ x ∈ mB258_101, mAt mC258 x.1 = some x.2 := fun x hx => mInc_at hi258 x (List.mem_append_right _ (List.mem_append_right _ (List.mem_append_right _ (List.mem_append_right _ (List.mem_append_right _ (List.mem_append_right _ (List.mem_append_right _ hx)))))))
set_option maxRecDepth 8000 in
theorem hi259 : mInc mC259 = true := by decide +kernel
theorem hb259_0 : ∀ x ∈ mB259_0, mAt mC259 x.1 = some x.2 := fun x hx => mInc_at hi259 x (List.mem_append_left _ hx)
theorem hb259_16 : ∀ x ∈ mB259_16, mAt mC259 x.1 = some x.2 := fun x hx => mInc_at hi259 x (List.mem_append_right _ (List.mem_append_left _ hx))
theorem hb259_32 : ∀ x ∈ mB259_32, mAt mC259 x.1 = some x.2 := fun x hx => mInc_at hi259 x (List.mem_append_right _ (List.mem_append_right _ (List.mem_append_left _ hx)))
theorem hb259_50 : ∀ x ∈ mB259_50, mAt mC259 x.1 = some x.2 := fun x hx => mInc_at hi259 x (List.mem_append_right _ (List.mem_append_right _ (List.mem_append_right _ (List.mem_append_left _ hx))))
theorem hb259_54 : ∀ x ∈ mB259_54, mAt mC259 x.1 = some x.2 := fun x hx => mInc_at hi259 x (List.mem_append_right _ (List.mem_append_right _ (List.mem_append_right _ (List.mem_append_right _ (List.mem_append_left _ hx)))))
theorem hb259_70 : ∀ x ∈ mB259_70, mAt mC259 x.1 = some x.2 := fun x hx => mInc_at hi259 x (List.mem_append_right _ (List.mem_append_right _ (List.mem_append_right _ (List.mem_append_right _ (List.mem_append_right _ (List.mem_append_left _ hx))))))
theorem hb259_103 : ∀ x ∈ mB259_103, mAt mC259 x.1 = some x.2 := fun x hx => mInc_at hi259 x (List.mem_append_right _ (List.mem_append_right _ (List.mem_append_right _ (List.mem_append_right _ (List.mem_append_right _ (List.mem_append_right _ (List.mem_append_left _ hx)))))))
theorem hb259_123 : ∀ x ∈ mB259_123, mAt mC259 x.1 = some x.2 := fun x hx => mInc_at hi259 x (List.mem_append_right _ (List.mem_append_right _ (List.mem_append_right _ (List.mem_append_right _ (List.mem_append_right _ (List.mem_append_right _ (List.mem_append_right _ (List.mem_append_left _ hx))))))))
theorem hb259_129 : ∀ x ∈ mB259_129, mAt mC259 x.1 = some x.2 := fun x hx => mInc_at hi259 x (List.mem_append_right _ (List.mem_append_right _ (List.mem_append_right _ (List.mem_append_right _ (List.mem_append_right _ (List.mem_append_right _ (List.mem_append_right _ (List.mem_append_right _ (List.mem_append_left _ hx)))))))))
theorem hb259_161 : ∀ x ∈ mB259_161, mAt mC259 x.1 = some x.2 := fun x hx => mInc_at hi259 x (List.mem_append_right _ (List.mem_append_right _ (List.mem_append_right _ (List.mem_append_right _ (List.mem_append_right _ (List.mem_append_right _ (List.mem_append_right _ (List.mem_append_right _ (List.mem_append_right _ (List.mem_append_left _ hx))))))))))
theorem hb259_167 : ∀ x ∈ mB259_167, mAt mC259 x.1 = some x.2 := fun x hx => mInc_at hi259 x (List.mem_append_right _ (List.mem_append_right _ (List.mem_append_right _ (List.mem_append_right _ (List.mem_append_right _ (List.mem_append_right _ (List.mem_append_right _ (List.mem_append_right _ (List.mem_append_right _ (List.mem_append_right _ hx))))))))))
set_option maxRecDepth 8000 in
theorem hi260 : mInc mC260 = true := by decide +kernel
theorem hb260_0 : ∀ x ∈ mB260_0, mAt mC260 x.1 = some x.2 := fun x hx => mInc_at hi260 x (List.mem_append_left _ hx)
theorem hb260_30 : ∀ x ∈ mB260_30, mAt mC260 x.1 = some x.2 := fun x hx => mInc_at hi260 x (List.mem_append_right _ (List.mem_append_left _ hx))
theorem hb260_31 : ∀ x ∈ mB260_31, mAt mC260 x.1 = some x.2 := fun x hx => mInc_at hi260 x (List.mem_append_right _ (List.mem_append_right _ (List.mem_append_left _ hx)))
theorem hb260_47 : ∀ x ∈ mB260_47, mAt mC260 x.1 = some x.2 := fun x hx => mInc_at hi260 x (List.mem_append_right _ (List.mem_append_right _ (List.mem_append_right _ (List.mem_append_left _ hx))))
theorem hb260_48 : ∀ x ∈ mB260_48, mAt mC260 x.1 = some x.2 := fun x hx => mInc_at hi260 x (List.mem_append_right _ (List.mem_append_right _ (List.mem_append_right _ (List.mem_append_right _ hx))))
set_option maxRecDepth 8000 in
theorem hi261 : mInc mC261 = true := by decide +kernel
theorem hb261_0 : ∀ x ∈ mB261_0, mAt mC261 x.1 = some x.2 := fun x hx => mInc_at hi261 x (List.mem_append_left _ hx)
theorem hb261_16 : ∀ x ∈ mB261_16, mAt mC261 x.1 = some x.2 := fun x hx => mInc_at hi261 x (List.mem_append_right _ (List.mem_append_left _ hx))
theorem hb261_32 : ∀ x ∈ mB261_32, mAt mC261 x.1 = some x.2 := fun x hx => mInc_at hi261 x (List.mem_append_right _ (List.mem_append_right _ (List.mem_append_left _ hx)))
theorem hb261_71 : ∀ x ∈ mB261_71, mAt mC261 x.1 = some x.2 := fun x hx => mInc_at hi261 x (List.mem_append_right _ (List.mem_append_right _ (List.mem_append_right _ (List.mem_append_left _ hx))))
theorem hb261_78 : ∀ x ∈ mB261_78, mAt mC261 x.1 = some x.2 := fun x hx => mInc_at hi261 x (List.mem_append_right _ (List.mem_append_right _ (List.mem_append_right _ (List.mem_append_right _ (List.mem_append_left _ hx)))))
theorem hb261_84 : ∀ x ∈ mB261_84, mAt mC261 x.1 = some x.2 := fun x hx => mInc_at hi261 x (List.mem_append_right _ (List.mem_append_right _ (List.mem_append_right _ (List.mem_append_right _ (List.mem_append_right _ (List.mem_append_left _ hx))))))
theorem hb261_100 : ∀ x ∈ mB261_100, mAt mC261 x.1 = some x.2 := fun x hx => mInc_at hi261 x (List.mem_append_right _ (List.mem_append_right _ (List.mem_append_right _ (List.mem_append_right _ (List.mem_append_right _ (List.mem_append_right _ (List.mem_append_left _ hx)))))))
theorem hb261_105 : ∀ x ∈ mB261_105, mAt mC261 x.1 = some x.2 := fun x hx => mInc_at hi261 x (List.mem_append_right _ (List.mem_append_right _ (List.mem_append_right _ (List.mem_append_right _ (List.mem_append_right _ (List.mem_append_right _ (List.mem_append_right _ hx)))))))
set_option maxRecDepth 8000 in
theorem hi262 : mInc mC262 = true := by decide +kernel
theorem hb262_0 : ∀ x ∈ mB262_0, mAt mC262 x.1 = some x.2 := fun x hx => mInc_at hi262 x (List.mem_append_left _ hx)
theorem hb262_15 : ∀ x ∈ mB262_15, mAt mC262 x.1 = some x.2 := fun x hx => mInc_at hi262 x (List.mem_append_right _ (List.mem_append_left _ hx))
theorem hb262_18 : ∀ x ∈ mB262_18, mAt mC262 x.1 = some x.2 := fun x hx => mInc_at hi262 x (List.mem_append_right _ (List.mem_append_right _ (List.mem_append_left _ hx)))
theorem hb262_51 : ∀ x ∈ mB262_51, mAt mC262 x.1 = some x.2 := fun x hx => mInc_at hi262 x (List.mem_append_right _ (List.mem_append_right _ (List.mem_append_right _ (List.mem_append_left _ hx))))
theorem hb262_57 : ∀ x ∈ mB262_57, mAt mC262 x.1 = some x.2 := fun x hx => mInc_at hi262 x (List.mem_append_right _ (List.mem_append_right _ (List.mem_append_right _ (List.mem_append_right _ hx))))
set_option maxRecDepth 8000 in
theorem hi263 : mInc mC263 = true := by decide +kernel
theorem hb263_0 : ∀ x ∈ mB263_0, mAt mC263 x.1 = some x.2 := fun x hx => mInc_at hi263 x (List.mem_append_left _ hx)
theorem hb263_17 : ∀ x ∈ mB263_17, mAt mC263 x.1 = some x.2 := fun x hx => mInc_at hi263 x (List.mem_append_right _ (List.mem_append_left _ hx))
theorem hb263_52 : ∀ x ∈ mB263_52, mAt mC263 x.1 = some x.2 := fun x hx => mInc_at hi263 x (List.mem_append_right _ (List.mem_append_right _ (List.mem_append_left _ hx)))
theorem hb263_56 : ∀ x ∈ mB263_56, mAt mC263 x.1 = some x.2 := fun x hx => mInc_at hi263 x (List.mem_append_right _ (List.mem_append_right _ (List.mem_append_right _ (List.mem_append_left _ hx))))
theorem hb263_57 : ∀ x ∈ mB263_57, mAt mC263 x.1 = some x.2 := fun x hx => mInc_at hi263 x (List.mem_append_right _ (List.mem_append_right _ (List.mem_append_right _ (List.mem_append_right _ (List.mem_append_left _ hx)))))
theorem hb263_69 : ∀ x ∈ mB263_69, mAt mC263 x.1 = some x.2 := fun x hx => mInc_at hi263 x (List.mem_append_right _ (List.mem_append_right _ (List.mem_append_right _ (List.mem_append_right _ (List.mem_append_right _ (List.mem_append_left _ hx))))))
theorem hb263_73 : ∀ x ∈ mB263_73, mAt mC263 x.1 = some x.2 := fun x hx => mInc_at hi263 x (List.mem_append_right _ (List.mem_append_right _ (List.mem_append_right _ (List.mem_append_right _ (List.mem_append_right _ (List.mem_append_right _ (List.mem_append_left _ hx)))))))
theorem hb263_79 : ∀ x ∈ mB263_79, mAt mC263 x.1 = some x.2 := fun x hx => mInc_at hi263 x (List.mem_append_right _ (List.mem_append_right _ (List.mem_append_right _ (List.mem_append_right _ (List.mem_append_right _ (List.mem_append_right _ (List.mem_append_right _ hx)))))))
set_option maxRecDepth 8000 in
theorem hi264 : mInc mC264 = true := by decide +kernel
theorem hb264_0 : ∀ x ∈ mB264_0, mAt mC264 x.1 = some x.2 := fun x hx => mInc_at hi264 x (List.mem_append_left _ hx)
theorem hb264_9 : ∀ x ∈ mB264_9, mAt mC264 x.1 = some x.2 := fun x hx => mInc_at hi264 x (List.mem_append_right _ (List.mem_append_left _ hx))
theorem hb264_35 : ∀ x ∈ mB264_35, mAt mC264 x.1 = some x.2 := fun x hx => mInc_at hi264 x (List.mem_append_right _ (List.mem_append_right _ (List.mem_append_left _ hx)))
theorem hb264_36 : ∀ x ∈ mB264_36, mAt mC264 x.1 = some x.2 := fun x hx => mInc_at hi264 x (List.mem_append_right _ (List.mem_append_right _ (List.mem_append_right _ (List.mem_append_left _ hx))))
theorem hb264_48 : ∀ x ∈ mB264_48, mAt mC264 x.1 = some x.2 := fun x hx => mInc_at hi264 x (List.mem_append_right _ (List.mem_append_right _ (List.mem_append_right _ (List.mem_append_right _ (List.mem_append_left _ hx)))))
theorem hb264_56 : ∀ x ∈ mB264_56, mAt mC264 x.1 = some x.2 := fun x hx => mInc_at hi264 x (List.mem_append_right _ (List.mem_append_right _ (List.mem_append_right _ (List.mem_append_right _ (List.mem_append_right _ hx)))))
set_option maxRecDepth 8000 in
theorem hi265 : mInc mC265 = true := by decide +kernel
theorem hb265_0 : ∀ x ∈ mB265_0, mAt mC265 x.1 = some x.2 := fun x hx => mInc_at hi265 x (List.mem_append_left _ hx)
theorem hb265_45 : ∀ x ∈ mB265_45, mAt mC265 x.1 = some x.2 := fun x hx => mInc_at hi265 x (List.mem_append_right _ (List.mem_append_left _ hx))
theorem hb265_46 : ∀ x ∈ mB265_46, mAt mC265 x.1 = some x.2 := fun x hx => mInc_at hi265 x (List.mem_append_right _ (List.mem_append_right _ hx))
set_option maxRecDepth 8000 in
theorem hi266 : mInc mC266 = true := by decide +kernel
theorem hb266_0 : ∀ x ∈ mB266_0, mAt mC266 x.1 = some x.2 := fun x hx => mInc_at hi266 x (List.mem_append_left _ hx)
theorem hb266_35 : ∀ x ∈ mB266_35, mAt mC266 x.1 = some x.2 := fun x hx => mInc_at hi266 x (List.mem_append_right _ (List.mem_append_left _ hx))
theorem hb266_36 : ∀ x ∈ mB266_36, mAt mC266 x.1 = some x.2 := fun x hx => mInc_at hi266 x (List.mem_append_right _ (List.mem_append_right _ hx))
set_option maxRecDepth 8000 in
theorem hi267 : mInc mC267 = true := by decide +kernel
theorem hb267_0 : ∀ x ∈ mB267_0, mAt mC267 x.1 = some x.2 := fun x hx => mInc_at hi267 x (List.mem_append_left _ hx)
theorem hb267_8 : ∀ x ∈ mB267_8, mAt mC267 x.1 = some x.2 := fun x hx => mInc_at hi267 x (List.mem_append_right _ (List.mem_append_left _ hx))
theorem hb267_32 : ∀ x ∈ mB267_32, mAt mC267 x.1 = some x.2 := fun x hx => mInc_at hi267 x (List.mem_append_right _ (List.mem_append_right _ (List.mem_append_left _ hx)))
theorem hb267_43 : ∀ x ∈ mB267_43, mAt mC267 x.1 = some x.2 := fun x hx => mInc_at hi267 x (List.mem_append_right _ (List.mem_append_right _ (List.mem_append_right _ (List.mem_append_left _ hx))))
theorem hb267_58 : ∀ x ∈ mB267_58, mAt mC267 x.1 = some x.2 := fun x hx => mInc_at hi267 x (List.mem_append_right _ (List.mem_append_right _ (List.mem_append_right _ (List.mem_append_right _ (List.mem_append_left _ hx)))))
theorem hb267_114 : ∀ x ∈ mB267_114, mAt mC267 x.1 = some x.2 := fun x hx => mInc_at hi267 x (List.mem_append_right _ (List.mem_append_right _ (List.mem_append_right _ (List.mem_append_right _ (List.mem_append_right _ (List.mem_append_left _ hx))))))
theorem hb267_116 : ∀ x ∈ mB267_116, mAt mC267 x.1 = some x.2 := fun x hx => mInc_at hi267 x (List.mem_append_right _ (List.mem_append_right _ (List.mem_append_right _ (List.mem_append_right _ (List.mem_append_right _ (List.mem_append_right _ (List.mem_append_left _ hx)))))))
theorem hb267_129 : ∀ x ∈ mB267_129, mAt mC267 x.1 = some x.2 := fun x hx => mInc_at hi267 x (List.mem_append_right _ (List.mem_append_right _ (List.mem_append_right _ (List.mem_append_right _ (List.mem_append_right _ (List.mem_append_right _ (List.mem_append_right _ (List.mem_append_left _ hx))))))))
theorem hb267_130 : ∀ x ∈ mB267_130, mAt mC267 x.1 = some x.2 := fun x hx => mInc_at hi267 x (List.mem_append_right _ (List.mem_append_right _ (List.mem_append_right _ (List.mem_append_right _ (List.mem_append_right _ (List.mem_append_right _ (List.mem_append_right _ (List.mem_append_right _ (List.mem_append_left _ hx)))))))))
theorem hb267_137 : ∀ x ∈ mB267_137, mAt mC267 x.1 = some x.2 := fun x hx => mInc_at hi267 x (List.mem_append_right _ (List.mem_append_right _ (List.mem_append_right _ (List.mem_append_right _ (List.mem_append_right _ (List.mem_append_right _ (List.mem_append_right _ (List.mem_append_right _ (List.mem_append_right _ (List.mem_append_left _ hx))))))))))
theorem hb267_143 : ∀ x ∈ mB267_143, mAt mC267 x.1 = some x.2 := fun x hx => mInc_at hi267 x (List.mem_append_right _ (List.mem_append_right _ (List.mem_append_right _ (List.mem_append_right _ (List.mem_append_right _ (List.mem_append_right _ (List.mem_append_right _ (List.mem_append_right _ (List.mem_append_right _ (List.mem_append_right _ hx))))))))))
set_option maxRecDepth 8000 in
theorem hi268 : mInc mC268 = true := by decide +kernel
theorem hb268_0 : ∀ x ∈ mB268_0, mAt mC268 x.1 = some x.2 := fun x hx => mInc_at hi268 x (List.mem_append_left _ hx)
theorem hb268_16 : ∀ x ∈ mB268_16, mAt mC268 x.1 = some x.2 := fun x hx => mInc_at hi268 x (List.mem_append_right _ (List.mem_append_left _ hx))
theorem hb268_29 : ∀ x ∈ mB268_29, mAt mC268 x.1 = some x.2 := fun x hx => mInc_at hi268 x (List.mem_append_right _ (List.mem_append_right _ (List.mem_append_left _ hx)))
theorem hb268_38 : ∀ x ∈ mB268_38, mAt mC268 x.1 = some x.2 := fun x hx => mInc_at hi268 x (List.mem_append_right _ (List.mem_append_right _ (List.mem_append_right _ (List.mem_append_left _ hx))))
theorem hb268_69 : ∀ x ∈ mB268_69, mAt mC268 x.1 = some x.2 := fun x hx => mInc_at hi268 x (List.mem_append_right _ (List.mem_append_right _ (List.mem_append_right _ (List.mem_append_right _ (List.mem_append_left _ hx)))))
theorem hb268_75 : ∀ x ∈ mB268_75, mAt mC268 x.1 = some x.2 := fun x hx => mInc_at hi268 x (List.mem_append_right _ (List.mem_append_right _ (List.mem_append_right _ (List.mem_append_right _ (List.mem_append_right _ (List.mem_append_left _ hx))))))
theorem hb268_81 : ∀ x ∈ mB268_81, mAt mC268 x.1 = some x.2 := fun x hx => mInc_at hi268 x (List.mem_append_right _ (List.mem_append_right _ (List.mem_append_right _ (List.mem_append_right _ (List.mem_append_right _ (List.mem_append_right _ (List.mem_append_left _ hx)))))))
theorem hb268_89 : ∀ x ∈ mB268_89, mAt mC268 x.1 = some x.2 := fun x hx => mInc_at hi268 x (List.mem_append_right _ (List.mem_append_right _ (List.mem_append_right _ (List.mem_append_right _ (List.mem_append_right _ (List.mem_append_right _ (List.mem_append_right _ (List.mem_append_left _ hx))))))))
theorem hb268_93 : ∀ x ∈ mB268_93, mAt mC268 x.1 = some x.2 := fun x hx => mInc_at hi268 x (List.mem_append_right _ (List.mem_append_right _ (List.mem_append_right _ (List.mem_append_right _ (List.mem_append_right _ (List.mem_append_right _ (List.mem_append_right _ (List.mem_append_right _ hx))))))))
set_option maxRecDepth 8000 in
theorem hi269 : mInc mC269 = true := by decide +kernel
theorem hb269_0 : ∀ x ∈ mB269_0, mAt mC269 x.1 = some x.2 := fun x hx => mInc_at hi269 x (List.mem_append_left _ hx)
theorem hb269_2 : ∀ x ∈ mB269_2, mAt mC269 x.1 = some x.2 := fun x hx => mInc_at hi269 x (List.mem_append_right _ (List.mem_append_left _ hx))
theorem hb269_32 : ∀ x ∈ mB269_32, mAt mC269 x.1 = some x.2 := fun x hx => mInc_at hi269 x (List.mem_append_right _ (List.mem_append_right _ hx))
set_option maxRecDepth 8000 in
theorem hi270 : mInc mC270 = true := by decide +kernel
theorem hb270_0 : ∀ x ∈ mB270_0, mAt mC270 x.1 = some x.2 := fun x hx => mInc_at hi270 x (List.mem_append_left _ hx)
theorem hb270_5 : ∀ x ∈ mB270_5, mAt mC270 x.1 = some x.2 := fun x hx => mInc_at hi270 x (List.mem_append_right _ (List.mem_append_left _ hx))
theorem hb270_44 : ∀ x ∈ mB270_44, mAt mC270 x.1 = some x.2 := fun x hx => mInc_at hi270 x (List.mem_append_right _ (List.mem_append_right _ (List.mem_append_left _ hx)))
theorem hb270_45 : ∀ x ∈ mB270_45, mAt mC270 x.1 = some x.2 := fun x hx => mInc_at hi270 x (List.mem_append_right _ (List.mem_append_right _ (List.mem_append_right _ (List.mem_append_left _ hx))))
theorem hb270_54 : ∀ x ∈ mB270_54, mAt mC270 x.1 = some x.2 := fun x hx => mInc_at hi270 x (List.mem_append_right _ (List.mem_append_right _ (List.mem_append_right _ (List.mem_append_right _ (List.mem_append_left _ hx)))))
theorem hb270_55 : ∀ x ∈ mB270_55, mAt mC270 x.1 = some x.2 := fun x hx => mInc_at hi270 x (List.mem_append_right _ (List.mem_append_right _ (List.mem_append_right _ (List.mem_append_right _ (List.mem_append_right _ (List.mem_append_left _ hx))))))
theorem hb270_62 : ∀ x ∈ mB270_62, mAt mC270 x.1 = some x.2 := fun x hx => mInc_at hi270 x (List.mem_append_right _ (List.mem_append_right _ (List.mem_append_right _ (List.mem_append_right _ (List.mem_append_right _ (List.mem_append_right _ (List.mem_append_left _ hx)))))))
theorem hb270_63 : ∀ x ∈ mB270_63, mAt mC270 x.1 = some x.2 := fun x hx => mInc_at hi270 x (List.mem_append_right _ (List.mem_append_right _ (List.mem_append_right _ (List.mem_append_right _ (List.mem_append_right _ (List.mem_append_right _ (List.mem_append_right _ (List.mem_append_left _ hx))))))))
theorem hb270_71 : ∀ x ∈ mB270_71, mAt mC270 x.1 = some x.2 := fun x hx => mInc_at hi270 x (List.mem_append_right _ (List.mem_append_right _ (List.mem_append_right _ (List.mem_append_right _ (List.mem_append_right _ (List.mem_append_right _ (List.mem_append_right _ (List.mem_append_right _ hx))))))))
set_option maxRecDepth 8000 in
theorem hi271 : mInc mC271 = true := by decide +kernel
theorem hb271_0 : ∀ x ∈ mB271_0, mAt mC271 x.1 = some x.2 := fun x hx => mInc_at hi271 x (List.mem_append_left _ hx)
theorem hb271_22 : ∀ x ∈ mB271_22, mAt mC271 x.1 = some x.2 := fun x hx => mInc_at hi271 x (List.mem_append_right _ (List.mem_append_left _ hx))
theorem hb271_23 : ∀ x ∈ mB271_23, mAt mC271 x.1 = some x.2 := fun x hx => mInc_at hi271 x (List.mem_append_right _ (List.mem_append_right _ (List.mem_append_left _ hx)))
theorem hb271_48 : ∀ x ∈ mB271_48, mAt mC271 x.1 = some x.2 := fun x hx => mInc_at hi271 x (List.mem_append_right _ (List.mem_append_right _ (List.mem_append_right _ (List.mem_append_left _ hx))))
theorem hb271_49 : ∀ x ∈ mB271_49, mAt mC271 x.1 = some x.2 := fun x hx => mInc_at hi271 x (List.mem_append_right _ (List.mem_append_right _ (List.mem_append_right _ (List.mem_append_right _ hx))))
set_option maxRecDepth 8000 in
theorem hi272 : mInc mC272 = true := by decide +kernel
theorem hb272_0 : ∀ x ∈ mB272_0, mAt mC272 x.1 = some x.2 := fun x hx => mInc_at hi272 x (List.mem_append_left _ hx)
theorem hb272_11 : ∀ x ∈ mB272_11, mAt mC272 x.1 = some x.2 := fun x hx => mInc_at hi272 x (List.mem_append_right _ (List.mem_append_left _ hx))
theorem hb272_50 : ∀ x ∈ mB272_50, mAt mC272 x.1 = some x.2 := fun x hx => mInc_at hi272 x (List.mem_append_right _ (List.mem_append_right _ (List.mem_append_left _ hx)))
theorem hb272_55 : ∀ x ∈ mB272_55, mAt mC272 x.1 = some x.2 := fun x hx => mInc_at hi272 x (List.mem_append_right _ (List.mem_append_right _ (List.mem_append_right _ (List.mem_append_left _ hx))))
theorem hb272_61 : ∀ x ∈ mB272_61, mAt mC272 x.1 = some x.2 := fun x hx => mInc_at hi272 x (List.mem_append_right _ (List.mem_append_right _ (List.mem_append_right _ (List.mem_append_right _ hx))))
set_option maxRecDepth 8000 in
theorem hi273 : mInc mC273 = true := by decide +kernel
theorem hb273_0 : ∀ x ∈ mB273_0, mAt mC273 x.1 = some x.2 := fun x hx => mInc_at hi273 x (List.mem_append_left _ hx)
theorem hb273_32 : ∀ x ∈ mB273_32, mAt mC273 x.1 = some x.2 := fun x hx => mInc_at hi273 x (List.mem_append_right _ (List.mem_append_left _ hx))
theorem hb273_33 : ∀ x ∈ mB273_33, mAt mC273 x.1 = some x.2 := fun x hx => mInc_at hi273 x (List.mem_append_right _ (List.mem_append_right _ (List.mem_append_left _ hx)))
theorem hb273_42 : ∀ x ∈ mB273_42, mAt mC273 x.1 = some x.2 := fun x hx => mInc_at hi273 x (List.mem_append_right _ (List.mem_append_right _ (List.mem_append_right _ (List.mem_append_left _ hx))))
theorem hb273_44 : ∀ x ∈ mB273_44, mAt mC273 x.1 = some x.2 := fun x hx => mInc_at hi273 x (List.mem_append_right _ (List.mem_append_right _ (List.mem_append_right _ (List.mem_append_right _ (List.mem_append_left _ hx)))))
theorem hb273_62 : ∀ x ∈ mB273_62, mAt mC273 x.1 = some x.2 := fun x hx => mInc_at hi273 x (List.mem_append_right _ (List.mem_append_right _ (List.mem_append_right _ (List.mem_append_right _ (List.mem_append_right _ hx)))))
set_option maxRecDepth 8000 in
theorem hi274 : mInc mC274 = true := by decide +kernel
theorem hb274_0 : ∀ x ∈ mB274_0, mAt mC274 x.1 = some x.2 := fun x hx => mInc_at hi274 x (List.mem_append_left _ hx)
theorem hb274_25 : ∀ x ∈ mB274_25, mAt mC274 x.1 = some x.2 := fun x hx => mInc_at hi274 x (List.mem_append_right _ (List.mem_append_left _ hx))
theorem hb274_31 : ∀ x ∈ mB274_31, mAt mC274 x.1 = some x.2 := fun x hx => mInc_at hi274 x (List.mem_append_right _ (List.mem_append_right _ hx))
set_option maxRecDepth 8000 in
theorem hi275 : mInc mC275 = true := by decide +kernel
theorem hb275_0 : ∀ x ∈ mB275_0, mAt mC275 x.1 = some x.2 := fun x hx => mInc_at hi275 x (List.mem_append_left _ hx)
theorem hb275_4 : ∀ x ∈ mB275_4, mAt mC275 x.1 = some x.2 := fun x hx => mInc_at hi275 x (List.mem_append_right _ (List.mem_append_left _ hx))
theorem hb275_27 : ∀ x ∈ mB275_27, mAt mC275 x.1 = some x.2 := fun x hx => mInc_at hi275 x (List.mem_append_right _ (List.mem_append_right _ hx))
set_option maxRecDepth 8000 in
theorem hi276 : mInc mC276 = true := by decide +kernel
theorem hb276_0 : ∀ x ∈ mB276_0, mAt mC276 x.1 = some x.2 := fun x hx => mInc_at hi276 x (List.mem_append_left _ hx)
theorem hb276_5 : ∀ x ∈ mB276_5, mAt mC276 x.1 = some x.2 := fun x hx => mInc_at hi276 x (List.mem_append_right _ (List.mem_append_left _ hx))
theorem hb276_26 : ∀ x ∈ mB276_26, mAt mC276 x.1 = some x.2 := fun x hx => mInc_at hi276 x (List.mem_append_right _ (List.mem_append_right _ (List.mem_append_left _ hx)))
theorem hb276_34 : ∀ x ∈ mB276_34, mAt mC276 x.1 = some x.2 := fun x hx => mInc_at hi276 x (List.mem_append_right _ (List.mem_append_right _ (List.mem_append_right _ (List.mem_append_left _ hx))))
theorem hb276_35 : ∀ x ∈ mB276_35, mAt mC276 x.1 = some x.2 := fun x hx => mInc_at hi276 x (List.mem_append_right _ (List.mem_append_right _ (List.mem_append_right _ (List.mem_append_right _ hx))))
set_option maxRecDepth 8000 in
theorem hi277 : mInc mC277 = true := by decide +kernel
theorem hb277_0 : ∀ x ∈ mB277_0, mAt mC277 x.1 = some x.2 := fun x hx => mInc_at hi277 x (List.mem_append_left _ hx)
theorem hb277_16 : ∀ x ∈ mB277_16, mAt mC277 x.1 = some x.2 := fun x hx => mInc_at hi277 x (List.mem_append_right _ (List.mem_append_left _ hx))
theorem hb277_36 : ∀ x ∈ mB277_36, mAt mC277 x.1 = some x.2 := fun x hx => mInc_at hi277 x (List.mem_append_right _ (List.mem_append_right _ (List.mem_append_left _ hx)))
theorem hb277_40 : ∀ x ∈ mB277_40, mAt mC277 x.1 = some x.2 := fun x hx => mInc_at hi277 x (List.mem_append_right _ (List.mem_append_right _ (List.mem_append_right _ (List.mem_append_left _ hx))))
theorem hb277_45 : ∀ x ∈ mB277_45, mAt mC277 x.1 = some x.2 := fun x hx => mInc_at hi277 x (List.mem_append_right _ (List.mem_append_right _ (List.mem_append_right _ (List.mem_append_right _ (List.mem_append_left _ hx)))))
theorem hb277_52 : ∀ x ∈ mB277_52, mAt mC277 x.1 = some x.2 := fun x hx => mInc_at hi277 x (List.mem_append_right _ (List.mem_append_right _ (List.mem_append_right _ (List.mem_append_right _ (List.mem_append_right _ (List.mem_append_left _ hx))))))
theorem hb277_82 : ∀ x ∈ mB277_82, mAt mC277 x.1 = some x.2 := fun x hx => mInc_at hi277 x (List.mem_append_right _ (List.mem_append_right _ (List.mem_append_right _ (List.mem_append_right _ (List.mem_append_right _ (List.mem_append_right _ (List.mem_append_left _ hx)))))))
theorem hb277_83 : ∀ x ∈ mB277_83, mAt mC277 x.1 = some x.2 := fun x hx => mInc_at hi277 x (List.mem_append_right _ (List.mem_append_right _ (List.mem_append_right _ (List.mem_append_right _ (List.mem_append_right _ (List.mem_append_right _ (List.mem_append_right _ (List.mem_append_left _ hx))))))))
theorem hb277_103 : ∀ x ∈ mB277_103, mAt mC277 x.1 = some x.2 := fun x hx => mInc_at hi277 x (List.mem_append_right _ (List.mem_append_right _ (List.mem_append_right _ (List.mem_append_right _ (List.mem_append_right _ (List.mem_append_right _ (List.mem_append_right _ (List.mem_append_right _ (List.mem_append_left _ hx)))))))))
theorem hb277_104 : ∀ x ∈ mB277_104, mAt mC277 x.1 = some x.2 := fun x hx => mInc_at hi277 x (List.mem_append_right _ (List.mem_append_right _ (List.mem_append_right _ (List.mem_append_right _ (List.mem_append_right _ (List.mem_append_right _ (List.mem_append_right _ (List.mem_append_right _ (List.mem_append_right _ (List.mem_append_left _ hx))))))))))
theorem hb277_112 : ∀ x ∈ mB277_112, mAt mC277 x.1 = some x.2 := fun x hx => mInc_at hi277 x (List.mem_append_right _ (List.mem_append_right _ (List.mem_append_right _ (List.mem_append_right _ (List.mem_append_right _ (List.mem_append_right _ (List.mem_append_right _ (List.mem_append_right _ (List.mem_append_right _ (List.mem_append_right _ (List.mem_append_left _ hx)))))))))))
theorem hb277_121 : ∀ x ∈ mB277_121, mAt mC277 x.1 = some x.2 := fun x hx => mInc_at hi277 x (List.mem_append_right _ (List.mem_append_right _ (List.mem_append_right _ (List.mem_append_right _ (List.mem_append_right _ (List.mem_append_right _ (List.mem_append_right _ (List.mem_append_right _ (List.mem_append_right _ (List.mem_append_right _ (List.mem_append_right _ (List.mem_append_left _ hx))))))))))))
theorem hb277_122 : ∀ x ∈ mB277_122, mAt mC277 x.1 = some x.2 := fun x hx => mInc_at hi277 x (List.mem_append_right _ (List.mem_append_right _ (List.mem_append_right _ (List.mem_append_right _ (List.mem_append_right _ (List.mem_append_right _ (List.mem_append_right _ (List.mem_append_right _ (List.mem_append_right _ (List.mem_append_right _ (List.mem_append_right _ (List.mem_append_right _ hx))))))))))))
set_option maxRecDepth 8000 in
theorem hi278 : mInc mC278 = true := by decide +kernel
theorem hb278_0 : ∀ x ∈ mB278_0, mAt mC278 x.1 = some x.2 := fun x hx => mInc_at hi278 x (List.mem_append_left _ hx)
theorem hb278_23 : ∀ x ∈ mB278_23, mAt mC278 x.1 = some x.2 := fun x hx => mInc_at hi278 x (List.mem_append_right _ (List.mem_append_left _ hx))
theorem hb278_25 : ∀ x ∈ mB278_25, mAt mC278 x.1 = some x.2 := fun x hx => mInc_at hi278 x (List.mem_append_right _ (List.mem_append_right _ (List.mem_append_left _ hx)))
theorem hb278_46 : ∀ x ∈ mB278_46, mAt mC278 x.1 = some x.2 := fun x hx => mInc_at hi278 x (List.mem_append_right _ (List.mem_append_right _ (List.mem_append_right _ hx)))
set_option maxRecDepth 8000 in
theorem hi279 : mInc mC279 = true := by decide +kernel
theorem hb279_0 : ∀ x ∈ mB279_0, mAt mC279 x.1 = some x.2 := fun x hx => mInc_at hi279 x (List.mem_append_left _ hx)
theorem hb279_36 : ∀ x ∈ mB279_36, mAt mC279 x.1 = some x.2 := fun x hx => mInc_at hi279 x (List.mem_append_right _ (List.mem_append_left _ hx))
theorem hb279_42 : ∀ x ∈ mB279_42, mAt mC279 x.1 = some x.2 := fun x hx => mInc_at hi279 x (List.mem_append_right _ (List.mem_append_right _ hx))
set_option maxRecDepth 8000 in
theorem hi280 : mInc mC280 = true := by decide +kernel
theorem hb280_0 : ∀ x ∈ mB280_0, mAt mC280 x.1 = some x.2 := fun x hx => mInc_at hi280 x hx
set_option maxRecDepth 8000 in
theorem hi281 : mInc mC281 = true := by decide +kernel
theorem hb281_0 : ∀ x ∈ mB281_0, mAt mC281 x.1 = some x.2 := fun x hx => mInc_at hi281 x (List.mem_append_left _ hx)
theorem hb281_2 : ∀ x ∈ mB281_2, mAt mC281 x.1 = some x.2 := fun x hx => mInc_at hi281 x (List.mem_append_right _ (List.mem_append_left _ hx))
theorem hb281_15 : ∀ x ∈ mB281_15, mAt mC281 x.1 = some x.2 := fun x hx => mInc_at hi281 x (List.mem_append_right _ (List.mem_append_right _ (List.mem_append_left _ hx)))
theorem hb281_63 : ∀ x ∈ mB281_63, mAt mC281 x.1 = some x.2 := fun x hx => mInc_at hi281 x (List.mem_append_right _ (List.mem_append_right _ (List.mem_append_right _ (List.mem_append_left _ hx))))
theorem hb281_64 : ∀ x ∈ mB281_64, mAt mC281 x.1 = some x.2 := fun x hx => mInc_at hi281 x (List.mem_append_right _ (List.mem_append_right _ (List.mem_append_right _ (List.mem_append_right _ (List.mem_append_left _ hx)))))
theorem hb281_72 : ∀ x ∈ mB281_72, mAt mC281 x.1 = some x.2 := fun x hx => mInc_at hi281 x (List.mem_append_right _ (List.mem_append_right _ (List.mem_append_right _ (List.mem_append_right _ (List.mem_append_right _ (List.mem_append_left _ hx))))))
theorem hb281_88 : ∀ x ∈ mB281_88, mAt mC281 x.1 = some x.2 := fun x hx => mInc_at hi281 x (List.mem_append_right _ (List.mem_append_right _ (List.mem_append_right _ (List.mem_append_right _ (List.mem_append_right _ (List.mem_append_right _ (List.mem_append_left _ hx)))))))
theorem hb281_94 : ∀ x ∈ mB281_94, mAt mC281 x.1 = some x.2 := fun x hx => mInc_at hi281 x (List.mem_append_right _ (List.mem_append_right _ (List.mem_append_right _ (List.mem_append_right _ (List.mem_append_right _ (List.mem_append_right _ (List.mem_append_right _ hx)))))))
set_option maxRecDepth 8000 in
theorem hi282 : mInc mC282 = true := by decide +kernel
theorem hb282_0 : ∀ x ∈ mB282_0, mAt mC282 x.1 = some x.2 := fun x hx => mInc_at hi282 x (List.mem_append_left _ hx)
theorem hb282_16 : ∀ x ∈ mB282_16, mAt mC282 x.1 = some x.2 := fun x hx => mInc_at hi282 x (List.mem_append_right _ (List.mem_append_left _ hx))
theorem hb282_33 : ∀ x ∈ mB282_33, mAt mC282 x.1 = some x.2 := fun x hx => mInc_at hi282 x (List.mem_append_right _ (List.mem_append_right _ (List.mem_append_left _ hx)))
theorem hb282_56 : ∀ x ∈ mB282_56, mAt mC282 x.1 = some x.2 := fun x hx => mInc_at hi282 x (List.mem_append_right _ (List.mem_append_right _ (List.mem_append_right _ (List.mem_append_left _ hx))))
theorem hb282_76 : ∀ x ∈ mB282_76, mAt mC282 x.1 = some x.2 := fun x hx => mInc_at hi282 x (List.mem_append_right _ (List.mem_append_right _ (List.mem_append_right _ (List.mem_append_right _ (List.mem_append_left _ hx)))))
theorem hb282_79 : ∀ x ∈ mB282_79, mAt mC282 x.1 = some x.2 := fun x hx => mInc_at hi282 x (List.mem_append_right _ (List.mem_append_right _ (List.mem_append_right _ (List.mem_append_right _ (List.mem_append_right _ (List.mem_append_left _ hx))))))
theorem hb282_86 : ∀ x ∈ mB282_86, mAt mC282 x.1 = some x.2 := fun x hx => mInc_at hi282 x (List.mem_append_right _ (List.mem_append_right _ (List.mem_append_right _ (List.mem_append_right _ (List.mem_append_right _ (List.mem_append_right _ (List.mem_append_left _ hx)))))))
theorem hb282_92 : ∀ x ∈ mB282_92, mAt mC282 x.1 = some x.2 := fun x hx => mInc_at hi282 x (List.mem_append_right _ (List.mem_append_right _ (List.mem_append_right _ (List.mem_append_right _ (List.mem_append_right _ (List.mem_append_right _ (List.mem_append_right _ (List.mem_append_left _ hx))))))))
theorem hb282_100 : ∀ x ∈ mB282_100, mAt mC282 x.1 = some x.2 := fun x hx => mInc_at hi282 x (List.mem_append_right _ (List.mem_append_right _ (List.mem_append_right _ (List.mem_append_right _ (List.mem_append_right _ (List.mem_append_right _ (List.mem_append_right _ (List.mem_append_right _ (List.mem_append_left _ hx)))))))))
theorem hb282_109 : ∀ x ∈ mB282_109, mAt mC282 x.1 = some x.2 := fun x hx => mInc_at hi282 x (List.mem_append_right _ (List.mem_append_right _ (List.mem_append_right _ (List.mem_append_right _ (List.mem_append_right _ (List.mem_append_right _ (List.mem_append_right _ (List.mem_append_right _ (List.mem_append_right _ (List.mem_append_left _ hx))))))))))
theorem hb282_117 : ∀ x ∈ mB282_117, mAt mC282 x.1 = some x.2 := fun x hx => mInc_at hi282 x (List.mem_append_right _ (List.mem_append_right _ (List.mem_append_right _ (List.mem_append_right _ (List.mem_append_right _ (List.mem_append_right _ (List.mem_append_right _ (List.mem_append_right _ (List.mem_append_right _ (List.mem_append_right _ (List.mem_append_left _ hx)))))))))))
theorem hb282_119 : ∀ x ∈ mB282_119, mAt mC282 x.1 = some x.2 := fun x hx => mInc_at hi282 x (List.mem_append_right _ (List.mem_append_right _ (List.mem_append_right _ (List.mem_append_right _ (List.mem_append_right _ (List.mem_append_right _ (List.mem_append_right _ (List.mem_append_right _ (List.mem_append_right _ (List.mem_append_right _ (List.mem_append_right _ hx)))))))))))
set_option maxRecDepth 8000 in
theorem hi283 : mInc mC283 = true := by decide +kernel
theorem hb283_0 : ∀ x ∈ mB283_0, mAt mC283 x.1 = some x.2 := fun x hx => mInc_at hi283 x hx
set_option maxRecDepth 8000 in
theorem hi284 : mInc mC284 = true := by decide +kernel
theorem hb284_0 : ∀ x ∈ mB284_0, mAt mC284 x.1 = some x.2 := fun x hx => mInc_at hi284 x (List.mem_append_left _ hx)
theorem hb284_4 : ∀ x ∈ mB284_4, mAt mC284 x.1 = some x.2 := fun x hx => mInc_at hi284 x (List.mem_append_right _ (List.mem_append_left _ hx))
theorem hb284_26 : ∀ x ∈ mB284_26, mAt mC284 x.1 = some x.2 := fun x hx => mInc_at hi284 x (List.mem_append_right _ (List.mem_append_right _ hx))
set_option maxRecDepth 8000 in
theorem hi285 : mInc mC285 = true := by decide +kernel
theorem hb285_0 : ∀ x ∈ mB285_0, mAt mC285 x.1 = some x.2 := fun x hx => mInc_at hi285 x (List.mem_append_left _ hx)
theorem hb285_29 : ∀ x ∈ mB285_29, mAt mC285 x.1 = some x.2 := fun x hx => mInc_at hi285 x (List.mem_append_right _ (List.mem_append_left _ hx))
theorem hb285_31 : ∀ x ∈ mB285_31, mAt mC285 x.1 = some x.2 := fun x hx => mInc_at hi285 x (List.mem_append_right _ (List.mem_append_right _ (List.mem_append_left _ hx)))
theorem hb285_58 : ∀ x ∈ mB285_58, mAt mC285 x.1 = some x.2 := fun x hx => mInc_at hi285 x (List.mem_append_right _ (List.mem_append_right _ (List.mem_append_right _ (List.mem_append_left _ hx))))
theorem hb285_80 : ∀ x ∈ mB285_80, mAt mC285 x.1 = some x.2 := fun x hx => mInc_at hi285 x (List.mem_append_right _ (List.mem_append_right _ (List.mem_append_right _ (List.mem_append_right _ (List.mem_append_left _ hx)))))
theorem hb285_108 : ∀ x ∈ mB285_108, mAt mC285 x.1 = some x.2 := fun x hx => mInc_at hi285 x (List.mem_append_right _ (List.mem_append_right _ (List.mem_append_right _ (List.mem_append_right _ (List.mem_append_right _ (List.mem_append_left _ hx))))))
theorem hb285_170 : ∀ x ∈ mB285_170, mAt mC285 x.1 = some x.2 := fun x hx => mInc_at hi285 x (List.mem_append_right _ (List.mem_append_right _ (List.mem_append_right _ (List.mem_append_right _ (List.mem_append_right _ (List.mem_append_right _ (List.mem_append_left _ hx)))))))
theorem hb285_185 : ∀ x ∈ mB285_185, mAt mC285 x.1 = some x.2 := fun x hx => mInc_at hi285 x (List.mem_append_right _ (List.mem_append_right _ (List.mem_append_right _ (List.mem_append_right _ (List.mem_append_right _ (List.mem_append_right _ (List.mem_append_right _ (List.mem_append_left _ hx))))))))
theorem hb285_186 : ∀ x ∈ mB285_186, mAt mC285 x.1 = some x.2 := fun x hx => mInc_at hi285 x (List.mem_append_right _ (List.mem_append_right _ (List.mem_append_right _ (List.mem_append_right _ (List.mem_append_right _ (List.mem_append_right _ (List.mem_append_right _ (List.mem_append_right _ (List.mem_append_left _ hx)))))))))
theorem hb285_205 : ∀ x ∈ mB285_205, mAt mC285 x.1 = some x.2 := fun x hx => mInc_at hi285 x (List.mem_append_right _ (List.mem_append_right _ (List.mem_append_right _ (List.mem_append_right _ (List.mem_append_right _ (List.mem_append_right _ (List.mem_append_right _ (List.mem_append_right _ (List.mem_append_right _ (List.mem_append_left _ hx))))))))))
theorem hb285_207 : ∀ x ∈ mB285_207, mAt mC285 x.1 = some x.2 := fun x hx => mInc_at hi285 x (List.mem_append_right _ (List.mem_append_right _ (List.mem_append_right _ (List.mem_append_right _ (List.mem_append_right _ (List.mem_append_right _ (List.mem_append_right _ (List.mem_append_right _ (List.mem_append_right _ (List.mem_append_right _ (List.mem_append_left _ hx)))))))))))
theorem hb285_228 : ∀ x ∈ mB285_228, mAt mC285 x.1 = some x.2 := fun x hx => mInc_at hi285 x (List.mem_append_right _ (List.mem_append_right _ (List.mem_append_right _ (List.mem_append_right _ (List.mem_append_right _ (List.mem_append_right _ (List.mem_append_right _ (List.mem_append_right _ (List.mem_append_right _ (List.mem_append_right _ (List.mem_append_right _ (List.mem_append_left _ hx))))))))))))
theorem hb285_230 : ∀ x ∈ mB285_230, mAt mC285 x.1 = some x.2 := fun x hx => mInc_at hi285 x (List.mem_append_right _ (List.mem_append_right _ (List.mem_append_right _ (List.mem_append_right _ (List.mem_append_right _ (List.mem_append_right _ (List.mem_append_right _ (List.mem_append_right _ (List.mem_append_right _ (List.mem_append_right _ (List.mem_append_right _ (List.mem_append_right _ (List.mem_append_left _ hx)))))))))))))
theorem hb285_238 : ∀ x ∈ mB285_238, mAt mC285 x.1 = some x.2 := fun x hx => mInc_at hi285 x (List.mem_append_right _ (List.mem_append_right _ (List.mem_append_right _ (List.mem_append_right _ (List.mem_append_right _ (List.mem_append_right _ (List.mem_append_right _ (List.mem_append_right _ (List.mem_append_right _ (List.mem_append_right _ (List.mem_append_right _ (List.mem_append_right _ (List.mem_append_right _ (List.mem_append_left _ hx))))))))))))))
theorem hb285_247 : ∀ x ∈ mB285_247, mAt mC285 x.1 = some x.2 := fun x hx => mInc_at hi285 x (List.mem_append_right _ (List.mem_append_right _ (List.mem_append_right _ (List.mem_append_right _ (List.mem_append_right _ (List.mem_append_right _ (List.mem_append_right _ (List.mem_append_right _ (List.mem_append_right _ (List.mem_append_right _ (List.mem_append_right _ (List.mem_append_right _ (List.mem_append_right _ (List.mem_append_right _ (List.mem_append_left _ hx)))))))))))))))
theorem hb285_257 : ∀ x ∈ mB285_257, mAt mC285 x.1 = some x.2 := fun x hx => mInc_at hi285 x (List.mem_append_right _ (List.mem_append_right _ (List.mem_append_right _ (List.mem_append_right _ (List.mem_append_right _ (List.mem_append_right _ (List.mem_append_right _ (List.mem_append_right _ (List.mem_append_right _ (List.mem_append_right _ (List.mem_append_right _ (List.mem_append_right _ (List.mem_append_right _ (List.mem_append_right _ (List.mem_append_right _ (List.mem_append_left _ hx))))))))))))))))
theorem hb285_259 : ∀ x ∈ mB285_259, mAt mC285 x.1 = some x.2 := fun x hx => mInc_at hi285 x (List.mem_append_right _ (List.mem_append_right _ (List.mem_append_right _ (List.mem_append_right _ (List.mem_append_right _ (List.mem_append_right _ (List.mem_append_right _ (List.mem_append_right _ (List.mem_append_right _ (List.mem_append_right _ (List.mem_append_right _ (List.mem_append_right _ (List.mem_append_right _ (List.mem_append_right _ (List.mem_append_right _ (List.mem_append_right _ hx))))))))))))))))
set_option maxRecDepth 8000 in
theorem hi286 : mInc mC286 = true := by decide +kernel
theorem hb286_0 : ∀ x ∈ mB286_0, mAt mC286 x.1 = some x.2 := fun x hx => mInc_at hi286 x (List.mem_append_left _ hx)
theorem hb286_13 : ∀ x ∈ mB286_13, mAt mC286 x.1 = some x.2 := fun x hx => mInc_at hi286 x (List.mem_append_right _ (List.mem_append_left _ hx))
theorem hb286_39 : ∀ x ∈ mB286_39, mAt mC286 x.1 = some x.2 := fun x hx => mInc_at hi286 x (List.mem_append_right _ (List.mem_append_right _ (List.mem_append_left _ hx)))
theorem hb286_40 : ∀ x ∈ mB286_40, mAt mC286 x.1 = some x.2 := fun x hx => mInc_at hi286 x (List.mem_append_right _ (List.mem_append_right _ (List.mem_append_right _ (List.mem_append_left _ hx))))
theorem hb286_48 : ∀ x ∈ mB286_48, mAt mC286 x.1 = some x.2 := fun x hx => mInc_at hi286 x (List.mem_append_right _ (List.mem_append_right _ (List.mem_append_right _ (List.mem_append_right _ hx))))
set_option maxRecDepth 8000 in
theorem hi287 : mInc mC287 = true := by decide +kernel
theorem hb287_0 : ∀ x ∈ mB287_0, mAt mC287 x.1 = some x.2 := fun x hx => mInc_at hi287 x (List.mem_append_left _ hx)
theorem hb287_15 : ∀ x ∈ mB287_15, mAt mC287 x.1 = some x.2 := fun x hx => mInc_at hi287 x (List.mem_append_right _ hx)
set_option maxRecDepth 8000 in
theorem hi288 : mInc mC288 = true := by decide +kernel
theorem hb288_0 : ∀ x ∈ mB288_0, mAt mC288 x.1 = some x.2 := fun x hx => mInc_at hi288 x (List.mem_append_left _ hx)
theorem hb288_16 : ∀ x ∈ mB288_16, mAt mC288 x.1 = some x.2 := fun x hx => mInc_at hi288 x (List.mem_append_right _ (List.mem_append_left _ hx))
theorem hb288_27 : ∀ x ∈ mB288_27, mAt mC288 x.1 = some x.2 := fun x hx => mInc_at hi288 x (List.mem_append_right _ (List.mem_append_right _ (List.mem_append_left _ hx)))
theorem hb288_40 : ∀ x ∈ mB288_40, mAt mC288 x.1 = some x.2 := fun x hx => mInc_at hi288 x (List.mem_append_right _ (List.mem_append_right _ (List.mem_append_right _ (List.mem_append_left _ hx))))
theorem hb288_45 : ∀ x ∈ mB288_45, mAt mC288 x.1 = some x.2 := fun x hx => mInc_at hi288 x (List.mem_append_right _ (List.mem_append_right _ (List.mem_append_right _ (List.mem_append_right _ (List.mem_append_left _ hx)))))
theorem hb288_83 : ∀ x ∈ mB288_83, mAt mC288 x.1 = some x.2 := fun x hx => mInc_at hi288 x (List.mem_append_right _ (List.mem_append_right _ (List.mem_append_right _ (List.mem_append_right _ (List.mem_append_right _ hx)))))
set_option maxRecDepth 8000 in
theorem hi289 : mInc mC289 = true := by decide +kernel
theorem hb289_0 : ∀ x ∈ mB289_0, mAt mC289 x.1 = some x.2 := fun x hx => mInc_at hi289 x hx
set_option maxRecDepth 8000 in
theorem hi290 : mInc mC290 = true := by decide +kernel
theorem hb290_0 : ∀ x ∈ mB290_0, mAt mC290 x.1 = some x.2 := fun x hx => mInc_at hi290 x (List.mem_append_left _ hx)
theorem hb290_14 : ∀ x ∈ mB290_14, mAt mC290 x.1 = some x.2 := fun x hx => mInc_at hi290 x (List.mem_append_right _ hx)
set_option maxRecDepth 8000 in
theorem hi291 : mInc mC291 = true := by decide +kernel
theorem hb291_0 : ∀ x ∈ mB291_0, mAt mC291 x.1 = some x.2 := fun x hx => mInc_at hi291 x hx
set_option maxRecDepth 8000 in
theorem hi292 : mInc mC292 = true := by decide +kernel
theorem hb292_0 : ∀ x ∈ mB292_0, mAt mC292 x.1 = some x.2 := fun x hx => mInc_at hi292 x hx
set_option maxRecDepth 8000 in
theorem hi293 : mInc mC293 = true := by decide +kernel
theorem hb293_0 : ∀ x ∈ mB293_0, mAt mC293 x.1 = some x.2 := fun x hx => mInc_at hi293 x hx
set_option maxRecDepth 8000 in
theorem hi294 : mInc mC294 = true := by decide +kernel
theorem hb294_0 : ∀ x ∈ mB294_0, mAt mC294 x.1 = some x.2 := fun x hx => mInc_at hi294 x hx
set_option maxRecDepth 8000 in
theorem hi295 : mInc mC295 = true := by decide +kernel
theorem hb295_0 : ∀ x ∈ mB295_0, mAt mC295 x.1 = some x.2 := fun x hx => mInc_at hi295 x (List.mem_append_left _ hx)
theorem hb295_16 : ∀ x ∈ mB295_16, mAt mC295 x.1 = some x.2 := fun x hx => mInc_at hi295 x (List.mem_append_right _ hx)
set_option maxRecDepth 8000 in
theorem hi296 : mInc mC296 = true := by decide +kernel
theorem hb296_0 : ∀ x ∈ mB296_0, mAt mC296 x.1 = some x.2 := fun x hx => mInc_at hi296 x (List.mem_append_left _ hx)
theorem hb296_13 : ∀ x ∈ mB296_13, mAt mC296 x.1 = some x.2 := fun x hx => mInc_at hi296 x (List.mem_append_right _ (List.mem_append_left _ hx))
theorem hb296_14 : ∀ x ∈ mB296_14, mAt mC296 x.1 = some x.2 := fun x hx => mInc_at hi296 x (List.mem_append_right _ (List.mem_append_right _ hx))
set_option maxRecDepth 8000 in
theorem hi297 : mInc mC297 = true := by decide +kernel
theorem hb297_0 : ∀ x ∈ mB297_0, mAt mC297 x.1 = some x.2 := fun x hx => mInc_at hi297 x (List.mem_append_left _ hx)
theorem hb297_17 : ∀ x ∈ mB297_17, mAt mC297 x.1 = some x.2 := fun x hx => mInc_at hi297 x (List.mem_append_right _ (List.mem_append_left _ hx))
theorem hb297_18 : ∀ x ∈ mB297_18, mAt mC297 x.1 = some x.2 := fun x hx => mInc_at hi297 x (List.mem_append_right _ (List.mem_append_right _ hx))
set_option maxRecDepth 8000 in
theorem hi298 : mInc mC298 = true := by decide +kernel
theorem hb298_0 : ∀ x ∈ mB298_0, mAt mC298 x.1 = some x.2 := fun x hx => mInc_at hi298 x hx
set_option maxRecDepth 8000 in
theorem hi299 : mInc mC299 = true := by decide +kernel
theorem hb299_0 : ∀ x ∈ mB299_0, mAt mC299 x.1 = some x.2 := fun x hx => mInc_at hi299 x hx
set_option maxRecDepth 8000 in
theorem hi300 : mInc mC300 = true := by decide +kernel
theorem hb300_0 : ∀ x ∈ mB300_0, mAt mC300 x.1 = some x.2 := fun x hx => mInc_at hi300 x (List.mem_append_left _ hx)
theorem hb300_5 : ∀ x ∈ mB300_5, mAt mC300 x.1 = some x.2 := fun x hx => mInc_at hi300 x (List.mem_append_right _ (List.mem_append_left _ hx))
theorem hb300_20 : ∀ x ∈ mB300_20, mAt mC300 x.1 = some x.2 := fun x hx => mInc_at hi300 x (List.mem_append_right _ (List.mem_append_right _ hx))
set_option maxRecDepth 8000 in
theorem hi301 : mInc mC301 = true := by decide +kernel
theorem hb301_0 : ∀ x ∈ mB301_0, mAt mC301 x.1 = some x.2 := fun x hx => mInc_at hi301 x (List.mem_append_left _ hx)
theorem hb301_9 : ∀ x ∈ mB301_9, mAt mC301 x.1 = some x.2 := fun x hx => mInc_at hi301 x (List.mem_append_right _ (List.mem_append_left _ hx))
theorem hb301_16 : ∀ x ∈ mB301_16, mAt mC301 x.1 = some x.2 := fun x hx => mInc_at hi301 x (List.mem_append_right _ (List.mem_append_right _ hx))
set_option maxRecDepth 8000 in
theorem hi302 : mInc mC302 = true := by decide +kernel
theorem hb302_0 : ∀ x ∈ mB302_0, mAt mC302 x.1 = some x.2 := fun x hx => mInc_at hi302 x (List.mem_append_left _ hx)
theorem hb302_12 : ∀ x ∈ mB302_12, mAt mC302 x.1 = some x.2 := fun x hx => mInc_at hi302 x (List.mem_append_right _ (List.mem_append_left _ hx))
theorem hb302_13 : ∀ x ∈ mB302_13, mAt mC302 x.1 = some x.2 := fun x hx => mInc_at hi302 x (List.mem_append_right _ (List.mem_append_right _ (List.mem_append_left _ hx)))
theorem hb302_15 : ∀ x ∈ mB302_15, mAt mC302 x.1 = some x.2 := fun x hx => mInc_at hi302 x (List.mem_append_right _ (List.mem_append_right _ (List.mem_append_right _ hx)))
set_option maxRecDepth 8000 in
theorem hi303 : mInc mC303 = true := by decide +kernel
theorem hb303_0 : ∀ x ∈ mB303_0, mAt mC303 x.1 = some x.2 := fun x hx => mInc_at hi303 x (List.mem_append_left _ hx)
theorem hb303_12 : ∀ x ∈ mB303_12, mAt mC303 x.1 = some x.2 := fun x hx => mInc_at hi303 x (List.mem_append_right _ (List.mem_append_left _ hx))
theorem hb303_13 : ∀ x ∈ mB303_13, mAt mC303 x.1 = some x.2 := fun x hx => mInc_at hi303 x (List.mem_append_right _ (List.mem_append_right _ (List.mem_append_left _ hx)))
theorem hb303_15 : ∀ x ∈ mB303_15, mAt mC303 x.1 = some x.2 := fun x hx => mInc_at hi303 x (List.mem_append_right _ (List.mem_append_right _ (List.mem_append_right _ hx)))
set_option maxRecDepth 8000 in
theorem hi304 : mInc mC304 = true := by decide +kernel
theorem hb304_0 : ∀ x ∈ mB304_0, mAt mC304 x.1 = some x.2 := fun x hx => mInc_at hi304 x (List.mem_append_left _ hx)
theorem hb304_13 : ∀ x ∈ mB304_13, mAt mC304 x.1 = some x.2 := fun x hx => mInc_at hi304 x (List.mem_append_right _ (List.mem_append_left _ hx))
theorem hb304_15 : ∀ x ∈ mB304_15, mAt mC304 x.1 = some x.2 := fun x hx => mInc_at hi304 x (List.mem_append_right _ (List.mem_append_right _ (List.mem_append_left _ hx)))
theorem hb304_17 : ∀ x ∈ mB304_17, mAt mC304 x.1 = some x.2 := fun x hx => mInc_at hi304 x (List.mem_append_right _ (List.mem_append_right _ (List.mem_append_right _ hx)))
set_option maxRecDepth 8000 in
theorem hi305 : mInc mC305 = true := by decide +kernel
theorem hb305_0 : ∀ x ∈ mB305_0, mAt mC305 x.1 = some x.2 := fun x hx => mInc_at hi305 x (List.mem_append_left _ hx)
theorem hb305_13 : ∀ x ∈ mB305_13, mAt mC305 x.1 = some x.2 := fun x hx => mInc_at hi305 x (List.mem_append_right _ (List.mem_append_left _ hx))
theorem hb305_15 : ∀ x ∈ mB305_15, mAt mC305 x.1 = some x.2 := fun x hx => mInc_at hi305 x (List.mem_append_right _ (List.mem_append_right _ (List.mem_append_left _ hx)))
theorem hb305_17 : ∀ x ∈ mB305_17, mAt mC305 x.1 = some x.2 := fun x hx => mInc_at hi305 x (List.mem_append_right _ (List.mem_append_right _ (List.mem_append_right _ hx)))
set_option maxRecDepth 8000 in
theorem hi306 : mInc mC306 = true := by decide +kernel
theorem hb306_0 : ∀ x ∈ mB306_0, mAt mC306 x.1 = some x.2 := fun x hx => mInc_at hi306 x (List.mem_append_left _ hx)
theorem hb306_13 : ∀ x ∈ mB306_13, mAt mC306 x.1 = some x.2 := fun x hx => mInc_at hi306 x (List.mem_append_right _ (List.mem_append_left _ hx))
theorem hb306_15 : ∀ x ∈ mB306_15, mAt mC306 x.1 = some x.2 := fun x hx => mInc_at hi306 x (List.mem_append_right _ (List.mem_append_right _ (List.mem_append_left _ hx)))
theorem hb306_17 : ∀ x ∈ mB306_17, mAt mC306 x.1 = some x.2 := fun x hx => mInc_at hi306 x (List.mem_append_right _ (List.mem_append_right _ (List.mem_append_right _ hx)))
set_option maxRecDepth 8000 in
theorem hi307 : mInc mC307 = true := by decide +kernel
theorem hb307_0 : ∀ x ∈ mB307_0, mAt mC307 x.1 = some x.2 := fun x hx => mInc_at hi307 x (List.mem_append_left _ hx)
theorem hb307_13 : ∀ x ∈ mB307_13, mAt mC307 x.1 = some x.2 := fun x hx => mInc_at hi307 x (List.mem_append_right _ (List.mem_append_left _ hx))
theorem hb307_15 : ∀ x ∈ mB307_15, mAt mC307 x.1 = some x.2 := fun x hx => mInc_at hi307 x (List.mem_append_right _ (List.mem_append_right _ (List.mem_append_left _ hx)))
theorem hb307_17 : ∀ x ∈ mB307_17, mAt mC307 x.1 = some x.2 := fun x hx => mInc_at hi307 x (List.mem_append_right _ (List.mem_append_right _ (List.mem_append_right _ hx)))
set_option maxRecDepth 8000 in
theorem hi308 : mInc mC308 = true := by decide +kernel
theorem hb308_0 : ∀ x ∈ mB308_0, mAt mC308 x.1 = some x.2 := fun x hx => mInc_at hi308 x (List.mem_append_left _ hx)
theorem hb308_12 : ∀ x ∈ mB308_12, mAt mC308 x.1 = some x.2 := fun x hx => mInc_at hi308 x (List.mem_append_right _ (List.mem_append_left _ hx))
theorem hb308_13 : ∀ x ∈ mB308_13, mAt mC308 x.1 = some x.2 := fun x hx => mInc_at hi308 x (List.mem_append_right _ (List.mem_append_right _ (List.mem_append_left _ hx)))
theorem hb308_15 : ∀ x ∈ mB308_15, mAt mC308 x.1 = some x.2 := fun x hx => mInc_at hi308 x (List.mem_append_right _ (List.mem_append_right _ (List.mem_append_right _ hx)))
set_option maxRecDepth 8000 in
theorem hi309 : mInc mC309 = true := by decide +kernel
theorem hb309_0 : ∀ x ∈ mB309_0, mAt mC309 x.1 = some x.2 := fun x hx => mInc_at hi309 x (List.mem_append_left _ hx)
theorem hb309_13 : ∀ x ∈ mB309_13, mAt mC309 x.1 = some x.2 := fun x hx => mInc_at hi309 x (List.mem_append_right _ (List.mem_append_left _ hx))
theorem hb309_15 : ∀ x ∈ mB309_15, mAt mC309 x.1 = some x.2 := fun x hx => mInc_at hi309 x (List.mem_append_right _ (List.mem_append_right _ (List.mem_append_left _ hx)))
theorem hb309_17 : ∀ x ∈ mB309_17, mAt mC309 x.1 = some x.2 := fun x hx => mInc_at hi309 x (List.mem_append_right _ (List.mem_append_right _ (List.mem_append_right _ hx)))
set_option maxRecDepth 8000 in
theorem hi310 : mInc mC310 = true := by decide +kernel
theorem hb310_0 : ∀ x ∈ mB310_0, mAt mC310 x.1 = some x.2 := fun x hx => mInc_at hi310 x (List.mem_append_left _ hx)
theorem hb310_13 : ∀ x ∈ mB310_13, mAt mC310 x.1 = some x.2 := fun x hx => mInc_at hi310 x (List.mem_append_right _ (List.mem_append_left _ hx))
theorem hb310_15 : ∀ x ∈ mB310_15, mAt mC310 x.1 = some x.2 := fun x hx => mInc_at hi310 x (List.mem_append_right _ (List.mem_append_right _ (List.mem_append_left _ hx)))
theorem hb310_17 : ∀ x ∈ mB310_17, mAt mC310 x.1 = some x.2 := fun x hx => mInc_at hi310 x (List.mem_append_right _ (List.mem_append_right _ (List.mem_append_right _ hx)))
set_option maxRecDepth 8000 in
theorem hi311 : mInc mC311 = true := by decide +kernel
theorem hb311_0 : ∀ x ∈ mB311_0, mAt mC311 x.1 = some x.2 := fun x hx => mInc_at hi311 x (List.mem_append_left _ hx)
theorem hb311_12 : ∀ x ∈ mB311_12, mAt mC311 x.1 = some x.2 := fun x hx => mInc_at hi311 x (List.mem_append_right _ (List.mem_append_left _ hx))
theorem hb311_13 : ∀ x ∈ mB311_13, mAt mC311 x.1 = some x.2 := fun x hx => mInc_at hi311 x (List.mem_append_right _ (List.mem_append_right _ (List.mem_append_left _ hx)))
theorem hb311_15 : ∀ x ∈ mB311_15, mAt mC311 x.1 = some x.2 := fun x hx => mInc_at hi311 x (List.mem_append_right _ (List.mem_append_right _ (List.mem_append_right _ hx)))
set_option maxRecDepth 8000 in
theorem hi312 : mInc mC312 = true := by decide +kernel
theorem hb312_0 : ∀ x ∈ mB312_0, mAt mC312 x.1 = some x.2 := fun x hx => mInc_at hi312 x (List.mem_append_left _ hx)
theorem hb312_12 : ∀ x ∈ mB312_12, mAt mC312 x.1 = some x.2 := fun x hx => mInc_at hi312 x (List.mem_append_right _ (List.mem_append_left _ hx))
theorem hb312_13 : ∀ x ∈ mB312_13, mAt mC312 x.1 = some x.2 := fun x hx => mInc_at hi312 x (List.mem_append_right _ (List.mem_append_right _ (List.mem_append_left _ hx)))
theorem hb312_15 : ∀ x ∈ mB312_15, mAt mC312 x.1 = some x.2 := fun x hx => mInc_at hi312 x (List.mem_append_right _ (List.mem_append_right _ (List.mem_append_right _ hx)))
set_option maxRecDepth 8000 in
theorem hi313 : mInc mC313 = true := by decide +kernel
theorem hb313_0 : ∀ x ∈ mB313_0, mAt mC313 x.1 = some x.2 := fun x hx => mInc_at hi313 x (List.mem_append_left _ hx)
theorem hb313_12 : ∀ x ∈ mB313_12, mAt mC313 x.1 = some x.2 := fun x hx => mInc_at hi313 x (List.mem_append_right _ (List.mem_append_left _ hx))
theorem hb313_13 : ∀ x ∈ mB313_13, mAt mC313 x.1 = some x.2 := fun x hx => mInc_at hi313 x (List.mem_append_right _ (List.mem_append_right _ (List.mem_append_left _ hx)))
theorem hb313_15 : ∀ x ∈ mB313_15, mAt mC313 x.1 = some x.2 := fun x hx => mInc_at hi313 x (List.mem_append_right _ (List.mem_append_right _ (List.mem_append_right _ hx)))
set_option maxRecDepth 8000 in
theorem hi314 : mInc mC314 = true := by decide +kernel
theorem hb314_0 : ∀ x ∈ mB314_0, mAt mC314 x.1 = some x.2 := fun x hx => mInc_at hi314 x (List.mem_append_left _ hx)
theorem hb314_12 : ∀ x ∈ mB314_12, mAt mC314 x.1 = some x.2 := fun x hx => mInc_at hi314 x (List.mem_append_right _ (List.mem_append_left _ hx))
theorem hb314_13 : ∀ x ∈ mB314_13, mAt mC314 x.1 = some x.2 := fun x hx => mInc_at hi314 x (List.mem_append_right _ (List.mem_append_right _ (List.mem_append_left _ hx)))
theorem hb314_15 : ∀ x ∈ mB314_15, mAt mC314 x.1 = some x.2 := fun x hx => mInc_at hi314 x (List.mem_append_right _ (List.mem_append_right _ (List.mem_append_right _ hx)))
set_option maxRecDepth 8000 in
theorem hi315 : mInc mC315 = true := by decide +kernel
theorem hb315_0 : ∀ x ∈ mB315_0, mAt mC315 x.1 = some x.2 := fun x hx => mInc_at hi315 x (List.mem_append_left _ hx)
theorem hb315_12 : ∀ x ∈ mB315_12, mAt mC315 x.1 = some x.2 := fun x hx => mInc_at hi315 x (List.mem_append_right _ (List.mem_append_left _ hx))
theorem hb315_13 : ∀ x ∈ mB315_13, mAt mC315 x.1 = some x.2 := fun x hx => mInc_at hi315 x (List.mem_append_right _ (List.mem_append_right _ (List.mem_append_left _ hx)))
theorem hb315_15 : ∀ x ∈ mB315_15, mAt mC315 x.1 = some x.2 := fun x hx => mInc_at hi315 x (List.mem_append_right _ (List.mem_append_right _ (List.mem_append_right _ hx)))
set_option maxRecDepth 8000 in
theorem hi316 : mInc mC316 = true := by decide +kernel
theorem hb316_0 : ∀ x ∈ mB316_0, mAt mC316 x.1 = some x.2 := fun x hx => mInc_at hi316 x (List.mem_append_left _ hx)
theorem hb316_13 : ∀ x ∈ mB316_13, mAt mC316 x.1 = some x.2 := fun x hx => mInc_at hi316 x (List.mem_append_right _ (List.mem_append_left _ hx))
theorem hb316_15 : ∀ x ∈ mB316_15, mAt mC316 x.1 = some x.2 := fun x hx => mInc_at hi316 x (List.mem_append_right _ (List.mem_append_right _ (List.mem_append_left _ hx)))
theorem hb316_17 : ∀ x ∈ mB316_17, mAt mC316 x.1 = some x.2 := fun x hx => mInc_at hi316 x (List.mem_append_right _ (List.mem_append_right _ (List.mem_append_right _ hx)))
set_option maxRecDepth 8000 in
theorem hi317 : mInc mC317 = true := by decide +kernel
theorem hb317_0 : ∀ x ∈ mB317_0, mAt mC317 x.1 = some x.2 := fun x hx => mInc_at hi317 x (List.mem_append_left _ hx)
theorem hb317_13 : ∀ x ∈ mB317_13, mAt mC317 x.1 = some x.2 := fun x hx => mInc_at hi317 x (List.mem_append_right _ (List.mem_append_left _ hx))
theorem hb317_15 : ∀ x ∈ mB317_15, mAt mC317 x.1 = some x.2 := fun x hx => mInc_at hi317 x (List.mem_append_right _ (List.mem_append_right _ (List.mem_append_left _ hx)))
theorem hb317_17 : ∀ x ∈ mB317_17, mAt mC317 x.1 = some x.2 := fun x hx => mInc_at hi317 x (List.mem_append_right _ (List.mem_append_right _ (List.mem_append_right _ hx)))
set_option maxRecDepth 8000 in
theorem hi318 : mInc mC318 = true := by decide +kernel
theorem hb318_0 : ∀ x ∈ mB318_0, mAt mC318 x.1 = some x.2 := fun x hx => mInc_at hi318 x (List.mem_append_left _ hx)
theorem hb318_12 : ∀ x ∈ mB318_12, mAt mC318 x.1 = some x.2 := fun x hx => mInc_at hi318 x (List.mem_append_right _ (List.mem_append_left _ hx))
theorem hb318_13 : ∀ x ∈ mB318_13, mAt mC318 x.1 = some x.2 := fun x hx => mInc_at hi318 x (List.mem_append_right _ (List.mem_append_right _ (List.mem_append_left _ hx)))
theorem hb318_15 : ∀ x ∈ mB318_15, mAt mC318 x.1 = some x.2 := fun x hx => mInc_at hi318 x (List.mem_append_right _ (List.mem_append_right _ (List.mem_append_right _ hx)))
set_option maxRecDepth 8000 in
theorem hi319 : mInc mC319 = true := by decide +kernel
theorem hb319_0 : ∀ x ∈ mB319_0, mAt mC319 x.1 = some x.2 := fun x hx => mInc_at hi319 x (List.mem_append_left _ hx)
theorem hb319_12 : ∀ x ∈ mB319_12, mAt mC319 x.1 = some x.2 := fun x hx => mInc_at hi319 x (List.mem_append_right _ (List.mem_append_left _ hx))
theorem hb319_13 : ∀ x ∈ mB319_13, mAt mC319 x.1 = some x.2 := fun x hx => mInc_at hi319 x (List.mem_append_right _ (List.mem_append_right _ (List.mem_append_left _ hx)))
theorem hb319_15 : ∀ x ∈ mB319_15, mAt mC319 x.1 = some x.2 := fun x hx => mInc_at hi319 x (List.mem_append_right _ (List.mem_append_right _ (List.mem_append_right _ hx)))
set_option maxRecDepth 8000 in
theorem hi320 : mInc mC320 = true := by decide +kernel
theorem hb320_0 : ∀ x ∈ mB320_0, mAt mC320 x.1 = some x.2 := fun x hx => mInc_at hi320 x (List.mem_append_left _ hx)
theorem hb320_12 : ∀ x ∈ mB320_12, mAt mC320 x.1 = some x.2 := fun x hx => mInc_at hi320 x (List.mem_append_right _ (List.mem_append_left _ hx))
theorem hb320_13 : ∀ x ∈ mB320_13, mAt mC320 x.1 = some x.2 := fun x hx => mInc_at hi320 x (List.mem_append_right _ (List.mem_append_right _ (List.mem_append_left _ hx)))
theorem hb320_15 : ∀ x ∈ mB320_15, mAt mC320 x.1 = some x.2 := fun x hx => mInc_at hi320 x (List.mem_append_right _ (List.mem_append_right _ (List.mem_append_right _ hx)))
set_option maxRecDepth 8000 in
theorem hi321 : mInc mC321 = true := by decide +kernel
theorem hb321_0 : ∀ x ∈ mB321_0, mAt mC321 x.1 = some x.2 := fun x hx => mInc_at hi321 x (List.mem_append_left _ hx)
theorem hb321_15 : ∀ x ∈ mB321_15, mAt mC321 x.1 = some x.2 := fun x hx => mInc_at hi321 x (List.mem_append_right _ (List.mem_append_left _ hx))
theorem hb321_17 : ∀ x ∈ mB321_17, mAt mC321 x.1 = some x.2 := fun x hx => mInc_at hi321 x (List.mem_append_right _ (List.mem_append_right _ (List.mem_append_left _ hx)))
theorem hb321_19 : ∀ x ∈ mB321_19, mAt mC321 x.1 = some x.2 := fun x hx => mInc_at hi321 x (List.mem_append_right _ (List.mem_append_right _ (List.mem_append_right _ (List.mem_append_left _ hx))))
theorem hb321_21 : ∀ x ∈ mB321_21, mAt mC321 x.1 = some x.2 := fun x hx => mInc_at hi321 x (List.mem_append_right _ (List.mem_append_right _ (List.mem_append_right _ (List.mem_append_right _ (List.mem_append_left _ hx)))))
theorem hb321_23 : ∀ x ∈ mB321_23, mAt mC321 x.1 = some x.2 := fun x hx => mInc_at hi321 x (List.mem_append_right _ (List.mem_append_right _ (List.mem_append_right _ (List.mem_append_right _ (List.mem_append_right _ hx)))))
set_option maxRecDepth 8000 in
theorem hi322 : mInc mC322 = true := by decide +kernel
theorem hb322_0 : ∀ x ∈ mB322_0, mAt mC322 x.1 = some x.2 := fun x hx => mInc_at hi322 x (List.mem_append_left _ hx)
theorem hb322_12 : ∀ x ∈ mB322_12, mAt mC322 x.1 = some x.2 := fun x hx => mInc_at hi322 x (List.mem_append_right _ (List.mem_append_left _ hx))
theorem hb322_13 : ∀ x ∈ mB322_13, mAt mC322 x.1 = some x.2 := fun x hx => mInc_at hi322 x (List.mem_append_right _ (List.mem_append_right _ (List.mem_append_left _ hx)))
theorem hb322_15 : ∀ x ∈ mB322_15, mAt mC322 x.1 = some x.2 := fun x hx => mInc_at hi322 x (List.mem_append_right _ (List.mem_append_right _ (List.mem_append_right _ hx)))
set_option maxRecDepth 8000 in
theorem hi323 : mInc mC323 = true := by decide +kernel
theorem hb323_0 : ∀ x ∈ mB323_0, mAt mC323 x.1 = some x.2 := fun x hx => mInc_at hi323 x (List.mem_append_left _ hx)
theorem hb323_12 : ∀ x ∈ mB323_12, mAt mC323 x.1 = some x.2 := fun x hx => mInc_at hi323 x (List.mem_append_right _ (List.mem_append_left _ hx))
theorem hb323_13 : ∀ x ∈ mB323_13, mAt mC323 x.1 = some x.2 := fun x hx => mInc_at hi323 x (List.mem_append_right _ (List.mem_append_right _ (List.mem_append_left _ hx)))
theorem hb323_15 : ∀ x ∈ mB323_15, mAt mC323 x.1 = some x.2 := fun x hx => mInc_at hi323 x (List.mem_append_right _ (List.mem_append_right _ (List.mem_append_right _ hx)))
theorem i0_1 : nFi 0 9 1 = true := by decide +kernel
theorem kB_20 : (Int8.ofInt (20)).toInt32 = (20 : Int32) := by decide
theorem kS_700 : (Int16.ofInt (700)).toInt32 = (700 : Int32) := by decide
theorem kB_24 : (Int8.ofInt (24)).toInt32 = (24 : Int32) := by decide
theorem r0_0 : nFr 0 9 0 1 = true := by decide +kernel
theorem c1 : nC 1 101 700 := nCb_ok (by decide +kernel)
theorem kI_1 : Int32.ofInt (1) = (1 : Int32) := by decide
theorem kI_m8 : Int32.ofInt (-8) = (-8 : Int32) := by decide
theorem c0 : nC 0 9 16 := nCb_ok (by decide +kernel)
theorem kI_m1 : Int32.ofInt (-1) = (-1 : Int32) := by decide
theorem kI_0 : Int32.ofInt (0) = (0 : Int32) := by decide
theorem r0_6 : nFr 0 9 6 2 = true := by decide +kernel
theorem r2_0 : nFr 2 2 0 3 = true := by decide +kernel
theorem kB_8 : (Int8.ofInt (8)).toInt32 = (8 : Int32) := by decide
theorem i3_0 : nFi 3 3 0 = true := by decide +kernel
theorem kI_5 : Int32.ofInt (5) = (5 : Int32) := by decide
theorem i3_1 : nFi 3 3 1 = true := by decide +kernel
theorem r3_2 : nFr 3 3 2 4 = true := by decide +kernel
theorem kI_3 : Int32.ofInt (3) = (3 : Int32) := by decide
theorem c4 : nC 4 100 40 := nCb_ok (by decide +kernel)
theorem r3_3 : nFr 3 3 3 5 = true := by decide +kernel
theorem c5 : nC 5 100 40 := nCb_ok (by decide +kernel)
theorem i3_4 : nFi 3 3 4 = true := by decide +kernel
theorem i3_6 : nFi 3 3 6 = true := by decide +kernel
theorem kB_60 : (Int8.ofInt (60)).toInt32 = (60 : Int32) := by decide
theorem i3_7 : nFi 3 3 7 = true := by decide +kernel
theorem i3_8 : nFi 3 3 8 = true := by decide +kernel
theorem i3_9 : nFi 3 3 9 = true := by decide +kernel
theorem i3_10 : nFi 3 3 10 = true := by decide +kernel
theorem i3_12 : nFi 3 3 12 = true := by decide +kernel
theorem r3_13 : nFr 3 3 13 8 = true := by decide +kernel
theorem i8_1 : nFi 8 5 1 = true := by decide +kernel
theorem z8_5 : nFb 8 5 5 = true := by decide +kernel
theorem r8_2 : nFr 8 5 2 10 = true := by decide +kernel
theorem c10 : nC 10 100 6 := nCb_ok (by decide +kernel)
theorem r8_3 : nFr 8 5 3 11 = true := by decide +kernel
theorem c11 : nC 11 100 6 := nCb_ok (by decide +kernel)
theorem c8 : nC 8 5 6 := nCb_ok (by decide +kernel)
theorem c3 : nC 3 3 14 := nCb_ok (by decide +kernel)
theorem r2_1 : nFr 2 2 1 13 = true := by decide +kernel
theorem i13_1 : nFi 13 0 1 = true := by decide +kernel
theorem i13_4 : nFi 13 0 4 = true := by decide +kernel
theorem i13_5 : nFi 13 0 5 = true := by decide +kernel
theorem i13_7 : nFi 13 0 7 = true := by decide +kernel
theorem i13_9 : nFi 13 0 9 = true := by decide +kernel
theorem c13 : nC 13 0 12 := nCb_ok (by decide +kernel)
theorem i2_2 : nFi 2 2 2 = true := by decide +kernel
theorem i2_3 : nFi 2 2 3 = true := by decide +kernel
theorem l2_5 : nFl 2 2 5 = true := by decide +kernel
theorem l2_6 : nFl 2 2 6 = true := by decide +kernel
theorem i2_7 : nFi 2 2 7 = true := by decide +kernel
theorem r2_4 : nFr 2 2 4 21 = true := by decide +kernel
theorem i21_1 : nFi 21 6 1 = true := by decide +kernel
theorem i21_2 : nFi 21 6 2 = true := by decide +kernel
theorem i21_3 : nFi 21 6 3 = true := by decide +kernel
theorem kB_97 : (Int8.ofInt (97)).toInt32 = (97 : Int32) := by decide
theorem kB_122 : (Int8.ofInt (122)).toInt32 = (122 : Int32) := by decide
theorem kB_48 : (Int8.ofInt (48)).toInt32 = (48 : Int32) := by decide
theorem kB_57 : (Int8.ofInt (57)).toInt32 = (57 : Int32) := by decide
theorem i21_7 : nFi 21 6 7 = true := by decide +kernel
theorem kB_59 : (Int8.ofInt (59)).toInt32 = (59 : Int32) := by decide
theorem kB_40 : (Int8.ofInt (40)).toInt32 = (40 : Int32) := by decide
theorem kB_41 : (Int8.ofInt (41)).toInt32 = (41 : Int32) := by decide
theorem kB_43 : (Int8.ofInt (43)).toInt32 = (43 : Int32) := by decide
theorem kB_45 : (Int8.ofInt (45)).toInt32 = (45 : Int32) := by decide
theorem kB_42 : (Int8.ofInt (42)).toInt32 = (42 : Int32) := by decide
theorem kB_47 : (Int8.ofInt (47)).toInt32 = (47 : Int32) := by decide
theorem kB_61 : (Int8.ofInt (61)).toInt32 = (61 : Int32) := by decide
theorem kI_4 : Int32.ofInt (4) = (4 : Int32) := by decide
theorem i21_4 : nFi 21 6 4 = true := by decide +kernel
theorem kI_2 : Int32.ofInt (2) = (2 : Int32) := by decide
theorem i21_6 : nFi 21 6 6 = true := by decide +kernel
theorem kS_10000 : (Int16.ofInt (10000)).toInt32 = (10000 : Int32) := by decide
theorem kB_10 : (Int8.ofInt (10)).toInt32 = (10 : Int32) := by decide
theorem c21 : nC 21 6 8 := nCb_ok (by decide +kernel)
theorem kS_255 : (Int16.ofInt (255)).toInt32 = (255 : Int32) := by decide
theorem kB_32 : (Int8.ofInt (32)).toInt32 = (32 : Int32) := by decide
theorem en_1000000 : oEn 1000000 = true := by decide
theorem c2 : nC 2 2 11 := nCb_ok (by decide +kernel)
theorem ti_1 : (1 : Int32).toInt = 1 := by decide
theorem ti_11 : (11 : Int32).toInt = 11 := by decide
theorem i2_8 : nFi 2 2 8 = true := by decide +kernel
theorem kB_6 : (Int8.ofInt (6)).toInt32 = (6 : Int32) := by decide
theorem kB_m20 : (Int8.ofInt (-20)).toInt32 = (-20 : Int32) := by decide
theorem r8_0 : nFr 8 5 0 9 = true := by decide +kernel
theorem c9 : nC 9 100 700 := nCb_ok (by decide +kernel)
theorem kB_m24 : (Int8.ofInt (-24)).toInt32 = (-24 : Int32) := by decide
theorem kS_9999 : (Int16.ofInt (9999)).toInt32 = (9999 : Int32) := by decide
theorem i2_9 : nFi 2 2 9 = true := by decide +kernel
theorem kB_m9 : (Int8.ofInt (-9)).toInt32 = (-9 : Int32) := by decide
theorem kB_m8 : (Int8.ofInt (-8)).toInt32 = (-8 : Int32) := by decide
theorem kB_m7 : (Int8.ofInt (-7)).toInt32 = (-7 : Int32) := by decide
theorem kB_m6 : (Int8.ofInt (-6)).toInt32 = (-6 : Int32) := by decide
theorem kB_m5 : (Int8.ofInt (-5)).toInt32 = (-5 : Int32) := by decide
theorem kB_m4 : (Int8.ofInt (-4)).toInt32 = (-4 : Int32) := by decide
theorem kB_m3 : (Int8.ofInt (-3)).toInt32 = (-3 : Int32) := by decide
theorem en_1000015 : oEn 1000015 = true := by decide
theorem en_1000014 : oEn 1000014 = true := by decide
theorem kB_m2 : (Int8.ofInt (-2)).toInt32 = (-2 : Int32) := by decide
theorem en_1000013 : oEn 1000013 = true := by decide
theorem kB_16 : (Int8.ofInt (16)).toInt32 = (16 : Int32) := by decide
theorem en_1000010 : oEn 1000010 = true := by decide
theorem en_1000012 : oEn 1000012 = true := by decide
theorem kB_9 : (Int8.ofInt (9)).toInt32 = (9 : Int32) := by decide
theorem r3_11 : nFr 3 3 11 7 = true := by decide +kernel
theorem c7 : nC 7 100 40 := nCb_ok (by decide +kernel)
theorem kB_99 : (Int8.ofInt (99)).toInt32 = (99 : Int32) := by decide
theorem kS_300 : (Int16.ofInt (300)).toInt32 = (300 : Int32) := by decide
theorem kB_12 : (Int8.ofInt (12)).toInt32 = (12 : Int32) := by decide
theorem i2_10 : nFi 2 2 10 = true := by decide +kernel
theorem r13_2 : nFr 13 0 2 15 = true := by decide +kernel
theorem c15 : nC 15 100 12 := nCb_ok (by decide +kernel)
theorem r13_3 : nFr 13 0 3 16 = true := by decide +kernel
theorem c16 : nC 16 100 12 := nCb_ok (by decide +kernel)
theorem r13_0 : nFr 13 0 0 14 = true := by decide +kernel
theorem c14 : nC 14 100 12 := nCb_ok (by decide +kernel)
theorem r3_5 : nFr 3 3 5 6 = true := by decide +kernel
theorem c6 : nC 6 100 12 := nCb_ok (by decide +kernel)
theorem i0_2 : nFi 0 9 2 = true := by decide +kernel
theorem r0_8 : nFr 0 9 8 24 = true := by decide +kernel
theorem i24_0 : nFi 24 3 0 = true := by decide +kernel
theorem i24_1 : nFi 24 3 1 = true := by decide +kernel
theorem r24_2 : nFr 24 3 2 25 = true := by decide +kernel
theorem c25 : nC 25 100 40 := nCb_ok (by decide +kernel)
theorem r24_3 : nFr 24 3 3 26 = true := by decide +kernel
theorem c26 : nC 26 100 40 := nCb_ok (by decide +kernel)
theorem i24_4 : nFi 24 3 4 = true := by decide +kernel
theorem r24_5 : nFr 24 3 5 27 = true := by decide +kernel
theorem c27 : nC 27 100 12 := nCb_ok (by decide +kernel)
theorem i24_6 : nFi 24 3 6 = true := by decide +kernel
theorem i24_7 : nFi 24 3 7 = true := by decide +kernel
theorem i24_8 : nFi 24 3 8 = true := by decide +kernel
theorem i24_9 : nFi 24 3 9 = true := by decide +kernel
theorem i24_10 : nFi 24 3 10 = true := by decide +kernel
theorem r24_11 : nFr 24 3 11 28 = true := by decide +kernel
theorem c28 : nC 28 100 40 := nCb_ok (by decide +kernel)
theorem i24_12 : nFi 24 3 12 = true := by decide +kernel
theorem r24_13 : nFr 24 3 13 29 = true := by decide +kernel
theorem i29_1 : nFi 29 5 1 = true := by decide +kernel
theorem z29_5 : nFb 29 5 5 = true := by decide +kernel
theorem r29_0 : nFr 29 5 0 30 = true := by decide +kernel
theorem c30 : nC 30 100 700 := nCb_ok (by decide +kernel)
theorem r29_2 : nFr 29 5 2 31 = true := by decide +kernel
theorem c31 : nC 31 100 6 := nCb_ok (by decide +kernel)
theorem r29_3 : nFr 29 5 3 32 = true := by decide +kernel
theorem c32 : nC 32 100 6 := nCb_ok (by decide +kernel)
theorem c29 : nC 29 5 6 := nCb_ok (by decide +kernel)
theorem c24 : nC 24 3 14 := nCb_ok (by decide +kernel)
theorem r0_9 : nFr 0 9 9 34 = true := by decide +kernel
theorem r34_0 : nFr 34 0 0 35 = true := by decide +kernel
theorem c35 : nC 35 100 12 := nCb_ok (by decide +kernel)
theorem i34_1 : nFi 34 0 1 = true := by decide +kernel
theorem r34_2 : nFr 34 0 2 36 = true := by decide +kernel
theorem c36 : nC 36 100 12 := nCb_ok (by decide +kernel)
theorem r34_3 : nFr 34 0 3 37 = true := by decide +kernel
theorem c37 : nC 37 100 12 := nCb_ok (by decide +kernel)
theorem i34_4 : nFi 34 0 4 = true := by decide +kernel
theorem i34_5 : nFi 34 0 5 = true := by decide +kernel
theorem r13_6 : nFr 13 0 6 17 = true := by decide +kernel
theorem r34_6 : nFr 34 0 6 38 = true := by decide +kernel
theorem c38 : nC 38 100 120 := nCb_ok (by decide +kernel)
theorem c17 : nC 17 100 120 := nCb_ok (by decide +kernel)
theorem i34_7 : nFi 34 0 7 = true := by decide +kernel
theorem r13_8 : nFr 13 0 8 18 = true := by decide +kernel
theorem r34_8 : nFr 34 0 8 39 = true := by decide +kernel
theorem c39 : nC 39 100 12 := nCb_ok (by decide +kernel)
theorem c18 : nC 18 100 12 := nCb_ok (by decide +kernel)
theorem i34_9 : nFi 34 0 9 = true := by decide +kernel
theorem r13_10 : nFr 13 0 10 19 = true := by decide +kernel
theorem r34_10 : nFr 34 0 10 40 = true := by decide +kernel
theorem c40 : nC 40 100 8 := nCb_ok (by decide +kernel)
theorem c19 : nC 19 100 8 := nCb_ok (by decide +kernel)
theorem r13_11 : nFr 13 0 11 20 = true := by decide +kernel
theorem r34_11 : nFr 34 0 11 41 = true := by decide +kernel
theorem c41 : nC 41 100 8 := nCb_ok (by decide +kernel)
theorem c20 : nC 20 100 8 := nCb_ok (by decide +kernel)
theorem c34 : nC 34 0 12 := nCb_ok (by decide +kernel)
theorem i0_15 : nFi 0 9 15 = true := by decide +kernel
theorem z0_11 : nFb 0 9 11 = true := by decide +kernel
theorem i0_3 : nFi 0 9 3 = true := by decide +kernel
theorem kB_18 : (Int8.ofInt (18)).toInt32 = (18 : Int32) := by decide
theorem r0_7 : nFr 0 9 7 23 = true := by decide +kernel
theorem r23_0 : nFr 23 7 0 24 = true := by decide +kernel
theorem kB_127 : (Int8.ofInt (127)).toInt32 = (127 : Int32) := by decide
theorem r23_1 : nFr 23 7 1 34 = true := by decide +kernel
theorem c23 : nC 23 7 10 := nCb_ok (by decide +kernel)
theorem ti_0 : (0 : Int32).toInt = 0 := by decide
theorem ti_17 : (17 : Int32).toInt = 17 := by decide
theorem i0_5 : nFi 0 9 5 = true := by decide +kernel
theorem i0_4 : nFi 0 9 4 = true := by decide +kernel
theorem r23_8 : nFr 23 7 8 53 = true := by decide +kernel
theorem r23_2 : nFr 23 7 2 42 = true := by decide +kernel
theorem i42_2 : nFi 42 4 2 = true := by decide +kernel
theorem c42 : nC 42 4 7 := nCb_ok (by decide +kernel)
theorem r42_0 : nFr 42 4 0 43 = true := by decide +kernel
theorem c43 : nC 43 100 13 := nCb_ok (by decide +kernel)
theorem r42_1 : nFr 42 4 1 44 = true := by decide +kernel
theorem c44 : nC 44 100 13 := nCb_ok (by decide +kernel)
theorem r23_4 : nFr 23 7 4 50 = true := by decide +kernel
theorem c50 : nC 50 100 10 := nCb_ok (by decide +kernel)
theorem kB_63 : (Int8.ofInt (63)).toInt32 = (63 : Int32) := by decide
theorem r29_4 : nFr 29 5 4 33 = true := by decide +kernel
theorem c33 : nC 33 100 64 := nCb_ok (by decide +kernel)
theorem ti_m8 : (-8 : Int32).toInt = -8 := by decide
theorem ti_m1 : (-1 : Int32).toInt = -1 := by decide
theorem kB_30 : (Int8.ofInt (30)).toInt32 = (30 : Int32) := by decide
theorem g_4_10 : nG 4 10 = true := by decide
theorem g_3_10 : nG 3 10 = true := by decide
theorem g_2_10 : nG 2 10 = true := by decide
theorem g_1_10 : nG 1 10 = true := by decide
theorem g_0_10 : nG 0 10 = true := by decide
theorem nz_3 : ¬ ((3 : Int32) = 0) := by decide
theorem r42_3 : nFr 42 4 3 45 = true := by decide +kernel
theorem c45 : nC 45 100 108 := nCb_ok (by decide +kernel)
theorem c53 : nC 53 100 108 := nCb_ok (by decide +kernel)
theorem ti_5 : (5 : Int32).toInt = 5 := by decide
theorem i42_4 : nFi 42 4 4 = true := by decide +kernel
theorem i42_5 : nFi 42 4 5 = true := by decide +kernel
theorem i42_6 : nFi 42 4 6 = true := by decide +kernel
theorem g_5_10 : nG 5 10 = true := by decide
theorem nLks_132_12 (x : Int32) (h : (!decide (x = 0) && !decide (x = 1)) = true) : Op.lookupswitch.offset (#[(0, 28), (1, 38)] : Array (Int × Int)).toList 48 x.toInt = 48 := by
  simp only [Bool.and_eq_true, Bool.not_eq_true', decide_eq_false_iff_not] at h
  have hz : ∀ y : Int32, ¬ x = y → ¬ y.toInt = x.toInt := fun y hy e => hy (Int32.toInt_inj.mp e.symm)
  simp only [Op.lookupswitch.offset]
  rw [if_neg (show ¬ (0 : Int) = x.toInt from hz 0 h.1), if_neg (show ¬ (1 : Int) = x.toInt from hz 1 h.2)]
theorem i23_7 : nFi 23 7 7 = true := by decide +kernel
theorem r23_5 : nFr 23 7 5 51 = true := by decide +kernel
theorem c51 : nC 51 100 12 := nCb_ok (by decide +kernel)
theorem r23_6 : nFr 23 7 6 52 = true := by decide +kernel
theorem c52 : nC 52 100 12 := nCb_ok (by decide +kernel)
theorem kB_39 : (Int8.ofInt (39)).toInt32 = (39 : Int32) := by decide
theorem kS_999 : (Int16.ofInt (999)).toInt32 = (999 : Int32) := by decide
theorem ti_4 : (4 : Int32).toInt = 4 := by decide
theorem kB_7 : (Int8.ofInt (7)).toInt32 = (7 : Int32) := by decide
theorem r0_14 : nFr 0 9 14 79 = true := by decide +kernel
theorem r23_9 : nFr 23 7 9 54 = true := by decide +kernel
theorem c54 : nC 54 100 12 := nCb_ok (by decide +kernel)
theorem c79 : nC 79 100 12 := nCb_ok (by decide +kernel)
theorem kS_720 : (Int16.ofInt (720)).toInt32 = (720 : Int32) := by decide
theorem kS_1000 : (Int16.ofInt (1000)).toInt32 = (1000 : Int32) := by decide
theorem r23_3 : nFr 23 7 3 46 = true := by decide +kernel
theorem i46_2 : nFi 46 4 2 = true := by decide +kernel
theorem c46 : nC 46 4 7 := nCb_ok (by decide +kernel)
theorem r46_0 : nFr 46 4 0 47 = true := by decide +kernel
theorem c47 : nC 47 100 13 := nCb_ok (by decide +kernel)
theorem i46_4 : nFi 46 4 4 = true := by decide +kernel
theorem i46_5 : nFi 46 4 5 = true := by decide +kernel
theorem i46_6 : nFi 46 4 6 = true := by decide +kernel
theorem r46_1 : nFr 46 4 1 48 = true := by decide +kernel
theorem c48 : nC 48 100 13 := nCb_ok (by decide +kernel)
theorem nz_2 : ¬ ((2 : Int32) = 0) := by decide
theorem ti_2 : (2 : Int32).toInt = 2 := by decide
theorem kB_64 : (Int8.ofInt (64)).toInt32 = (64 : Int32) := by decide
theorem r0_13 : nFr 0 9 13 78 = true := by decide +kernel
theorem i78_0 : nFi 78 1 0 = true := by decide +kernel
theorem i78_1 : nFi 78 1 1 = true := by decide +kernel
theorem i78_2 : nFi 78 1 2 = true := by decide +kernel
theorem c78 : nC 78 1 3 := nCb_ok (by decide +kernel)
theorem nLks_158_22 (x : Int32) (h : (!decide (x = 0) && !decide (x = 1)) = true) : Op.lookupswitch.offset (#[(0, 26), (1, 34)] : Array (Int × Int)).toList 42 x.toInt = 42 := by
  simp only [Bool.and_eq_true, Bool.not_eq_true', decide_eq_false_iff_not] at h
  have hz : ∀ y : Int32, ¬ x = y → ¬ y.toInt = x.toInt := fun y hy e => hy (Int32.toInt_inj.mp e.symm)
  simp only [Op.lookupswitch.offset]
  rw [if_neg (show ¬ (0 : Int) = x.toInt from hz 0 h.1), if_neg (show ¬ (1 : Int) = x.toInt from hz 1 h.2)]
theorem kB_100 : (Int8.ofInt (100)).toInt32 = (100 : Int32) := by decide
theorem r0_12 : nFr 0 9 12 63 = true := by decide +kernel
theorem i63_0 : nFi 63 8 0 = true := by decide +kernel
theorem i63_1 : nFi 63 8 1 = true := by decide +kernel
theorem i63_2 : nFi 63 8 2 = true := by decide +kernel
theorem i63_3 : nFi 63 8 3 = true := by decide +kernel
theorem kS_12345 : (Int16.ofInt (12345)).toInt32 = (12345 : Int32) := by decide
theorem kS_32767 : (Int16.ofInt (32767)).toInt32 = (32767 : Int32) := by decide
theorem c63 : nC 63 8 6 := nCb_ok (by decide +kernel)
theorem r63_5 : nFr 63 8 5 77 = true := by decide +kernel
theorem c77 : nC 77 100 12 := nCb_ok (by decide +kernel)
theorem r63_4 : nFr 63 8 4 64 = true := by decide +kernel
theorem c64 : nC 64 104 12 := nCb_ok (by decide +kernel)
theorem nLks_159_41 (x : Int32) (h : (!decide (x = 0) && !decide (x = 1)) = true) : Op.lookupswitch.offset (#[(0, 27), (1, 35)] : Array (Int × Int)).toList 43 x.toInt = 43 := by
  simp only [Bool.and_eq_true, Bool.not_eq_true', decide_eq_false_iff_not] at h
  have hz : ∀ y : Int32, ¬ x = y → ¬ y.toInt = x.toInt := fun y hy e => hy (Int32.toInt_inj.mp e.symm)
  simp only [Op.lookupswitch.offset]
  rw [if_neg (show ¬ (0 : Int) = x.toInt from hz 0 h.1), if_neg (show ¬ (1 : Int) = x.toInt from hz 1 h.2)]
theorem r0_10 : nFr 0 9 10 55 = true := by decide +kernel
theorem r55_0 : nFr 55 0 0 56 = true := by decide +kernel
theorem c56 : nC 56 100 12 := nCb_ok (by decide +kernel)
theorem i55_1 : nFi 55 0 1 = true := by decide +kernel
theorem r55_2 : nFr 55 0 2 57 = true := by decide +kernel
theorem c57 : nC 57 100 12 := nCb_ok (by decide +kernel)
theorem r55_3 : nFr 55 0 3 58 = true := by decide +kernel
theorem c58 : nC 58 100 12 := nCb_ok (by decide +kernel)
theorem i55_4 : nFi 55 0 4 = true := by decide +kernel
theorem i55_5 : nFi 55 0 5 = true := by decide +kernel
theorem r55_6 : nFr 55 0 6 59 = true := by decide +kernel
theorem c59 : nC 59 100 120 := nCb_ok (by decide +kernel)
theorem i55_7 : nFi 55 0 7 = true := by decide +kernel
theorem r55_8 : nFr 55 0 8 60 = true := by decide +kernel
theorem c60 : nC 60 100 12 := nCb_ok (by decide +kernel)
theorem i55_9 : nFi 55 0 9 = true := by decide +kernel
theorem r55_10 : nFr 55 0 10 61 = true := by decide +kernel
theorem c61 : nC 61 100 8 := nCb_ok (by decide +kernel)
theorem r55_11 : nFr 55 0 11 62 = true := by decide +kernel
theorem c62 : nC 62 100 8 := nCb_ok (by decide +kernel)
theorem c55 : nC 55 0 12 := nCb_ok (by decide +kernel)
theorem i80_0 : nFi 80 10 0 = true := by decide +kernel
theorem i80_18 : nFi 80 10 18 = true := by decide +kernel
theorem r80_17 : nFr 80 10 17 87 = true := by decide +kernel
theorem c87 : nC 87 100 700 := nCb_ok (by decide +kernel)
theorem c80 : nC 80 10 87 := nCb_ok (by decide +kernel)
theorem i80_22 : nFi 80 10 22 = true := by decide +kernel
theorem i80_23 : nFi 80 10 23 = true := by decide +kernel
theorem i80_25 : nFi 80 10 25 = true := by decide +kernel
theorem l80_29 : nFl 80 10 29 = true := by decide +kernel
theorem i80_27 : nFi 80 10 27 = true := by decide +kernel
theorem i80_28 : nFi 80 10 28 = true := by decide +kernel
theorem i80_24 : nFi 80 10 24 = true := by decide +kernel
theorem i80_26 : nFi 80 10 26 = true := by decide +kernel
theorem kB_96 : (Int8.ofInt (96)).toInt32 = (96 : Int32) := by decide
theorem kB_110 : (Int8.ofInt (110)).toInt32 = (110 : Int32) := by decide
theorem kB_111 : (Int8.ofInt (111)).toInt32 = (111 : Int32) := by decide
theorem kB_116 : (Int8.ofInt (116)).toInt32 = (116 : Int32) := by decide
theorem ti_23 : (23 : Int32).toInt = 23 := by decide
theorem kB_114 : (Int8.ofInt (114)).toInt32 = (114 : Int32) := by decide
theorem kB_103 : (Int8.ofInt (103)).toInt32 = (103 : Int32) := by decide
theorem kB_109 : (Int8.ofInt (109)).toInt32 = (109 : Int32) := by decide
theorem kB_101 : (Int8.ofInt (101)).toInt32 = (101 : Int32) := by decide
theorem kB_115 : (Int8.ofInt (115)).toInt32 = (115 : Int32) := by decide
theorem kB_102 : (Int8.ofInt (102)).toInt32 = (102 : Int32) := by decide
theorem kB_117 : (Int8.ofInt (117)).toInt32 = (117 : Int32) := by decide
theorem kB_98 : (Int8.ofInt (98)).toInt32 = (98 : Int32) := by decide
theorem kB_108 : (Int8.ofInt (108)).toInt32 = (108 : Int32) := by decide
theorem kB_105 : (Int8.ofInt (105)).toInt32 = (105 : Int32) := by decide
theorem kB_107 : (Int8.ofInt (107)).toInt32 = (107 : Int32) := by decide
theorem kB_104 : (Int8.ofInt (104)).toInt32 = (104 : Int32) := by decide
theorem kB_119 : (Int8.ofInt (119)).toInt32 = (119 : Int32) := by decide
theorem kB_112 : (Int8.ofInt (112)).toInt32 = (112 : Int32) := by decide
theorem kB_118 : (Int8.ofInt (118)).toInt32 = (118 : Int32) := by decide
theorem kB_25 : (Int8.ofInt (25)).toInt32 = (25 : Int32) := by decide
theorem i80_19 : nFi 80 10 19 = true := by decide +kernel
theorem i80_20 : nFi 80 10 20 = true := by decide +kernel
theorem r80_57 : nFr 80 10 57 97 = true := by decide +kernel
theorem i80_44 : nFi 80 10 44 = true := by decide +kernel
theorem c97 : nC 97 100 4000 := nCb_ok (by decide +kernel)
theorem kB_14 : (Int8.ofInt (14)).toInt32 = (14 : Int32) := by decide
theorem i80_45 : nFi 80 10 45 = true := by decide +kernel
theorem r80_58 : nFr 80 10 58 98 = true := by decide +kernel
theorem c98 : nC 98 100 950 := nCb_ok (by decide +kernel)
theorem i80_42 : nFi 80 10 42 = true := by decide +kernel
theorem i80_43 : nFi 80 10 43 = true := by decide +kernel
theorem i80_46 : nFi 80 10 46 = true := by decide +kernel
theorem r80_59 : nFr 80 10 59 99 = true := by decide +kernel
theorem c99 : nC 99 102 9 := nCb_ok (by decide +kernel)
theorem kB_22 : (Int8.ofInt (22)).toInt32 = (22 : Int32) := by decide
theorem kB_23 : (Int8.ofInt (23)).toInt32 = (23 : Int32) := by decide
theorem kB_11 : (Int8.ofInt (11)).toInt32 = (11 : Int32) := by decide
theorem i80_41 : nFi 80 10 41 = true := by decide +kernel
theorem i80_30 : nFi 80 10 30 = true := by decide +kernel
theorem i80_31 : nFi 80 10 31 = true := by decide +kernel
theorem i80_37 : nFi 80 10 37 = true := by decide +kernel
theorem r80_55 : nFr 80 10 55 95 = true := by decide +kernel
theorem c95 : nC 95 100 50 := nCb_ok (by decide +kernel)
theorem kB_19 : (Int8.ofInt (19)).toInt32 = (19 : Int32) := by decide
theorem l80_48 : nFl 80 10 48 = true := by decide +kernel
theorem r80_50 : nFr 80 10 50 90 = true := by decide +kernel
theorem c90 : nC 90 100 40 := nCb_ok (by decide +kernel)
theorem l80_47 : nFl 80 10 47 = true := by decide +kernel
theorem r80_49 : nFr 80 10 49 89 = true := by decide +kernel
theorem c89 : nC 89 100 40 := nCb_ok (by decide +kernel)
theorem kB_13 : (Int8.ofInt (13)).toInt32 = (13 : Int32) := by decide
theorem kB_15 : (Int8.ofInt (15)).toInt32 = (15 : Int32) := by decide
theorem kB_17 : (Int8.ofInt (17)).toInt32 = (17 : Int32) := by decide
theorem kB_21 : (Int8.ofInt (21)).toInt32 = (21 : Int32) := by decide
theorem i80_36 : nFi 80 10 36 = true := by decide +kernel
theorem r80_56 : nFr 80 10 56 96 = true := by decide +kernel
theorem c96 : nC 96 100 4 := nCb_ok (by decide +kernel)
theorem i80_39 : nFi 80 10 39 = true := by decide +kernel
theorem i80_38 : nFi 80 10 38 = true := by decide +kernel
theorem i80_35 : nFi 80 10 35 = true := by decide +kernel
theorem i80_34 : nFi 80 10 34 = true := by decide +kernel
theorem i80_33 : nFi 80 10 33 = true := by decide +kernel
theorem r80_53 : nFr 80 10 53 93 = true := by decide +kernel
theorem c93 : nC 93 100 12 := nCb_ok (by decide +kernel)
theorem r80_54 : nFr 80 10 54 94 = true := by decide +kernel
theorem c94 : nC 94 100 12 := nCb_ok (by decide +kernel)
theorem i80_40 : nFi 80 10 40 = true := by decide +kernel
theorem i80_32 : nFi 80 10 32 = true := by decide +kernel
theorem r80_52 : nFr 80 10 52 92 = true := by decide +kernel
theorem c92 : nC 92 100 12 := nCb_ok (by decide +kernel)
theorem r80_51 : nFr 80 10 51 91 = true := by decide +kernel
theorem c91 : nC 91 100 12 := nCb_ok (by decide +kernel)
theorem i80_1 : nFi 80 10 1 = true := by decide +kernel
theorem i80_2 : nFi 80 10 2 = true := by decide +kernel
theorem i80_3 : nFi 80 10 3 = true := by decide +kernel
theorem i80_4 : nFi 80 10 4 = true := by decide +kernel
theorem i80_5 : nFi 80 10 5 = true := by decide +kernel
theorem i80_6 : nFi 80 10 6 = true := by decide +kernel
theorem i80_7 : nFi 80 10 7 = true := by decide +kernel
theorem i80_8 : nFi 80 10 8 = true := by decide +kernel
theorem i80_9 : nFi 80 10 9 = true := by decide +kernel
theorem i80_10 : nFi 80 10 10 = true := by decide +kernel
theorem r80_11 : nFr 80 10 11 81 = true := by decide +kernel
theorem c81 : nC 81 100 40 := nCb_ok (by decide +kernel)
theorem r80_12 : nFr 80 10 12 82 = true := by decide +kernel
theorem c82 : nC 82 100 40 := nCb_ok (by decide +kernel)
theorem r80_13 : nFr 80 10 13 83 = true := by decide +kernel
theorem c83 : nC 83 100 12 := nCb_ok (by decide +kernel)
theorem r80_14 : nFr 80 10 14 84 = true := by decide +kernel
theorem c84 : nC 84 100 50 := nCb_ok (by decide +kernel)
theorem r80_15 : nFr 80 10 15 85 = true := by decide +kernel
theorem c85 : nC 85 100 4 := nCb_ok (by decide +kernel)
theorem r80_16 : nFr 80 10 16 86 = true := by decide +kernel
theorem c86 : nC 86 100 4000 := nCb_ok (by decide +kernel)
theorem r80_60 : nFr 80 10 60 100 = true := by decide +kernel
theorem kB_36 : (Int8.ofInt (36)).toInt32 = (36 : Int32) := by decide
theorem c100 : nC 100 100 38 := nCb_ok (by decide +kernel)
theorem kB_37 : (Int8.ofInt (37)).toInt32 = (37 : Int32) := by decide
theorem i80_63 : nFi 80 10 63 = true := by decide +kernel
theorem i80_74 : nFi 80 10 74 = true := by decide +kernel
theorem i80_75 : nFi 80 10 75 = true := by decide +kernel
theorem i80_71 : nFi 80 10 71 = true := by decide +kernel
theorem z80_79 : nFb 80 10 79 = true := by decide +kernel
theorem g_37_38 : nG 37 38 = true := by decide
theorem g_36_38 : nG 36 38 = true := by decide
theorem r80_21 : nFr 80 10 21 88 = true := by decide +kernel
theorem c88 : nC 88 100 3 := nCb_ok (by decide +kernel)
theorem g_0_3 : nG 0 3 = true := by decide
theorem kB_38 : (Int8.ofInt (38)).toInt32 = (38 : Int32) := by decide
theorem r80_62 : nFr 80 10 62 102 = true := by decide +kernel
theorem c102 : nC 102 100 1520 := nCb_ok (by decide +kernel)
theorem kS_1520 : (Int16.ofInt (1520)).toInt32 = (1520 : Int32) := by decide
theorem ti_10 : (10 : Int32).toInt = 10 := by decide
theorem r80_65 : nFr 80 10 65 104 = true := by decide +kernel
theorem c104 : nC 104 100 950 := nCb_ok (by decide +kernel)
theorem g_0_950 : nG 0 950 = true := by decide
theorem r80_64 : nFr 80 10 64 103 = true := by decide +kernel
theorem c103 : nC 103 100 10 := nCb_ok (by decide +kernel)
theorem i80_66 : nFi 80 10 66 = true := by decide +kernel
theorem i80_70 : nFi 80 10 70 = true := by decide +kernel
theorem r80_67 : nFr 80 10 67 105 = true := by decide +kernel
theorem c105 : nC 105 100 210 := nCb_ok (by decide +kernel)
theorem kB_29 : (Int8.ofInt (29)).toInt32 = (29 : Int32) := by decide
theorem r80_68 : nFr 80 10 68 106 = true := by decide +kernel
theorem c106 : nC 106 100 210 := nCb_ok (by decide +kernel)
theorem r80_69 : nFr 80 10 69 107 = true := by decide +kernel
theorem c107 : nC 107 100 450 := nCb_ok (by decide +kernel)
theorem ti_18 : (18 : Int32).toInt = 18 := by decide
theorem kI_12 : Int32.ofInt (12) = (12 : Int32) := by decide
theorem r80_61 : nFr 80 10 61 101 = true := by decide +kernel
theorem r80_73 : nFr 80 10 73 109 = true := by decide +kernel
theorem c109 : nC 109 100 12 := nCb_ok (by decide +kernel)
theorem c101 : nC 101 100 38 := nCb_ok (by decide +kernel)
theorem r80_72 : nFr 80 10 72 108 = true := by decide +kernel
theorem c108 : nC 108 100 12 := nCb_ok (by decide +kernel)
theorem nz_4 : ¬ ((4 : Int32) = 0) := by decide
theorem r80_76 : nFr 80 10 76 110 = true := by decide +kernel
theorem c110 : nC 110 100 12 := nCb_ok (by decide +kernel)
theorem r80_77 : nFr 80 10 77 111 = true := by decide +kernel
theorem c111 : nC 111 100 16 := nCb_ok (by decide +kernel)
theorem i80_78 : nFi 80 10 78 = true := by decide +kernel
theorem i80_80 : nFi 80 10 80 = true := by decide +kernel
theorem i80_81 : nFi 80 10 81 = true := by decide +kernel
theorem i80_82 : nFi 80 10 82 = true := by decide +kernel
theorem r80_83 : nFr 80 10 83 112 = true := by decide +kernel
theorem c112 : nC 112 100 38 := nCb_ok (by decide +kernel)
theorem r80_84 : nFr 80 10 84 113 = true := by decide +kernel
theorem c113 : nC 113 100 1520 := nCb_ok (by decide +kernel)
theorem r80_85 : nFr 80 10 85 114 = true := by decide +kernel
theorem c114 : nC 114 100 12 := nCb_ok (by decide +kernel)
theorem r80_86 : nFr 80 10 86 115 = true := by decide +kernel
theorem c115 : nC 115 100 16 := nCb_ok (by decide +kernel)
theorem c116 : nC 116 103 1 := nCb_ok (by decide +kernel)
theorem g_0_1 : nG 0 1 = true := by decide
