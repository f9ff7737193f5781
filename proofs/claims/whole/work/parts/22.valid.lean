/-! ===== the tables are the bytes (2) ===== -/
set_option maxRecDepth 20000 in
theorem mVM164 : mOkM mTab mM164 := mChM_ok mSelf_ok mAt_ok (by decide +kernel) (hh := []) (by decide +kernel) (hs := [[], [(2, 201)], [], [], [], [], [(2, 199)], [], [(2, 200)], [(4, 2)], [], []]) (by decide +kernel)
set_option maxRecDepth 20000 in
theorem mVM165 : mOkM mTab mM165 := mChM_ok mSelf_ok mAt_ok (by decide +kernel) (hh := []) (by decide +kernel) (hs := [[], [], [], [], [], [(5, 109), (1, 26)], []]) (by decide +kernel)
set_option maxRecDepth 20000 in
theorem mVM166 : mOkM mTab mM166 := mChM_ok mSelf_ok mAt_ok (by decide +kernel) (hh := []) (by decide +kernel) (hs := [[], [(2, 198)], [], [(3, 15)], [], [(5, 109), (1, 26)], []]) (by decide +kernel)
set_option maxRecDepth 20000 in
theorem mVM167 : mOkM mTab mM167 := mChM_ok mSelf_ok mAt_ok (by decide +kernel) (hh := []) (by decide +kernel) (hs := [[], [(2, 198)], [], [(3, 30)], [], [(5, 109), (1, 26)], []]) (by decide +kernel)
set_option maxRecDepth 20000 in
theorem mVM168 : mOkM mTab mM168 := mChM_ok mSelf_ok mAt_ok (by decide +kernel) (hh := []) (by decide +kernel) (hs := [[], [], [], [], [(2, 198)], [(1, 100)], [], [(5, 109), (1, 26)], []]) (by decide +kernel)
set_option maxRecDepth 20000 in
theorem mVM169 : mOkM mTab mM169 := mChM_ok mSelf_ok mAt_ok (by decide +kernel) (hh := []) (by decide +kernel) (hs := [[], [], [], [], [], [], [(4, 18), (1, 16)], []]) (by decide +kernel)
set_option maxRecDepth 20000 in
theorem mVM170 : mOkM mTab mM170 := mChM_ok mSelf_ok mAt_ok (by decide +kernel) (hh := []) (by decide +kernel) (hs := [[], [(3, 155)], [], [], [], [], []]) (by decide +kernel)
set_option maxRecDepth 20000 in
theorem mVM171 : mOkM mTab mM171 := mChM_ok mSelf_ok mAt_ok (by decide +kernel) (hh := []) (by decide +kernel) (hs := [[], [], [(6, 108)], [], [], [], [], [], [], [], [], [], [], []]) (by decide +kernel)
set_option maxRecDepth 20000 in
theorem mVM172 : mOkM mTab mM172 := mChM_ok mSelf_ok mAt_ok (by decide +kernel) (hh := []) (by decide +kernel) (hs := [[], [], [(6, 108)], [], [], [], [], [], [], [], [], [], [], []]) (by decide +kernel)
set_option maxRecDepth 20000 in
theorem mVM173 : mOkM mTab mM173 := mChM_ok mSelf_ok mAt_ok (by decide +kernel) (hh := []) (by decide +kernel) (hs := [[], [], [], [], [], [], [], [], [], [], [], [], [], [], [], [], [], [], [], [], [], [], []]) (by decide +kernel)
set_option maxRecDepth 20000 in
theorem mVM174 : mOkM mTab mM174 := mChM_ok mSelf_ok mAt_ok (by decide +kernel) (hh := []) (by decide +kernel) (hs := [[], [], [], [(3, 89)], [(3, 92)], []]) (by decide +kernel)
set_option maxRecDepth 20000 in
theorem mVM175_0 : ∀ (pc : Nat) (i : Instr) (rs : List Nat), mAt mC175_0 pc = some (i, rs) → mOkX mTab mM175 pc i rs := mChC_ok mSelf_ok mAt_ok _ [[], [(6, 220)], [], [], [(6, 222)], [], [], [(6, 223)], [], [], [(6, 226)], [], [], [(6, 227)], [], [], [(6, 230)], [], [], [(6, 231)], [], [], [(1, 76)], [(6, 232)], [], [], [(1, 76)], [(6, 233)], [], [], [(1, 76)], [(6, 234)], [], [], [(1, 76)], [(6, 235)], [], [], [(1, 76)], [(6, 236)], [], [], [(1, 76)], [(6, 237)], [], [], [(1, 76)], [(6, 238)], [], [], [(7, 1)], [], [], [(1, 76)], [(7, 2)], [], [], [(1, 76)], [(7, 30)], [], [], [(1, 76)], [(7, 31)], [], [], [(1, 76)], [(7, 32)], [], [], [(1, 76)], [(7, 33)], [], [], [(1, 76)], [(7, 34)], [], [], [(1, 76)], [(7, 35)], [], [], [(1, 76)], [(7, 36)], [], [], [(1, 76)], [(7, 37)], [], [], [(1, 76)], [(7, 38)], [], [], [(1, 76)], [(7, 39)], [], [], [(8, 3)], [(7, 40)], [], [], [(1, 76)], [(7, 41)], [], [], [(1, 76)], [(7, 42)], [], [], [(1, 76)], [(7, 43)], [], [], [(1, 76)], [(7, 45)], [], [], [(1, 76)], [(7, 46)], [], [], [(1, 76)], [(7, 48)], [], [], [(1, 76)], [(7, 49)], [], [], [(1, 76)], [(7, 50)], [], [], [(7, 52)], [], [], [(1, 76)], [(7, 53)], [], [], [(1, 76)], [(7, 54)], [], [], [(1, 76)], [(7, 57)], [], [], [(1, 76)], [(7, 58)], [], [], [(1, 76)], [(7, 64)], [], [], [(1, 76)], [(7, 65)], [], [], [(1, 76)], [(7, 66)], [], [], [(1, 76)], [(7, 67)], [], []] (by decide +kernel)
set_option maxRecDepth 20000 in
theorem mVM175_1 : ∀ (pc : Nat) (i : Instr) (rs : List Nat), mAt mC175_1 pc = some (i, rs) → mOkX mTab mM175 pc i rs := mChC_ok mSelf_ok mAt_ok _ [[], [], [], [], [(6, 232)], [], [], [], [], [], []] (by decide +kernel)
theorem mVM175 : mOkM mTab mM175 := ⟨by decide +kernel, mChH_ok (hs := []) (by decide +kernel), fun pc i rs h => by
  have h : mAt mC175 pc = some (i, rs) := h
  unfold mC175 at h
  exact (mAt_app h).elim (fun h => mVM175_0 pc i rs h) (fun h => mVM175_1 pc i rs h)⟩
set_option maxRecDepth 20000 in
theorem mVM176 : mOkM mTab mM176 := mChM_ok mSelf_ok mAt_ok (by decide +kernel) (hh := []) (by decide +kernel) (hs := [[], [(6, 221)], []]) (by decide +kernel)
set_option maxRecDepth 20000 in
theorem mVM177 : mOkM mTab mM177 := mChM_ok mSelf_ok mAt_ok (by decide +kernel) (hh := []) (by decide +kernel) (hs := [[], [(6, 221)], [], [], [], [], [], [(6, 221)], [], [(6, 221)], [], [], [], [], []]) (by decide +kernel)
set_option maxRecDepth 20000 in
theorem mVM178 : mOkM mTab mM178 := mChM_ok mSelf_ok mAt_ok (by decide +kernel) (hh := []) (by decide +kernel) (hs := [[], [], [], [], [], [], [], [], [], []]) (by decide +kernel)
set_option maxRecDepth 20000 in
theorem mVM179 : mOkM mTab mM179 := mChM_ok mSelf_ok mAt_ok (by decide +kernel) (hh := []) (by decide +kernel) (hs := [[], [], [], [], [], [], [], [], [], [], []]) (by decide +kernel)
set_option maxRecDepth 20000 in
theorem mVM180 : mOkM mTab mM180 := mChM_ok mSelf_ok mAt_ok (by decide +kernel) (hh := []) (by decide +kernel) (hs := [[], [], [], [], [], [], [], [], [], [], [], [], [], [], []]) (by decide +kernel)
set_option maxRecDepth 20000 in
theorem mVM181 : mOkM mTab mM181 := mChM_ok mSelf_ok mAt_ok (by decide +kernel) (hh := []) (by decide +kernel) (hs := [[], [], [], [], [], [], [], [], [], [], [], [], [], [], [], [], [], [], []]) (by decide +kernel)
set_option maxRecDepth 20000 in
theorem mVM182 : mOkM mTab mM182 := mChM_ok mSelf_ok mAt_ok (by decide +kernel) (hh := []) (by decide +kernel) (hs := [[], [], [(6, 221)], [], [(6, 239)], [], [], [], [], [], [], [], [], [(8, 12)], [], [], [(8, 12)], [], [], [(8, 12)], [], [], [(8, 12)], [], [], [(8, 12)], [], [(6, 239)], []]) (by decide +kernel)
set_option maxRecDepth 20000 in
theorem mVM183 : mOkM mTab mM183 := mChM_ok mSelf_ok mAt_ok (by decide +kernel) (hh := []) (by decide +kernel) (hs := [[], [], [], [], [], [(6, 238)], [], [(6, 239)], [], [], [], [], [], [], [], [], [(6, 239)], [], [], [(6, 239)], [], [], []]) (by decide +kernel)
set_option maxRecDepth 20000 in
theorem mVM184 : mOkM mTab mM184 := mChM_ok mSelf_ok mAt_ok (by decide +kernel) (hh := []) (by decide +kernel) (hs := [[], [], [(7, 3)], [], [], [(6, 238)], [], [], [], [], []]) (by decide +kernel)
set_option maxRecDepth 20000 in
theorem mVM185 : mOkM mTab mM185 := mChM_ok mSelf_ok mAt_ok (by decide +kernel) (hh := []) (by decide +kernel) (hs := [[], [], [], [], [], [], [], [], [], []]) (by decide +kernel)
set_option maxRecDepth 20000 in
theorem mVM186 : mOkM mTab mM186 := mChM_ok mSelf_ok mAt_ok (by decide +kernel) (hh := []) (by decide +kernel) (hs := [[], [], [], [], [], [], [], [], [], []]) (by decide +kernel)
set_option maxRecDepth 20000 in
theorem mVM187_0 : ∀ (pc : Nat) (i : Instr) (rs : List Nat), mAt mC187_0 pc = some (i, rs) → mOkX mTab mM187 pc i rs := mChC_ok mSelf_ok mAt_ok _ [[], [(7, 4)], [], [(7, 3)], [], [], [], [(7, 4)], [(8, 28)], [], [], [], [], [(7, 4)], [(8, 28)], [], [], [], [], [(7, 4)], [], [], [(7, 4)], []] (by decide +kernel)
set_option maxRecDepth 20000 in
theorem mVM187_1 : ∀ (pc : Nat) (i : Instr) (rs : List Nat), mAt mC187_1 pc = some (i, rs) → mOkX mTab mM187 pc i rs := mChC_ok mSelf_ok mAt_ok _ [[], [], [(7, 4)], [(7, 6)], [], [], [(7, 10)], [], [], [(7, 8)], [], [], [(7, 4)], [(8, 28)], [], [], [], [(7, 9)], [], [(7, 4)], [], [(7, 3)], [], [], [], [(7, 5)], [], [], [(8, 32)], []] (by decide +kernel)
set_option maxRecDepth 20000 in
theorem mVM187_2 : ∀ (pc : Nat) (i : Instr) (rs : List Nat), mAt mC187_2 pc = some (i, rs) → mOkX mTab mM187 pc i rs := mChC_ok mSelf_ok mAt_ok _ [[], [], [(7, 4)], [(8, 28)], [(8, 32)], [], [], [(7, 4)], [], [(7, 6)], [], [], [], [], [], [(7, 10)], [], [], [], [], [(7, 4)], [(8, 28)], [], [], [], [], [(7, 10)], [], [], [(7, 4)], [], [], [(7, 4)], [], [], [], [(7, 5)], [], [], [(8, 35)], []] (by decide +kernel)
set_option maxRecDepth 20000 in
theorem mVM187_3 : ∀ (pc : Nat) (i : Instr) (rs : List Nat), mAt mC187_3 pc = some (i, rs) → mOkX mTab mM187 pc i rs := mChC_ok mSelf_ok mAt_ok _ [[], [], [(7, 4)], [(8, 28)], [(8, 35)], [], [], [(7, 4)], [], [(7, 6)], [], [], [], [], [], [], [(7, 8)], [], [], [], [(7, 4)], [(8, 28)], [], [], [], [(7, 8)], [], [], [(7, 4)], [], [], [(7, 4)], [], [], [], [(7, 5)], []] (by decide +kernel)
set_option maxRecDepth 20000 in
theorem mVM187_4 : ∀ (pc : Nat) (i : Instr) (rs : List Nat), mAt mC187_4 pc = some (i, rs) → mOkX mTab mM187 pc i rs := mChC_ok mSelf_ok mAt_ok _ [[], [], [(7, 4)], [], [], [(7, 4)], [], [], [], [], [], [], [], [], [], [], [], [], [], [], [], [], [], [], [], [], [], [], [], [], [], [], [], [], [], [], [], [(7, 5)], [], [], [(7, 4)], [], [(7, 6)], [], [(7, 7)], []] (by decide +kernel)
theorem mVM187 : mOkM mTab mM187 := ⟨by decide +kernel, mChH_ok (hs := []) (by decide +kernel), fun pc i rs h => by
  have h : mAt mC187 pc = some (i, rs) := h
  unfold mC187 at h
  exact (mAt_app h).elim (fun h => mVM187_0 pc i rs h) (fun h => (mAt_app h).elim (fun h => mVM187_1 pc i rs h) (fun h => (mAt_app h).elim (fun h => mVM187_2 pc i rs h) (fun h => (mAt_app h).elim (fun h => mVM187_3 pc i rs h) (fun h => mVM187_4 pc i rs h))))⟩
set_option maxRecDepth 20000 in
theorem mVM188 : mOkM mTab mM188 := mChM_ok mSelf_ok mAt_ok (by decide +kernel) (hh := []) (by decide +kernel) (hs := [[], [], [(8, 48)], [], [], [], [], [], [], [], [], [], [], [], [], [], [], [], [], [], [], [], [], [], [], [], [], [], [], [], [], [], [], [], [], [], [], [], [], [], [], [], [], [], [], [], [], [], [], [], [], [], [], [], [], [], [], [], [], [], [], [], [], [], [], [], [], [], []]) (by decide +kernel)
set_option maxRecDepth 20000 in
theorem mVM189_0 : ∀ (pc : Nat) (i : Instr) (rs : List Nat), mAt mC189_0 pc = some (i, rs) → mOkX mTab mM189 pc i rs := mChC_ok mSelf_ok mAt_ok _ [[], [], [], [], [], [], [], [], [], [(8, 45)], [], [], [], [], [], [], [], [], [(8, 45)], [], [], [], [], [], [], [], [], [(8, 45)], [], [], [], [], [], [], [], [], [(8, 45)], [], [], [], [], [], [], [], [], [(8, 45)], []] (by decide +kernel)
set_option maxRecDepth 20000 in
theorem mVM189_1 : ∀ (pc : Nat) (i : Instr) (rs : List Nat), mAt mC189_1 pc = some (i, rs) → mOkX mTab mM189 pc i rs := mChC_ok mSelf_ok mAt_ok _ [[], [], [], [], [], [], [], [(8, 45)], [], [], [], [], [], [], [], [], [(8, 45)], [], [], [], [], [], [], [], [], [(8, 45)], [], [], [], [], [], [], [], [], [(8, 45)], [], [], [], [], [], [], [], [], [(8, 45)], []] (by decide +kernel)
set_option maxRecDepth 20000 in
theorem mVM189_2 : ∀ (pc : Nat) (i : Instr) (rs : List Nat), mAt mC189_2 pc = some (i, rs) → mOkX mTab mM189 pc i rs := mChC_ok mSelf_ok mAt_ok _ [[], [], [], [], [], [], [], [(8, 45)], [], [], [], [], [], [], [], [], [(8, 45)], [], [], [], [], [], [], [], [], [(8, 45)], [], [], [], [], [], [], [], [], [(8, 45)], [], [], [], [], [], [], [], [], [(8, 45)], []] (by decide +kernel)
set_option maxRecDepth 20000 in
theorem mVM189_3 : ∀ (pc : Nat) (i : Instr) (rs : List Nat), mAt mC189_3 pc = some (i, rs) → mOkX mTab mM189 pc i rs := mChC_ok mSelf_ok mAt_ok _ [[], [], [], [], [], [], [], [(8, 45)], [], [], [], [], [], [], [], [], [(8, 45)], [], [], [], [], [], [], [], [], [(8, 45)], [], [], [], [], [], [], [], [], [(8, 45)], [], [], [], [], [], [], [], [], [(8, 45)], []] (by decide +kernel)
set_option maxRecDepth 20000 in
theorem mVM189_4 : ∀ (pc : Nat) (i : Instr) (rs : List Nat), mAt mC189_4 pc = some (i, rs) → mOkX mTab mM189 pc i rs := mChC_ok mSelf_ok mAt_ok _ [[], [], [], [], [], [], [], [(8, 45)], [], [], [], [], [], [], [], [], [(8, 45)], [], [], [], [], [], [], [], [], [(8, 45)], [], [], [], [], [], [], [], [], [(8, 45)], [], [], [], [], [], [], [], [], [(8, 45)], []] (by decide +kernel)
theorem mVM189 : mOkM mTab mM189 := ⟨by decide +kernel, mChH_ok (hs := []) (by decide +kernel), fun pc i rs h => by
  have h : mAt mC189 pc = some (i, rs) := h
  unfold mC189 at h
  exact (mAt_app h).elim (fun h => mVM189_0 pc i rs h) (fun h => (mAt_app h).elim (fun h => mVM189_1 pc i rs h) (fun h => (mAt_app h).elim (fun h => mVM189_2 pc i rs h) (fun h => (mAt_app h).elim (fun h => mVM189_3 pc i rs h) (fun h => mVM189_4 pc i rs h))))⟩
set_option maxRecDepth 20000 in
theorem mVM190 : mOkM mTab mM190 := mChM_ok mSelf_ok mAt_ok (by decide +kernel) (hh := []) (by decide +kernel) (hs := [[], [(7, 5)], [], [], [], [(7, 7)], [], [], [], [], [], [], [], [], [], [], [(8, 42)], [], [(7, 10)], [], [], [], [], [], [], [], []]) (by decide +kernel)
set_option maxRecDepth 20000 in
theorem mVM191 : mOkM mTab mM191 := mChM_ok mSelf_ok mAt_ok (by decide +kernel) (hh := []) (by decide +kernel) (hs := [[], [(7, 0)], [], [], [], [], [(7, 0)], [], [], [(7, 6)], [(7, 1)], []]) (by decide +kernel)
set_option maxRecDepth 20000 in
theorem mVM192 : mOkM mTab mM192 := mChM_ok mSelf_ok mAt_ok (by decide +kernel) (hh := []) (by decide +kernel) (hs := [[], [(7, 0)], [], [], [], [], []]) (by decide +kernel)
set_option maxRecDepth 20000 in
theorem mVM193 : mOkM mTab mM193 := mChM_ok mSelf_ok mAt_ok (by decide +kernel) (hh := []) (by decide +kernel) (hs := [[], [(7, 5)], [], [], [], [(7, 9)], [], [], [], [], [], []]) (by decide +kernel)
set_option maxRecDepth 20000 in
theorem mVM194 : mOkM mTab mM194 := mChM_ok mSelf_ok mAt_ok (by decide +kernel) (hh := []) (by decide +kernel) (hs := [[], [(8, 57)], [], [], [], [], [], [(8, 24)], [], [], [], [(8, 61)], []]) (by decide +kernel)
set_option maxRecDepth 20000 in
theorem mVM195 : mOkM mTab mM195 := mChM_ok mSelf_ok mAt_ok (by decide +kernel) (hh := []) (by decide +kernel) (hs := [[], [(8, 57)], [], [], [], [], [(7, 5)], [], [], [], [], [(8, 61)], [], [], [(7, 7)], [], [], [], [(7, 8)], [], [], [], [(7, 8)], [], [], [], [], [(8, 61)], [], [(8, 57)], []]) (by decide +kernel)
set_option maxRecDepth 20000 in
theorem mVM196 : mOkM mTab mM196 := mChM_ok mSelf_ok mAt_ok (by decide +kernel) (hh := []) (by decide +kernel) (hs := [[], [], [], [(8, 53)], [], [], [(7, 8)], [], [], [], [], [(8, 57)], [], [], [(8, 24)], [], []]) (by decide +kernel)
set_option maxRecDepth 20000 in
theorem mVM197 : mOkM mTab mM197 := mChM_ok mSelf_ok mAt_ok (by decide +kernel) (hh := []) (by decide +kernel) (hs := [[], [(7, 38)], [], [(7, 25)], [], [], [], [], [(7, 25)], [], [], [(7, 25)], []]) (by decide +kernel)
set_option maxRecDepth 20000 in
theorem mVM198 : mOkM mTab mM198 := mChM_ok mSelf_ok mAt_ok (by decide +kernel) (hh := []) (by decide +kernel) (hs := [[], [], [], [], [], [], []]) (by decide +kernel)
set_option maxRecDepth 20000 in
theorem mVM199 : mOkM mTab mM199 := mChM_ok mSelf_ok mAt_ok (by decide +kernel) (hh := []) (by decide +kernel) (hs := [[], [], [], [], [], [], [], [], [], [], [], [], [], [], [], [], [], [], [], [], [], [], [], [], [], [], [], [], [], [], [], [], []]) (by decide +kernel)
set_option maxRecDepth 20000 in
theorem mVM200 : mOkM mTab mM200 := mChM_ok mSelf_ok mAt_ok (by decide +kernel) (hh := []) (by decide +kernel) (hs := [[], [(7, 26)], [], [], [(7, 39)], [], [(7, 26)], [], [], [], [(8, 121)], [], [], [(7, 39)], [], [(7, 26)], [], [], [], [(8, 124)], [], [], [], [], [(7, 26)], [], [], [(7, 26)], [], [], [(7, 39)], [], [(7, 26)], [], [(8, 113)], [], []]) (by decide +kernel)
set_option maxRecDepth 20000 in
theorem mVM201 : mOkM mTab mM201 := mChM_ok mSelf_ok mAt_ok (by decide +kernel) (hh := []) (by decide +kernel) (hs := [[], [(7, 39)], [], [(7, 26)], [], [], [], [], [(7, 26)], [], [], [(7, 26)], []]) (by decide +kernel)
set_option maxRecDepth 20000 in
theorem mVM202 : mOkM mTab mM202 := mChM_ok mSelf_ok mAt_ok (by decide +kernel) (hh := []) (by decide +kernel) (hs := [[], [(8, 57)], [], [], [], [(7, 5)], [], [], [], [(7, 7)], [], [], [], [], [(8, 61)], [], [], [(8, 113)], [], [], [(7, 8)], [(8, 113)], [], [], [(7, 5)], [], [], [], [(8, 38)], [], [], [], [(7, 23)], [], [], [], [(7, 24)], [], [], [], [(8, 61)], [], [], [(8, 113)], [], [], [(8, 113)], [], [], [], [(8, 61)], [], [(8, 57)], [], [], [(8, 24)], []]) (by decide +kernel)
set_option maxRecDepth 20000 in
theorem mVM203 : mOkM mTab mM203 := mChM_ok mSelf_ok mAt_ok (by decide +kernel) (hh := []) (by decide +kernel) (hs := [[], [(7, 27)], [], [], [], [], [(7, 27)], [], [], [(7, 27)], [], [(7, 40)], [], [(7, 27)], [], [], [], [], [], [(7, 5)], [], [], [], [(7, 5)], [], [], [], [], [(8, 65)], [], [], [], [], [(8, 61)], []]) (by decide +kernel)
set_option maxRecDepth 20000 in
theorem mVM204 : mOkM mTab mM204 := mChM_ok mSelf_ok mAt_ok (by decide +kernel) (hh := []) (by decide +kernel) (hs := [[], [], [], [], [], [], [], [(8, 57)], [], [], [], [], [(8, 57)], [], [], [], [], [(8, 38)], [], [], [], [], [], [], [], [(8, 61)], [], [], [(8, 57)], [], [], [], [], [(8, 105)], [], [(8, 24)], [], [], [(8, 57)], [], [], [], [(8, 65)], [], [], [], [], [], [], [], [], [], [(8, 105)], [], [(8, 24)], [], [(8, 97)], [], [], [], [], [(8, 109)], []]) (by decide +kernel)
set_option maxRecDepth 20000 in
theorem mVM205 : mOkM mTab mM205 := mChM_ok mSelf_ok mAt_ok (by decide +kernel) (hh := []) (by decide +kernel) (hs := [[], [(7, 26)], [], [], [], [], [], [], [(7, 39)], [], [], [(8, 121)], [], [], [], [], [], [], [], [], []]) (by decide +kernel)
set_option maxRecDepth 20000 in
theorem mVM206 : mOkM mTab mM206 := mChM_ok mSelf_ok mAt_ok (by decide +kernel) (hh := []) (by decide +kernel) (hs := [[], [], [(8, 117)], [], [], [(7, 26)], [], [], [(7, 26)], [], [], [(7, 27)], [], [], [(7, 27)], [], [(8, 24)], []]) (by decide +kernel)
set_option maxRecDepth 20000 in
theorem mVM207_0 : ∀ (pc : Nat) (i : Instr) (rs : List Nat), mAt mC207_0 pc = some (i, rs) → mOkX mTab mM207 pc i rs := mChC_ok mSelf_ok mAt_ok _ [[], [(8, 57)], [], [], [], [], [(7, 23)], [], [], [(7, 24)], [], [], [(7, 26)], [], [], [(7, 27)], [], [(8, 97)], [], [], [(8, 101)], [], [], [], [], [], [(8, 57)], [], [], [(8, 38)], [], [], [], [], [], [], [], [], [], [], [], [], [], []] (by decide +kernel)
set_option maxRecDepth 20000 in
theorem mVM207_1 : ∀ (pc : Nat) (i : Instr) (rs : List Nat), mAt mC207_1 pc = some (i, rs) → mOkX mTab mM207 pc i rs := mChC_ok mSelf_ok mAt_ok _ [[(8, 117)], [], [], [], [], [], [], [], [(8, 105)], [], [(7, 40)], [], [(7, 27)], [], [], [], [(8, 24)], [], [], [(8, 101)], [], [], [], [(8, 65)], [], [], [], [(8, 65)], [], [], [(7, 40)], [], [(7, 27)], [], [], [], [], [(8, 117)], [], [], [], [(8, 65)], [], [], [], []] (by decide +kernel)
set_option maxRecDepth 20000 in
theorem mVM207_2 : ∀ (pc : Nat) (i : Instr) (rs : List Nat), mAt mC207_2 pc = some (i, rs) → mOkX mTab mM207 pc i rs := mChC_ok mSelf_ok mAt_ok _ [[(8, 105)], [], [(7, 40)], [], [(7, 27)], [], [], [], [(8, 24)], [], [], [(8, 101)], [], [], [], [(8, 65)], [], [], [], [(8, 65)], [], [], [], [(8, 117)], [], [], [], [(8, 65)], [], [], [], [], [(8, 105)], [], [(8, 24)], [], [], [(8, 101)], [], [], [], [(8, 65)], [], [], [], [(8, 65)], []] (by decide +kernel)
set_option maxRecDepth 20000 in
theorem mVM207_3 : ∀ (pc : Nat) (i : Instr) (rs : List Nat), mAt mC207_3 pc = some (i, rs) → mOkX mTab mM207 pc i rs := mChC_ok mSelf_ok mAt_ok _ [[], [], [(8, 117)], [], [], [], [(8, 65)], [], [], [], [], [(8, 105)], [], [(8, 24)], [], [], [(8, 101)], [], [], [], [(8, 65)], [], [], [(8, 127)], [], [], [(8, 131)], [], [], [], [], [], [(8, 57)], [], [], [(7, 27)], [], [], [], [], [(8, 61)], [], [], [(8, 117)], [], [], [(8, 113)], []] (by decide +kernel)
theorem mVM207 : mOkM mTab mM207 := ⟨by decide +kernel, mChH_ok (hs := []) (by decide +kernel), fun pc i rs h => by
  have h : mAt mC207 pc = some (i, rs) := h
  unfold mC207 at h
  exact (mAt_app h).elim (fun h => mVM207_0 pc i rs h) (fun h => (mAt_app h).elim (fun h => mVM207_1 pc i rs h) (fun h => (mAt_app h).elim (fun h => mVM207_2 pc i rs h) (fun h => mVM207_3 pc i rs h)))⟩
set_option maxRecDepth 20000 in
theorem mVM208 : mOkM mTab mM208 := mChM_ok mSelf_ok mAt_ok (by decide +kernel) (hh := []) (by decide +kernel) (hs := [[], [(7, 22)], [], [], [], [], [], [], [], [], [(8, 61)], [], [], [(7, 22)], [], [], [], [], [(7, 22)], [], [(8, 57)], [], [], [(8, 24)], [], [(8, 57)], []]) (by decide +kernel)
set_option maxRecDepth 20000 in
theorem mVM209 : mOkM mTab mM209 := mChM_ok mSelf_ok mAt_ok (by decide +kernel) (hh := []) (by decide +kernel) (hs := [[], [], [], [(7, 11)], [], [], [(8, 49)], [], [], [], [], [(7, 12)], [], [], [(8, 53)], [], [], [(7, 11)], [], [(7, 8)], [], [], [], [], [], []]) (by decide +kernel)
set_option maxRecDepth 20000 in
theorem mVM210 : mOkM mTab mM210 := mChM_ok mSelf_ok mAt_ok (by decide +kernel) (hh := []) (by decide +kernel) (hs := [[], [(8, 77)], [], [], [(8, 57)], [], [], [(8, 24)], [], []]) (by decide +kernel)
set_option maxRecDepth 20000 in
theorem mVM211 : mOkM mTab mM211 := mChM_ok mSelf_ok mAt_ok (by decide +kernel) (hh := []) (by decide +kernel) (hs := [[], [(7, 18)], [], [], [], [], [(8, 61)], [], [(8, 57)], [], [], [], [(8, 24)], [], [], [(7, 18)], [], [], [], [], [], [], [], [], [(7, 36)], [], [], [], [], [], [], [(8, 49)], [], [], [], [], [(8, 57)], [], [], [(8, 38)], [], [], [], [], [(7, 36)], [], [], [], [], [], [], [], [], [], [], [], [], [], [], [], [], [], [], [], [], [(8, 69)], [], [(8, 57)], [], [], [], [(7, 18)], [], [], [(7, 18)], []]) (by decide +kernel)
set_option maxRecDepth 20000 in
theorem mVM212_0 : ∀ (pc : Nat) (i : Instr) (rs : List Nat), mAt mC212_0 pc = some (i, rs) → mOkX mTab mM212 pc i rs := mChC_ok mSelf_ok mAt_ok _ [[], [(8, 38)], [], [], [], [], [], [], [], [], [(8, 24)], [], [(8, 77)], [], [], [(8, 57)], [], [], [], [], [], [(7, 28)], [], [], [(7, 29)], [], [], [], [], [], [], [], [], [], [(8, 61)], [], [(8, 57)], [], [], [], [(8, 24)], [], [], [], [], [], [], []] (by decide +kernel)
set_option maxRecDepth 20000 in
theorem mVM212_1 : ∀ (pc : Nat) (i : Instr) (rs : List Nat), mAt mC212_1 pc = some (i, rs) → mOkX mTab mM212 pc i rs := mChC_ok mSelf_ok mAt_ok _ [[], [(8, 49)], [], [], [], [], [], [], [(7, 28)], [], [], [], [], [(7, 28)], [], [(7, 30)], [], [], [], [], [], [], [(7, 29)], [], [], [], [], [(7, 29)], [], [(7, 31)], [], [], [], [], [], [], [], [], [(7, 13)], [], [], [], [], [(8, 61)], [], [(8, 57)], [], []] (by decide +kernel)
set_option maxRecDepth 20000 in
theorem mVM212_2 : ∀ (pc : Nat) (i : Instr) (rs : List Nat), mAt mC212_2 pc = some (i, rs) → mOkX mTab mM212 pc i rs := mChC_ok mSelf_ok mAt_ok _ [[], [(8, 24)], [], [(7, 33)], [], [(7, 13)], [], [(8, 81)], [], [], [(7, 32)], [], [(7, 13)], [], [], [], [(8, 49)], [], [], [(8, 57)], [], [], [], [(7, 13)], [], [], [(7, 13)], [], [], [], [], [], [], [(8, 85)], [], [], [], [(8, 81)], [(7, 21)], [], [], [], [], [], [(7, 14)], [], [], [], [], [(8, 61)]] (by decide +kernel)
set_option maxRecDepth 20000 in
theorem mVM212_3 : ∀ (pc : Nat) (i : Instr) (rs : List Nat), mAt mC212_3 pc = some (i, rs) → mOkX mTab mM212 pc i rs := mChC_ok mSelf_ok mAt_ok _ [[], [(8, 57)], [], [], [], [(8, 24)], [], [(7, 34)], [], [(7, 14)], [], [(8, 81)], [], [], [(7, 35)], [], [(7, 14)], [], [], [], [(8, 49)], [], [], [(8, 57)], [], [], [], [(7, 14)], [], [], [(7, 14)], [], [], [], [], [], [], [(8, 85)], [], [], [], [], [], [(8, 49)], [(7, 15)], []] (by decide +kernel)
set_option maxRecDepth 20000 in
theorem mVM212_4 : ∀ (pc : Nat) (i : Instr) (rs : List Nat), mAt mC212_4 pc = some (i, rs) → mOkX mTab mM212 pc i rs := mChC_ok mSelf_ok mAt_ok _ [[], [], [], [], [], [(8, 85)], [], [], [], [], [], [(8, 49)], [(7, 16)], [], [], [], [], [], [(8, 89)], [], [], [], [], [], [], [(8, 85)], [], [], [], [], [(7, 25)], [(7, 19)], [], [], [], [(8, 93)], [], [], [], [], [], [], [(8, 85)], [], []] (by decide +kernel)
set_option maxRecDepth 20000 in
theorem mVM212_5 : ∀ (pc : Nat) (i : Instr) (rs : List Nat), mAt mC212_5 pc = some (i, rs) → mOkX mTab mM212 pc i rs := mChC_ok mSelf_ok mAt_ok _ [[], [], [(7, 25)], [(7, 20)], [], [], [], [(8, 93)], [], [], [], [], [], [(7, 17)], [], [], [], [], [(8, 61)], [], [(8, 57)], [], [], [], [(8, 24)], [], [(7, 37)], [], [(7, 17)], [], [(7, 25)], [], [], [], [(7, 17)], [], [], [(7, 17)], [], [], [], [(8, 93)], [], [], [], [(8, 61)]] (by decide +kernel)
set_option maxRecDepth 20000 in
theorem mVM212_6 : ∀ (pc : Nat) (i : Instr) (rs : List Nat), mAt mC212_6 pc = some (i, rs) → mOkX mTab mM212 pc i rs := mChC_ok mSelf_ok mAt_ok _ [[], [], [], [(8, 65)], [(8, 69)], []] (by decide +kernel)
theorem mVM212 : mOkM mTab mM212 := ⟨by decide +kernel, mChH_ok (hs := []) (by decide +kernel), fun pc i rs h => by
  have h : mAt mC212 pc = some (i, rs) := h
  unfold mC212 at h
  exact (mAt_app h).elim (fun h => mVM212_0 pc i rs h) (fun h => (mAt_app h).elim (fun h => mVM212_1 pc i rs h) (fun h => (mAt_app h).elim (fun h => mVM212_2 pc i rs h) (fun h => (mAt_app h).elim (fun h => mVM212_3 pc i rs h) (fun h => (mAt_app h).elim (fun h => mVM212_4 pc i rs h) (fun h => (mAt_app h).elim (fun h => mVM212_5 pc i rs h) (fun h => mVM212_6 pc i rs h))))))⟩
set_option maxRecDepth 20000 in
theorem mVM213_0 : ∀ (pc : Nat) (i : Instr) (rs : List Nat), mAt mC213_0 pc = some (i, rs) → mOkX mTab mM213 pc i rs := mChC_ok mSelf_ok mAt_ok _ [[], [], [(6, 221)], [], [], [], [], [], [(6, 239)], [], [], [], [], [], [(8, 20)], [], [], []] (by decide +kernel)
set_option maxRecDepth 20000 in
theorem mVM213_1 : ∀ (pc : Nat) (i : Instr) (rs : List Nat), mAt mC213_1 pc = some (i, rs) → mOkX mTab mM213 pc i rs := mChC_ok mSelf_ok mAt_ok _ [[], [], [(6, 239)], [], [], [(7, 1)], [], [], [(7, 0)], [], [], [(7, 3)], [], [], [(7, 4)], [], [], [(7, 11)], [], [], [(7, 12)], [], [], [(7, 13)], [], [], [(7, 14)], [], [], [(7, 15)], [], [], [(7, 16)], [], [], [(7, 17)], [], [], [(7, 18)], [], [], [(7, 19)], [], [], [(7, 20)], [], [], [(7, 21)], [], [], [(7, 22)], [], [], [(7, 28)], [], [], [(7, 29)], [], [], [(7, 25)], [], []] (by decide +kernel)
set_option maxRecDepth 20000 in
theorem mVM213_2 : ∀ (pc : Nat) (i : Instr) (rs : List Nat), mAt mC213_2 pc = some (i, rs) → mOkX mTab mM213 pc i rs := mChC_ok mSelf_ok mAt_ok _ [[], [], [], [], [(7, 30)], [], [], [], [], [(7, 31)], [], [], [], [], [], [], [(8, 24)], [], [(8, 38)], [], [], [], [(8, 24)], [], [], [], [], [(8, 49)], [(7, 11)], [], [], [], [], [(8, 49)], [(7, 12)], [], [], [], [(8, 65)], [(8, 69)], [], [(8, 57)], [], [], [(7, 5)], [], [], [(8, 73)], []] (by decide +kernel)
set_option maxRecDepth 20000 in
theorem mVM213_3 : ∀ (pc : Nat) (i : Instr) (rs : List Nat), mAt mC213_3 pc = some (i, rs) → mOkX mTab mM213 pc i rs := mChC_ok mSelf_ok mAt_ok _ [[], [(8, 57)], [], [], [(7, 2)], [], [], [], [], [], [], [], [(7, 0)], []] (by decide +kernel)
set_option maxRecDepth 20000 in
theorem mVM213_4 : ∀ (pc : Nat) (i : Instr) (rs : List Nat), mAt mC213_4 pc = some (i, rs) → mOkX mTab mM213 pc i rs := mChC_ok mSelf_ok mAt_ok _ [[], [], [(7, 11)], [(6, 222)], [], [], [(7, 12)], [(6, 223)], [], [], [(7, 13)], [(6, 224)], [], [], [(7, 14)], [(6, 225)], [], [], [(7, 15)], [(6, 226)], [], [], [(7, 16)], [(6, 227)], [], [], [(7, 17)], [(6, 228)], [], [], [(7, 18)], [(6, 229)], [], [], [(7, 19)], [(6, 230)], [], [], [(7, 20)], [(6, 231)], [], [], [(7, 30)], [], [(6, 232)], [(8, 135)], [], [], [(7, 31)], [], [(6, 233)], [(8, 135)], [], [], [(7, 32)], [], [(6, 234)], [(8, 135)], [], [], [(7, 36)], [], [(6, 235)], [(8, 135)], [], [], [(7, 37)], [], [(6, 236)], [(8, 135)], [], [], [(7, 38)], [], [(6, 237)], [(8, 135)], [], []] (by decide +kernel)
set_option maxRecDepth 20000 in
theorem mVM213_5 : ∀ (pc : Nat) (i : Instr) (rs : List Nat), mAt mC213_5 pc = some (i, rs) → mOkX mTab mM213 pc i rs := mChC_ok mSelf_ok mAt_ok _ [[], [], [], [], [(7, 41)], [], [], [], [], [(7, 33)], [], [], [], [], [(7, 41)], [], [], [], [], [(7, 34)], [], [], [], [], [(7, 41)], [], [], [], [], [(7, 35)], [], [], [], [], []] (by decide +kernel)
set_option maxRecDepth 20000 in
theorem mVM213_6 : ∀ (pc : Nat) (i : Instr) (rs : List Nat), mAt mC213_6 pc = some (i, rs) → mOkX mTab mM213 pc i rs := mChC_ok mSelf_ok mAt_ok _ [[], [(7, 41)], [], [], [(7, 21)], [], [], [(7, 41)], [], [], [], [], [], [(7, 44)], [], [], [(7, 55)], [], [], [(7, 56)], [], [], [(7, 52)], [], [], [(7, 60)], [], []] (by decide +kernel)
theorem mVM213 : mOkM mTab mM213 := ⟨by decide +kernel, mChH_ok (hs := []) (by decide +kernel), fun pc i rs h => by
  have h : mAt mC213 pc = some (i, rs) := h
  unfold mC213 at h
  exact (mAt_app h).elim (fun h => mVM213_0 pc i rs h) (fun h => (mAt_app h).elim (fun h => mVM213_1 pc i rs h) (fun h => (mAt_app h).elim (fun h => mVM213_2 pc i rs h) (fun h => (mAt_app h).elim (fun h => mVM213_3 pc i rs h) (fun h => (mAt_app h).elim (fun h => mVM213_4 pc i rs h) (fun h => (mAt_app h).elim (fun h => mVM213_5 pc i rs h) (fun h => mVM213_6 pc i rs h))))))⟩
set_option maxRecDepth 20000 in
theorem mVM214 : mOkM mTab mM214 := mChM_ok mSelf_ok mAt_ok (by decide +kernel) (hh := []) (by decide +kernel) (hs := [[], [], [(6, 221)], [], [(7, 1)], []]) (by decide +kernel)
set_option maxRecDepth 20000 in
theorem mVM215 : mOkM mTab mM215 := mChM_ok mSelf_ok mAt_ok (by decide +kernel) (hh := []) (by decide +kernel) (hs := [[], [(7, 44)], [], [], [], [], [], [], [], [], [(7, 43)], [], [], [], [], [(7, 43)], [], [], [], [], [], [], [], [(7, 44)], [], [], [(7, 44)], [], [], [], [], [], [], [(7, 43)], [], [], [(7, 44)], [], [], [], [], [(7, 41)], [], [], [], [], [], [], [], [(7, 44)], [], [], [(7, 44)], []]) (by decide +kernel)
set_option maxRecDepth 20000 in
theorem mVM216 : mOkM mTab mM216 := mChM_ok mSelf_ok mAt_ok (by decide +kernel) (hh := []) (by decide +kernel) (hs := [[], [(7, 2)], [], [], [], [], [], [], [], []]) (by decide +kernel)
set_option maxRecDepth 20000 in
theorem mVM217 : mOkM mTab mM217 := mChM_ok mSelf_ok mAt_ok (by decide +kernel) (hh := []) (by decide +kernel) (hs := [[], [], [(6, 221)], [], [(7, 44)], [], [], [], [], [], [(7, 44)], [], [], [(7, 44)], [], [], [], [], [], [], [(7, 41)], [], [], [(7, 43)], [], [], [(7, 44)], [], [], [], [], [], [], [], [], [(7, 44)], []]) (by decide +kernel)
set_option maxRecDepth 20000 in
theorem mVM218 : mOkM mTab mM218 := mChM_ok mSelf_ok mAt_ok (by decide +kernel) (hh := []) (by decide +kernel) (hs := [[], [(6, 222)], [], [(6, 223)], [], []]) (by decide +kernel)
set_option maxRecDepth 20000 in
theorem mVM219 : mOkM mTab mM219 := mChM_ok mSelf_ok mAt_ok (by decide +kernel) (hh := []) (by decide +kernel) (hs := [[], [], [], [], [], [], [(6, 225)], [], [], [], [(7, 41)], [], [], [], [], [], [], [], [], [], []]) (by decide +kernel)
set_option maxRecDepth 20000 in
theorem mVM220 : mOkM mTab mM220 := mChM_ok mSelf_ok mAt_ok (by decide +kernel) (hh := []) (by decide +kernel) (hs := [[], [], [], [], [], [], [], [], [], [], [], [], [], [], [], [], [], [], [], [], [], [], [], [], [], [], [], [], [], [], [], [], [], [], [], [], [], [], [], [], [], [], [], [], [], [], [], [], [], [], [], []]) (by decide +kernel)
set_option maxRecDepth 20000 in
theorem mVM221 : mOkM mTab mM221 := mChM_ok mSelf_ok mAt_ok (by decide +kernel) (hh := []) (by decide +kernel) (hs := [[], [], [], [], [], [(6, 237)], [], [], [], [], [(6, 237)], [], [], [], [], [], [], [], [], [], [], [], [(7, 46)], [], [], [], [], [], [(6, 237)], [], [], [], [], [(7, 45)], [], [(6, 237)], [], [], [], [], [], [], [], [], [], [], [], [(7, 46)], [], [], [], [], [(7, 46)], [], [], [], [], [], [], [], [], [], [], [], [], [(7, 46)], [], [], [], [], [], [(7, 46)], [], [], [], [], [], [(7, 46)], [], [], [(8, 204)], [], [], [], [(7, 46)], [], [], []]) (by decide +kernel)
set_option maxRecDepth 20000 in
theorem mVM222 : mOkM mTab mM222 := mChM_ok mSelf_ok mAt_ok (by decide +kernel) (hh := []) (by decide +kernel) (hs := [[], [], [(6, 222)], [], [], [(7, 41)], [], [], [], [(6, 222)], [], [(8, 182)], [], [], [(6, 222)], [], [], [(7, 41)], [], [], [], [(6, 222)], [], [(8, 182)], [], []]) (by decide +kernel)
set_option maxRecDepth 20000 in
theorem mVM223 : mOkM mTab mM223 := mChM_ok mSelf_ok mAt_ok (by decide +kernel) (hh := []) (by decide +kernel) (hs := [[], [], [], [], [], [], [(6, 224)], [], [], [], [(7, 41)], [], [], [], [], [], [], [], [], [], [], [], [], [], [], [], [], []]) (by decide +kernel)
set_option maxRecDepth 20000 in
theorem mVM224 : mOkM mTab mM224 := mChM_ok mSelf_ok mAt_ok (by decide +kernel) (hh := []) (by decide +kernel) (hs := [[], [], [(8, 185)], [(8, 197)], [], [], [(7, 45)], [], [], [(6, 232)], [], [], [], [], [(7, 45)], [], [], [(6, 233)], [], [], [], [], [(7, 45)], [], [], [], [(8, 178)], [], [], [(7, 45)], [], [], [], [], [], [(7, 47)], [], [], [], [], [], [(7, 45)], [], [], [(7, 41)], [], [], [], [(6, 227)], [], [], []]) (by decide +kernel)
set_option maxRecDepth 20000 in
theorem mVM225 : mOkM mTab mM225 := mChM_ok mSelf_ok mAt_ok (by decide +kernel) (hh := []) (by decide +kernel) (hs := [[], [], [], [(8, 178)], [], [], [], [], [(6, 233)], [], [], [], [], [], [(6, 230)], [], [], [], [], [(8, 193)], [], [], [(6, 230)], [(8, 200)], [], [], [], [], [], [], [], [], [], [], [], [], []]) (by decide +kernel)
set_option maxRecDepth 20000 in
theorem mVM226 : mOkM mTab mM226 := mChM_ok mSelf_ok mAt_ok (by decide +kernel) (hh := []) (by decide +kernel) (hs := [[], [], [(6, 234)], [], [], [], [], [], [(6, 231)], [], [], [], [], [(7, 41)], [], [], [], [], [(8, 193)], [], [(7, 45)], [], [], [(6, 234)], [], [], [], [], [], [(6, 231)], [(8, 200)], [], [], [], [], [], [], [], [], [], [], [], []]) (by decide +kernel)
set_option maxRecDepth 20000 in
theorem mVM227 : mOkM mTab mM227 := mChM_ok mSelf_ok mAt_ok (by decide +kernel) (hh := []) (by decide +kernel) (hs := [[], [], [(7, 51)], [], [], [], [], [(6, 225)], [], [], [(7, 41)], [], [], [], [], [], [], [], [(6, 222)], [], [], [], [], [], [(6, 222)], [], [], [], [], [], [], [], [(7, 41)], [], [], [], [], [], [], [(7, 48)], [], [(7, 51)], [], [], [], [], [(7, 51)], [], [], [(7, 51)], [], [], [], [], [], [], [], [], [], [], [], [(7, 48)], [], [(7, 51)], [], [], [], [], [(7, 51)], [], [], [(7, 51)], [], [], [], [], []]) (by decide +kernel)
set_option maxRecDepth 20000 in
theorem mVM228 : mOkM mTab mM228 := mChM_ok mSelf_ok mAt_ok (by decide +kernel) (hh := []) (by decide +kernel) (hs := [[], [], [], [(6, 222)], [], [], [(8, 211)], []]) (by decide +kernel)
set_option maxRecDepth 20000 in
theorem mVM229 : mOkM mTab mM229 := mChM_ok mSelf_ok mAt_ok (by decide +kernel) (hh := []) (by decide +kernel) (hs := [[], [], [], [], [], [], [], [], [(7, 51)], [], [], [], [], [], [(7, 51)], [], [], [], [(7, 48)], [], [], [], [], [], [], [], [], [], [], [], [], [], [], [], [], [(7, 49)], [], [], [], [], [], [(8, 219)], [], [], [], [(7, 51)], [], [], [], [], [], [], [], [(7, 49)], [], [], [(7, 51)], [], [], [], [], [], [], [], [(7, 50)], [], [], [], [], [], []]) (by decide +kernel)
set_option maxRecDepth 20000 in
theorem mVM230 : mOkM mTab mM230 := mChM_ok mSelf_ok mAt_ok (by decide +kernel) (hh := []) (by decide +kernel) (hs := [[], [(7, 50)], [], [], [], [], [], [], [], [], [(8, 219)], [], [(8, 219)], [], [], [], [], [], [], []]) (by decide +kernel)
set_option maxRecDepth 20000 in
theorem mVM231 : mOkM mTab mM231 := mChM_ok mSelf_ok mAt_ok (by decide +kernel) (hh := []) (by decide +kernel) (hs := [[], [(7, 51)], [], [(8, 219)], [], [], [], [(8, 189)], [], [], [], [], [(8, 220)], [], [], [], [], [], [], [(7, 51)], [], [], [], [], [(8, 224)], [], [], [], [], [], [(8, 224)], [], [], [], [], [], [], []]) (by decide +kernel)
set_option maxRecDepth 20000 in
theorem mVM232 : mOkM mTab mM232 := mChM_ok mSelf_ok mAt_ok (by decide +kernel) (hh := []) (by decide +kernel) (hs := [[], [], [(8, 185)], [], [], [], [(6, 222)], [], [], [], [], [], [(6, 222)], [], [], [], [], [], [], []]) (by decide +kernel)
set_option maxRecDepth 20000 in
theorem mVM233 : mOkM mTab mM233 := mChM_ok mSelf_ok mAt_ok (by decide +kernel) (hh := []) (by decide +kernel) (hs := [[], [], [], [], [], [], [(8, 158)], [], [], [], [], [], [(9, 31)], [], [], [], [], [(8, 215)], [], [], [], [], [], [], [], [], [], [], [], []]) (by decide +kernel)
set_option maxRecDepth 20000 in
theorem mVM234 : mOkM mTab mM234 := mChM_ok mSelf_ok mAt_ok (by decide +kernel) (hh := []) (by decide +kernel) (hs := [[], [(8, 207)], [], [], [], [(6, 222)], [(9, 27)], []]) (by decide +kernel)
set_option maxRecDepth 20000 in
theorem mVM235 : mOkM mTab mM235 := mChM_ok mSelf_ok mAt_ok (by decide +kernel) (hh := []) (by decide +kernel) (hs := [[], [(8, 219)], [], [], [], [], []]) (by decide +kernel)
set_option maxRecDepth 20000 in
theorem mVM236 : mOkM mTab mM236 := mChM_ok mSelf_ok mAt_ok (by decide +kernel) (hh := []) (by decide +kernel) (hs := [[], [], [], [], [], [], [(8, 158)], [], [], [], [], [], [], [], [(6, 225)], [], [], [], [], [(7, 41)], [], [], [], [], [], [], [], [], [], [], [], [], [], [], [], [], [], [], [], [], [], [], [], []]) (by decide +kernel)
set_option maxRecDepth 20000 in
theorem mVM237 : mOkM mTab mM237 := mChM_ok mSelf_ok mAt_ok (by decide +kernel) (hh := []) (by decide +kernel) (hs := [[], [], [(6, 221)], [], [], [], [], [(8, 151)], [], [(8, 20)], [], [], [], [], [], [], [(8, 154)], [], [], [(6, 222)], [], [], [(6, 223)], [], [], [(6, 224)], [], [], [(6, 225)], [], [], [(7, 41)], [], [], [], [], [(6, 226)], [], [], [(6, 227)], [], [], [(7, 41)], [], [], [], [], [(6, 228)], [], [], [(6, 229)], [], [], [(8, 162)], [], [], [(7, 44)], [], [], [(7, 55)], [], [], [(7, 56)], [], [], [(6, 239)], [], [], [(7, 2)], [], [], [], [], []]) (by decide +kernel)
set_option maxRecDepth 20000 in
theorem mVM238 : mOkM mTab mM238 := mChM_ok mSelf_ok mAt_ok (by decide +kernel) (hh := []) (by decide +kernel) (hs := [[], [], [], [], [], [(8, 158)], [], [], [], [], [], [(8, 20)], []]) (by decide +kernel)
set_option maxRecDepth 20000 in
theorem mVM239 : mOkM mTab mM239 := mChM_ok mSelf_ok mAt_ok (by decide +kernel) (hh := []) (by decide +kernel) (hs := [[], [], [], [], [], [(6, 225)], [], [], [], [], [], [(8, 20)], []]) (by decide +kernel)
set_option maxRecDepth 20000 in
theorem mVM240 : mOkM mTab mM240 := mChM_ok mSelf_ok mAt_ok (by decide +kernel) (hh := []) (by decide +kernel) (hs := [[], [], [], [], [], [(6, 224)], [], [], [], [], [], [(8, 20)], []]) (by decide +kernel)
set_option maxRecDepth 20000 in
theorem mVM241 : mOkM mTab mM241 := mChM_ok mSelf_ok mAt_ok (by decide +kernel) (hh := []) (by decide +kernel) (hs := [[], [], [], [], [(8, 151)], [], [(8, 20)], []]) (by decide +kernel)
set_option maxRecDepth 20000 in
theorem mVM242 : mOkM mTab mM242 := mChM_ok mSelf_ok mAt_ok (by decide +kernel) (hh := []) (by decide +kernel) (hs := [[], [(8, 207)], [], [(7, 51)], [], [], [], [], [], [(8, 189)], [], [], [], [], [(8, 220)], [], [], [], [], [], [], [(7, 51)], [], [], [], [], [], [(8, 224)], [], [(6, 226)], [], [], [], [], [], [], [], [], [], []]) (by decide +kernel)
set_option maxRecDepth 20000 in
theorem mVM243 : mOkM mTab mM243 := mChM_ok mSelf_ok mAt_ok (by decide +kernel) (hh := []) (by decide +kernel) (hs := [[], [], [(6, 221)], [], [], [(8, 170)], [], [], [], [], [(8, 174)], [], [], [], [], [], [], [(6, 232)], [], [], [], [], [(6, 233)], [], [], [], [], [], [(8, 178)], [], [], [], [(8, 185)], [], [], [], [(8, 189)], [], [], [(8, 207)], [], [], [(8, 215)], [(8, 228)], [], [], [], [(8, 231)], []]) (by decide +kernel)
set_option maxRecDepth 20000 in
theorem mVM244 : mOkM mTab mM244 := mChM_ok mSelf_ok mAt_ok (by decide +kernel) (hh := []) (by decide +kernel) (hs := [[], [], [(6, 221)], [], [], [(8, 239)], [], [], [], [], [(8, 174)], [], [], [(7, 41)], [], [], [], [], [], [], [], [], [], [], []]) (by decide +kernel)
set_option maxRecDepth 20000 in
theorem mVM245 : mOkM mTab mM245 := mChM_ok mSelf_ok mAt_ok (by decide +kernel) (hh := []) (by decide +kernel) (hs := [[], [], [(6, 221)], [], [], [(9, 7)], [], [], [], [], [(8, 174)], [], [], [], [], [], [], [(7, 41)], [], [], [], [], [], [], [], [], [], [(6, 234)], [], [], [], [], [], [(9, 11)], []]) (by decide +kernel)
