/-! ===== the tables are the bytes (1) ===== -/
set_option maxRecDepth 20000 in
theorem mVM82 : mOkM mTab mM82 := mChM_ok mSelf_ok mAt_ok (by decide +kernel) (hh := []) (by decide +kernel) (hs := [[], [], [], [], [], [], [(2, 104)], [(1, 99)], [], [], [(2, 107)], [(1, 174)], [], [], [], [], [], [], [], [], [], [], [], [], [], []]) (by decide +kernel)
set_option maxRecDepth 20000 in
theorem mVM83 : mOkM mTab mM83 := mChM_ok mSelf_ok mAt_ok (by decide +kernel) (hh := []) (by decide +kernel) (hs := [[], [], [], [(2, 107)], [(1, 178)], [], [(2, 107)], [(1, 190)], [], [(3, 63)], []]) (by decide +kernel)
set_option maxRecDepth 20000 in
theorem mVM84 : mOkM mTab mM84 := mChM_ok mSelf_ok mAt_ok (by decide +kernel) (hh := []) (by decide +kernel) (hs := [[], [(2, 104)], [], [], [(3, 67)], [], [], [(2, 104)], [(1, 134)], [], [(3, 82)], [], [], [], [], [], [], [], [(2, 104)], [(1, 93)], [], [], [], [], [], [], [], [], [(2, 112)], [], [], [(2, 104)], [(1, 89)], [], [], [], [], [(2, 112)], [], [], [(2, 104)], [(1, 93)], [], [], [], [], [(2, 112)], [], [], [], [], [(2, 112)], [], [], [], [(3, 95)], [(3, 99)], [], [], [], [], [(2, 112)], [], [], [(2, 104)], [(1, 116)], [], [], [], [], [], [], [(2, 104)], [(1, 116)], [], [], [], [(2, 104)], [(1, 134)], [], [], [(2, 112)], [(3, 105)], [], [], [], []]) (by decide +kernel)
set_option maxRecDepth 20000 in
theorem mVM85 : mOkM mTab mM85 := mChM_ok mSelf_ok mAt_ok (by decide +kernel) (hh := []) (by decide +kernel) (hs := [[], [(2, 104)], [(1, 134)], [], [(3, 82)], [], [], [], [(2, 104)], [(1, 103)], [], [], [], [], [], [(2, 107)], [(1, 174)], [], [], [], [], [(2, 112)], [], [], [(2, 104)], [(1, 103)], [], [], [], [], [(2, 112)], [], [], [(2, 104)], [(1, 89)], [], [], [], [], [(2, 112)], [], [], [(2, 104)], [(1, 93)], [], [], [], [], [(2, 112)], [], [], [(2, 104)], [], [], [(2, 107)], [(1, 178)], [(3, 67)], [], [], [(2, 112)], [], [], [], [(3, 95)], [(3, 99)], [], [], [(2, 104)], [(1, 134)], [], [], [(2, 112)], [(3, 105)], [], [], [], []]) (by decide +kernel)
set_option maxRecDepth 20000 in
theorem mVM86 : mOkM mTab mM86 := mChM_ok mSelf_ok mAt_ok (by decide +kernel) (hh := []) (by decide +kernel) (hs := [[], [], [], [], [], [], [(2, 104)], [(1, 99)], [], [], [], [], [(6, 209)], [], [], [], [], [], []]) (by decide +kernel)
set_option maxRecDepth 20000 in
theorem mVM87 : mOkM mTab mM87 := mChM_ok mSelf_ok mAt_ok (by decide +kernel) (hh := []) (by decide +kernel) (hs := [[], [], [], [], [], [], [(2, 112)], [], [], [], [], [(2, 104)], [(1, 128)], [], [], [], [], [], [], [], [], [], [], [(2, 104)], [(1, 134)], [], [], [], [], [(2, 112)], [(3, 105)], [], [], [], [], []]) (by decide +kernel)
set_option maxRecDepth 20000 in
theorem mVM88 : mOkM mTab mM88 := mChM_ok mSelf_ok mAt_ok (by decide +kernel) (hh := []) (by decide +kernel) (hs := [[], [], [], [], [], [], [(2, 104)], [(1, 125)], [], [], [(2, 104)], [(1, 131)], [], [], [], [], [], [], [], [], [], [], [], [], [], [], [], [(3, 206)], [], [], [], [], [], [], []]) (by decide +kernel)
set_option maxRecDepth 20000 in
theorem mVM89 : mOkM mTab mM89 := mChM_ok mSelf_ok mAt_ok (by decide +kernel) (hh := []) (by decide +kernel) (hs := [[], [], [], [], [], [], [], [], [(2, 104)], [(1, 121)], [], [], [], [], [], [(3, 202)], [], [], [], [], [(3, 202)], [], [], [], [], [], [], [], [], [], [], [], [], [], [], [], []]) (by decide +kernel)
set_option maxRecDepth 20000 in
theorem mVM90 : mOkM mTab mM90 := mChM_ok mSelf_ok mAt_ok (by decide +kernel) (hh := []) (by decide +kernel) (hs := [[], [], [(3, 182)], []]) (by decide +kernel)
set_option maxRecDepth 20000 in
theorem mVM91 : mOkM mTab mM91 := mChM_ok mSelf_ok mAt_ok (by decide +kernel) (hh := []) (by decide +kernel) (hs := [[], [(2, 110)], [(3, 116)], [], [], [], [], [(2, 104)], [(1, 107)], [], [], [], [], [], [(2, 110)], [], [(2, 107)], [(1, 182)], [], [], [], [(2, 107)], [(1, 186)], [], [], [(3, 120)], [], [], []]) (by decide +kernel)
set_option maxRecDepth 20000 in
theorem mVM92 : mOkM mTab mM92 := mChM_ok mSelf_ok mAt_ok (by decide +kernel) (hh := []) (by decide +kernel) (hs := [[], [], [(2, 115)], [], [], [], [], [], [], [(2, 104)], [(1, 99)], [], [], [(2, 107)], [(1, 174)], [], [], [], [], [], [], [], [], [], [], [], [], [], [], [], [], [], [], [(2, 113)], [], [(2, 115)], [], [], [], [(2, 114)], [], [(2, 115)], [], [], [], [], [], [(3, 63)], [], [], [], [(2, 115)], [], [], [(2, 115)], [], [], []]) (by decide +kernel)
set_option maxRecDepth 20000 in
theorem mVM93 : mOkM mTab mM93 := mChM_ok mSelf_ok mAt_ok (by decide +kernel) (hh := []) (by decide +kernel) (hs := [[], [], [], [], [], [], [(2, 115)], [], [], [], [(2, 110)], [], [(2, 113)], [], [], [], [(2, 114)], [], [], [(3, 128)], [(3, 142)], [], [], [], [], []]) (by decide +kernel)
set_option maxRecDepth 20000 in
theorem mVM94 : mOkM mTab mM94 := mChM_ok mSelf_ok mAt_ok (by decide +kernel) (hh := []) (by decide +kernel) (hs := [[], [], [(2, 107)], [(1, 178)], [], [(2, 107)], [(1, 190)], [], [(3, 59)], [], [(3, 178)], [], [(3, 124)], []]) (by decide +kernel)
set_option maxRecDepth 20000 in
theorem mVM95 : mOkM mTab mM95 := mChM_ok mSelf_ok mAt_ok (by decide +kernel) (hh := []) (by decide +kernel) (hs := [[], [(5, 230)], [], [], [], [], [], [], [], [(2, 115)], [], [], [(2, 110)], [], [(2, 113)], [], [], [], [(2, 114)], [], [], [(3, 128)], [], [], [], [], [], [], [(2, 113)], [], [], [], [], [], [(2, 113)], [], [], [], [], [], [], []]) (by decide +kernel)
set_option maxRecDepth 20000 in
theorem mVM96 : mOkM mTab mM96 := mChM_ok mSelf_ok mAt_ok (by decide +kernel) (hh := []) (by decide +kernel) (hs := [[], [(3, 178)], [], [(2, 110)], [], [], [], [(3, 234)], [(3, 128)], []]) (by decide +kernel)
set_option maxRecDepth 20000 in
theorem mVM97 : mOkM mTab mM97 := mChM_ok mSelf_ok mAt_ok (by decide +kernel) (hh := []) (by decide +kernel) (hs := [[], [], [(2, 107)], [(1, 178)], [], [(2, 107)], [(1, 190)], [], [(3, 59)], [], [], [(3, 182)], [], [(3, 124)], []]) (by decide +kernel)
set_option maxRecDepth 20000 in
theorem mVM98 : mOkM mTab mM98 := mChM_ok mSelf_ok mAt_ok (by decide +kernel) (hh := []) (by decide +kernel) (hs := [[], [], [], [(2, 107)], [(1, 190)], [], [(3, 59)], [], [(3, 178)], [], [(3, 124)], []]) (by decide +kernel)
set_option maxRecDepth 20000 in
theorem mVM99 : mOkM mTab mM99 := mChM_ok mSelf_ok mAt_ok (by decide +kernel) (hh := []) (by decide +kernel) (hs := [[], [(3, 178)], [], [], [], [], [], [], [(2, 104)], [(3, 230)], [], [], [(2, 110)], [], [], [], [(3, 234)], [(3, 128)], [(3, 164)], [], [], [], [], [], [], [], [], [], [], []]) (by decide +kernel)
set_option maxRecDepth 20000 in
theorem mVM100 : mOkM mTab mM100 := mChM_ok mSelf_ok mAt_ok (by decide +kernel) (hh := []) (by decide +kernel) (hs := [[], [(3, 178)], [], [(2, 110)], [], [], [], [], [(2, 107)], [(1, 178)], [], [(2, 107)], [(1, 190)], [], [(3, 63)], [], [(5, 166)], []]) (by decide +kernel)
set_option maxRecDepth 20000 in
theorem mVM101 : mOkM mTab mM101 := mChM_ok mSelf_ok mAt_ok (by decide +kernel) (hh := []) (by decide +kernel) (hs := [[], [], [], [(2, 116)], [(5, 162)], [], [], [], [], [(2, 116)], [], [], [(3, 164)], [], [], [(2, 116)], [], [], []]) (by decide +kernel)
set_option maxRecDepth 20000 in
theorem mVM102 : mOkM mTab mM102 := mChM_ok mSelf_ok mAt_ok (by decide +kernel) (hh := []) (by decide +kernel) (hs := [[], [], [], [(2, 116)], [(5, 162)], [], [(5, 174)], [], [], [], [], [], [], [], [], [], [], [(2, 116)], [], [], [], [(2, 116)], [], [], [], [(2, 104)], [(1, 114)], [], [], [], [], [], []]) (by decide +kernel)
set_option maxRecDepth 20000 in
theorem mVM103 : mOkM mTab mM103 := mChM_ok mSelf_ok mAt_ok (by decide +kernel) (hh := []) (by decide +kernel) (hs := [[], [], [], [], [], [], [(2, 104)], [(1, 99)], [], [], [], [], [(6, 209)], [], [], [(2, 107)], [(1, 174)], [], [], [(6, 214)], [], [], [], [], [], [], []]) (by decide +kernel)
set_option maxRecDepth 20000 in
theorem mVM104 : mOkM mTab mM104 := mChM_ok mSelf_ok mAt_ok (by decide +kernel) (hh := []) (by decide +kernel) (hs := [[], [], [(2, 107)], [(1, 178)], [], [(2, 107)], [(1, 190)], [], [(3, 59)], [], [], [], [], [(2, 104)], [(1, 107)], [], [], [(2, 117)], [], [], [], [], [], [], [(3, 112)], [], [], [(2, 117)], [], [], [], [], [(2, 104)], [(1, 107)], [(3, 143)], [], [], [], [], [], [], [(3, 144)], [], [], [(3, 112)], [], [], [], [], [], [], [], [(2, 117)], [], [], [], [], [(2, 104)], [(1, 107)], [(3, 143)], [], [], [], []]) (by decide +kernel)
set_option maxRecDepth 20000 in
theorem mVM105 : mOkM mTab mM105 := mChM_ok mSelf_ok mAt_ok (by decide +kernel) (hh := []) (by decide +kernel) (hs := [[], [(2, 110)], [(3, 116)], [], [], [], [], [(2, 104)], [(1, 107)], [], [], [(2, 110)], [], [(2, 107)], [(1, 182)], [], [(2, 117)], [], [], [], [], [(2, 107)], [(1, 186)], [], [(2, 117)], [], [], [], [(3, 120)], [], [], [], [(3, 124)], []]) (by decide +kernel)
set_option maxRecDepth 20000 in
theorem mVM106 : mOkM mTab mM106 := mChM_ok mSelf_ok mAt_ok (by decide +kernel) (hh := []) (by decide +kernel) (hs := [[], [(2, 104)], [(1, 107)], [], [], [], [], [], [], [], [], [], [], [], [(2, 117)], [], [], [], [(2, 117)], [], [], [], [], [], [], [], [], [], [], [], [], [], [], [], [], [], [], [(2, 117)], [], [], [], [(2, 117)], [], [], [], [], [], [], [], [], [(3, 148)], [], [], [], [], [], [], [], [], [], [], [], [], [(3, 148)], [], [], [], [], []]) (by decide +kernel)
set_option maxRecDepth 20000 in
theorem mVM107 : mOkM mTab mM107 := mChM_ok mSelf_ok mAt_ok (by decide +kernel) (hh := []) (by decide +kernel) (hs := [[], [(2, 117)], [], [], [], [], [(2, 117)], [], [], [(2, 117)], [], [], [], [], [(2, 117)], [], [], [], []]) (by decide +kernel)
set_option maxRecDepth 20000 in
theorem mVM108 : mOkM mTab mM108 := mChM_ok mSelf_ok mAt_ok (by decide +kernel) (hh := []) (by decide +kernel) (hs := [[], [], [(2, 107)], [(1, 178)], [], [(2, 107)], [(1, 190)], [], [(3, 59)], [(3, 164)], [], [], [], [], [], [], [(2, 104)], [(1, 107)], [], [(3, 165)], [], [], [], [], [], [], [], [], [], [(2, 110)], [(3, 116)], [], [], [], [], [(2, 104)], [(1, 107)], [], [], [(2, 110)], [], [(2, 107)], [(1, 182)], [], [], [], [], [], [(3, 166)], [(3, 120)], [], [], [], [(3, 124)], [], [], [], [], [], [], [], [], [], [], [], [], [], [], [(2, 104)], [(1, 107)], [], [], [], [], [], [], [(3, 166)], [], [], [], [], []]) (by decide +kernel)
set_option maxRecDepth 20000 in
theorem mVM109 : mOkM mTab mM109 := mChM_ok mSelf_ok mAt_ok (by decide +kernel) (hh := []) (by decide +kernel) (hs := [[], [], [], [], [(2, 104)], [(1, 107)], [], [], [], [], [], [], [], [], [], []]) (by decide +kernel)
set_option maxRecDepth 20000 in
theorem mVM110 : mOkM mTab mM110 := mChM_ok mSelf_ok mAt_ok (by decide +kernel) (hh := []) (by decide +kernel) (hs := [[], [], [(3, 164)], [], [], [], [], [], [(2, 104)], [(3, 230)], [], [], [], [(6, 24)], [], [], [], [], [], [], [], [], [], [], [], []]) (by decide +kernel)
set_option maxRecDepth 20000 in
theorem mVM111 : mOkM mTab mM111 := mChM_ok mSelf_ok mAt_ok (by decide +kernel) (hh := []) (by decide +kernel) (hs := [[], [], [(2, 107)], [(1, 178)], [], [(2, 107)], [(1, 190)], [], [(3, 59)], [], [], [], [], [], [(2, 110)], [(3, 116)], [], [], [], [], [(2, 104)], [(1, 107)], [], [], [(2, 110)], [], [(2, 107)], [(1, 182)], [], [], [], [(2, 107)], [(1, 186)], [], [], [(3, 120)], [], [], [], [], [(2, 110)], [], [], [(3, 120)], [], [], [], [(3, 124)], [], [(2, 104)], [(1, 114)], [], [], [], [], [], [], []]) (by decide +kernel)
set_option maxRecDepth 20000 in
theorem mVM112 : mOkM mTab mM112 := mChM_ok mSelf_ok mAt_ok (by decide +kernel) (hh := []) (by decide +kernel) (hs := [[], [(3, 178)], [], [(2, 104)], [(1, 134)], [(1, 61)], [], [], [], [(2, 104)], [(1, 116)], [(3, 142)], [], [], [], [], [], [], [], [], [], [], [(2, 107)], [(1, 178)], [], [], [(3, 59)], [], [(3, 124)], [], [(2, 104)], [(1, 114)], [], [], [], [], [], [], [], [], [], [], [], [], [], [], [], []]) (by decide +kernel)
set_option maxRecDepth 20000 in
theorem mVM113 : mOkM mTab mM113 := mChM_ok mSelf_ok mAt_ok (by decide +kernel) (hh := []) (by decide +kernel) (hs := [[], [(3, 178)], [], [], [], [], [], [], [], [(2, 107)], [(1, 178)], [], [(2, 107)], [(1, 190)], [], [(3, 59)], [], [(3, 124)], [], [(2, 104)], [(1, 114)], [], [], [], [], [], [], [], [], [], [], [], [], []]) (by decide +kernel)
set_option maxRecDepth 20000 in
theorem mVM114 : mOkM mTab mM114 := mChM_ok mSelf_ok mAt_ok (by decide +kernel) (hh := []) (by decide +kernel) (hs := [[], [], [(2, 107)], [(1, 178)], [], [(2, 107)], [(1, 190)], [], [(3, 59)], [], [(2, 110)], [(3, 116)], [], [(2, 111)], [(3, 116)], [], [], [], [], [(2, 104)], [(1, 107)], [], [], [], [(2, 107)], [(1, 182)], [], [], [], [(6, 52)], [], [(2, 107)], [(1, 182)], [], [], [], [(2, 107)], [(1, 186)], [], [], [(3, 120)], [], [], [], [], [], [], [], [], [(2, 115)], [], [], [], [], [(2, 113)], [], [], [], [(6, 52)], [], [(2, 113)], [], [], [], [(2, 114)], [], [], [(3, 128)], [(3, 142)], [], [], [], [], []]) (by decide +kernel)
set_option maxRecDepth 20000 in
theorem mVM115 : mOkM mTab mM115 := mChM_ok mSelf_ok mAt_ok (by decide +kernel) (hh := []) (by decide +kernel) (hs := [[], [(2, 104)], [], [(6, 56)], [], [], [], [(2, 110)], [], [], [(2, 111)], []]) (by decide +kernel)
set_option maxRecDepth 20000 in
theorem mVM116 : mOkM mTab mM116 := mChM_ok mSelf_ok mAt_ok (by decide +kernel) (hh := []) (by decide +kernel) (hs := [[], [], [], [], [], [], [], [], [(2, 104)], [(1, 83)], [], [], [], [(6, 72)], [], [], [], [], [], [], [], [], [], [], [], [], [], [], []]) (by decide +kernel)
set_option maxRecDepth 20000 in
theorem mVM117 : mOkM mTab mM117 := mChM_ok mSelf_ok mAt_ok (by decide +kernel) (hh := []) (by decide +kernel) (hs := [[], [(5, 174)], [], [], [], [(2, 107)], [(1, 178)], [], [(2, 107)], [(1, 190)], [], [(3, 59)], [], [], [], [(2, 115)], [], [], [], [(3, 164)], [], [], [], [], [], [], [], [(2, 115)], [], [], [], [(2, 113)], [], [], [], [(2, 116)], [(5, 162)], [], [], [], [], [], [], [], [(2, 116)], [], [], [], [(2, 116)], [], [], [], [], [], [], [], [], [], [], [], [(2, 116)], [], [], [], [(3, 165)], [(3, 142)], [], [], [], [], [], [], []]) (by decide +kernel)
set_option maxRecDepth 20000 in
theorem mVM118 : mOkM mTab mM118 := mChM_ok mSelf_ok mAt_ok (by decide +kernel) (hh := []) (by decide +kernel) (hs := [[], [(2, 146)], [], [], [(2, 149)], [], [], [(2, 151)], [], [], [(2, 153)], [], [], [(2, 155)], [], [], [], [(2, 147)], [(2, 156)], [], [], [(1, 76)], [(2, 157)], []]) (by decide +kernel)
set_option maxRecDepth 20000 in
theorem mVM119 : mOkM mTab mM119 := mChM_ok mSelf_ok mAt_ok (by decide +kernel) (hh := []) (by decide +kernel) (hs := [[], [], [(2, 149)], [], [], [(2, 151)], [], [], [(2, 153)], [], [], [(2, 155)], [], [(6, 168)], [], [], [(2, 106)], [(1, 97)], [], [], [], [], [], [], [], [], [], [(2, 157)], [], [], [], [(6, 169)], [], [], [], [(2, 157)], [], [], [], [], [], [], [(2, 109)], [(1, 172)], [], [], [], [(2, 156)], [], [], [(6, 170)], [], [], [], [], [], [], [], [], [], [], [], [], [], [(6, 171)], [], [(6, 176)], [], [], [], [], [(6, 180)], [], [], [(2, 156)], [], [], [], [], [(6, 171)], [], [], [(2, 106)], [(1, 111)], [(6, 181)], [], [], []]) (by decide +kernel)
set_option maxRecDepth 20000 in
theorem mVM120 : mOkM mTab mM120 := mChM_ok mSelf_ok mAt_ok (by decide +kernel) (hh := []) (by decide +kernel) (hs := [[], [], [(2, 155)], [(6, 175)], [], [], [], [(2, 155)], [], [], [], [], [], [], [(2, 155)], [], [], [], [], [], [], []]) (by decide +kernel)
set_option maxRecDepth 20000 in
theorem mVM121 : mOkM mTab mM121 := mChM_ok mSelf_ok mAt_ok (by decide +kernel) (hh := []) (by decide +kernel) (hs := [[], [], [], [], [], [], [], [], [], [(2, 157)], [], [], [], [], [], [], [], [(2, 157)], [], [], [], [], [], [], [], []]) (by decide +kernel)
set_option maxRecDepth 20000 in
theorem mVM122 : mOkM mTab mM122 := mChM_ok mSelf_ok mAt_ok (by decide +kernel) (hh := []) (by decide +kernel) (hs := [[], [], [], [], [], [(2, 151)], [], [], [(2, 151)], [], [], [(6, 185)], [], [], [], [(2, 149)], [], [], [(2, 149)], [], [], [(2, 153)], [], [(6, 186)], [(2, 153)], []]) (by decide +kernel)
set_option maxRecDepth 20000 in
theorem mVM123 : mOkM mTab mM123 := mChM_ok mSelf_ok mAt_ok (by decide +kernel) (hh := []) (by decide +kernel) (hs := [[], [(9, 233)], [(4, 123)], [], [], [], [], [], [], [], [], [], [], [], [], [], [], [], [], [(9, 233)], [(4, 123)], [], [], [], [], [], [], [], [(9, 233)], [], [(4, 133)], [], [], [], [], [], [], []]) (by decide +kernel)
set_option maxRecDepth 20000 in
theorem mVM124 : mOkM mTab mM124 := mChM_ok mSelf_ok mAt_ok (by decide +kernel) (hh := []) (by decide +kernel) (hs := [[], [(1, 34)], [], [], [(1, 75)], [(2, 190)], [], [], [(2, 191)], [], [], [(2, 192)], [], [], [(2, 193)], [], [], [(2, 194)], [], [], [(2, 195)], [], [(1, 37), (1, 38), (1, 2)], [], [], [(2, 196)], [], [(2, 66), (2, 67), (1, 8)], [], [], [(2, 197)], [], [], [(2, 197)], [(2, 105)], [(2, 198)], [], [], [(2, 197)], [(2, 108)], [(2, 199)], [], [(2, 139), (1, 166), (1, 6)], [], [], [(2, 200)], [], [], [(2, 201)], [], [(2, 141), (2, 142), (1, 10)], [], [], [(2, 202)], [], [(2, 171), (2, 172), (1, 11)], [], [], [(2, 203)], [], [], [(1, 76)], [(2, 204)], [], [], [(2, 205)], []]) (by decide +kernel)
set_option maxRecDepth 20000 in
theorem mVM125 : mOkM mTab mM125 := mChM_ok mSelf_ok mAt_ok (by decide +kernel) (hh := []) (by decide +kernel) (hs := [[], [(2, 191)], [], [], [], [], [], [], [], [], [(3, 3)], [], [], [(3, 3)], [], [], [(3, 3)], [], [], [(3, 3)], [], [], [(3, 3)], [], [(2, 191)], []]) (by decide +kernel)
set_option maxRecDepth 20000 in
theorem mVM126 : mOkM mTab mM126 := mChM_ok mSelf_ok mAt_ok (by decide +kernel) (hh := []) (by decide +kernel) (hs := [[], [], [], [], [], [(2, 191)], [], [(2, 190)], [], [], [], [(2, 190)], [], [(2, 191)], [], [], [], [], [], [], [], [(2, 191)], [], [], [(2, 191)], [], [], []]) (by decide +kernel)
set_option maxRecDepth 20000 in
theorem mVM127 : mOkM mTab mM127 := mChM_ok mSelf_ok mAt_ok (by decide +kernel) (hh := []) (by decide +kernel) (hs := [[], [], [], [], [(2, 191)], [], [(4, 18), (1, 16)], [], [], [(2, 191)], [], [(2, 196)], [], [(2, 190)], [], [(4, 84)], [], [], [], [(2, 193)], [], [], [(2, 193)], [], [], [(2, 196)], [(2, 35)], [(2, 192)], [], [(2, 196)], [(2, 33)], [], [], [], [(2, 192)], [], [(2, 198)], [], [(2, 196)], [(2, 29)], [(5, 87)], [], [(2, 199)], [], [(2, 196)], [(2, 31)], [(4, 2)], [], [], [(2, 205)], [], [], [(2, 201)], [], []]) (by decide +kernel)
set_option maxRecDepth 20000 in
theorem mVM128 : mOkM mTab mM128 := mChM_ok mSelf_ok mAt_ok (by decide +kernel) (hh := []) (by decide +kernel) (hs := [[], [(2, 192)], []]) (by decide +kernel)
set_option maxRecDepth 20000 in
theorem mVM129 : mOkM mTab mM129 := mChM_ok mSelf_ok mAt_ok (by decide +kernel) (hh := []) (by decide +kernel) (hs := [[], [], [], [(5, 105)], [], [], [], [(2, 198)], [(1, 81)], [], [], [(2, 198)], [(1, 86)], [], [], [(2, 198)], [(1, 100)], [], [], [(2, 198)], [(1, 108)], [], [], [(2, 199)], [(1, 179)], [], [], [(2, 198)], [(1, 112)], [], [], [(2, 198)], [(1, 117)], [], [], [(2, 199)], [(1, 191)], [], [], [(2, 198)], [(1, 120)], [], [], [(2, 198)], [(1, 124)], [], [], [(2, 197)], [(5, 125)], [], [], [(2, 199)], [(1, 193)], [], [], [(2, 199)], [(1, 196)], [], [], [(2, 199)], [(1, 201)], [], [], [(2, 191)], [], [], [(2, 193)], [], [], [(2, 194)], [], [], [(2, 195)], [], [], [(2, 197)], [(5, 129)], []]) (by decide +kernel)
set_option maxRecDepth 20000 in
theorem mVM130 : mOkM mTab mM130 := mChM_ok mSelf_ok mAt_ok (by decide +kernel) (hh := []) (by decide +kernel) (hs := [[], [], [(5, 146)], [], [], [], [(5, 105)], [], [], [], [(2, 198)], [(1, 90)], [], [], [], [], [(2, 198)], [(1, 94)], [], [], [], [], [(2, 198)], [], [], [(2, 199)], [(1, 179)], [(5, 151)], [], [], [(2, 197)], [], [(5, 152)], [], [], [(2, 197)], [], [(5, 153)], [], [], [(2, 197)], [], [(5, 154)], [(3, 152)], [], [], [(2, 197)], [], [(5, 158)], []]) (by decide +kernel)
set_option maxRecDepth 20000 in
theorem mVM131 : mOkM mTab mM131 := mChM_ok mSelf_ok mAt_ok (by decide +kernel) (hh := []) (by decide +kernel) (hs := [[], [], [(5, 182)], [], [], [], [(5, 105)], [], [], [], [(2, 199)], [(1, 183)], [], [], [], [], [(2, 199)], [(1, 187)], [], [], []]) (by decide +kernel)
set_option maxRecDepth 20000 in
theorem mVM132 : mOkM mTab mM132 := mChM_ok mSelf_ok mAt_ok (by decide +kernel) (hh := []) (by decide +kernel) (hs := [[], [], [(5, 194)], [], [], [], [(5, 105)], [], [], [], [(2, 199)], [(1, 175)], [], [], [], [], [(2, 198)], [(1, 104)], [], [], [], [], [(2, 197)], [], [(5, 199)], []]) (by decide +kernel)
set_option maxRecDepth 20000 in
theorem mVM133 : mOkM mTab mM133 := mChM_ok mSelf_ok mAt_ok (by decide +kernel) (hh := []) (by decide +kernel) (hs := [[], [], [(5, 146)], [], [], [], [], [(2, 197)], [(5, 125)], [], [(5, 109), (1, 26)], [], [(2, 197)], [], [], [(5, 211)], [(3, 152)], []]) (by decide +kernel)
set_option maxRecDepth 20000 in
theorem mVM134 : mOkM mTab mM134 := mChM_ok mSelf_ok mAt_ok (by decide +kernel) (hh := []) (by decide +kernel) (hs := [[], [], [], [(5, 105)], [], [], [], [(2, 197)], [(5, 222)], [(3, 152)], [], [], [(2, 197)], [(5, 226)], []]) (by decide +kernel)
set_option maxRecDepth 20000 in
theorem mVM135 : mOkM mTab mM135 := mChM_ok mSelf_ok mAt_ok (by decide +kernel) (hh := []) (by decide +kernel) (hs := [[], [], [(5, 194)], [], [(2, 198)], [], [(3, 15)], [], [], [], [(2, 194)], [], [], [(2, 194)], [], [], [], [(2, 199)], [(1, 175)], [], [], [], [], [(2, 199)], [], [], [], [(3, 19)], [], [(2, 199)], [(1, 175)], [], [], [], [], []]) (by decide +kernel)
set_option maxRecDepth 20000 in
theorem mVM136 : mOkM mTab mM136 := mChM_ok mSelf_ok mAt_ok (by decide +kernel) (hh := []) (by decide +kernel) (hs := [[], [(2, 198)], [], [(3, 15)], [], [], [], [(2, 194)], [], [], [(2, 194)], [], [], [], [(2, 199)], [(1, 179)], [], [], [(2, 199)], [], [], [], [(3, 19)], [], [(2, 199)], [], [(1, 179)], [], []]) (by decide +kernel)
set_option maxRecDepth 20000 in
theorem mVM137 : mOkM mTab mM137 := mChM_ok mSelf_ok mAt_ok (by decide +kernel) (hh := []) (by decide +kernel) (hs := [[], [], [(5, 182)], [], [], [], [], [], [], [], [], [(2, 194)], [], [], [(2, 194)], [], [], [], [(2, 199)], [(1, 187)], [], [], [], [], [(2, 199)], [], [], [], [(3, 19)], [], [(2, 199)], [(1, 187)], [], [], [], [], []]) (by decide +kernel)
set_option maxRecDepth 20000 in
theorem mVM138 : mOkM mTab mM138 := mChM_ok mSelf_ok mAt_ok (by decide +kernel) (hh := []) (by decide +kernel) (hs := [[], [(2, 198)], [], [(3, 30)], [], [], [(2, 198)], [], [(3, 30)], [], [], [], [], [], [], [(2, 194)], [], [], [(2, 194)], [], [], [], [(2, 199)], [], [], [], [(3, 19)], [], [(2, 199)], [], [], [(3, 34)], [], []]) (by decide +kernel)
set_option maxRecDepth 20000 in
theorem mVM139 : mOkM mTab mM139 := mChM_ok mSelf_ok mAt_ok (by decide +kernel) (hh := []) (by decide +kernel) (hs := [[], [], [], [], [], [], [], [(2, 194)], [], [], [(2, 194)], [], [], [], [(2, 199)], [(1, 191)], [], [], [(2, 199)], [], [], [], [(3, 19)], [], [(2, 199)], [], [(1, 191)], [], []]) (by decide +kernel)
set_option maxRecDepth 20000 in
theorem mVM140 : mOkM mTab mM140 := mChM_ok mSelf_ok mAt_ok (by decide +kernel) (hh := []) (by decide +kernel) (hs := [[], [(2, 199)], [(1, 193)], [], [], [], [], [(2, 199)], [(3, 46)], [], [(2, 199)], [(1, 193)], []]) (by decide +kernel)
set_option maxRecDepth 20000 in
theorem mVM141 : mOkM mTab mM141 := mChM_ok mSelf_ok mAt_ok (by decide +kernel) (hh := []) (by decide +kernel) (hs := [[], [(2, 198)], [(1, 108)], [], [], [], [], [], [(2, 197)], [], [(2, 204)], [(3, 55)], [], [], [], [(2, 198)], [(1, 108)], [(2, 205)], [], [(3, 152)], []]) (by decide +kernel)
set_option maxRecDepth 20000 in
theorem mVM142 : mOkM mTab mM142 := mChM_ok mSelf_ok mAt_ok (by decide +kernel) (hh := []) (by decide +kernel) (hs := [[], [(2, 198)], [(1, 108)], [], [], [], [], [], [(2, 197)], [], [(2, 204)], [(3, 160)], [], [], [], [(2, 198)], [(1, 108)], [(2, 205)], [], [(3, 152)], []]) (by decide +kernel)
set_option maxRecDepth 20000 in
theorem mVM143 : mOkM mTab mM143 := mChM_ok mSelf_ok mAt_ok (by decide +kernel) (hh := []) (by decide +kernel) (hs := [[], [], [], [], [(2, 205)], [], [(5, 109), (1, 26)], [], [(2, 204)], [], [], []]) (by decide +kernel)
set_option maxRecDepth 20000 in
theorem mVM144 : mOkM mTab mM144 := mChM_ok mSelf_ok mAt_ok (by decide +kernel) (hh := []) (by decide +kernel) (hs := [[], [], [], [(5, 105)], [], [(2, 197)], [(6, 20)], [], [], [], [], [], [], [(2, 197)], [], [(6, 28)], [(3, 152)], []]) (by decide +kernel)
set_option maxRecDepth 20000 in
theorem mVM145 : mOkM mTab mM145 := mChM_ok mSelf_ok mAt_ok (by decide +kernel) (hh := []) (by decide +kernel) (hs := [[], [], [(5, 182)], [], [(2, 197)], [], [(6, 36)], []]) (by decide +kernel)
set_option maxRecDepth 20000 in
theorem mVM146 : mOkM mTab mM146 := mChM_ok mSelf_ok mAt_ok (by decide +kernel) (hh := []) (by decide +kernel) (hs := [[], [(2, 197)], [(3, 174)], []]) (by decide +kernel)
set_option maxRecDepth 20000 in
theorem mVM147 : mOkM mTab mM147 := mChM_ok mSelf_ok mAt_ok (by decide +kernel) (hh := []) (by decide +kernel) (hs := [[], [(2, 197)], [(3, 190)], []]) (by decide +kernel)
set_option maxRecDepth 20000 in
theorem mVM148 : mOkM mTab mM148 := mChM_ok mSelf_ok mAt_ok (by decide +kernel) (hh := []) (by decide +kernel) (hs := [[], [], [], [], [], [(2, 198)], [(1, 81)], [], [(4, 18), (1, 16)], [], [(2, 197)], [], [(6, 48)], [(3, 152)], []]) (by decide +kernel)
set_option maxRecDepth 20000 in
theorem mVM149 : mOkM mTab mM149 := mChM_ok mSelf_ok mAt_ok (by decide +kernel) (hh := []) (by decide +kernel) (hs := [[], [], [], [(5, 105)], [], [], [], [], [(2, 197)], [(6, 64)], [(3, 152)], [], [], [(2, 197)], [(6, 68)], [], [], [], [], [], [], [], [], [], [(2, 197)], [], [(6, 48)], [(3, 152)], []]) (by decide +kernel)
set_option maxRecDepth 20000 in
theorem mVM150 : mOkM mTab mM150 := mChM_ok mSelf_ok mAt_ok (by decide +kernel) (hh := []) (by decide +kernel) (hs := [[], [], [], [], [(2, 198)], [(1, 120)], [], [(5, 109), (1, 26)], [], [], [], [(5, 105)], [], [(2, 197)], [], [], [], [], [], [], [], [(6, 81)], []]) (by decide +kernel)
set_option maxRecDepth 20000 in
theorem mVM151 : mOkM mTab mM151 := mChM_ok mSelf_ok mAt_ok (by decide +kernel) (hh := []) (by decide +kernel) (hs := [[], [(2, 197)], [(3, 198)], []]) (by decide +kernel)
set_option maxRecDepth 20000 in
theorem mVM152 : mOkM mTab mM152 := mChM_ok mSelf_ok mAt_ok (by decide +kernel) (hh := []) (by decide +kernel) (hs := [[], [], [(6, 89)], [], [], [(6, 89)], [], [], [], [], [], [], [], [], [], [], [], [], [], [], [], [], [], [], [], []]) (by decide +kernel)
set_option maxRecDepth 20000 in
theorem mVM153 : mOkM mTab mM153 := mChM_ok mSelf_ok mAt_ok (by decide +kernel) (hh := []) (by decide +kernel) (hs := [[], [(2, 199)], [(1, 196)], [], [], [], [], [], [], [], [], [], [(2, 195)], [], [], [(2, 195)], [], [], [], [(2, 199)], [(1, 198)], [], [(2, 199)], [(1, 196)], [], [], [], [(2, 199)], [], [(1, 196)], [], [], [(1, 196)], [], [(2, 199)], [(1, 196)], []]) (by decide +kernel)
set_option maxRecDepth 20000 in
theorem mVM154 : mOkM mTab mM154 := mChM_ok mSelf_ok mAt_ok (by decide +kernel) (hh := []) (by decide +kernel) (hs := [[], [], [], [(5, 105)], [], [], [], [(2, 199)], [(6, 101)], [], [(2, 199)], [(1, 196)], [(6, 105)], [], [], [(2, 199)], [(6, 101)], [], [(2, 199)], [(1, 196)], [(6, 111)], [], [], [(2, 199)], [(6, 114)], [], [], [(2, 199)], [], [(2, 198)], [(1, 112)], [(6, 119)], []]) (by decide +kernel)
set_option maxRecDepth 20000 in
theorem mVM155 : mOkM mTab mM155 := mChM_ok mSelf_ok mAt_ok (by decide +kernel) (hh := []) (by decide +kernel) (hs := [[], [], [(6, 89)], [], [], [], [], [], [], [(2, 199)], [(6, 101)], [], [], [], [], [], [], [], [], [], [], [(2, 199)], [(1, 196)], [], [(3, 92)], []]) (by decide +kernel)
set_option maxRecDepth 20000 in
theorem mVM156 : mOkM mTab mM156 := mChM_ok mSelf_ok mAt_ok (by decide +kernel) (hh := []) (by decide +kernel) (hs := [[], [(2, 199)], [(1, 201)], [], [], [], [], [], [], [(2, 198)], [(1, 86)], [], [], [], [], [], [], [], [], [(2, 195)], [], [], [(2, 195)], [], [], [], [(2, 199)], [(1, 204)], [], [(2, 199)], [(1, 201)], [], [], [], [(2, 199)], [(1, 207)], [], [(2, 199)], [(1, 201)], [], [], [], [(2, 199)], [], [(1, 201)], [], [], [(1, 201)], [], [(2, 199)], [(1, 201)], []]) (by decide +kernel)
set_option maxRecDepth 20000 in
theorem mVM157 : mOkM mTab mM157 := mChM_ok mSelf_ok mAt_ok (by decide +kernel) (hh := []) (by decide +kernel) (hs := [[], [(2, 199)], [], [(1, 196)], [], [(2, 199)], [], [(1, 201)], []]) (by decide +kernel)
set_option maxRecDepth 20000 in
theorem mVM158 : mOkM mTab mM158 := mChM_ok mSelf_ok mAt_ok (by decide +kernel) (hh := []) (by decide +kernel) (hs := [[], [], [], [(5, 105)], [], [(2, 203)], [], [(2, 198)], [], [(2, 199)], [(6, 137)], [], [], [], [(2, 203)], [(2, 178)], [], [], [(2, 203)], [(2, 180)], [], [], [(2, 203)], [(2, 182)], []]) (by decide +kernel)
set_option maxRecDepth 20000 in
theorem mVM159 : mOkM mTab mM159 := mChM_ok mSelf_ok mAt_ok (by decide +kernel) (hh := []) (by decide +kernel) (hs := [[], [], [], [(5, 105)], [], [], [], [], [], [(4, 18), (1, 16)], [], [(2, 202)], [], [(2, 197)], [], [], [(6, 164)], [], [], [], [(2, 202)], [(2, 150)], [], [], [(2, 202)], [(2, 152)], [], [], [(2, 202)], [(2, 154)], []]) (by decide +kernel)
set_option maxRecDepth 20000 in
theorem mVM160 : mOkM mTab mM160 := mChM_ok mSelf_ok mAt_ok (by decide +kernel) (hh := []) (by decide +kernel) (hs := [[], [(2, 197)], [(3, 226)], []]) (by decide +kernel)
set_option maxRecDepth 20000 in
theorem mVM161 : mOkM mTab mM161 := mChM_ok mSelf_ok mAt_ok (by decide +kernel) (hh := []) (by decide +kernel) (hs := [[], [], [(5, 182)], [], [(2, 197)], [], [(6, 194)], [(3, 152)], []]) (by decide +kernel)
set_option maxRecDepth 20000 in
theorem mVM162 : mOkM mTab mM162 := mChM_ok mSelf_ok mAt_ok (by decide +kernel) (hh := []) (by decide +kernel) (hs := [[], [], [], [(5, 105)], [], [(2, 197)], [(6, 205)], [], [], [], [], [], [], [], [], [], [], [(2, 197)], [(5, 125)], [], [], [], [], [], [], [(2, 197)], [(6, 210)], [], [], [], [], [], [], [], [(6, 105)], [], [], [], [], [], [(6, 111)], []]) (by decide +kernel)
set_option maxRecDepth 20000 in
theorem mVM163 : mOkM mTab mM163 := mChM_ok mSelf_ok mAt_ok (by decide +kernel) (hh := []) (by decide +kernel) (hs := [[], [(2, 200)], [], [(2, 199)], [(4, 2)], [], [], [(2, 201)], []]) (by decide +kernel)
