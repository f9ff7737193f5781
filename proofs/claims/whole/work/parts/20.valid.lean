/-! ===== the tables are the bytes (0) ===== -/
set_option maxRecDepth 20000 in
theorem mAt_ok : ∀ q ∈ mAtL, mAtB q = true := by decide +kernel
set_option maxRecDepth 20000 in
theorem mVM0 : mOkM mTab mM0 := mChM_ok mSelf_ok mAt_ok (by decide +kernel) (hh := []) (by decide +kernel) (hs := [[], [(1, 170)], [], [], [(1, 76)], [(1, 171)], [], [], [(1, 177)], [], [], [(1, 76)], [(1, 181)], [], [], [(1, 76)], [(1, 185)], [], [], [(1, 189)], [], [], [(1, 192)], [], [], [(1, 76)], [(1, 194)], [], [], [(1, 195)], [], [], [(1, 76)], [(1, 197)], [], [], [(1, 199)], [], [], [(1, 76)], [(1, 202)], [], [], [(1, 76)], [(1, 205)], []]) (by decide +kernel)
set_option maxRecDepth 20000 in
theorem mVM1 : mOkM mTab mM1 := mChM_ok mSelf_ok mAt_ok (by decide +kernel) (hh := []) (by decide +kernel) (hs := [[], [], [(1, 177)], [], [], [(1, 189)], [], [], [(1, 192)], [], [], [(1, 195)], [], [], [(1, 199)], []]) (by decide +kernel)
set_option maxRecDepth 20000 in
theorem mVM2 : mOkM mTab mM2 := mChM_ok mSelf_ok mAt_ok (by decide +kernel) (hh := []) (by decide +kernel) (hs := [[], [(1, 171)], [], [], [(1, 171)], [], [], [(1, 171)], [], [(3, 23)], [], [], [(1, 177)], [(1, 177)], [], [(1, 181)], [], [], [(1, 181)], [], [], [(1, 181)], [], [(3, 23)], [], [(1, 185)], [], [], [(1, 185)], [], [], [(1, 185)], [], [(3, 23)], [], [], [(1, 189)], [(1, 189)], [], [], [(1, 192)], [(1, 192)], [], [(1, 194)], [], [], [(1, 194)], [], [], [(1, 194)], [], [(3, 23)], [], [], [(1, 195)], [(1, 195)], [], [(1, 197)], [], [], [(1, 197)], [], [], [(1, 197)], [], [(3, 23)], [], [], [(1, 199)], [(1, 199)], [], [(1, 202)], [], [], [(1, 202)], [], [], [(1, 202)], [], [(3, 23)], [], [(1, 205)], [], [], [(1, 205)], [], [], [(1, 205)], [], [(3, 23)], []]) (by decide +kernel)
set_option maxRecDepth 20000 in
theorem mVM3 : mOkM mTab mM3 := mChM_ok mSelf_ok mAt_ok (by decide +kernel) (hh := []) (by decide +kernel) (hs := [[], [(1, 192)], [], [], [], [(1, 194)], [], [], [(1, 194)], [], [], [(1, 194)], [], [], [], [(3, 23)], [], [], [(1, 192)], [], [(1, 194)], [], [], [(1, 192)], [], [], [], [], [(1, 194)], [], [], [(1, 192)], [], [], [], [], [], [], [(1, 194)], [], [], [(1, 192)], [], [], [], [], [], [], [], [(1, 192)], [], [], [(1, 192)], []]) (by decide +kernel)
set_option maxRecDepth 20000 in
theorem mVM4 : mOkM mTab mM4 := mChM_ok mSelf_ok mAt_ok (by decide +kernel) (hh := []) (by decide +kernel) (hs := [[], [(1, 192)], [], [], [], [], [], [(1, 192)], [], [], [(1, 192)], [], [(1, 194)], [], [], [(1, 192)], [], [], [], [], [], [], [(1, 194)], [], [], [(1, 192)], [], [], [], [], [], [], [(1, 194)], [], [], [(1, 192)], [], [], [], [], [(1, 171)], [], [], [], [], [], [], [(1, 177)], [], [], [(1, 185)], [], [], [], [], [], [], [], [(3, 50)], [], [], [], [(1, 189)], [], []]) (by decide +kernel)
set_option maxRecDepth 20000 in
theorem mVM5 : mOkM mTab mM5 := mChM_ok mSelf_ok mAt_ok (by decide +kernel) (hh := []) (by decide +kernel) (hs := [[], [(1, 181)], [], [], [], [], [(1, 181)], [], [], [(1, 181)], [], [], [], [], [(1, 181)], [], [], [], [], [(1, 185)], [], [], [], [], [(1, 185)], [], [], [(1, 185)], [], [], [], [], [(1, 185)], [], [], [], []]) (by decide +kernel)
set_option maxRecDepth 20000 in
theorem mVM6 : mOkM mTab mM6 := mChM_ok mSelf_ok mAt_ok (by decide +kernel) (hh := []) (by decide +kernel) (hs := [[], [], [], [], [], [], [(1, 195)], [], [], [], [(1, 197)], [], [], [], [], [], [], [], []]) (by decide +kernel)
set_option maxRecDepth 20000 in
theorem mVM7 : mOkM mTab mM7 := mChM_ok mSelf_ok mAt_ok (by decide +kernel) (hh := []) (by decide +kernel) (hs := [[], [], [], [], [], [], [(1, 195)], [], [], [], [(1, 197)], [], [], [(6, 118)], [], [], [], [], []]) (by decide +kernel)
set_option maxRecDepth 20000 in
theorem mVM8 : mOkM mTab mM8 := mChM_ok mSelf_ok mAt_ok (by decide +kernel) (hh := []) (by decide +kernel) (hs := [[], [], [], [], [], [], [(1, 195)], [], [], [(1, 197)], [], [], [], [], [], [], [], [], []]) (by decide +kernel)
set_option maxRecDepth 20000 in
theorem mVM9 : mOkM mTab mM9 := mChM_ok mSelf_ok mAt_ok (by decide +kernel) (hh := []) (by decide +kernel) (hs := [[], [(2, 176)], [], [], [(2, 177)], [], [], [(2, 179)], [], [], [(2, 181)], []]) (by decide +kernel)
set_option maxRecDepth 20000 in
theorem mVM10 : mOkM mTab mM10 := mChM_ok mSelf_ok mAt_ok (by decide +kernel) (hh := []) (by decide +kernel) (hs := [[], [], [(2, 177)], [], [], [(2, 179)], [], [], [(2, 181)], [], [], [], [], [(1, 85)], [], [], [(2, 177)], [], [], [], [], [], [(6, 141)], [], [], [(6, 145)], [], [], [], [(2, 177)], [], [], [], [(2, 179)], [], [], [(2, 181)], []]) (by decide +kernel)
set_option maxRecDepth 20000 in
theorem mVM11 : mOkM mTab mM11 := mChM_ok mSelf_ok mAt_ok (by decide +kernel) (hh := []) (by decide +kernel) (hs := [[], [], [], [], [], [], [(1, 98)], [], [], [], [(1, 173)], [], [], [(6, 144)], [], [], [], [], [], [], [], [], [], [], [], []]) (by decide +kernel)
set_option maxRecDepth 20000 in
theorem mVM12 : mOkM mTab mM12 := mChM_ok mSelf_ok mAt_ok (by decide +kernel) (hh := []) (by decide +kernel) (hs := [[], [(6, 149)], [], [], [], [], [], [], [], [(1, 200)], [], [], [(1, 203)], [], [], [], [], [], [], [], [], [], [(1, 206)], [], [], [], [], [], [(2, 177)], [], [], [(1, 206)], [], [], [], [], [], [], [], [], [], [], [(2, 177)], [], [], [], [], [(2, 177)], [], [], [], [(2, 177)], [], [], [(6, 150)], [], [(2, 177)], [], [], [(2, 179)], [], [], [], [], [(6, 153)], [], [(2, 179)], [], [], [], [], [(2, 181)], [], [], [(2, 181)], []]) (by decide +kernel)
set_option maxRecDepth 20000 in
theorem mVM13 : mOkM mTab mM13 := mChM_ok mSelf_ok mAt_ok (by decide +kernel) (hh := []) (by decide +kernel) (hs := [[], [], [], [], [], [], [], [], [], [], [], [], [], [], [], [], [], [], [], [], [], [], [], [], [], []]) (by decide +kernel)
set_option maxRecDepth 20000 in
theorem mVM14 : mOkM mTab mM14 := mChM_ok mSelf_ok mAt_ok (by decide +kernel) (hh := []) (by decide +kernel) (hs := [[], [], [], [], [], [], [], [], [], [], [], [], [], [], [], [], [], [], [], [], [], [], [], [], [], [], [], []]) (by decide +kernel)
set_option maxRecDepth 20000 in
theorem mVM15 : mOkM mTab mM15 := mChM_ok mSelf_ok mAt_ok (by decide +kernel) (hh := []) (by decide +kernel) (hs := [[], [(1, 42)], [], [(1, 43), (1, 44), (1, 3)], [], [(1, 45)], [(2, 28)], [], [(1, 165), (1, 166), (1, 6)], [], [], [(2, 30)], [], [], [(2, 32)], [], [], [(2, 34)], [], [(1, 233), (1, 234), (1, 7)], [], [], [(2, 36)], [], [], [(2, 37)], [], [], [(2, 38)], [], [], [(2, 39)], [], [], [(2, 40)], [], [], [(2, 41)], [], [], [(2, 42)], []]) (by decide +kernel)
set_option maxRecDepth 20000 in
theorem mVM16 : mOkM mTab mM16 := mChM_ok mSelf_ok mAt_ok (by decide +kernel) (hh := []) (by decide +kernel) (hs := [[], [(2, 28)], [(4, 88)], [], [(2, 30)], [(4, 97)], [], [], [(2, 32)], [], [], [(2, 34)], [], [], [(2, 37)], [], [], [(2, 38)], [], [], [(2, 39)], [], [(2, 36)], [], [], [(4, 101)], [], [(2, 36)], [(4, 181)], [(4, 183)], [], [], [(4, 187)], [], [], [], [], [], [], [], [], [], [(2, 36)], [(2, 5)], [], [], [(4, 212)], [], [], [], [(4, 204)], [], [], [], [], [], [], []]) (by decide +kernel)
set_option maxRecDepth 20000 in
theorem mVM17 : mOkM mTab mM17 := mChM_ok mSelf_ok mAt_ok (by decide +kernel) (hh := []) (by decide +kernel) (hs := [[], [], [(2, 32)], [], [], [(2, 36)], [(2, 3)], [(2, 34)], [], []]) (by decide +kernel)
set_option maxRecDepth 20000 in
theorem mVM18 : mOkM mTab mM18 := mChM_ok mSelf_ok mAt_ok (by decide +kernel) (hh := []) (by decide +kernel) (hs := [[], [(2, 36)], [], [(4, 208)], [], [], [], [(4, 200)], [], [], [(2, 36)], [(4, 191)], [], []]) (by decide +kernel)
set_option maxRecDepth 20000 in
theorem mVM19 : mOkM mTab mM19 := mChM_ok mSelf_ok mAt_ok (by decide +kernel) (hh := []) (by decide +kernel) (hs := [[], [(2, 36)], [(2, 5)], [], [], [], [], [(4, 200)], [], [], [], [(2, 36)], [(2, 9)], [(2, 41)], [], [(2, 41)], [], [], [], [(2, 41)], [], [], [], [], [(4, 200)], [], [], [], [], []]) (by decide +kernel)
set_option maxRecDepth 20000 in
theorem mVM20 : mOkM mTab mM20 := mChM_ok mSelf_ok mAt_ok (by decide +kernel) (hh := []) (by decide +kernel) (hs := [[], [], [], [(4, 196)], [], [], [], [], [(2, 36)], [(4, 191)], [], []]) (by decide +kernel)
set_option maxRecDepth 20000 in
theorem mVM21 : mOkM mTab mM21 := mChM_ok mSelf_ok mAt_ok (by decide +kernel) (hh := []) (by decide +kernel) (hs := [[], [], [], [], [], [(4, 200)], [], [], [(2, 36)], [(4, 191)], [], []]) (by decide +kernel)
set_option maxRecDepth 20000 in
theorem mVM22 : mOkM mTab mM22 := mChM_ok mSelf_ok mAt_ok (by decide +kernel) (hh := []) (by decide +kernel) (hs := [[], [(2, 39)], [], [], [], [], [], [(4, 200)], [], [], [], [(2, 39)], [], [], [(2, 39)], [], [(2, 36)], [(4, 191)], [], []]) (by decide +kernel)
set_option maxRecDepth 20000 in
theorem mVM23 : mOkM mTab mM23 := mChM_ok mSelf_ok mAt_ok (by decide +kernel) (hh := []) (by decide +kernel) (hs := [[], [], [], [(2, 28)], [(1, 82)], [], [], [(4, 196)], [], [], [], [], [], [(2, 41)], [(2, 42)], [], [(2, 36)], [(4, 191)], [], [], [], [(2, 28)], [(1, 87)], [], [], [(4, 196)], [], [], [], [], [], [(2, 42)], [], [(2, 28)], [(1, 82)], [], [(2, 41)], [], [], [(2, 42)], [], [], [(2, 42)], [], [], [], [], [], [], [], [], [(4, 200)], [], [], [(2, 36)], [(4, 191)], [], []]) (by decide +kernel)
set_option maxRecDepth 20000 in
theorem mVM24 : mOkM mTab mM24 := mChM_ok mSelf_ok mAt_ok (by decide +kernel) (hh := []) (by decide +kernel) (hs := [[], [(2, 36)], [(4, 191)], [], [], [], [(4, 192)], [], [], [], [], [(2, 28)], [], [(2, 41)], [(1, 82)], [], [], [], [(4, 192)], [], [], [], [], [(2, 28)], [], [(2, 41)], [(1, 87)], [], [], [(4, 204)], []]) (by decide +kernel)
set_option maxRecDepth 20000 in
theorem mVM25 : mOkM mTab mM25 := mChM_ok mSelf_ok mAt_ok (by decide +kernel) (hh := []) (by decide +kernel) (hs := [[], [(2, 36)], [(2, 5)], [], [], [], [(2, 36)], [(2, 7)], [], [], [], [], [], [], [], [(4, 200)], [], [(4, 216)], [], [(4, 218)], [], [], [], [(4, 224)], [], [], [(4, 232)], [], [], [(4, 236)], [], [], [(5, 4)], [], [], [(5, 12)], [], [], [(5, 16)], [], [], [(5, 20)], [], [], [(5, 24)], [], [], [], [(5, 8)], [], [], [], [], [(5, 32)], [], [], [], [], [], [], [], [(5, 8)], [], [], [], [], [(5, 32)], [], [], [], [], [], [], [], [(2, 28)], [(1, 122)], [], [(5, 0)], [], [], [], [], [(2, 28)], [(1, 122)], [], [], [(5, 32)], [], [], [], [], [], [], [], [(4, 200)], []]) (by decide +kernel)
set_option maxRecDepth 20000 in
theorem mVM26 : mOkM mTab mM26 := mChM_ok mSelf_ok mAt_ok (by decide +kernel) (hh := []) (by decide +kernel) (hs := [[], [(2, 36)], [(4, 191)], [], [], [(2, 37)], [(4, 228)], [], [], [], [], [(4, 192)], [], [], [], [], [], [(2, 37)], [], [], [(2, 42)], [], [], [(2, 37)], [], [(2, 28)], [(1, 91)], [], [(2, 42)], [], [(2, 41)], [], [], []]) (by decide +kernel)
set_option maxRecDepth 20000 in
theorem mVM27 : mOkM mTab mM27 := mChM_ok mSelf_ok mAt_ok (by decide +kernel) (hh := []) (by decide +kernel) (hs := [[], [(2, 36)], [(4, 191)], [], [], [(2, 38)], [(4, 228)], [], [], [], [], [(4, 192)], [], [], [], [], [], [(2, 38)], [], [], [(2, 42)], [], [], [(2, 38)], [], [(2, 28)], [(1, 95)], [], [(2, 42)], [], [(2, 41)], [], [], []]) (by decide +kernel)
set_option maxRecDepth 20000 in
theorem mVM28 : mOkM mTab mM28 := mChM_ok mSelf_ok mAt_ok (by decide +kernel) (hh := []) (by decide +kernel) (hs := [[], [], [(2, 28)], [(1, 101)], [], [(5, 0)], [], [], [], [(4, 228)], [], [], [], [], [(4, 192)], [], [], [], [], [(2, 30)], [(1, 176)], [], [(2, 28)], [(1, 101)], [], [(2, 42)], [], [], [(2, 28)], [(1, 105)], [], [(2, 28)], [(1, 101)], [], [(2, 41)], [], [], [(2, 28)], [], [(1, 101)], [], [], [(1, 101)], [], []]) (by decide +kernel)
set_option maxRecDepth 20000 in
theorem mVM29 : mOkM mTab mM29 := mChM_ok mSelf_ok mAt_ok (by decide +kernel) (hh := []) (by decide +kernel) (hs := [[], [], [(5, 8)], [], [], [], [(4, 228)], [], [], [], [], [(2, 30)], [], [(2, 42)], [(1, 180)], [], []]) (by decide +kernel)
set_option maxRecDepth 20000 in
theorem mVM30 : mOkM mTab mM30 := mChM_ok mSelf_ok mAt_ok (by decide +kernel) (hh := []) (by decide +kernel) (hs := [[], [], [(2, 28)], [(1, 109)], [], [(5, 0)], [], [], [], [(4, 228)], [], [], [], [], [(4, 192)], [], [], [], [], [(2, 30)], [(1, 184)], [], [(2, 28)], [(1, 109)], [], [(2, 42)], [], [], [(2, 30)], [(1, 188)], [], [(2, 28)], [(1, 109)], [], [(2, 41)], [], [], [(2, 28)], [], [(1, 109)], [], [], [(1, 109)], [], []]) (by decide +kernel)
set_option maxRecDepth 20000 in
theorem mVM31 : mOkM mTab mM31 := mChM_ok mSelf_ok mAt_ok (by decide +kernel) (hh := []) (by decide +kernel) (hs := [[], [], [(5, 8)], [], [], [], [], [(4, 192)], [], [], [], [], [(2, 28)], [], [(2, 41)], [(1, 113)], [], []]) (by decide +kernel)
set_option maxRecDepth 20000 in
theorem mVM32 : mOkM mTab mM32 := mChM_ok mSelf_ok mAt_ok (by decide +kernel) (hh := []) (by decide +kernel) (hs := [[], [], [(5, 8)], [], [], [], [], [(4, 192)], [], [], [], [], [(2, 28)], [], [(2, 41)], [(1, 118)], [], []]) (by decide +kernel)
set_option maxRecDepth 20000 in
theorem mVM33 : mOkM mTab mM33 := mChM_ok mSelf_ok mAt_ok (by decide +kernel) (hh := []) (by decide +kernel) (hs := [[], [], [(2, 28)], [(1, 126)], [], [(5, 0)], [], [], [], [], [], [], [], [], [], [], [], [(4, 192)], [], [], [], [], [(2, 28)], [(1, 129)], [], [], [(2, 28)], [(1, 126)], [], [], [], [], [(2, 41)], [], [], [], [], [(2, 36)], [(5, 28)], [(4, 183)], [], [], [(2, 36)], [(5, 30)], [(4, 183)], [], [], [], [(4, 200)], [], [], [(2, 36)], [(5, 28)], [(4, 183)], [], [], [(2, 28)], [], [(1, 132)], [], [], [(2, 28)], [(1, 126)], [], [], [(1, 132)], [], [(2, 28)], [], [(1, 126)], [], [], [(1, 126)], [], [(2, 36)], [(4, 191)], [], []]) (by decide +kernel)
set_option maxRecDepth 20000 in
theorem mVM34 : mOkM mTab mM34 := mChM_ok mSelf_ok mAt_ok (by decide +kernel) (hh := []) (by decide +kernel) (hs := [[], [], [(2, 40)], [], [(2, 28)], [(1, 135)], [], [(5, 36)], [], [], [(5, 40)], [], [], [], [], [(2, 28)], [(1, 135)], [], [(5, 83)], [], [], [], [], [(2, 28)], [], [(1, 122)], [], [], [(1, 122)], [], []]) (by decide +kernel)
set_option maxRecDepth 20000 in
theorem mVM35 : mOkM mTab mM35 := mChM_ok mSelf_ok mAt_ok (by decide +kernel) (hh := []) (by decide +kernel) (hs := [[], [], [], [], [], [(2, 36)], [(5, 44)], [], [], [], [], [(4, 200)], [], [], [], [(5, 49)], [], [], [], [], [], [], [], [], [], [(2, 36)], [(5, 81)], [(4, 183)], [], [], [(2, 36)], [(4, 191)], [], [], [(5, 49)], [], [], [], [], [(2, 28)], [(1, 135)], [], [(5, 75)], [], [], [], []]) (by decide +kernel)
set_option maxRecDepth 20000 in
theorem mVM36 : mOkM mTab mM36 := mChM_ok mSelf_ok mAt_ok (by decide +kernel) (hh := []) (by decide +kernel) (hs := [[], [], [(5, 53)], [], [], [], [], [], [], [], [], [], [(2, 36)], [(5, 79)], [(4, 183)], [], [], [(2, 36)], [(4, 191)], [], [], [(5, 53)], [], [], [], [], [(2, 28)], [(1, 135)], [], [(5, 75)], [], [], [], []]) (by decide +kernel)
set_option maxRecDepth 20000 in
theorem mVM37 : mOkM mTab mM37 := mChM_ok mSelf_ok mAt_ok (by decide +kernel) (hh := []) (by decide +kernel) (hs := [[], [], [], [], [], [], [(2, 36)], [(5, 57)], [(4, 183)], [], [], [], [(2, 36)], [(4, 191)], [], [], [], [], [], [(2, 36)], [(5, 57)], [(4, 183)], [], [], [], [(4, 200)], [], [], [], [(5, 59)], [], [], [], [], [], [], [], [], [], [(2, 28)], [(1, 135)], [], [(5, 75)], [], [], [], []]) (by decide +kernel)
set_option maxRecDepth 20000 in
theorem mVM38 : mOkM mTab mM38 := mChM_ok mSelf_ok mAt_ok (by decide +kernel) (hh := []) (by decide +kernel) (hs := [[], [], [(5, 63)], [], [], [], [], [(2, 36)], [], [(4, 208)], [], [], [(2, 36)], [], [(4, 208)], [], [], [], [], [(2, 36)], [], [(4, 208)], [], [], [], [], [], [], [(2, 36)], [(4, 191)], [], [], [(5, 63)], [], [], [], [], [(2, 28)], [(1, 135)], [], [(5, 75)], [], []]) (by decide +kernel)
set_option maxRecDepth 20000 in
theorem mVM39 : mOkM mTab mM39 := mChM_ok mSelf_ok mAt_ok (by decide +kernel) (hh := []) (by decide +kernel) (hs := [[], [], [(5, 67)], [], [], [], [], [], [], [], [], [], [(2, 36)], [], [(4, 208)], [], [], [(2, 36)], [], [(4, 208)], [], [], [(2, 36)], [], [(4, 208)], [], [], [], [], [], [], [(2, 36)], [(4, 191)], [], [], [(5, 67)], [], [], [], [], [(2, 28)], [(1, 135)], [], [(5, 75)], [], [], [], []]) (by decide +kernel)
set_option maxRecDepth 20000 in
theorem mVM40 : mOkM mTab mM40 := mChM_ok mSelf_ok mAt_ok (by decide +kernel) (hh := []) (by decide +kernel) (hs := [[], [], [(5, 71)], [], [], [], [], [], [], [], [], [], [(2, 36)], [], [(4, 208)], [], [], [(2, 36)], [], [(4, 208)], [], [], [(2, 36)], [], [(4, 208)], [], [], [], [], [], [], [(2, 36)], [(4, 191)], [], [], [(5, 71)], [], [], [], [], [(2, 28)], [(1, 135)], [], [(5, 75)], [], [], [], []]) (by decide +kernel)
set_option maxRecDepth 20000 in
theorem mVM41 : mOkM mTab mM41 := mChM_ok mSelf_ok mAt_ok (by decide +kernel) (hh := []) (by decide +kernel) (hs := [[], [(2, 36)], [(2, 5)], [], [], [], [], [], [(4, 192)], [], [], [], [], [(2, 28)], [(1, 135)], [], [(2, 41)], [(5, 75)], [], [], [], [(2, 36)], [(2, 5)], [], [], [], [], [(4, 204)], [], [], [], [], [], [(5, 40)], [], [], [], [(4, 204)], [], [], [], [], [], [], [(2, 36)], [(2, 7)], [], [], [], [], [(9, 237)], [], [(2, 40)], [], [], [], [], [(4, 200)], [], [], [(2, 28)], [(1, 135)], [], [], [(9, 238)], [], [(5, 75)], [], [(2, 36)], [(4, 191)], [], []]) (by decide +kernel)
set_option maxRecDepth 20000 in
theorem mVM42 : mOkM mTab mM42 := mChM_ok mSelf_ok mAt_ok (by decide +kernel) (hh := []) (by decide +kernel) (hs := [[], [(1, 48)], [], [], [(1, 80)], [], [], [(1, 84)], [], [], [(1, 76)], [(1, 88)], [], [], [(1, 76)], [(1, 92)], [], [], [(1, 96)], [], [], [(1, 76)], [(1, 102)], [], [], [(1, 106)], [], [], [(1, 110)], [], [], [(1, 115)], [], [], [(1, 119)], [], [], [(1, 123)], [], [], [(1, 76)], [(1, 127)], [], [], [(1, 130)], [], [(1, 49), (1, 50), (1, 4)], [], [], [(1, 133)], [], [(1, 88)], [], [(1, 77)], []]) (by decide +kernel)
set_option maxRecDepth 20000 in
theorem mVM43 : mOkM mTab mM43 := mChM_ok mSelf_ok mAt_ok (by decide +kernel) (hh := []) (by decide +kernel) (hs := [[], [], [(1, 80)], [], [], [(1, 84)], [], [(1, 88)], [], [(1, 77)], [], [(1, 92)], [], [(1, 77)], [], [], [(1, 96)], [], [], [(1, 106)], [], [], [(1, 110)], [], [], [(1, 115)], [], [], [(1, 119)], [], [], [(1, 123)], [], [], [(1, 130)], [], [(1, 133)], [(4, 92)], []]) (by decide +kernel)
set_option maxRecDepth 20000 in
theorem mVM44 : mOkM mTab mM44 := mChM_ok mSelf_ok mAt_ok (by decide +kernel) (hh := []) (by decide +kernel) (hs := [[], [], [(1, 80)], [(1, 80)], [], [], [(1, 84)], [(1, 84)], [], [(1, 88)], [], [], [(1, 88)], [], [], [(1, 88)], [], [(5, 91)], [], [(1, 92)], [], [], [(1, 92)], [], [], [(1, 92)], [], [(5, 91)], [], [], [(1, 96)], [(1, 96)], [], [(1, 102)], [], [], [(1, 102)], [], [], [(1, 102)], [], [(5, 91)], [], [], [(1, 106)], [(1, 106)], [], [], [(1, 110)], [(1, 110)], [], [], [(1, 115)], [(1, 115)], [], [], [(1, 119)], [(1, 119)], [], [], [(1, 123)], [(1, 123)], [], [(1, 127)], [], [], [(1, 127)], [], [], [(1, 127)], [], [(5, 91)], [], [], [(1, 130)], [(1, 130)], [], [(1, 133)], [], [(1, 133)], [(5, 92)], []]) (by decide +kernel)
set_option maxRecDepth 20000 in
theorem mVM45 : mOkM mTab mM45 := mChM_ok mSelf_ok mAt_ok (by decide +kernel) (hh := []) (by decide +kernel) (hs := [[], [(1, 80)], [], [(1, 84)], [], []]) (by decide +kernel)
set_option maxRecDepth 20000 in
theorem mVM46 : mOkM mTab mM46 := mChM_ok mSelf_ok mAt_ok (by decide +kernel) (hh := []) (by decide +kernel) (hs := [[], [], [], [], [(1, 80)], [], [(1, 84)], [], [], [], [], [], []]) (by decide +kernel)
set_option maxRecDepth 20000 in
theorem mVM47 : mOkM mTab mM47 := mChM_ok mSelf_ok mAt_ok (by decide +kernel) (hh := []) (by decide +kernel) (hs := [[], [], [], [], [(1, 106)], [], [], [], [], []]) (by decide +kernel)
set_option maxRecDepth 20000 in
theorem mVM48 : mOkM mTab mM48 := mChM_ok mSelf_ok mAt_ok (by decide +kernel) (hh := []) (by decide +kernel) (hs := [[], [(1, 80)], [], [], [], [], [], [], [(1, 80)], [], []]) (by decide +kernel)
set_option maxRecDepth 20000 in
theorem mVM49 : mOkM mTab mM49 := mChM_ok mSelf_ok mAt_ok (by decide +kernel) (hh := []) (by decide +kernel) (hs := [[], [(1, 80)], [], [], [], [], [], [], [(1, 80)], [], []]) (by decide +kernel)
set_option maxRecDepth 20000 in
theorem mVM50 : mOkM mTab mM50 := mChM_ok mSelf_ok mAt_ok (by decide +kernel) (hh := []) (by decide +kernel) (hs := [[], [], [(3, 71)], [], [], [(3, 71)], [], [(3, 75)], [], [], [(3, 78)], [], [], [(3, 78)], [], [(3, 75)], [], []]) (by decide +kernel)
set_option maxRecDepth 20000 in
theorem mVM51 : mOkM mTab mM51 := mChM_ok mSelf_ok mAt_ok (by decide +kernel) (hh := []) (by decide +kernel) (hs := [[], [(2, 81)], [], [], [(1, 76)], [(2, 82)], [], [], [(1, 76)], [(2, 83)], [], [], [(2, 84)], [], [], [(1, 76)], [(2, 85)], [], [], [(2, 86)], [], [], [(2, 87)], [], [], [(2, 88)], []]) (by decide +kernel)
set_option maxRecDepth 20000 in
theorem mVM52 : mOkM mTab mM52 := mChM_ok mSelf_ok mAt_ok (by decide +kernel) (hh := []) (by decide +kernel) (hs := [[], [], [(2, 84)], []]) (by decide +kernel)
set_option maxRecDepth 20000 in
theorem mVM53 : mOkM mTab mM53 := mChM_ok mSelf_ok mAt_ok (by decide +kernel) (hh := []) (by decide +kernel) (hs := [[], [], [], [(2, 84)], [], [(2, 82)], [], [], [], [(2, 82)], [], [(2, 84)], [], [], [], [(2, 83)], [], [(2, 84)], [], [], [], [], [(2, 84)], [], [], [(2, 84)], []]) (by decide +kernel)
set_option maxRecDepth 20000 in
theorem mVM54 : mOkM mTab mM54 := mChM_ok mSelf_ok mAt_ok (by decide +kernel) (hh := []) (by decide +kernel) (hs := [[], [], [(3, 132)], [], [], [], [], [], [(2, 84)], [], [(3, 136)], [], [], [], [], [], [(2, 86)], [], [], [(2, 87)], [], [], [(2, 88)], [], [], [], [], [], [], [], [], [(2, 84)], [], [], [(2, 82)], [], [], [], [], [], [], [(2, 83)], [], [], [], [], [], [], [], [], [(3, 137)], [], [], [], [], [(2, 86)], [], [(2, 83)], [], [], [], [(2, 86)], [], [], [], [], [(2, 84)], [], [], [], [], [], [], [], [], [], [], [], [], [(3, 137)], [], [(2, 87)], [], [], [(3, 136)], [], [], [(2, 88)], [], [(2, 86)], [], [(2, 87)], [], [(3, 141)], [], [], [], [], [], [], []]) (by decide +kernel)
set_option maxRecDepth 20000 in
theorem mVM55 : mOkM mTab mM55 := mChM_ok mSelf_ok mAt_ok (by decide +kernel) (hh := []) (by decide +kernel) (hs := [[], [], [], [], [(2, 84)], [], [], [(2, 82)], [], [], [], [], [], [], [], [], [], []]) (by decide +kernel)
set_option maxRecDepth 20000 in
theorem mVM56 : mOkM mTab mM56 := mChM_ok mSelf_ok mAt_ok (by decide +kernel) (hh := []) (by decide +kernel) (hs := [[], [], [], [], [], [(2, 86)], [], [], [(2, 86)], [], [], [(2, 87)], [], [], [], [], [(2, 86)], [(2, 87)], [], [], [], [(2, 88)], [], [(2, 86)], [(3, 141)], [(2, 88)], [], [], [(2, 86)], []]) (by decide +kernel)
set_option maxRecDepth 20000 in
theorem mVM57 : mOkM mTab mM57 := mChM_ok mSelf_ok mAt_ok (by decide +kernel) (hh := []) (by decide +kernel) (hs := [[], [(5, 170)], [], [], [], [], [], [], [(3, 136)], [], [], [], [], [], [], [], [], [], [], [(2, 85)], [], [], [], [], [], [], [], [], [], [], [], [], [], [], [], [], [], [], [], [(3, 136)], [], [], [], [], [], [], [], [], [], [], [], [], [], [], [], []]) (by decide +kernel)
set_option maxRecDepth 20000 in
theorem mVM58 : mOkM mTab mM58 := mChM_ok mSelf_ok mAt_ok (by decide +kernel) (hh := []) (by decide +kernel) (hs := [[], [], [], [], [], [], [(2, 84)], [], [], [], [], [], [(2, 83)], [], [], [], [], [], [(2, 85)], [], [], [], [(2, 85)], [], [], [(2, 82)], [], [], [], [], [], [], [], [], [], []]) (by decide +kernel)
set_option maxRecDepth 20000 in
theorem mVM59 : mOkM mTab mM59 := mChM_ok mSelf_ok mAt_ok (by decide +kernel) (hh := []) (by decide +kernel) (hs := [[], [(1, 54)], [], [], [(1, 76)], [(1, 55)], [], [], [(1, 56)], [], [], [(1, 76)], [(1, 57)], [], [], [(1, 76)], [(1, 58)], [], [], [(1, 76)], [(1, 59)], [], [], [(1, 60)], []]) (by decide +kernel)
set_option maxRecDepth 20000 in
theorem mVM60 : mOkM mTab mM60 := mChM_ok mSelf_ok mAt_ok (by decide +kernel) (hh := []) (by decide +kernel) (hs := [[], [], [(1, 56)], [], [], [(1, 60)], [], [(1, 57)], [], [(4, 96)], [], [(1, 58)], [], [(4, 96)], []]) (by decide +kernel)
set_option maxRecDepth 20000 in
theorem mVM61 : mOkM mTab mM61 := mChM_ok mSelf_ok mAt_ok (by decide +kernel) (hh := []) (by decide +kernel) (hs := [[], [], [(1, 56)], [(1, 56)], [], [], [(1, 60)], [(1, 60)], [], [(1, 55)], [], [], [(1, 55)], [], [], [(1, 56)], [(5, 96)], [], [(1, 57)], [], [], [(1, 57)], [], [], [(1, 57)], [], [(5, 96)], [], [(1, 58)], [], [], [(1, 58)], [], [], [(1, 58)], [], [(5, 96)], []]) (by decide +kernel)
set_option maxRecDepth 20000 in
theorem mVM62 : mOkM mTab mM62 := mChM_ok mSelf_ok mAt_ok (by decide +kernel) (hh := []) (by decide +kernel) (hs := [[], [(1, 57)], [], [], [(1, 56)], [], []]) (by decide +kernel)
set_option maxRecDepth 20000 in
theorem mVM63 : mOkM mTab mM63 := mChM_ok mSelf_ok mAt_ok (by decide +kernel) (hh := []) (by decide +kernel) (hs := [[], [(1, 58)], [], [], [(1, 56)], [], []]) (by decide +kernel)
set_option maxRecDepth 20000 in
theorem mVM64 : mOkM mTab mM64 := mChM_ok mSelf_ok mAt_ok (by decide +kernel) (hh := []) (by decide +kernel) (hs := [[], [(1, 57)], [], [], [], [(1, 58)], [], [], [], [], [], [], []]) (by decide +kernel)
set_option maxRecDepth 20000 in
theorem mVM65 : mOkM mTab mM65 := mChM_ok mSelf_ok mAt_ok (by decide +kernel) (hh := []) (by decide +kernel) (hs := [[], [(1, 56)], [], [(1, 55)], [], [], [], [(1, 55)], [], [(1, 56)], [], [], [], [], [(1, 56)], [], [], [(1, 56)], [], [], [], [], [], [(1, 60)], []]) (by decide +kernel)
set_option maxRecDepth 20000 in
theorem mVM66 : mOkM mTab mM66 := mChM_ok mSelf_ok mAt_ok (by decide +kernel) (hh := []) (by decide +kernel) (hs := [[], [], [], [(1, 57)], [], [], [], [], [], [(1, 58)], [], [], [], [], [(1, 55)], [], [], [], [], [], [], [], [], [], [], [(1, 59)], [], [], [], [(1, 59)], [], [], [], [], [], [], [], [], [], [], [], [], [], [], [], [], [], [], [], [], [(1, 59)], [], [], [], [], [(1, 59)], [], [], [], [], [], [], [], [], [], [], [], [], [], [], [(1, 59)], [], [], [], [], [], [(1, 59)], [], [], [], [], [], [(1, 59)], [], [], [], [], [(3, 109)], [], [], [], [], [], [], [], [], [(1, 59)], [], [], [], [], [], [], []]) (by decide +kernel)
set_option maxRecDepth 20000 in
theorem mVM67 : mOkM mTab mM67 := mChM_ok mSelf_ok mAt_ok (by decide +kernel) (hh := []) (by decide +kernel) (hs := [[], [], [], [], [], [], [], [], [], [], [], [], [], [], [], [], [], [], [], [], [], [], [], [], [], [], [], [], [], [], [], [], [], [], [], [], [], [], [], [], [], [], [], [], [], [], [], [], [], [], [], []]) (by decide +kernel)
set_option maxRecDepth 20000 in
theorem mVM68 : mOkM mTab mM68 := mChM_ok mSelf_ok mAt_ok (by decide +kernel) (hh := []) (by decide +kernel) (hs := [[], [(1, 238)], [], [], [(1, 75)], [(1, 239)], [], [], [(2, 0)], [], [], [(2, 1)], [], [], [(2, 2)], [], [], [(2, 4)], [], [], [(2, 6)], [], [], [(2, 8)], [], [], [(2, 10)], []]) (by decide +kernel)
set_option maxRecDepth 20000 in
theorem mVM69 : mOkM mTab mM69 := mChM_ok mSelf_ok mAt_ok (by decide +kernel) (hh := []) (by decide +kernel) (hs := [[], [], [(1, 239)], [], [], [], [], [(4, 105)], [(2, 0)], [], [], [(2, 1)], [], [(4, 106)], []]) (by decide +kernel)
set_option maxRecDepth 20000 in
theorem mVM70 : mOkM mTab mM70 := mChM_ok mSelf_ok mAt_ok (by decide +kernel) (hh := []) (by decide +kernel) (hs := [[], [], [(2, 1)], [(2, 2)], [], [(2, 2)], [], [(2, 0)], [], [], [(1, 239)], [], [(2, 2)], [], [], [], [], [(1, 239)], [], [(2, 2)], [], [], [], [], [], [(2, 2)], [], [], [(2, 2)], [], [], [], [(2, 2)], [(2, 1)], [], [], [(2, 6)], [], [(2, 2)], [], [(2, 0)], [], [], [], [(2, 4)], [], [], [(1, 239)], [], [(2, 2)], [], [(4, 110)], [], [], [(4, 113)], [], [], [(1, 239)], [], [(2, 2)], [], [(4, 171)], [], [], [(4, 174)], [], [], [], [(1, 239)], [], [(2, 2)], [], [(2, 10)], [], [], [(2, 10)], [(4, 178)], [], [], [], [], [(2, 4)], [], [], [(2, 2)], [], [], [(2, 1)], []]) (by decide +kernel)
set_option maxRecDepth 20000 in
theorem mVM71 : mOkM mTab mM71 := mChM_ok mSelf_ok mAt_ok (by decide +kernel) (hh := []) (by decide +kernel) (hs := [[], [], [(2, 4)], [], [(2, 1)], [], [(2, 0)], [], [], [(1, 239)], [], [(2, 1)], [], [(4, 110)], [], [], [], [(2, 1)], [], [], [(2, 1)], [], [], [], [], [], [], [], [], [(2, 6)], [], [], [], [], [], [(1, 239)], [], [(2, 2)], [], [(2, 1)], [(4, 119)], [], [], [], [], [], [(2, 6)], [], [], []]) (by decide +kernel)
set_option maxRecDepth 20000 in
theorem mVM72 : mOkM mTab mM72 := mChM_ok mSelf_ok mAt_ok (by decide +kernel) (hh := []) (by decide +kernel) (hs := [[], [], [(2, 4)], [], [], [(2, 8)], [], [(2, 1)], [], [(2, 0)], [], [], [(1, 239)], [], [(2, 1)], [], [(4, 171)], [], [], [], [(2, 1)], [], [(2, 2)], [], [], [], [], [(2, 8)], [], [], [], [(1, 239)], [], [(2, 1)], [], [], [], [], [], [], [(2, 8)], [], [], [(2, 1)], [], [], [(2, 1)], [], []]) (by decide +kernel)
set_option maxRecDepth 20000 in
theorem mVM73 : mOkM mTab mM73 := mChM_ok mSelf_ok mAt_ok (by decide +kernel) (hh := []) (by decide +kernel) (hs := [[], [(2, 4)], [], [], [], [(2, 6)], [], [], [], [], [], []]) (by decide +kernel)
set_option maxRecDepth 20000 in
theorem mVM74 : mOkM mTab mM74 := mChM_ok mSelf_ok mAt_ok (by decide +kernel) (hh := []) (by decide +kernel) (hs := [[], [(2, 4)], [], [], [], [(2, 10)], [], [], [], [], [], []]) (by decide +kernel)
set_option maxRecDepth 20000 in
theorem mVM75 : mOkM mTab mM75 := mChM_ok mSelf_ok mAt_ok (by decide +kernel) (hh := []) (by decide +kernel) (hs := [[], [(2, 4)], [], [], [], [(2, 4)], [], [], [], [], [(5, 48)], [], [], [], [], []]) (by decide +kernel)
set_option maxRecDepth 20000 in
theorem mVM76 : mOkM mTab mM76 := mChM_ok mSelf_ok mAt_ok (by decide +kernel) (hh := []) (by decide +kernel) (hs := [[], [], [], [], [], [], [], [], [], []]) (by decide +kernel)
set_option maxRecDepth 20000 in
theorem mVM77 : mOkM mTab mM77 := mChM_ok mSelf_ok mAt_ok (by decide +kernel) (hh := []) (by decide +kernel) (hs := [[], [], [], [], [], [], [], [], [], []]) (by decide +kernel)
set_option maxRecDepth 20000 in
theorem mVM78 : mOkM mTab mM78 := mChM_ok mSelf_ok mAt_ok (by decide +kernel) (hh := []) (by decide +kernel) (hs := [[], [], [], [], [], [], [], [], [], [], [], [], [], [], [], [], [], [], [], [], [], [], [], [], [], [], [], [], [], [], []]) (by decide +kernel)
set_option maxRecDepth 20000 in
theorem mVM79 : mOkM mTab mM79 := mChM_ok mSelf_ok mAt_ok (by decide +kernel) (hh := []) (by decide +kernel) (hs := [[], [(2, 71)], [], [(2, 72), (1, 44), (1, 3)], [], [(2, 73)], [(2, 104)], [], [(2, 74), (1, 166), (1, 6)], [], [], [(2, 107)], [], [(2, 76), (2, 77), (1, 9)], [], [], [(2, 110)], [], [(2, 76), (2, 77), (1, 9)], [], [], [(2, 111)], [], [], [(1, 76)], [(2, 112)], [], [], [(1, 76)], [(2, 113)], [], [], [(1, 76)], [(2, 114)], [], [], [(2, 115)], [], [], [(1, 76)], [(2, 116)], [], [], [(1, 76)], [(2, 117)], []]) (by decide +kernel)
set_option maxRecDepth 20000 in
theorem mVM80 : mOkM mTab mM80 := mChM_ok mSelf_ok mAt_ok (by decide +kernel) (hh := []) (by decide +kernel) (hs := [[], [], [], [], [], [], [(2, 104)], [(1, 107)], [], [], [], [(2, 107)], [(1, 186)], [], [], [], [], [], [], [], []]) (by decide +kernel)
set_option maxRecDepth 20000 in
theorem mVM81 : mOkM mTab mM81 := mChM_ok mSelf_ok mAt_ok (by decide +kernel) (hh := []) (by decide +kernel) (hs := [[], [], [], [], [], [], [(2, 104)], [(1, 107)], [], [], [], [], [(2, 107)], [(1, 182)], [], [], [], [], [], [], [], [], [(5, 133)], []]) (by decide +kernel)
