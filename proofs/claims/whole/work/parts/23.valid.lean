/-! ===== the tables are the bytes (3) ===== -/
set_option maxRecDepth 20000 in
theorem mVM246 : mOkM mTab mM246 := mChM_ok mSelf_ok mAt_ok (by decide +kernel) (hh := []) (by decide +kernel) (hs := [[], [], [(6, 221)], [], [], [(8, 170)], [], [], [], [], [], [], [(8, 162)], [], [], [], [], [], [(8, 20)], [], [], [], [], [(8, 207)], [], [], [(8, 189)], [], [], [], [], [(8, 220)], [], [], [], [(8, 224)], [(8, 228)], []]) (by decide +kernel)
set_option maxRecDepth 20000 in
theorem mVM247 : mOkM mTab mM247 := mChM_ok mSelf_ok mAt_ok (by decide +kernel) (hh := []) (by decide +kernel) (hs := [[], [], [(6, 221)], [], [], [], [(8, 174)], [], [], [], [], [(9, 23)], [], [], [], [], [(8, 228)], [], [], [], [], [], [(8, 158)], [], [], [], [], [], [(6, 222)], [(9, 31)], [], [], [], [(8, 215)], [], [], [], [], [], [], [], []]) (by decide +kernel)
set_option maxRecDepth 20000 in
theorem mVM248 : mOkM mTab mM248 := mChM_ok mSelf_ok mAt_ok (by decide +kernel) (hh := []) (by decide +kernel) (hs := [[], [], [(6, 221)], [], [], [(9, 7)], [], [], [], [], [], [], [], [(8, 158)], [], [], [], [(9, 39)], [], [], [], [], [], [], [(9, 43)], []]) (by decide +kernel)
set_option maxRecDepth 20000 in
theorem mVM249 : mOkM mTab mM249 := mChM_ok mSelf_ok mAt_ok (by decide +kernel) (hh := []) (by decide +kernel) (hs := [[], [(9, 47)], [], [(7, 41)], [], [], [], [], [(7, 41)], [], [], [], [], []]) (by decide +kernel)
set_option maxRecDepth 20000 in
theorem mVM250 : mOkM mTab mM250 := mChM_ok mSelf_ok mAt_ok (by decide +kernel) (hh := []) (by decide +kernel) (hs := [[], [], [(6, 221)], [], [], [], [], [(8, 158)], [], [], [], [(9, 39)], [], [], [], [], [(9, 43)], []]) (by decide +kernel)
set_option maxRecDepth 20000 in
theorem mVM251 : mOkM mTab mM251 := mChM_ok mSelf_ok mAt_ok (by decide +kernel) (hh := []) (by decide +kernel) (hs := [[], [], [(6, 221)], [], [], [(8, 239)], [], [], [], [], [], [], [(8, 151)], [], [], [], [], [], [], [(9, 43)], [], [], [], [(9, 39)], []]) (by decide +kernel)
set_option maxRecDepth 20000 in
theorem mVM252 : mOkM mTab mM252 := mChM_ok mSelf_ok mAt_ok (by decide +kernel) (hh := []) (by decide +kernel) (hs := [[], [], [], [], [], [], [(7, 41)], [], [], [], [], [], [], [(7, 41)], [], [], [], [], [(7, 41)], [], [], [], [], [], [], [(7, 41)], [], [], [], [], [], [], [], []]) (by decide +kernel)
set_option maxRecDepth 20000 in
theorem mVM253 : mOkM mTab mM253 := mChM_ok mSelf_ok mAt_ok (by decide +kernel) (hh := []) (by decide +kernel) (hs := [[], [], [(6, 221)], [], [], [], [], [], [], [(6, 225)], [], [], [], [(6, 225)], [], [], [], [], [], [], [(9, 39)], [], [], [], [], [], [], [(9, 47)], [], [], [], [(9, 63)], [], []]) (by decide +kernel)
set_option maxRecDepth 20000 in
theorem mVM254 : mOkM mTab mM254 := mChM_ok mSelf_ok mAt_ok (by decide +kernel) (hh := []) (by decide +kernel) (hs := [[], [], [(6, 221)], [], [], [], [(8, 151)], [], [], [], [], [(9, 43)], [], [], [], [(9, 39)], []]) (by decide +kernel)
set_option maxRecDepth 20000 in
theorem mVM255 : mOkM mTab mM255 := mChM_ok mSelf_ok mAt_ok (by decide +kernel) (hh := []) (by decide +kernel) (hs := [[], [], [], [], [(6, 225)], [], [], [(7, 41)], [], [], [], [], [(7, 42)], [], [], [(7, 54)], [], [], [], [], [], [], [(7, 41)], [], [], [], [], [(7, 42)], [], [], [(7, 54)], [], [], [], [], [], [], [], []]) (by decide +kernel)
set_option maxRecDepth 20000 in
theorem mVM256 : mOkM mTab mM256 := mChM_ok mSelf_ok mAt_ok (by decide +kernel) (hh := []) (by decide +kernel) (hs := [[], [(6, 225)], [], [], [], [], [], [], [], [(7, 54)], [], [], [], [(7, 54)], [], [], [], [], [], [], [], [], [], [], [], [], [], [(6, 225)], [], [], [], [], [(7, 54)], [], [], [], [(7, 54)], [], [], [], [], [], [], [], [], [(9, 83)], [], [], [], [], [], [(6, 225)], [], [], [], [], [], [], [], [], [], [(9, 83)], [], [], [], [], []]) (by decide +kernel)
set_option maxRecDepth 20000 in
theorem mVM257 : mOkM mTab mM257 := mChM_ok mSelf_ok mAt_ok (by decide +kernel) (hh := []) (by decide +kernel) (hs := [[], [(7, 54)], [], [], [], [], [(7, 54)], [], [], [(7, 54)], [], [], [], [], [(7, 54)], [], [], [], []]) (by decide +kernel)
set_option maxRecDepth 20000 in
theorem mVM258 : mOkM mTab mM258 := mChM_ok mSelf_ok mAt_ok (by decide +kernel) (hh := []) (by decide +kernel) (hs := [[], [], [(6, 221)], [], [(6, 225)], [], [], [], [], [], [], [(7, 41)], [], [(7, 42)], [(8, 135)], [], [], [], [], [(6, 225)], [], [], [(7, 54)], [], [], [], [], [], [], [], [], [], [], [], [], [(9, 75)], [], [(9, 23)], [], [], [], [], [], [], [], [], [], [], [], [(7, 54)], [], [(7, 53)], [(8, 135)], [], [(9, 79)], [], [], [], [], [(7, 42)], [], [(7, 41)], [(8, 135)], [], [], [(6, 225)], [(7, 52)], [], [(8, 228)], []]) (by decide +kernel)
set_option maxRecDepth 20000 in
theorem mVM259 : mOkM mTab mM259 := mChM_ok mSelf_ok mAt_ok (by decide +kernel) (hh := []) (by decide +kernel) (hs := [[], [], [(6, 221)], [], [(6, 225)], [], [], [], [], [], [], [(7, 41)], [], [(7, 42)], [(8, 135)], [], [], [], [], [], [], [(6, 225)], [], [], [], [], [], [], [], [], [], [], [], [], [], [], [], [], [], [(6, 225)], [], [], [], [], [], [], [(7, 41)], [], [], [], [], [], [], [], [], [], [], [], [], [], [], [], [], [(9, 23)], [], [], [], [], [], [], [], [], [], [], [], [], [], [], [(6, 225)], [], [], [(7, 53)], [], [], [(7, 41)], [], [], [], [], [], [], [], [], [], [], [], [(7, 42)], [], [(7, 41)], [(8, 135)], [], [], [(6, 225)], [(7, 52)], [], [(8, 228)], []]) (by decide +kernel)
set_option maxRecDepth 20000 in
theorem mVM260 : mOkM mTab mM260 := mChM_ok mSelf_ok mAt_ok (by decide +kernel) (hh := []) (by decide +kernel) (hs := [[], [], [(6, 221)], [], [], [(7, 52)], [], [], [], [], [], [], [(7, 52)], [], [], [], [], [], [(8, 20)], [], [], [(7, 53)], [], [], [], [], []]) (by decide +kernel)
set_option maxRecDepth 20000 in
theorem mVM261 : mOkM mTab mM261 := mChM_ok mSelf_ok mAt_ok (by decide +kernel) (hh := []) (by decide +kernel) (hs := [[], [], [(6, 221)], [], [], [], [(8, 174)], [], [], [], [], [(7, 41)], [], [], [], [], [], [], [], [], [], [], [], [(8, 158)], [], [], [(7, 41)], [], [], [], [], [(9, 23)], [], [], [], [], [], [], [], [], [], [], [], [], [], [], [], [(7, 41)], [], [], [], [], [], [], [], [], [(8, 228)], []]) (by decide +kernel)
set_option maxRecDepth 20000 in
theorem mVM262 : mOkM mTab mM262 := mChM_ok mSelf_ok mAt_ok (by decide +kernel) (hh := []) (by decide +kernel) (hs := [[], [], [(6, 221)], [], [], [(8, 239)], [], [], [], [], [], [], [], [], [], [], [(6, 222)], [], [], [(8, 211)], [], [], [], [(6, 222)], [(9, 27)], [], [(6, 226)], [], [], [], [], [], [], []]) (by decide +kernel)
set_option maxRecDepth 20000 in
theorem mVM263 : mOkM mTab mM263 := mChM_ok mSelf_ok mAt_ok (by decide +kernel) (hh := []) (by decide +kernel) (hs := [[], [], [(6, 221)], [], [(7, 41)], [], [], [], [], [], [], [], [], [], [], [], [(7, 41)], [], [], [], [], [], [(6, 227)], [], [], [], [(9, 23)], [], [(6, 226)], [], [], [], [], [], [], [], [], [], [], [], [], [], [], [], [(7, 41)], [], [], [], [], []]) (by decide +kernel)
set_option maxRecDepth 20000 in
theorem mVM264 : mOkM mTab mM264 := mChM_ok mSelf_ok mAt_ok (by decide +kernel) (hh := []) (by decide +kernel) (hs := [[], [], [(6, 221)], [], [], [], [], [], [], [], [], [], [(7, 47)], [], [(9, 23)], [], [(6, 226)], [], [], [], [], [], [], [], [(7, 47)], [], [], [], [], [], [], [], [], [], []]) (by decide +kernel)
set_option maxRecDepth 20000 in
theorem mVM265 : mOkM mTab mM265 := mChM_ok mSelf_ok mAt_ok (by decide +kernel) (hh := []) (by decide +kernel) (hs := [[], [], [], [], [], [(8, 211)], [], [], [], [(9, 27)], [], [], [], [], [(6, 222)], [], [], [(8, 211)], [], [], [], [(6, 222)], [(9, 27)], [], [], [], [], [], [], [], []]) (by decide +kernel)
set_option maxRecDepth 20000 in
theorem mVM266 : mOkM mTab mM266 := mChM_ok mSelf_ok mAt_ok (by decide +kernel) (hh := []) (by decide +kernel) (hs := [[], [], [(6, 221)], [], [], [], [], [(6, 222)], [], [], [(8, 151)], [], [(8, 20)], [], [], [], [(9, 115)], [(8, 228)], [], [], []]) (by decide +kernel)
set_option maxRecDepth 20000 in
theorem mVM267 : mOkM mTab mM267 := mChM_ok mSelf_ok mAt_ok (by decide +kernel) (hh := []) (by decide +kernel) (hs := [[], [(8, 207)], [], [], [], [], [], [], [(8, 158)], [], [], [], [], [], [(6, 222)], [(9, 31)], [], [], [], [(7, 51)], [], [(8, 219)], [], [], [], [(8, 189)], [], [], [], [], [(8, 220)], [], [], [], [], [(7, 51)], [], [], [], [], [(8, 224)], [], [], [], [], [(7, 51)], [], [], [(7, 51)], [], [], [], [], [(7, 51)], [], [], [(8, 224)], [], [], [], [], [], [], [], [], [], [], [], [], [], [], [], [], [], [], [], [], []]) (by decide +kernel)
set_option maxRecDepth 20000 in
theorem mVM268 : mOkM mTab mM268 := mChM_ok mSelf_ok mAt_ok (by decide +kernel) (hh := []) (by decide +kernel) (hs := [[], [], [(6, 221)], [], [], [], [(8, 174)], [], [], [], [], [], [], [], [(9, 123)], [(8, 228)], [], [], [], [(8, 219)], [], [], [], [], [], [(6, 222)], [], [], [], [(9, 115)], [], [], [], [], [], [], [], [], [], [], [], [], [], [], [], [], [], [], [], [(8, 228)], []]) (by decide +kernel)
set_option maxRecDepth 20000 in
theorem mVM269 : mOkM mTab mM269 := mChM_ok mSelf_ok mAt_ok (by decide +kernel) (hh := []) (by decide +kernel) (hs := [[], [], [], [], [], [], [(7, 45)], [], [], [], [], [(6, 235)], [], [], [], [], [], [], [], [], [], [], [], [(6, 236)], [], [], [(8, 200)], []]) (by decide +kernel)
set_option maxRecDepth 20000 in
theorem mVM270 : mOkM mTab mM270 := mChM_ok mSelf_ok mAt_ok (by decide +kernel) (hh := []) (by decide +kernel) (hs := [[], [], [], [], [], [], [(6, 229)], [], [], [], [(6, 235)], [], [], [], [], [], [], [], [], [], [], [], [(9, 135)], [], [], [], [], [], [], [], [], [], [], [], [], [], [], [], [], [], [], [], []]) (by decide +kernel)
set_option maxRecDepth 20000 in
theorem mVM271 : mOkM mTab mM271 := mChM_ok mSelf_ok mAt_ok (by decide +kernel) (hh := []) (by decide +kernel) (hs := [[], [], [(6, 221)], [], [], [], [], [], [(6, 228)], [], [], [], [], [], [(8, 20)], [], [], [], [], [(8, 174)], [], [], [], [], [(9, 131)], [], [], []]) (by decide +kernel)
set_option maxRecDepth 20000 in
theorem mVM272 : mOkM mTab mM272 := mChM_ok mSelf_ok mAt_ok (by decide +kernel) (hh := []) (by decide +kernel) (hs := [[], [], [(6, 221)], [], [], [], [], [], [], [], [], [(6, 228)], [], [], [], [], [], [(9, 131)], [], [], [], [], [(9, 131)], [], [], [], [], [], [], [], [], [], [], [], [], [], [], [], [], []]) (by decide +kernel)
set_option maxRecDepth 20000 in
theorem mVM273 : mOkM mTab mM273 := mChM_ok mSelf_ok mAt_ok (by decide +kernel) (hh := []) (by decide +kernel) (hs := [[], [], [(6, 221)], [], [], [], [], [(8, 151)], [], [], [], [], [(8, 151)], [], [], [], [], [], [(8, 20)], [], [], [], [], [], [], [], [], [], [], [], [], [], [], [], [], [], []]) (by decide +kernel)
set_option maxRecDepth 20000 in
theorem mVM274 : mOkM mTab mM274 := mChM_ok mSelf_ok mAt_ok (by decide +kernel) (hh := []) (by decide +kernel) (hs := [[], [], [(6, 221)], [], [(7, 55)], [], [], [], [], [], [(8, 151)], [], [], [], [(9, 39)], [], [], [(7, 57)], [], [(7, 55)], [], [], [], [], [(7, 55)], [], [], [(7, 55)], [], [(7, 55)], []]) (by decide +kernel)
set_option maxRecDepth 20000 in
theorem mVM275 : mOkM mTab mM275 := mChM_ok mSelf_ok mAt_ok (by decide +kernel) (hh := []) (by decide +kernel) (hs := [[], [], [], [], [], [], [(7, 55)], [], [], [], [(7, 57)], [], [], [], [], [], [], [], []]) (by decide +kernel)
set_option maxRecDepth 20000 in
theorem mVM276 : mOkM mTab mM276 := mChM_ok mSelf_ok mAt_ok (by decide +kernel) (hh := []) (by decide +kernel) (hs := [[], [], [], [], [], [], [], [], [], [], [], [], [], [], [], [], [], [], [], [], [], [], []]) (by decide +kernel)
set_option maxRecDepth 20000 in
theorem mVM277 : mOkM mTab mM277 := mChM_ok mSelf_ok mAt_ok (by decide +kernel) (hh := []) (by decide +kernel) (hs := [[], [], [(6, 221)], [], [], [], [(8, 174)], [], [], [], [], [], [], [], [(9, 155)], [], [(7, 55)], [], [], [], [], [(7, 55)], [], [(9, 159)], [], [], [], [], [], [], [], [], [], [(7, 55)], [], [], [(7, 57)], [], [], [], [], [], [(7, 57)], [], [], [], [], [], [], [], [(7, 57)], [], [], [], [(6, 226)], [], [], [], [], [], [], [], [], [], [], [], [], [], [], []]) (by decide +kernel)
set_option maxRecDepth 20000 in
theorem mVM278 : mOkM mTab mM278 := mChM_ok mSelf_ok mAt_ok (by decide +kernel) (hh := []) (by decide +kernel) (hs := [[], [], [(6, 221)], [], [], [], [], [(8, 151)], [], [(8, 20)], [], [], [], [], [], [], [(9, 155)], [], [], [(7, 55)], [], [], [], [], [], [], [], []]) (by decide +kernel)
set_option maxRecDepth 20000 in
theorem mVM279 : mOkM mTab mM279 := mChM_ok mSelf_ok mAt_ok (by decide +kernel) (hh := []) (by decide +kernel) (hs := [[], [], [(6, 221)], [], [(7, 56)], [], [], [], [], [], [], [(6, 223)], [], [], [], [], [(8, 151)], [], [], [], [(9, 39)], [], [], [(7, 58)], [], [], [(7, 56)], [], [], [], [], [(7, 58)], [], [], [(7, 56)], [], [], [], [], [], [], [], [(7, 56)], [], [], [(7, 56)], [], [(7, 56)], []]) (by decide +kernel)
set_option maxRecDepth 20000 in
theorem mVM280 : mOkM mTab mM280 := mChM_ok mSelf_ok mAt_ok (by decide +kernel) (hh := []) (by decide +kernel) (hs := [[], [], [(6, 221)], [], [], [(7, 55)], [], [], [(7, 56)], []]) (by decide +kernel)
set_option maxRecDepth 20000 in
theorem mVM281 : mOkM mTab mM281 := mChM_ok mSelf_ok mAt_ok (by decide +kernel) (hh := []) (by decide +kernel) (hs := [[], [], [], [], [(7, 56)], [], [], [], [], [], [], [], [(6, 224)], [], [], [], [], [], [], [], [], [], [(7, 41)], [], [], [], [], [], [(6, 222)], [], [], [(7, 58)], [], [], [], [], [], [], [], [], [], [], [], [], [], [], [(7, 58)], [], [], [], [], [], [], [], [], [], [], [], [], []]) (by decide +kernel)
set_option maxRecDepth 20000 in
theorem mVM282 : mOkM mTab mM282 := mChM_ok mSelf_ok mAt_ok (by decide +kernel) (hh := []) (by decide +kernel) (hs := [[], [], [(6, 221)], [], [], [], [(8, 174)], [], [], [], [], [], [], [], [], [], [(6, 224)], [], [], [], [], [], [], [], [], [], [(6, 224)], [], [], [], [], [(9, 178)], [], [], [], [], [], [], [], [(8, 197)], [], [(8, 197)], [], [], [], [], [], [], [], [], [], [], [], [], [], [], [], [], [], [], [], [], [], [], [], []]) (by decide +kernel)
set_option maxRecDepth 20000 in
theorem mVM283 : mOkM mTab mM283 := mChM_ok mSelf_ok mAt_ok (by decide +kernel) (hh := []) (by decide +kernel) (hs := [[], [], [(7, 59)], [(9, 194)], [], [], [], [(7, 59)], [], [(7, 59)], [], [], [], [], [], [], []]) (by decide +kernel)
set_option maxRecDepth 20000 in
theorem mVM284 : mOkM mTab mM284 := mChM_ok mSelf_ok mAt_ok (by decide +kernel) (hh := []) (by decide +kernel) (hs := [[], [], [], [], [], [], [(6, 224)], [], [], [], [], [(9, 11)], [], [], [], [], [], []]) (by decide +kernel)
set_option maxRecDepth 20000 in
theorem mVM285 : mOkM mTab mM285 := mChM_ok mSelf_ok mAt_ok (by decide +kernel) (hh := []) (by decide +kernel) (hs := [[], [], [(6, 221)], [], [], [], [(8, 174)], [], [], [], [], [], [(8, 151)], [], [(8, 20)], [], [], [], [], [], [(7, 59)], [], [], [], [], [], [], [], [(9, 186)], [], [], [(8, 207)], [], [], [], [], [], [], [], [], [], [(9, 190)], [], [], [], [], [], [], [(9, 11)], [], [], [], [], [(9, 11)], [], [], [], [], [(8, 219)], [], [], [(7, 51)], [], [], [], [(7, 51)], [(9, 190)], [], [], [], [(7, 41)], [], [], [], [], [(8, 189)], [], [], [], [(7, 41)], [], [], [], [], [], [(8, 220)], [], [], [], [(8, 224)], [], [], [], [], [(6, 226)], [], [], [], [], [], [], [], [], [(6, 226)], [], [], [(6, 226)], [], [], [], [], [], [], [], [], [], [], [], [], [], [], [], [], [], [], [], [], [], [], [], [], [], [], []]) (by decide +kernel)
set_option maxRecDepth 20000 in
theorem mVM286 : mOkM mTab mM286 := mChM_ok mSelf_ok mAt_ok (by decide +kernel) (hh := []) (by decide +kernel) (hs := [[], [], [(6, 221)], [], [(8, 207)], [], [], [], [], [], [], [(8, 158)], [], [], [], [], [(8, 215)], [(8, 219)], [], [], [], [], [], [], [], [], [], [], [], []]) (by decide +kernel)
set_option maxRecDepth 20000 in
theorem mVM287 : mOkM mTab mM287 := mChM_ok mSelf_ok mAt_ok (by decide +kernel) (hh := []) (by decide +kernel) (hs := [[], [], [(6, 221)], [], [], [(8, 239)], [], [], [], [], [(7, 41)], [], [], [], [], [], [], [(7, 41)], [], [], [], [], [], [], [(9, 23)], [], [], [(7, 41)], [], [], [], [], [], [], [(8, 228)], []]) (by decide +kernel)
set_option maxRecDepth 20000 in
theorem mVM288 : mOkM mTab mM288 := mChM_ok mSelf_ok mAt_ok (by decide +kernel) (hh := []) (by decide +kernel) (hs := [[], [], [(6, 221)], [], [], [], [(8, 174)], [], [], [], [], [(9, 186)], [], [], [], [], [], [], [(8, 207)], [], [(7, 51)], [], [], [], [], [], [], [], [], [], [(6, 224)], [], [], [], [], [(9, 11)], [], [], [(7, 41)], [], [], [], [], [(8, 231)], [], [], [], [], [], [], [], [], [(7, 51)], [], [], [(9, 159)], []]) (by decide +kernel)
set_option maxRecDepth 20000 in
theorem mVM289 : mOkM mTab mM289 := mChM_ok mSelf_ok mAt_ok (by decide +kernel) (hh := []) (by decide +kernel) (hs := [[], [], [(6, 221)], [], [], [(7, 60)], [], [], [(7, 44)], [(7, 61)], [], [], [(7, 55)], [(7, 62)], [], [], [(7, 56)], [(7, 63)], [], [], [(7, 41)], [], [(7, 64)], [(8, 135)], [], [], [(7, 43)], [], [(7, 65)], [(8, 135)], [], [], [(7, 57)], [], [(7, 66)], [(8, 135)], [], [], [(7, 58)], [], [(7, 67)], [(8, 135)], []]) (by decide +kernel)
set_option maxRecDepth 20000 in
theorem mVM290 : mOkM mTab mM290 := mChM_ok mSelf_ok mAt_ok (by decide +kernel) (hh := []) (by decide +kernel) (hs := [[], [], [(6, 221)], [], [(7, 60)], [], [], [], [], [], [(7, 61)], [(7, 44)], [], [], [(7, 62)], [(7, 55)], [], [], [(7, 63)], [(7, 56)], [], [], [(7, 64)], [], [(7, 41)], [(8, 135)], [], [], [(7, 65)], [], [(7, 43)], [(8, 135)], [], [], [(7, 66)], [], [(7, 57)], [(8, 135)], [], [], [(7, 67)], [], [(7, 58)], [(8, 135)], [], []]) (by decide +kernel)
set_option maxRecDepth 20000 in
theorem mVM291 : mOkM mTab mM291 := mChM_ok mSelf_ok mAt_ok (by decide +kernel) (hh := []) (by decide +kernel) (hs := [[], [(9, 236)], []]) (by decide +kernel)
set_option maxRecDepth 20000 in
theorem mVM292 : mOkM mTab mM292 := mChM_ok mSelf_ok mAt_ok (by decide +kernel) (hh := []) (by decide +kernel) (hs := [[], [], [], [], [(3, 102)], [], [], [], [], [(3, 103)], [], [], [], [], [(3, 103)], [], [], [], [], [], [], [], [], [(3, 104)], [], [], [], [], [], [], [], [], [], [], [], [], [], [], [], [], [], []]) (by decide +kernel)
set_option maxRecDepth 20000 in
theorem mVM293 : mOkM mTab mM293 := mChM_ok mSelf_ok mAt_ok (by decide +kernel) (hh := []) (by decide +kernel) (hs := [[], [], [], [], [(5, 136)], [], [], [], [], [(5, 137)], [], [], [], [], [(5, 137)], [], [], [], [], [], [], [], [], [(5, 138)], [], [], [], [], [], [], [], [], [], [], [], [], [], [], [], [], [], [], [], [], [], [], [], [], []]) (by decide +kernel)
set_option maxRecDepth 20000 in
theorem mVM294 : mOkM mTab mM294 := mChM_ok mSelf_ok mAt_ok (by decide +kernel) (hh := []) (by decide +kernel) (hs := [[], [(9, 234)], [], [], [(4, 127)], [], []]) (by decide +kernel)
set_option maxRecDepth 20000 in
theorem mVM295 : mOkM mTab mM295 := mChM_ok mSelf_ok mAt_ok (by decide +kernel) (hh := []) (by decide +kernel) (hs := [[], [(4, 137)], [], [], [(9, 234)], [], [(4, 141)], [], [], [(9, 234)], [], [(4, 152)], []]) (by decide +kernel)
set_option maxRecDepth 20000 in
theorem mVM296 : mOkM mTab mM296 := mChM_ok mSelf_ok mAt_ok (by decide +kernel) (hh := []) (by decide +kernel) (hs := [[(4, 131)], [], [], [(9, 235)], [], [], []]) (by decide +kernel)
set_option maxRecDepth 20000 in
theorem mVM297 : mOkM mTab mM297 := mChM_ok mSelf_ok mAt_ok (by decide +kernel) (hh := []) (by decide +kernel) (hs := [[(4, 131)], [], [], [(9, 235)], [], [], [], [], []]) (by decide +kernel)
set_option maxRecDepth 20000 in
theorem mVM298 : mOkM mTab mM298 := mChM_ok mSelf_ok mAt_ok (by decide +kernel) (hh := []) (by decide +kernel) (hs := [[], [], [(4, 147)], [(4, 149)], [], []]) (by decide +kernel)
set_option maxRecDepth 20000 in
theorem mVM299 : mOkM mTab mM299 := mChM_ok mSelf_ok mAt_ok (by decide +kernel) (hh := []) (by decide +kernel) (hs := [[], [], [], [(4, 144)], [], [], [], [], [], [], []]) (by decide +kernel)
set_option maxRecDepth 20000 in
theorem mVM300 : mOkM mTab mM300 := mChM_ok mSelf_ok mAt_ok (by decide +kernel) (hh := []) (by decide +kernel) (hs := [[], [], [], [], [], [], [], [], [], [], [], [], [], [], []]) (by decide +kernel)
set_option maxRecDepth 20000 in
theorem mVM301 : mOkM mTab mM301 := mChM_ok mSelf_ok mAt_ok (by decide +kernel) (hh := []) (by decide +kernel) (hs := [[], [], [], [], [], [], [], [], [], []]) (by decide +kernel)
set_option maxRecDepth 20000 in
theorem mVM302 : mOkM mTab mM302 := mChM_ok mSelf_ok mAt_ok (by decide +kernel) (hh := [(4, 13)]) (by decide +kernel) (hs := [[], [], [], [], [(4, 14)], [], [], [], [], [], [], [], []]) (by decide +kernel)
set_option maxRecDepth 20000 in
theorem mVM303 : mOkM mTab mM303 := mChM_ok mSelf_ok mAt_ok (by decide +kernel) (hh := [(5, 100)]) (by decide +kernel) (hs := [[], [], [], [], [(5, 101)], [], [], [], [], [], [], [], []]) (by decide +kernel)
set_option maxRecDepth 20000 in
theorem mVM304 : mOkM mTab mM304 := mChM_ok mSelf_ok mAt_ok (by decide +kernel) (hh := [(5, 100)]) (by decide +kernel) (hs := [[], [], [], [], [], [(5, 142)], [], [], [], [], [], [], [], []]) (by decide +kernel)
set_option maxRecDepth 20000 in
theorem mVM305 : mOkM mTab mM305 := mChM_ok mSelf_ok mAt_ok (by decide +kernel) (hh := [(5, 100)]) (by decide +kernel) (hs := [[], [], [], [], [], [(5, 178)], [], [], [], [], [], [], [], []]) (by decide +kernel)
set_option maxRecDepth 20000 in
theorem mVM306 : mOkM mTab mM306 := mChM_ok mSelf_ok mAt_ok (by decide +kernel) (hh := [(5, 100)]) (by decide +kernel) (hs := [[], [], [], [], [], [(5, 190)], [], [], [], [], [], [], [], []]) (by decide +kernel)
set_option maxRecDepth 20000 in
theorem mVM307 : mOkM mTab mM307 := mChM_ok mSelf_ok mAt_ok (by decide +kernel) (hh := [(5, 100)]) (by decide +kernel) (hs := [[], [], [], [], [], [(5, 206)], [], [], [], [], [], [], [], []]) (by decide +kernel)
set_option maxRecDepth 20000 in
theorem mVM308 : mOkM mTab mM308 := mChM_ok mSelf_ok mAt_ok (by decide +kernel) (hh := [(5, 100)]) (by decide +kernel) (hs := [[], [], [], [], [(5, 218)], [], [], [], [], [], [], [], []]) (by decide +kernel)
set_option maxRecDepth 20000 in
theorem mVM309 : mOkM mTab mM309 := mChM_ok mSelf_ok mAt_ok (by decide +kernel) (hh := [(5, 100)]) (by decide +kernel) (hs := [[], [], [], [], [], [(5, 234)], [], [], [], [], [], [], [], []]) (by decide +kernel)
set_option maxRecDepth 20000 in
theorem mVM310 : mOkM mTab mM310 := mChM_ok mSelf_ok mAt_ok (by decide +kernel) (hh := [(5, 100)]) (by decide +kernel) (hs := [[], [], [], [], [], [(6, 1)], [], [], [], [], [], [], [], []]) (by decide +kernel)
set_option maxRecDepth 20000 in
theorem mVM311 : mOkM mTab mM311 := mChM_ok mSelf_ok mAt_ok (by decide +kernel) (hh := [(5, 100)]) (by decide +kernel) (hs := [[], [], [], [], [(6, 8)], [], [], [], [], [], [], [], []]) (by decide +kernel)
set_option maxRecDepth 20000 in
theorem mVM312 : mOkM mTab mM312 := mChM_ok mSelf_ok mAt_ok (by decide +kernel) (hh := [(5, 100)]) (by decide +kernel) (hs := [[], [], [], [], [(6, 16)], [], [], [], [], [], [], [], []]) (by decide +kernel)
set_option maxRecDepth 20000 in
theorem mVM313 : mOkM mTab mM313 := mChM_ok mSelf_ok mAt_ok (by decide +kernel) (hh := [(5, 100)]) (by decide +kernel) (hs := [[], [], [], [], [(6, 32)], [], [], [], [], [], [], [], []]) (by decide +kernel)
set_option maxRecDepth 20000 in
theorem mVM314 : mOkM mTab mM314 := mChM_ok mSelf_ok mAt_ok (by decide +kernel) (hh := [(4, 13)]) (by decide +kernel) (hs := [[], [], [], [], [(6, 43)], [], [], [], [], [], [], [], []]) (by decide +kernel)
set_option maxRecDepth 20000 in
theorem mVM315 : mOkM mTab mM315 := mChM_ok mSelf_ok mAt_ok (by decide +kernel) (hh := [(5, 100)]) (by decide +kernel) (hs := [[], [], [], [], [(6, 60)], [], [], [], [], [], [], [], []]) (by decide +kernel)
set_option maxRecDepth 20000 in
theorem mVM316 : mOkM mTab mM316 := mChM_ok mSelf_ok mAt_ok (by decide +kernel) (hh := [(5, 100)]) (by decide +kernel) (hs := [[], [], [], [], [], [(6, 76)], [], [], [], [], [], [], [], []]) (by decide +kernel)
set_option maxRecDepth 20000 in
theorem mVM317 : mOkM mTab mM317 := mChM_ok mSelf_ok mAt_ok (by decide +kernel) (hh := [(4, 13)]) (by decide +kernel) (hs := [[], [], [], [], [], [(6, 85)], [], [], [], [], [], [], [], []]) (by decide +kernel)
set_option maxRecDepth 20000 in
theorem mVM318 : mOkM mTab mM318 := mChM_ok mSelf_ok mAt_ok (by decide +kernel) (hh := [(5, 100)]) (by decide +kernel) (hs := [[], [], [], [], [(6, 97)], [], [], [], [], [], [], [], []]) (by decide +kernel)
set_option maxRecDepth 20000 in
theorem mVM319 : mOkM mTab mM319 := mChM_ok mSelf_ok mAt_ok (by decide +kernel) (hh := [(4, 13)]) (by decide +kernel) (hs := [[], [], [], [], [(6, 126)], [], [], [], [], [], [], [], []]) (by decide +kernel)
set_option maxRecDepth 20000 in
theorem mVM320 : mOkM mTab mM320 := mChM_ok mSelf_ok mAt_ok (by decide +kernel) (hh := [(5, 100)]) (by decide +kernel) (hs := [[], [], [], [], [(6, 133)], [], [], [], [], [], [], [], []]) (by decide +kernel)
set_option maxRecDepth 20000 in
theorem mVM321 : mOkM mTab mM321 := mChM_ok mSelf_ok mAt_ok (by decide +kernel) (hh := [(5, 100), (4, 13)]) (by decide +kernel) (hs := [[], [], [], [], [], [], [(6, 159)], [], [], [], [], [], [], [], [], [], [], []]) (by decide +kernel)
set_option maxRecDepth 20000 in
theorem mVM322 : mOkM mTab mM322 := mChM_ok mSelf_ok mAt_ok (by decide +kernel) (hh := [(5, 100)]) (by decide +kernel) (hs := [[], [], [], [], [(6, 190)], [], [], [], [], [], [], [], []]) (by decide +kernel)
set_option maxRecDepth 20000 in
theorem mVM323 : mOkM mTab mM323 := mChM_ok mSelf_ok mAt_ok (by decide +kernel) (hh := [(5, 100)]) (by decide +kernel) (hs := [[], [], [], [], [(6, 201)], [], [], [], [], [], [], [], []]) (by decide +kernel)
set_option maxRecDepth 20000 in
theorem mVM324_0 : ∀ (pc : Nat) (i : Instr) (rs : List Nat), mAt mC324_0 pc = some (i, rs) → mOkX mTab mM324 pc i rs := mChC_ok mSelf_ok mAt_ok _ [[(1, 29), (1, 30), (1, 1)], [], [(1, 31)], [], [(6, 215), (6, 216), (1, 12)], [], [(6, 217)], [], [], [(9, 215)], [], [], [], [], [], [], [], [], [], [], [], [], [], [], []] (by decide +kernel)
set_option maxRecDepth 20000 in
theorem mVM324_1 : ∀ (pc : Nat) (i : Instr) (rs : List Nat), mAt mC324_1 pc = some (i, rs) → mOkX mTab mM324 pc i rs := mChC_ok mSelf_ok mAt_ok _ [[], [], [], [], [], [], [], [], [], [], [], [], [], [], [], [], [], [], [], [], [], [], [], [], [], [], [(2, 239)], [], [], [], [], [], [], [], [], [], [], [], [], [], [], [], [], [], [], [], [], [], [], [], [], [], [], [(8, 8)], [], [], []] (by decide +kernel)
set_option maxRecDepth 20000 in
theorem mVM324_2 : ∀ (pc : Nat) (i : Instr) (rs : List Nat), mAt mC324_2 pc = some (i, rs) → mOkX mTab mM324 pc i rs := mChC_ok mSelf_ok mAt_ok _ [[], [], [], [], [], [], [], [(4, 10)], [], [], [], [], [], [], [], [(8, 16)], [], [], [(8, 4)], [], [], [], [], [], [], [], [], [], [], [], [], [], [], [], [], [], [(3, 7)], [], [(8, 139)], [], [], []] (by decide +kernel)
set_option maxRecDepth 20000 in
theorem mVM324_3 : ∀ (pc : Nat) (i : Instr) (rs : List Nat), mAt mC324_3 pc = some (i, rs) → mOkX mTab mM324 pc i rs := mChC_ok mSelf_ok mAt_ok _ [[], [], [], [], [], [], [], [(5, 97)], [], [], [], [], [], [], [], [(8, 147)], [], [], [(8, 4)], [], [], [], [], [], [], [], [], [], [], [], [], [], [], [], []] (by decide +kernel)
set_option maxRecDepth 20000 in
theorem mVM324_4 : ∀ (pc : Nat) (i : Instr) (rs : List Nat), mAt mC324_4 pc = some (i, rs) → mOkX mTab mM324 pc i rs := mChC_ok mSelf_ok mAt_ok _ [[], [], [], [], [], [], [], [], [], [], [], [], [(5, 139)], [], [], [], [], [], [], [], [], [], [], [], [], [(8, 166)], [], [], [(8, 4)], [], [], [], [], [], [], [], [], [], [], [], [], [], [], [], []] (by decide +kernel)
set_option maxRecDepth 20000 in
theorem mVM324_5 : ∀ (pc : Nat) (i : Instr) (rs : List Nat), mAt mC324_5 pc = some (i, rs) → mOkX mTab mM324 pc i rs := mChC_ok mSelf_ok mAt_ok _ [[], [], [], [], [], [], [], [], [], [], [], [], [(5, 175)], [], [], [], [], [], [], [], [], [], [], [], [], [(8, 235)], [], [], [(8, 4)], [], [], [], [], [], [], [], [], [], [], [], [], [], [], [], []] (by decide +kernel)
set_option maxRecDepth 20000 in
theorem mVM324_6 : ∀ (pc : Nat) (i : Instr) (rs : List Nat), mAt mC324_6 pc = some (i, rs) → mOkX mTab mM324 pc i rs := mChC_ok mSelf_ok mAt_ok _ [[], [], [], [], [], [], [], [], [], [], [], [], [(5, 187)], [], [], [], [], [], [], [], [], [], [], [], [], [(9, 3)], [], [], [(8, 4)], [], [], [], [], [], [], [], [], [], [], [], [], [], [], [], []] (by decide +kernel)
set_option maxRecDepth 20000 in
theorem mVM324_7 : ∀ (pc : Nat) (i : Instr) (rs : List Nat), mAt mC324_7 pc = some (i, rs) → mOkX mTab mM324 pc i rs := mChC_ok mSelf_ok mAt_ok _ [[], [], [], [], [], [], [], [], [], [], [], [], [(5, 203)], [], [], [], [], [], [], [], [], [], [], [], [], [(9, 15)], [], [], [(8, 4)], [], [], [], [], [], [], [], [], [], [], [], [], [], [], [], []] (by decide +kernel)
set_option maxRecDepth 20000 in
theorem mVM324_8 : ∀ (pc : Nat) (i : Instr) (rs : List Nat), mAt mC324_8 pc = some (i, rs) → mOkX mTab mM324 pc i rs := mChC_ok mSelf_ok mAt_ok _ [[], [], [], [], [], [], [], [(5, 215)], [], [], [], [], [], [], [], [(9, 19)], [], [], [(8, 4)], [], [], [], [], [], [], [], [], [], [], [], [], [], [], [], []] (by decide +kernel)
set_option maxRecDepth 20000 in
theorem mVM324_9 : ∀ (pc : Nat) (i : Instr) (rs : List Nat), mAt mC324_9 pc = some (i, rs) → mOkX mTab mM324 pc i rs := mChC_ok mSelf_ok mAt_ok _ [[], [], [], [], [], [], [], [], [], [], [], [], [(5, 231)], [], [], [], [], [], [], [], [], [], [], [], [], [(9, 35)], [], [], [(8, 4)], [], [], [], [], [], [], [], [], [], [], [], [], [], [], [], []] (by decide +kernel)
set_option maxRecDepth 20000 in
theorem mVM324_10 : ∀ (pc : Nat) (i : Instr) (rs : List Nat), mAt mC324_10 pc = some (i, rs) → mOkX mTab mM324 pc i rs := mChC_ok mSelf_ok mAt_ok _ [[], [], [], [], [], [], [(3, 11)], [], [], [], [], [], [], [(9, 51)], [], [], [], [], [], [], [], [], [], [], [], [], [], [], [], [(5, 238)], [], [], [], [], [], [], [], [], [], [], [], [], [(9, 55)], [], [], [(8, 4)], [], [], [], []] (by decide +kernel)
set_option maxRecDepth 20000 in
theorem mVM324_11 : ∀ (pc : Nat) (i : Instr) (rs : List Nat), mAt mC324_11 pc = some (i, rs) → mOkX mTab mM324 pc i rs := mChC_ok mSelf_ok mAt_ok _ [[], [], [], [], [], [], [], [], [], [], [], [], [], [], [], [], [], [], [], [], [], [], [], [(3, 26)], [], [], [], [], [], [], [], [], [], [], [], [(9, 59)], [], [], []] (by decide +kernel)
set_option maxRecDepth 20000 in
theorem mVM324_12 : ∀ (pc : Nat) (i : Instr) (rs : List Nat), mAt mC324_12 pc = some (i, rs) → mOkX mTab mM324 pc i rs := mChC_ok mSelf_ok mAt_ok _ [[], [], [], [], [], [], [(3, 38)], [], [], [], [], [], [], [(9, 67)], [], [], [], [], [(3, 42)], [], [(8, 143)], [], [], [], [], [(3, 51)], [], [(9, 71)], [], [], [], [], [(3, 156)], [], [(9, 87)], [], [], []] (by decide +kernel)
set_option maxRecDepth 20000 in
theorem mVM324_13 : ∀ (pc : Nat) (i : Instr) (rs : List Nat), mAt mC324_13 pc = some (i, rs) → mOkX mTab mM324 pc i rs := mChC_ok mSelf_ok mAt_ok _ [[], [], [], [], [], [], [], [(6, 5)], [], [], [], [], [], [], [], [(9, 91)], [], [], [(8, 4)], [], [], [], [], [], [], [], [], [], [], [], [], [], [], [], []] (by decide +kernel)
set_option maxRecDepth 20000 in
theorem mVM324_14 : ∀ (pc : Nat) (i : Instr) (rs : List Nat), mAt mC324_14 pc = some (i, rs) → mOkX mTab mM324 pc i rs := mChC_ok mSelf_ok mAt_ok _ [[], [], [], [], [], [], [], [(6, 13)], [], [], [], [], [], [], [], [(9, 95)], [], [], [(8, 4)], [], [], [], [], [], [], [], [], [], [], [], [], [], [], [], []] (by decide +kernel)
set_option maxRecDepth 20000 in
theorem mVM324_15 : ∀ (pc : Nat) (i : Instr) (rs : List Nat), mAt mC324_15 pc = some (i, rs) → mOkX mTab mM324 pc i rs := mChC_ok mSelf_ok mAt_ok _ [[], [], [], [], [], [], [], [(6, 29)], [], [], [], [], [], [], [], [(9, 99)], [], [], [(8, 4)], [], [], [], [], [], [], [], [], [], [], [], [], [], [], [], [], [], [(3, 170)], [], [(9, 103)], [], [], [], [], [(3, 186)], [], [(9, 107)], [], [], []] (by decide +kernel)
set_option maxRecDepth 20000 in
theorem mVM324_16 : ∀ (pc : Nat) (i : Instr) (rs : List Nat), mAt mC324_16 pc = some (i, rs) → mOkX mTab mM324 pc i rs := mChC_ok mSelf_ok mAt_ok _ [[], [], [], [], [], [], [], [(6, 40)], [], [], [], [], [], [], [], [(9, 111)], [], [], [(8, 4)], [], [], [], [], [], [], [], [], [], [], [], [], [], [], [], []] (by decide +kernel)
set_option maxRecDepth 20000 in
theorem mVM324_17 : ∀ (pc : Nat) (i : Instr) (rs : List Nat), mAt mC324_17 pc = some (i, rs) → mOkX mTab mM324 pc i rs := mChC_ok mSelf_ok mAt_ok _ [[], [], [], [], [], [], [], [(6, 57)], [], [], [], [], [], [], [], [(9, 119)], [], [], [(8, 4)], [], [], [], [], [], [], [], [], [], [], [], [], [], [], [], []] (by decide +kernel)
set_option maxRecDepth 20000 in
theorem mVM324_18 : ∀ (pc : Nat) (i : Instr) (rs : List Nat), mAt mC324_18 pc = some (i, rs) → mOkX mTab mM324 pc i rs := mChC_ok mSelf_ok mAt_ok _ [[], [], [], [], [], [], [], [], [], [], [], [], [(6, 73)], [], [], [], [], [], [], [], [], [], [], [], [], [(9, 127)], [], [], [(8, 4)], [], [], [], [], [], [], [], [], [], [], [], [], [], [], [], []] (by decide +kernel)
set_option maxRecDepth 20000 in
theorem mVM324_19 : ∀ (pc : Nat) (i : Instr) (rs : List Nat), mAt mC324_19 pc = some (i, rs) → mOkX mTab mM324 pc i rs := mChC_ok mSelf_ok mAt_ok _ [[], [(3, 194)], [], [(9, 139)], [], [], [], [], [], [], [], [], [], [], [], [], [], [], [], [(6, 82)], [], [], [], [], [], [], [], [], [], [], [], [], [(9, 143)], [], [], [(8, 4)], [], [], [], []] (by decide +kernel)
set_option maxRecDepth 20000 in
theorem mVM324_20 : ∀ (pc : Nat) (i : Instr) (rs : List Nat), mAt mC324_20 pc = some (i, rs) → mOkX mTab mM324 pc i rs := mChC_ok mSelf_ok mAt_ok _ [[], [], [], [], [], [], [], [], [], [], [], [], [], [], [], [], [], [], [(3, 210)], [], [], [], [], [], [], [(9, 147)], [], [], []] (by decide +kernel)
set_option maxRecDepth 20000 in
theorem mVM324_21 : ∀ (pc : Nat) (i : Instr) (rs : List Nat), mAt mC324_21 pc = some (i, rs) → mOkX mTab mM324 pc i rs := mChC_ok mSelf_ok mAt_ok _ [[], [], [], [], [], [], [], [(6, 94)], [], [], [], [], [], [], [], [(9, 151)], [], [], [(8, 4)], [], [], [], [], [], [], [], [], [], [], [], [], [], [], [], []] (by decide +kernel)
set_option maxRecDepth 20000 in
theorem mVM324_22 : ∀ (pc : Nat) (i : Instr) (rs : List Nat), mAt mC324_22 pc = some (i, rs) → mOkX mTab mM324 pc i rs := mChC_ok mSelf_ok mAt_ok _ [[], [], [], [], [], [], [], [(6, 123)], [], [], [], [], [], [], [], [(9, 162)], [], [], [(8, 4)], [], [], [], [], [], [], [], [], [], [], [], [], [], [], [], []] (by decide +kernel)
set_option maxRecDepth 20000 in
theorem mVM324_23 : ∀ (pc : Nat) (i : Instr) (rs : List Nat), mAt mC324_23 pc = some (i, rs) → mOkX mTab mM324 pc i rs := mChC_ok mSelf_ok mAt_ok _ [[], [], [], [], [], [], [], [], [], [], [], [(3, 214)], [], [], [], [], [], [], [], [], [], [], [], [(9, 166)], [], [], [], [], [(3, 218)], [], [(9, 170)], []] (by decide +kernel)
set_option maxRecDepth 20000 in
theorem mVM324_24 : ∀ (pc : Nat) (i : Instr) (rs : List Nat), mAt mC324_24 pc = some (i, rs) → mOkX mTab mM324 pc i rs := mChC_ok mSelf_ok mAt_ok _ [[], [], [], [], [], [], [], [(6, 130)], [], [], [], [], [], [], [], [(9, 174)], [], [], [(8, 4)], [], [], [], [], [], [], [], [], [], [], [], [], [], [], [], []] (by decide +kernel)
set_option maxRecDepth 20000 in
theorem mVM324_25 : ∀ (pc : Nat) (i : Instr) (rs : List Nat), mAt mC324_25 pc = some (i, rs) → mOkX mTab mM324 pc i rs := mChC_ok mSelf_ok mAt_ok _ [[], [], [], [], [], [], [], [], [], [], [], [], [], [], [], [], [], [(6, 156)], [], [], [], [], [], [], [], [], [], [], [], [], [], [], [], [], [], [(9, 182)], [], [], [(8, 4)], [], [], [], []] (by decide +kernel)
set_option maxRecDepth 20000 in
theorem mVM324_26 : ∀ (pc : Nat) (i : Instr) (rs : List Nat), mAt mC324_26 pc = some (i, rs) → mOkX mTab mM324 pc i rs := mChC_ok mSelf_ok mAt_ok _ [[], [], [], [], [], [], [], [], [], [], [], [], [], [(3, 222)], [], [(9, 195)], [], [], [], [], [], [], [], [], [], [], [], [(6, 187)], [], [], [], [], [], [], [], [(9, 199)], [], [], [(8, 4)], [], [], [], []] (by decide +kernel)
set_option maxRecDepth 20000 in
theorem mVM324_27 : ∀ (pc : Nat) (i : Instr) (rs : List Nat), mAt mC324_27 pc = some (i, rs) → mOkX mTab mM324 pc i rs := mChC_ok mSelf_ok mAt_ok _ [[], [], [], [], [], [], [], [], [], [], [], [], [], [], [], [], [], [], [], [(6, 198)], [], [], [], [], [], [], [], [(9, 203)], [], [], [(8, 4)], [], [], [], [], [], [], [], [], [], [], [], [], [], [], [], []] (by decide +kernel)
set_option maxRecDepth 20000 in
theorem mVM324_28 : ∀ (pc : Nat) (i : Instr) (rs : List Nat), mAt mC324_28 pc = some (i, rs) → mOkX mTab mM324 pc i rs := mChC_ok mSelf_ok mAt_ok _ [[], [(3, 238)], [], [(9, 207)], [], [], [(4, 6)], [], [(9, 211)], [], [], [], [], [], [], []] (by decide +kernel)
theorem mVM324 : mOkM mTab mM324 := ⟨by decide +kernel, mChH_ok (hs := []) (by decide +kernel), fun pc i rs h => by
  have h : mAt mC324 pc = some (i, rs) := h
  unfold mC324 at h
  exact (mAt_app h).elim (fun h => mVM324_0 pc i rs h) (fun h => (mAt_app h).elim (fun h => mVM324_1 pc i rs h) (fun h => (mAt_app h).elim (fun h => mVM324_2 pc i rs h) (fun h => (mAt_app h).elim (fun h => mVM324_3 pc i rs h) (fun h => (mAt_app h).elim (fun h => mVM324_4 pc i rs h) (fun h => (mAt_app h).elim (fun h => mVM324_5 pc i rs h) (fun h => (mAt_app h).elim (fun h => mVM324_6 pc i rs h) (fun h => (mAt_app h).elim (fun h => mVM324_7 pc i rs h) (fun h => (mAt_app h).elim (fun h => mVM324_8 pc i rs h) (fun h => (mAt_app h).elim (fun h => mVM324_9 pc i rs h) (fun h => (mAt_app h).elim (fun h => mVM324_10 pc i rs h) (fun h => (mAt_app h).elim (fun h => mVM324_11 pc i rs h) (fun h => (mAt_app h).elim (fun h => mVM324_12 pc i rs h) (fun h => (mAt_app h).elim (fun h => mVM324_13 pc i rs h) (fun h => (mAt_app h).elim (fun h => mVM324_14 pc i rs h) (fun h => (mAt_app h).elim (fun h => mVM324_15 pc i rs h) (fun h => (mAt_app h).elim (fun h => mVM324_16 pc i rs h) (fun h => (mAt_app h).elim (fun h => mVM324_17 pc i rs h) (fun h => (mAt_app h).elim (fun h => mVM324_18 pc i rs h) (fun h => (mAt_app h).elim (fun h => mVM324_19 pc i rs h) (fun h => (mAt_app h).elim (fun h => mVM324_20 pc i rs h) (fun h => (mAt_app h).elim (fun h => mVM324_21 pc i rs h) (fun h => (mAt_app h).elim (fun h => mVM324_22 pc i rs h) (fun h => (mAt_app h).elim (fun h => mVM324_23 pc i rs h) (fun h => (mAt_app h).elim (fun h => mVM324_24 pc i rs h) (fun h => (mAt_app h).elim (fun h => mVM324_25 pc i rs h) (fun h => (mAt_app h).elim (fun h => mVM324_26 pc i rs h) (fun h => (mAt_app h).elim (fun h => mVM324_27 pc i rs h) (fun h => mVM324_28 pc i rs h))))))))))))))))))))))))))))⟩
