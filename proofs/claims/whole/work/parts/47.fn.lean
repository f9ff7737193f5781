-- LaneEyesLaw.count(LLaneEyes;I[J)I (('r', 0), ('i',), ('r', 116))
def f303_0_116  (x1 : Int32) (w : mW) : Option (Int32 × mW) := (nXh (f129_0  x1 w) (fun v1 w2 => (nLet (nSJ w2 116 0 v1.toInt64) fun w3 => (some (0, w3)))) (fun x5 w6 => if x5 = 1 then (fun w4 => (some (1, w4))) w6 else none))
set_option maxRecDepth 8000 in
theorem f303_0_116_ok (d : Nat)   (x1 : Int32)  (w : mW) : ∀ z, f303_0_116  x1 w = some z → mRun mTab (d + 4) 303 [.ref 0, .int x1, .ref 116] (mK w) (nQi z.1, mK z.2) := by
  unfold f303_0_116
  exact mRun_of (d := d + 3) (M := mM303) rfl rfl (mFit_of (rg := [some (.ref 0), some (.int x1), some (.ref 116), none]) ⟨rfl, rfl, rfl, trivial⟩) (sGo hb303_0 (sAl1 rfl rfl (sIc kI_0 (sAl1 rfl rfl (sIl1 rfl (sXh (f129_0_ok (d + 0)  x1  w) (mIv_vt (rest := [.int 0, .ref 116]) c0 rfl rfl rfl) rfl (fun v1 w2 => (sI2l (sLt2 c116 g_0_1 (sLetW fun w3 => (sGt (t := 15) rfl (sGo hb303_15 (sIc kI_0 (sRt rfl)))))))) (nHn1 (nHn_mk (h := 12) [some (.ref 0), some (.int x1), some (.ref 116), none] rfl (by rfl) rfl rfl rfl fun w4 => (sGo hb303_13 (sIc kI_1 (sRt rfl)))))))))))
-- LaneEyesLaw.cell(LLaneEyes;II[J)I (('r', 0), ('i',), ('i',), ('r', 116))
def f304_0_116  (x1 : Int32) (x2 : Int32) (w : mW) : Option (Int32 × mW) := (nXh (f130_0  x1 x2 w) (fun v1 w2 => (nLet (nSJ w2 116 0 v1.toInt64) fun w3 => (some (0, w3)))) (fun x5 w6 => if x5 = 1 then (fun w4 => (some (1, w4))) w6 else none))
set_option maxRecDepth 8000 in
theorem f304_0_116_ok (d : Nat)   (x1 : Int32) (x2 : Int32)  (w : mW) : ∀ z, f304_0_116  x1 x2 w = some z → mRun mTab (d + 7) 304 [.ref 0, .int x1, .int x2, .ref 116] (mK w) (nQi z.1, mK z.2) := by
  unfold f304_0_116
  exact mRun_of (d := d + 6) (M := mM304) rfl rfl (mFit_of (rg := [some (.ref 0), some (.int x1), some (.int x2), some (.ref 116), none]) ⟨rfl, rfl, rfl, rfl, trivial⟩) (sGo hb304_0 (sAl1 rfl rfl (sIc kI_0 (sAl1 rfl rfl (sIl1 rfl (sIl1 rfl (sXh (f130_0_ok (d + 0)  x1 x2  w) (mIv_vt (rest := [.int 0, .ref 116]) c0 rfl rfl rfl) rfl (fun v1 w2 => (sI2l (sLt2 c116 g_0_1 (sLetW fun w3 => (sGt (t := 17) rfl (sGo hb304_17 (sIc kI_0 (sRt rfl)))))))) (nHn1 (nHn_mk2 (h := 13) [some (.ref 0), some (.int x1), some (.int x2), some (.ref 116), none] rfl (by rfl) rfl rfl rfl fun w4 => (sGo hb304_15 (sIc kI_1 (sRt rfl))))))))))))
-- LaneEyesLaw.look(LLaneEyes;II[J)I (('r', 0), ('i',), ('i',), ('r', 116))
def f305_0_116  (x1 : Int32) (x2 : Int32) (w : mW) : Option (Int32 × mW) := (nXh (f131_0  x1 x2 w) (fun v1 w2 => (nLet (nSJ w2 116 0 v1.toInt64) fun w3 => (some (0, w3)))) (fun x5 w6 => if x5 = 1 then (fun w4 => (some (1, w4))) w6 else none))
set_option maxRecDepth 8000 in
theorem f305_0_116_ok (d : Nat)   (x1 : Int32) (x2 : Int32)  (w : mW) : ∀ z, f305_0_116  x1 x2 w = some z → mRun mTab (d + 4) 305 [.ref 0, .int x1, .int x2, .ref 116] (mK w) (nQi z.1, mK z.2) := by
  unfold f305_0_116
  exact mRun_of (d := d + 3) (M := mM305) rfl rfl (mFit_of (rg := [some (.ref 0), some (.int x1), some (.int x2), some (.ref 116), none]) ⟨rfl, rfl, rfl, rfl, trivial⟩) (sGo hb305_0 (sAl1 rfl rfl (sIc kI_0 (sAl1 rfl rfl (sIl1 rfl (sIl1 rfl (sXh (f131_0_ok (d + 0)  x1 x2  w) (mIv_vt (rest := [.int 0, .ref 116]) c0 rfl rfl rfl) rfl (fun v1 w2 => (sI2l (sLt2 c116 g_0_1 (sLetW fun w3 => (sGt (t := 17) rfl (sGo hb305_17 (sIc kI_0 (sRt rfl)))))))) (nHn1 (nHn_mk2 (h := 13) [some (.ref 0), some (.int x1), some (.int x2), some (.ref 116), none] rfl (by rfl) rfl rfl rfl fun w4 => (sGo hb305_15 (sIc kI_1 (sRt rfl))))))))))))
-- LaneEyesLaw.swimmer(LLaneEyes;II[J)I (('r', 0), ('i',), ('i',), ('r', 116))
def f306_0_116  (x1 : Int32) (x2 : Int32) (w : mW) : Option (Int32 × mW) := (nXh (f132_0  x1 x2 w) (fun v1 w2 => (nLet (nSJ w2 116 0 v1.toInt64) fun w3 => (some (0, w3)))) (fun x5 w6 => if x5 = 1 then (fun w4 => (some (1, w4))) w6 else none))
set_option maxRecDepth 8000 in
theorem f306_0_116_ok (d : Nat)   (x1 : Int32) (x2 : Int32)  (w : mW) : ∀ z, f306_0_116  x1 x2 w = some z → mRun mTab (d + 5) 306 [.ref 0, .int x1, .int x2, .ref 116] (mK w) (nQi z.1, mK z.2) := by
  unfold f306_0_116
  exact mRun_of (d := d + 4) (M := mM306) rfl rfl (mFit_of (rg := [some (.ref 0), some (.int x1), some (.int x2), some (.ref 116), none]) ⟨rfl, rfl, rfl, rfl, trivial⟩) (sGo hb306_0 (sAl1 rfl rfl (sIc kI_0 (sAl1 rfl rfl (sIl1 rfl (sIl1 rfl (sXh (f132_0_ok (d + 0)  x1 x2  w) (mIv_vt (rest := [.int 0, .ref 116]) c0 rfl rfl rfl) rfl (fun v1 w2 => (sI2l (sLt2 c116 g_0_1 (sLetW fun w3 => (sGt (t := 17) rfl (sGo hb306_17 (sIc kI_0 (sRt rfl)))))))) (nHn1 (nHn_mk2 (h := 13) [some (.ref 0), some (.int x1), some (.int x2), some (.ref 116), none] rfl (by rfl) rfl rfl rfl fun w4 => (sGo hb306_15 (sIc kI_1 (sRt rfl))))))))))))
-- LaneEyesLaw.delay(LLaneEyes;II[J)I (('r', 0), ('i',), ('i',), ('r', 116))
def f307_0_116  (x1 : Int32) (x2 : Int32) (w : mW) : Option (Int32 × mW) := (nXh (f133_0  x1 x2 w) (fun v1 w2 => (nLet (nSJ w2 116 0 v1.toInt64) fun w3 => (some (0, w3)))) (fun x5 w6 => if x5 = 1 then (fun w4 => (some (1, w4))) w6 else none))
set_option maxRecDepth 8000 in
theorem f307_0_116_ok (d : Nat)   (x1 : Int32) (x2 : Int32)  (w : mW) : ∀ z, f307_0_116  x1 x2 w = some z → mRun mTab (d + 7) 307 [.ref 0, .int x1, .int x2, .ref 116] (mK w) (nQi z.1, mK z.2) := by
  unfold f307_0_116
  exact mRun_of (d := d + 6) (M := mM307) rfl rfl (mFit_of (rg := [some (.ref 0), some (.int x1), some (.int x2), some (.ref 116), none]) ⟨rfl, rfl, rfl, rfl, trivial⟩) (sGo hb307_0 (sAl1 rfl rfl (sIc kI_0 (sAl1 rfl rfl (sIl1 rfl (sIl1 rfl (sXh (f133_0_ok (d + 0)  x1 x2  w) (mIv_vt (rest := [.int 0, .ref 116]) c0 rfl rfl rfl) rfl (fun v1 w2 => (sI2l (sLt2 c116 g_0_1 (sLetW fun w3 => (sGt (t := 17) rfl (sGo hb307_17 (sIc kI_0 (sRt rfl)))))))) (nHn1 (nHn_mk2 (h := 13) [some (.ref 0), some (.int x1), some (.int x2), some (.ref 116), none] rfl (by rfl) rfl rfl rfl fun w4 => (sGo hb307_15 (sIc kI_1 (sRt rfl))))))))))))
-- LaneEyesLaw.worst(LLaneEyes;I[J)I (('r', 0), ('i',), ('r', 116))
def f308_0_116  (x1 : Int32) (w : mW) : Option (Int32 × mW) := (nXh (f134_0  x1 w) (fun v1 w2 => (nLet (nSJ w2 116 0 v1.toInt64) fun w3 => (some (0, w3)))) (fun x5 w6 => if x5 = 1 then (fun w4 => (some (1, w4))) w6 else none))
set_option maxRecDepth 8000 in
theorem f308_0_116_ok (d : Nat)   (x1 : Int32)  (w : mW) : ∀ z, f308_0_116  x1 w = some z → mRun mTab (d + 8) 308 [.ref 0, .int x1, .ref 116] (mK w) (nQi z.1, mK z.2) := by
  unfold f308_0_116
  exact mRun_of (d := d + 7) (M := mM308) rfl rfl (mFit_of (rg := [some (.ref 0), some (.int x1), some (.ref 116), none]) ⟨rfl, rfl, rfl, trivial⟩) (sGo hb308_0 (sAl1 rfl rfl (sIc kI_0 (sAl1 rfl rfl (sIl1 rfl (sXh (f134_0_ok (d + 0)  x1  w) (mIv_vt (rest := [.int 0, .ref 116]) c0 rfl rfl rfl) rfl (fun v1 w2 => (sI2l (sLt2 c116 g_0_1 (sLetW fun w3 => (sGt (t := 15) rfl (sGo hb308_15 (sIc kI_0 (sRt rfl)))))))) (nHn1 (nHn_mk (h := 12) [some (.ref 0), some (.int x1), some (.ref 116), none] rfl (by rfl) rfl rfl rfl fun w4 => (sGo hb308_13 (sIc kI_1 (sRt rfl)))))))))))
-- LaneEyesLaw.swim(LLaneEyes;II[J)I (('r', 0), ('i',), ('i',), ('r', 116))
def f309_0_116  (x1 : Int32) (x2 : Int32) (w : mW) : Option (Int32 × mW) := (nXh (f135_0  x1 x2 w) (fun v1 w2 => (nLet (nSJ w2 116 0 v1.toInt64) fun w3 => (some (0, w3)))) (fun x5 w6 => if x5 = 1 then (fun w4 => (some (1, w4))) w6 else none))
set_option maxRecDepth 8000 in
theorem f309_0_116_ok (d : Nat)   (x1 : Int32) (x2 : Int32)  (w : mW) : ∀ z, f309_0_116  x1 x2 w = some z → mRun mTab (d + 3) 309 [.ref 0, .int x1, .int x2, .ref 116] (mK w) (nQi z.1, mK z.2) := by
  unfold f309_0_116
  exact mRun_of (d := d + 2) (M := mM309) rfl rfl (mFit_of (rg := [some (.ref 0), some (.int x1), some (.int x2), some (.ref 116), none]) ⟨rfl, rfl, rfl, rfl, trivial⟩) (sGo hb309_0 (sAl1 rfl rfl (sIc kI_0 (sAl1 rfl rfl (sIl1 rfl (sIl1 rfl (sXh (f135_0_ok (d + 0)  x1 x2  w) (mIv_vt (rest := [.int 0, .ref 116]) c0 rfl rfl rfl) rfl (fun v1 w2 => (sI2l (sLt2 c116 g_0_1 (sLetW fun w3 => (sGt (t := 17) rfl (sGo hb309_17 (sIc kI_0 (sRt rfl)))))))) (nHn1 (nHn_mk2 (h := 13) [some (.ref 0), some (.int x1), some (.int x2), some (.ref 116), none] rfl (by rfl) rfl rfl rfl fun w4 => (sGo hb309_15 (sIc kI_1 (sRt rfl))))))))))))
-- LaneEyesLaw.lasts(LLaneEyes;II[J)I (('r', 0), ('i',), ('i',), ('r', 116))
def f310_0_116  (x1 : Int32) (x2 : Int32) (w : mW) : Option (Int32 × mW) := (nXh (f137_0  x1 x2 w) (fun v1 w2 => (nLet (nSJ w2 116 0 v1.toInt64) fun w3 => (some (0, w3)))) (fun x5 w6 => if x5 = 1 then (fun w4 => (some (1, w4))) w6 else none))
set_option maxRecDepth 8000 in
theorem f310_0_116_ok (d : Nat)   (x1 : Int32) (x2 : Int32)  (w : mW) : ∀ z, f310_0_116  x1 x2 w = some z → mRun mTab (d + 4) 310 [.ref 0, .int x1, .int x2, .ref 116] (mK w) (nQi z.1, mK z.2) := by
  unfold f310_0_116
  exact mRun_of (d := d + 3) (M := mM310) rfl rfl (mFit_of (rg := [some (.ref 0), some (.int x1), some (.int x2), some (.ref 116), none]) ⟨rfl, rfl, rfl, rfl, trivial⟩) (sGo hb310_0 (sAl1 rfl rfl (sIc kI_0 (sAl1 rfl rfl (sIl1 rfl (sIl1 rfl (sXh (f137_0_ok (d + 0)  x1 x2  w) (mIv_vt (rest := [.int 0, .ref 116]) c0 rfl rfl rfl) rfl (fun v1 w2 => (sI2l (sLt2 c116 g_0_1 (sLetW fun w3 => (sGt (t := 17) rfl (sGo hb310_17 (sIc kI_0 (sRt rfl)))))))) (nHn1 (nHn_mk2 (h := 13) [some (.ref 0), some (.int x1), some (.int x2), some (.ref 116), none] rfl (by rfl) rfl rfl rfl fun w4 => (sGo hb310_15 (sIc kI_1 (sRt rfl))))))))))))
-- LaneEyesLaw.row(LLaneEyes;I[J)I (('r', 0), ('i',), ('r', 116))
def f311_0_116  (x1 : Int32) (w : mW) : Option (Int32 × mW) := (nXh (f143_0  x1 w) (fun v1 w2 => (nLet (nSJ w2 116 0 v1.toInt64) fun w3 => (some (0, w3)))) (fun x5 w6 => if x5 = 1 then (fun w4 => (some (1, w4))) w6 else none))
set_option maxRecDepth 8000 in
theorem f311_0_116_ok (d : Nat)   (x1 : Int32)  (w : mW) : ∀ z, f311_0_116  x1 w = some z → mRun mTab (d + 2) 311 [.ref 0, .int x1, .ref 116] (mK w) (nQi z.1, mK z.2) := by
  unfold f311_0_116
  exact mRun_of (d := d + 1) (M := mM311) rfl rfl (mFit_of (rg := [some (.ref 0), some (.int x1), some (.ref 116), none]) ⟨rfl, rfl, rfl, trivial⟩) (sGo hb311_0 (sAl1 rfl rfl (sIc kI_0 (sAl1 rfl rfl (sIl1 rfl (sXh (f143_0_ok (d + 0)  x1  w) (mIv_vt (rest := [.int 0, .ref 116]) c0 rfl rfl rfl) rfl (fun v1 w2 => (sI2l (sLt2 c116 g_0_1 (sLetW fun w3 => (sGt (t := 15) rfl (sGo hb311_15 (sIc kI_0 (sRt rfl)))))))) (nHn1 (nHn_mk (h := 12) [some (.ref 0), some (.int x1), some (.ref 116), none] rfl (by rfl) rfl rfl rfl fun w4 => (sGo hb311_13 (sIc kI_1 (sRt rfl)))))))))))
-- LaneEyesLaw.best(LLaneEyes;I[J)I (('r', 0), ('i',), ('r', 116))
def f312_0_116  (x1 : Int32) (w : mW) : Option (Int32 × mW) := (nXh (f144_0  x1 w) (fun v1 w2 => (nLet (nSJ w2 116 0 v1.toInt64) fun w3 => (some (0, w3)))) (fun x5 w6 => if x5 = 1 then (fun w4 => (some (1, w4))) w6 else none))
set_option maxRecDepth 8000 in
theorem f312_0_116_ok (d : Nat)   (x1 : Int32)  (w : mW) : ∀ z, f312_0_116  x1 w = some z → mRun mTab (d + 8) 312 [.ref 0, .int x1, .ref 116] (mK w) (nQi z.1, mK z.2) := by
  unfold f312_0_116
  exact mRun_of (d := d + 7) (M := mM312) rfl rfl (mFit_of (rg := [some (.ref 0), some (.int x1), some (.ref 116), none]) ⟨rfl, rfl, rfl, trivial⟩) (sGo hb312_0 (sAl1 rfl rfl (sIc kI_0 (sAl1 rfl rfl (sIl1 rfl (sXh (f144_0_ok (d + 0)  x1  w) (mIv_vt (rest := [.int 0, .ref 116]) c0 rfl rfl rfl) rfl (fun v1 w2 => (sI2l (sLt2 c116 g_0_1 (sLetW fun w3 => (sGt (t := 15) rfl (sGo hb312_15 (sIc kI_0 (sRt rfl)))))))) (nHn1 (nHn_mk (h := 12) [some (.ref 0), some (.int x1), some (.ref 116), none] rfl (by rfl) rfl rfl rfl fun w4 => (sGo hb312_13 (sIc kI_1 (sRt rfl)))))))))))
-- LaneEyesLaw.away(LLaneEyes;I[J)I (('r', 0), ('i',), ('r', 116))
def f313_0_116  (x1 : Int32) (w : mW) : Option (Int32 × mW) := (nXh (f145_0  x1 w) (fun v1 w2 => (nLet (nSJ w2 116 0 v1.toInt64) fun w3 => (some (0, w3)))) (fun x5 w6 => if x5 = 1 then (fun w4 => (some (1, w4))) w6 else none))
set_option maxRecDepth 8000 in
theorem f313_0_116_ok (d : Nat)   (x1 : Int32)  (w : mW) : ∀ z, f313_0_116  x1 w = some z → mRun mTab (d + 7) 313 [.ref 0, .int x1, .ref 116] (mK w) (nQi z.1, mK z.2) := by
  unfold f313_0_116
  exact mRun_of (d := d + 6) (M := mM313) rfl rfl (mFit_of (rg := [some (.ref 0), some (.int x1), some (.ref 116), none]) ⟨rfl, rfl, rfl, trivial⟩) (sGo hb313_0 (sAl1 rfl rfl (sIc kI_0 (sAl1 rfl rfl (sIl1 rfl (sXh (f145_0_ok (d + 0)  x1  w) (mIv_vt (rest := [.int 0, .ref 116]) c0 rfl rfl rfl) rfl (fun v1 w2 => (sI2l (sLt2 c116 g_0_1 (sLetW fun w3 => (sGt (t := 15) rfl (sGo hb313_15 (sIc kI_0 (sRt rfl)))))))) (nHn1 (nHn_mk (h := 12) [some (.ref 0), some (.int x1), some (.ref 116), none] rfl (by rfl) rfl rfl rfl fun w4 => (sGo hb313_13 (sIc kI_1 (sRt rfl)))))))))))
-- LaneEyesLaw.halves(LLaneEyes;I[J)I (('r', 0), ('i',), ('r', 116))
def f314_0_116  (x1 : Int32) (w : mW) : Option (Int32 × mW) := (nXh (f148_0  x1 w) (fun v1 w2 => (nLet (nSJ w2 116 0 v1.toInt64) fun w3 => (some (0, w3)))) (fun x5 w6 => if x5 = 0 then (fun w4 => (some (1, w4))) w6 else none))
set_option maxRecDepth 8000 in
theorem f314_0_116_ok (d : Nat)   (x1 : Int32)  (w : mW) : ∀ z, f314_0_116  x1 w = some z → mRun mTab (d + 7) 314 [.ref 0, .int x1, .ref 116] (mK w) (nQi z.1, mK z.2) := by
  unfold f314_0_116
  exact mRun_of (d := d + 6) (M := mM314) rfl rfl (mFit_of (rg := [some (.ref 0), some (.int x1), some (.ref 116), none]) ⟨rfl, rfl, rfl, trivial⟩) (sGo hb314_0 (sAl1 rfl rfl (sIc kI_0 (sAl1 rfl rfl (sIl1 rfl (sXh (f148_0_ok (d + 0)  x1  w) (mIv_vt (rest := [.int 0, .ref 116]) c0 rfl rfl rfl) rfl (fun v1 w2 => (sI2l (sLt2 c116 g_0_1 (sLetW fun w3 => (sGt (t := 15) rfl (sGo hb314_15 (sIc kI_0 (sRt rfl)))))))) (nHn1 (nHn_mk (h := 12) [some (.ref 0), some (.int x1), some (.ref 116), none] rfl (by rfl) rfl rfl rfl fun w4 => (sGo hb314_13 (sIc kI_1 (sRt rfl)))))))))))
-- LaneEyesLaw.two(LLaneEyes;I[J)I (('r', 0), ('i',), ('r', 116))
def f315_0_116  (x1 : Int32) (w : mW) : Option (Int32 × mW) := (nXh (f149_0  x1 w) (fun v1 w2 => (nLet (nSJ w2 116 0 v1.toInt64) fun w3 => (some (0, w3)))) (fun x5 w6 => if x5 = 1 then (fun w4 => (some (1, w4))) w6 else none))
set_option maxRecDepth 8000 in
theorem f315_0_116_ok (d : Nat)   (x1 : Int32)  (w : mW) : ∀ z, f315_0_116  x1 w = some z → mRun mTab (d + 8) 315 [.ref 0, .int x1, .ref 116] (mK w) (nQi z.1, mK z.2) := by
  unfold f315_0_116
  exact mRun_of (d := d + 7) (M := mM315) rfl rfl (mFit_of (rg := [some (.ref 0), some (.int x1), some (.ref 116), none]) ⟨rfl, rfl, rfl, trivial⟩) (sGo hb315_0 (sAl1 rfl rfl (sIc kI_0 (sAl1 rfl rfl (sIl1 rfl (sXh (f149_0_ok (d + 0)  x1  w) (mIv_vt (rest := [.int 0, .ref 116]) c0 rfl rfl rfl) rfl (fun v1 w2 => (sI2l (sLt2 c116 g_0_1 (sLetW fun w3 => (sGt (t := 15) rfl (sGo hb315_15 (sIc kI_0 (sRt rfl)))))))) (nHn1 (nHn_mk (h := 12) [some (.ref 0), some (.int x1), some (.ref 116), none] rfl (by rfl) rfl rfl rfl fun w4 => (sGo hb315_13 (sIc kI_1 (sRt rfl)))))))))))
-- LaneEyesLaw.game(LLaneEyes;II[J)I (('r', 0), ('i',), ('i',), ('r', 116))
def f316_0_116  (x1 : Int32) (x2 : Int32) (w : mW) : Option (Int32 × mW) := (nXh (f150_0  x1 x2 w) (fun v1 w2 => (nLet (nSJ w2 116 0 v1.toInt64) fun w3 => (some (0, w3)))) (fun x5 w6 => if x5 = 1 then (fun w4 => (some (1, w4))) w6 else none))
set_option maxRecDepth 8000 in
theorem f316_0_116_ok (d : Nat)   (x1 : Int32) (x2 : Int32)  (w : mW) : ∀ z, f316_0_116  x1 x2 w = some z → mRun mTab (d + 6) 316 [.ref 0, .int x1, .int x2, .ref 116] (mK w) (nQi z.1, mK z.2) := by
  unfold f316_0_116
  exact mRun_of (d := d + 5) (M := mM316) rfl rfl (mFit_of (rg := [some (.ref 0), some (.int x1), some (.int x2), some (.ref 116), none]) ⟨rfl, rfl, rfl, rfl, trivial⟩) (sGo hb316_0 (sAl1 rfl rfl (sIc kI_0 (sAl1 rfl rfl (sIl1 rfl (sIl1 rfl (sXh (f150_0_ok (d + 0)  x1 x2  w) (mIv_vt (rest := [.int 0, .ref 116]) c0 rfl rfl rfl) rfl (fun v1 w2 => (sI2l (sLt2 c116 g_0_1 (sLetW fun w3 => (sGt (t := 17) rfl (sGo hb316_17 (sIc kI_0 (sRt rfl)))))))) (nHn1 (nHn_mk2 (h := 13) [some (.ref 0), some (.int x1), some (.int x2), some (.ref 116), none] rfl (by rfl) rfl rfl rfl fun w4 => (sGo hb316_15 (sIc kI_1 (sRt rfl))))))))))))
-- LaneEyesLaw.jump(LLaneEyes;II[J)I (('r', 0), ('i',), ('i',), ('r', 116))
def f317_0_116  (x1 : Int32) (x2 : Int32) (w : mW) : Option (Int32 × mW) := (nXh (f152_0  x1 x2 w) (fun v1 w2 => (nLet (nSJ w2 116 0 v1.toInt64) fun w3 => (some (0, w3)))) (fun x5 w6 => if x5 = 0 then (fun w4 => (some (1, w4))) w6 else none))
set_option maxRecDepth 8000 in
theorem f317_0_116_ok (d : Nat)   (x1 : Int32) (x2 : Int32)  (w : mW) : ∀ z, f317_0_116  x1 x2 w = some z → mRun mTab (d + 3) 317 [.ref 0, .int x1, .int x2, .ref 116] (mK w) (nQi z.1, mK z.2) := by
  unfold f317_0_116
  exact mRun_of (d := d + 2) (M := mM317) rfl rfl (mFit_of (rg := [some (.ref 0), some (.int x1), some (.int x2), some (.ref 116), none]) ⟨rfl, rfl, rfl, rfl, trivial⟩) (sGo hb317_0 (sAl1 rfl rfl (sIc kI_0 (sAl1 rfl rfl (sIl1 rfl (sIl1 rfl (sXh (f152_0_ok (d + 0)  x1 x2  w) (mIv_vt (rest := [.int 0, .ref 116]) c0 rfl rfl rfl) rfl (fun v1 w2 => (sI2l (sLt2 c116 g_0_1 (sLetW fun w3 => (sGt (t := 17) rfl (sGo hb317_17 (sIc kI_0 (sRt rfl)))))))) (nHn1 (nHn_mk2 (h := 13) [some (.ref 0), some (.int x1), some (.int x2), some (.ref 116), none] rfl (by rfl) rfl rfl rfl fun w4 => (sGo hb317_15 (sIc kI_1 (sRt rfl))))))))))))
-- LaneEyesLaw.dummies(LLaneEyes;I[J)I (('r', 0), ('i',), ('r', 116))
def f318_0_116  (x1 : Int32) (w : mW) : Option (Int32 × mW) := (nXh (f154_0  x1 w) (fun v1 w2 => (nLet (nSJ w2 116 0 v1.toInt64) fun w3 => (some (0, w3)))) (fun x5 w6 => if x5 = 1 then (fun w4 => (some (1, w4))) w6 else none))
set_option maxRecDepth 8000 in
theorem f318_0_116_ok (d : Nat)   (x1 : Int32)  (w : mW) : ∀ z, f318_0_116  x1 w = some z → mRun mTab (d + 4) 318 [.ref 0, .int x1, .ref 116] (mK w) (nQi z.1, mK z.2) := by
  unfold f318_0_116
  exact mRun_of (d := d + 3) (M := mM318) rfl rfl (mFit_of (rg := [some (.ref 0), some (.int x1), some (.ref 116), none]) ⟨rfl, rfl, rfl, trivial⟩) (sGo hb318_0 (sAl1 rfl rfl (sIc kI_0 (sAl1 rfl rfl (sIl1 rfl (sXh (f154_0_ok (d + 0)  x1  w) (mIv_vt (rest := [.int 0, .ref 116]) c0 rfl rfl rfl) rfl (fun v1 w2 => (sI2l (sLt2 c116 g_0_1 (sLetW fun w3 => (sGt (t := 15) rfl (sGo hb318_15 (sIc kI_0 (sRt rfl)))))))) (nHn1 (nHn_mk (h := 12) [some (.ref 0), some (.int x1), some (.ref 116), none] rfl (by rfl) rfl rfl rfl fun w4 => (sGo hb318_13 (sIc kI_1 (sRt rfl)))))))))))
-- LaneEyesLaw.more(LLaneEyes;I[J)I (('r', 0), ('i',), ('r', 116))
def f319_0_116  (x1 : Int32) (w : mW) : Option (Int32 × mW) := (nXh (f155_0  x1 w) (fun v1 w2 => (nLet (nSJ w2 116 0 v1.toInt64) fun w3 => (some (0, w3)))) (fun x5 w6 => if x5 = 0 then (fun w4 => (some (1, w4))) w6 else none))
set_option maxRecDepth 8000 in
theorem f319_0_116_ok (d : Nat)   (x1 : Int32)  (w : mW) : ∀ z, f319_0_116  x1 w = some z → mRun mTab (d + 3) 319 [.ref 0, .int x1, .ref 116] (mK w) (nQi z.1, mK z.2) := by
  unfold f319_0_116
  exact mRun_of (d := d + 2) (M := mM319) rfl rfl (mFit_of (rg := [some (.ref 0), some (.int x1), some (.ref 116), none]) ⟨rfl, rfl, rfl, trivial⟩) (sGo hb319_0 (sAl1 rfl rfl (sIc kI_0 (sAl1 rfl rfl (sIl1 rfl (sXh (f155_0_ok (d + 0)  x1  w) (mIv_vt (rest := [.int 0, .ref 116]) c0 rfl rfl rfl) rfl (fun v1 w2 => (sI2l (sLt2 c116 g_0_1 (sLetW fun w3 => (sGt (t := 15) rfl (sGo hb319_15 (sIc kI_0 (sRt rfl)))))))) (nHn1 (nHn_mk (h := 12) [some (.ref 0), some (.int x1), some (.ref 116), none] rfl (by rfl) rfl rfl rfl fun w4 => (sGo hb319_13 (sIc kI_1 (sRt rfl)))))))))))
-- LaneEyesLaw.missing(LLaneEyes;I[J)I (('r', 0), ('i',), ('r', 116))
def f320_0_116  (x1 : Int32) (w : mW) : Option (Int32 × mW) := (nXh (f158_0  x1 w) (fun v1 w2 => (nLet (nSJ w2 116 0 v1.toInt64) fun w3 => (some (0, w3)))) (fun x5 w6 => if x5 = 1 then (fun w4 => (some (1, w4))) w6 else none))
set_option maxRecDepth 8000 in
theorem f320_0_116_ok (d : Nat)   (x1 : Int32)  (w : mW) : ∀ z, f320_0_116  x1 w = some z → mRun mTab (d + 5) 320 [.ref 0, .int x1, .ref 116] (mK w) (nQi z.1, mK z.2) := by
  unfold f320_0_116
  exact mRun_of (d := d + 4) (M := mM320) rfl rfl (mFit_of (rg := [some (.ref 0), some (.int x1), some (.ref 116), none]) ⟨rfl, rfl, rfl, trivial⟩) (sGo hb320_0 (sAl1 rfl rfl (sIc kI_0 (sAl1 rfl rfl (sIl1 rfl (sXh (f158_0_ok (d + 0)  x1  w) (mIv_vt (rest := [.int 0, .ref 116]) c0 rfl rfl rfl) rfl (fun v1 w2 => (sI2l (sLt2 c116 g_0_1 (sLetW fun w3 => (sGt (t := 15) rfl (sGo hb320_15 (sIc kI_0 (sRt rfl)))))))) (nHn1 (nHn_mk (h := 12) [some (.ref 0), some (.int x1), some (.ref 116), none] rfl (by rfl) rfl rfl rfl fun w4 => (sGo hb320_13 (sIc kI_1 (sRt rfl)))))))))))
-- LaneEyesLaw.week(LLaneEyes;III[J)I (('r', 0), ('i',), ('i',), ('i',), ('r', 116))
def f321_0_116  (x1 : Int32) (x2 : Int32) (x3 : Int32) (w : mW) : Option (Int32 × mW) := (nXh (f159_0  x1 x2 x3 w) (fun v1 w2 => (nLet (nSJ w2 116 0 v1.toInt64) fun w3 => (some (0, w3)))) (fun x6 w7 => if x6 = 1 then (fun w4 => (some (1, w4))) w7 else if x6 = 0 then (fun w5 => (some (2, w5))) w7 else none))
set_option maxRecDepth 8000 in
theorem f321_0_116_ok (d : Nat)   (x1 : Int32) (x2 : Int32) (x3 : Int32)  (w : mW) : ∀ z, f321_0_116  x1 x2 x3 w = some z → mRun mTab (d + 7) 321 [.ref 0, .int x1, .int x2, .int x3, .ref 116] (mK w) (nQi z.1, mK z.2) := by
  unfold f321_0_116
  exact mRun_of (d := d + 6) (M := mM321) rfl rfl (mFit_of (rg := [some (.ref 0), some (.int x1), some (.int x2), some (.int x3), some (.ref 116), none]) ⟨rfl, rfl, rfl, rfl, rfl, trivial⟩) (sGo hb321_0 (sAl rfl rfl (sIc kI_0 (sAl1 rfl rfl (sIl1 rfl (sIl1 rfl (sIl1 rfl (sXh (f159_0_ok (d + 0)  x1 x2 x3  w) (mIv_vt (rest := [.int 0, .ref 116]) c0 rfl rfl rfl) rfl (fun v1 w2 => (sI2l (sLt2 c116 g_0_1 (sLetW fun w3 => (sGt (t := 23) rfl (sGo hb321_23 (sIc kI_0 (sRt rfl)))))))) (nHn2 (nHn_mk2 (h := 15) [some (.ref 0), some (.int x1), some (.int x2), some (.int x3), some (.ref 116), none] rfl (by rfl) rfl rfl rfl fun w4 => (sGo hb321_17 (sIc kI_1 (sRt rfl)))) (nHn_mk2 (h := 19) [some (.ref 0), some (.int x1), some (.int x2), some (.int x3), some (.ref 116), none] rfl (by rfl) rfl rfl rfl fun w5 => (sGo hb321_21 (sIc kI_2 (sRt rfl)))))))))))))
-- LaneEyesLaw.without(LLaneEyes;I[J)I (('r', 0), ('i',), ('r', 116))
def f322_0_116  (x1 : Int32) (w : mW) : Option (Int32 × mW) := (nXh (f161_0  x1 w) (fun v1 w2 => (nLet (nSJ w2 116 0 v1.toInt64) fun w3 => (some (0, w3)))) (fun x5 w6 => if x5 = 1 then (fun w4 => (some (1, w4))) w6 else none))
set_option maxRecDepth 8000 in
theorem f322_0_116_ok (d : Nat)   (x1 : Int32)  (w : mW) : ∀ z, f322_0_116  x1 w = some z → mRun mTab (d + 7) 322 [.ref 0, .int x1, .ref 116] (mK w) (nQi z.1, mK z.2) := by
  unfold f322_0_116
  exact mRun_of (d := d + 6) (M := mM322) rfl rfl (mFit_of (rg := [some (.ref 0), some (.int x1), some (.ref 116), none]) ⟨rfl, rfl, rfl, trivial⟩) (sGo hb322_0 (sAl1 rfl rfl (sIc kI_0 (sAl1 rfl rfl (sIl1 rfl (sXh (f161_0_ok (d + 0)  x1  w) (mIv_vt (rest := [.int 0, .ref 116]) c0 rfl rfl rfl) rfl (fun v1 w2 => (sI2l (sLt2 c116 g_0_1 (sLetW fun w3 => (sGt (t := 15) rfl (sGo hb322_15 (sIc kI_0 (sRt rfl)))))))) (nHn1 (nHn_mk (h := 12) [some (.ref 0), some (.int x1), some (.ref 116), none] rfl (by rfl) rfl rfl rfl fun w4 => (sGo hb322_13 (sIc kI_1 (sRt rfl)))))))))))
-- LaneEyesLaw.risk(LLaneEyes;I[J)I (('r', 0), ('i',), ('r', 116))
def f323_0_116  (x1 : Int32) (w : mW) : Option (Int32 × mW) := (nXh (f162_0  x1 w) (fun v1 w2 => (nLet (nSJ w2 116 0 v1.toInt64) fun w3 => (some (0, w3)))) (fun x5 w6 => if x5 = 1 then (fun w4 => (some (1, w4))) w6 else none))
set_option maxRecDepth 8000 in
theorem f323_0_116_ok (d : Nat)   (x1 : Int32)  (w : mW) : ∀ z, f323_0_116  x1 w = some z → mRun mTab (d + 8) 323 [.ref 0, .int x1, .ref 116] (mK w) (nQi z.1, mK z.2) := by
  unfold f323_0_116
  exact mRun_of (d := d + 7) (M := mM323) rfl rfl (mFit_of (rg := [some (.ref 0), some (.int x1), some (.ref 116), none]) ⟨rfl, rfl, rfl, trivial⟩) (sGo hb323_0 (sAl1 rfl rfl (sIc kI_0 (sAl1 rfl rfl (sIl1 rfl (sXh (f162_0_ok (d + 0)  x1  w) (mIv_vt (rest := [.int 0, .ref 116]) c0 rfl rfl rfl) rfl (fun v1 w2 => (sI2l (sLt2 c116 g_0_1 (sLetW fun w3 => (sGt (t := 15) rfl (sGo hb323_15 (sIc kI_0 (sRt rfl)))))))) (nHn1 (nHn_mk (h := 12) [some (.ref 0), some (.int x1), some (.ref 116), none] rfl (by rfl) rfl rfl rfl fun w4 => (sGo hb323_13 (sIc kI_1 (sRt rfl)))))))))))
