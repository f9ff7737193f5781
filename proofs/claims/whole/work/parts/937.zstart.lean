/-! ===== THE BEGINNING: the kernel reckons ===== -/
def z00 : zP := (0, 0, [], [], [], [])
def zGo : Option zT := zPre (zRun 20) mM324 23 40 (0, [(0, .ref 2000000)], [], z00)
def vRef (o : Option Value) (k : Nat) : Bool := match o with
  | some (.ref b) => decide (b = k)
  | _ => false
def vInt (o : Option Value) (x : Int32) : Bool := match o with
  | some (.int b) => decide (b = x)
  | _ => false
def zF : List (Nat × Nat × Int32) := [(80, 1, nI 8), (80, 2, nI 5), (80, 3, nI 0), (80, 4, nI 0), (80, 5, nI 60), (80, 6, nI 20), (80, 7, nI 0), (80, 8, nI 0), (80, 9, -nI 1), (80, 10, -nI 1), (100, 36, nI 0), (100, 37, nI 0), (80, 66, nI 0), (80, 63, nI 0), (80, 74, nI 0), (80, 75, nI 0), (80, 79, nI 0), (80, 18, nI 0), (80, 20, -nI 1), (24, 0, nI 8), (24, 1, nI 5), (24, 4, nI 0), (24, 6, nI 0), (24, 7, nI 60), (24, 8, nI 20), (24, 9, nI 0), (24, 10, nI 0), (24, 12, nI 0), (34, 1, nI 0), (34, 4, nI 0), (34, 5, nI 0), (34, 7, nI 0), (34, 9, nI 0), (29, 5, nI 0), (31, 0, nI 0), (32, 0, nI 0), (31, 1, nI 0), (32, 1, nI 0), (0, 1, nI 0), (0, 2, -nI 1), (0, 3, nI 0), (0, 4, nI 0), (0, 5, nI 0), (0, 11, nI 0), (0, 15, nI 0), (88, 0, nI 0), (88, 1, nI 0), (88, 2, nI 0), (80, 71, -nI 1)]
def zCk1 (T : zT) : Bool := decide (T.1 = 23) && T.2.2.1.isEmpty && vRef (mGet T.2.1 0) 2000000 && vRef (mGet T.2.1 1) 0 && vRef (mGet T.2.1 2) 80 && vRef (mGet T.2.1 3) 116 && vInt (mGet T.2.1 4) 0 && decide (zN T.2.2.2 = 117) && (List.range 117).all (fun k => decide (zSh T.2.2.2 k = nSh k)) && decide (T.2.2.2.1 ≤ 1000) && decide (T.2.2.2.2.1 ≤ 100000)
def zCk2 (T : zT) : Bool := (List.range 117).all (fun k => if (nSh k).1 < 100 ∨ (nSh k).1 = 104 then (List.range (nSh k).2).all (fun j => decide (lkp none k j T.2.2.2.2.2.2.2.2 = nP0 k j) || decide (k = 21 ∧ (j = 0 ∨ j = 5))) else true)
def zCk3 (T : zT) : Bool := zF.all (fun q => decide (lkp 0 q.1 q.2.1 T.2.2.2.2.2.2.1 = q.2.2)) && (List.range 40).all (fun c => decide (lkp 0 81 c T.2.2.2.2.2.2.1 = nI 3) && decide (lkp 0 82 c T.2.2.2.2.2.2.1 = nI 0) && decide (lkp 0 25 c T.2.2.2.2.2.2.1 = nI 3) && decide (lkp 0 26 c T.2.2.2.2.2.2.1 = nI 0))
set_option maxRecDepth 100000 in
theorem zGo_ck1 : (match zGo with | some T => zCk1 T | none => false) = true := by decide +kernel
set_option maxRecDepth 100000 in
theorem zGo_ck2 : (match zGo with | some T => zCk2 T | none => false) = true := by decide +kernel
set_option maxRecDepth 100000 in
theorem zGo_ck3 : (match zGo with | some T => zCk3 T | none => false) = true := by decide +kernel
