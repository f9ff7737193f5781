/-! ===== WHAT THE START GIVES: the old world ===== -/
def eNm : List String := ["POOL", "DEEP", "GLARE", "SWIMMER", "CHAIR", "LOOK", "LAST", "TIRE", "CASE", "NEEDS", "TROUBLE", "GAME", "FUN", "OR", "AND", "NOT", "DEPTH", "FAR", "CROWD", "TIRED", "SKILL", "LEGS", "MOUTH", "WAVES", "SCREAMS"]
def eSx : List Nat := [122, 128, 131, 134, 137, 140, 143, 146, 149, 152, 155, 158, 161, 164, 167, 170, 173, 176, 179, 182, 185, 188, 191, 194, 197]
abbrev eW (i : Nat) : Term := .static "LaneEyes$Word" (eNm.getD i "") "LLaneEyes$Word;"
abbrev eS (i : Nat) : Term := .string "LaneEyes$Word" (eSx.getD i 0)
abbrev eV (i : Nat) : Term := .field (eS i) "java/lang/String" "value" "[B"
abbrev eWd : Term := .static "LaneEyes" "WORDS" "[LLaneEyes$Word;"
abbrev eSm : Term := .static "LaneEyes$1" "$SwitchMap$LaneEyes$Word" "[I"
abbrev eSi : Term := .static "jdk/internal/util/Preconditions" "SIOOBE_FORMATTER" "Ljava/util/function/BiFunction;"
def cAt : List Bool → Cond → Cond
  | [], c => c
  | b :: t, c => match c with
    | .and x y => cAt t (match b with | true => y | false => x)
    | c => c
abbrev stC : Cond := Jvm.Cond.and given_1 narrow_1
section EOF1
variable {args : Array Value} {s : State}
theorem cAt_ok : ∀ (p : List Bool) (T : Cond), T.before args s = true → (cAt p T).before args s = true
  | [], _, h => h
  | b :: t, T, h => by
    cases T with
    | and x y =>
      rw [Cond.before_and, Bool.and_eq_true] at h
      cases b with
      | false => exact cAt_ok t x h.1
      | true => exact cAt_ok t y h.2
    | _ => exact h
theorem eOf (hT : stC.before args s = true) (p : List Bool) {c : Cond} (h : cAt p stC = c) : c.before args s = true := by
  subst h; exact cAt_ok p stC hT
theorem e_ex (hT : stC.before args s = true) : ∀ i : Nat, i < 25 → (Cond.exactly (eW i) "LaneEyes$Word").before args s = true
  | 0, _ => eOf hT [true, false, false, false, false, true, false, true, true, false, false] rfl
  | 1, _ => eOf hT [true, false, false, false, true, true, true, true, false, true, true] rfl
  | 2, _ => eOf hT [true, false, false, true, false, false, false, false, true, true, true] rfl
  | 3, _ => eOf hT [true, false, false, true, false, false, true, false, true, false, true] rfl
  | 4, _ => eOf hT [true, false, false, true, false, true, false, false, false, true, true] rfl
  | 5, _ => eOf hT [true, false, false, true, false, true, true, false, false, true, true] rfl
  | 6, _ => eOf hT [true, false, false, true, true, false, false, false, false, true, true] rfl
  | 7, _ => eOf hT [true, false, false, true, true, false, true, false, true, false, true] rfl
  | 8, _ => eOf hT [true, false, false, true, true, true, false, false, true, true, true] rfl
  | 9, _ => eOf hT [true, false, false, true, true, true, true, true, false, true, false] rfl
  | 10, _ => eOf hT [true, false, false, false, true, false, true, false, false, false] rfl
  | 11, _ => eOf hT [true, false, true, false, false, false, false, true, true, true, true] rfl
  | 12, _ => eOf hT [true, false, false, false, true, false, true, false, true, true, true] rfl
  | 13, _ => eOf hT [true, false, false, false, true, true, true, false, false, false] rfl
  | 14, _ => eOf hT [true, false, false, false, true, true, false, false, true, true, true] rfl
  | 15, _ => eOf hT [true, false, false, false, true, false, true, true, true, true, false] rfl
  | 16, _ => eOf hT [true, false, true, false, false, true, false, false, true, false, true] rfl
  | 17, _ => eOf hT [true, false, true, false, false, true, true, true, true, false, false] rfl
  | 18, _ => eOf hT [true, false, true, false, true, false, true, false, true, false, true] rfl
  | 19, _ => eOf hT [true, false, true, false, true, true, false, true, true, false, true] rfl
  | 20, _ => eOf hT [true, false, true, true, false, false, false, false, true, true, true] rfl
  | 21, _ => eOf hT [true, false, true, true, false, true, false, false, false, true, true] rfl
  | 22, _ => eOf hT [true, false, true, true, false, true, true, true, true, true, false] rfl
  | 23, _ => eOf hT [true, false, true, true, true, false, true, true, true, false, false] rfl
  | 24, _ => eOf hT [true, false, true, true, true, true, true, true, false, true, false] rfl
  | n + 25, h => absurd h (by omega)
theorem e_o0 (hT : stC.before args s = true) : ∀ i : Nat, i < 25 → (Cond.eq (.field (eW i) "java/lang/Enum" "ordinal" "I") (.int (Int32.ofNat i))).before args s = true
  | 0, _ => eOf hT [true, false, false, false, false, true, false, true, true, false, true] rfl
  | 1, _ => eOf hT [true, false, false, false, true, true, true, true, true, false, false] rfl
  | 2, _ => eOf hT [true, false, false, true, false, false, false, true, false, false] rfl
  | 3, _ => eOf hT [true, false, false, true, false, false, true, false, true, true, false] rfl
  | 4, _ => eOf hT [true, false, false, true, false, true, false, false, true, false, false] rfl
  | 5, _ => eOf hT [true, false, false, true, false, true, true, false, true, false, false] rfl
  | 6, _ => eOf hT [true, false, false, true, true, false, false, false, true, false, false] rfl
  | 7, _ => eOf hT [true, false, false, true, true, false, true, false, true, true, false] rfl
  | 8, _ => eOf hT [true, false, false, true, true, true, false, true, false, false, false] rfl
  | 9, _ => eOf hT [true, false, false, true, true, true, true, true, false, true, true] rfl
  | 10, _ => eOf hT [true, false, false, false, true, false, true, false, false, true, false] rfl
  | 11, _ => eOf hT [true, false, true, false, false, false, true, false, false, false] rfl
  | 12, _ => eOf hT [true, false, false, false, true, false, true, true, false, false, false] rfl
  | 13, _ => eOf hT [true, false, false, false, true, true, true, false, false, true, false] rfl
  | 14, _ => eOf hT [true, false, false, false, true, true, false, true, false, false, false] rfl
  | 15, _ => eOf hT [true, false, false, false, true, false, true, true, true, true, true] rfl
  | 16, _ => eOf hT [true, false, true, false, false, true, false, false, true, true, false] rfl
  | 17, _ => eOf hT [true, false, true, false, false, true, true, true, true, false, true] rfl
  | 18, _ => eOf hT [true, false, true, false, true, false, true, false, true, true, false] rfl
  | 19, _ => eOf hT [true, false, true, false, true, true, false, true, true, true, false] rfl
  | 20, _ => eOf hT [true, false, true, true, false, false, false, true, false, false] rfl
  | 21, _ => eOf hT [true, false, true, true, false, true, false, false, true, false, false] rfl
  | 22, _ => eOf hT [true, false, true, true, false, true, true, true, true, true, true] rfl
  | 23, _ => eOf hT [true, false, true, true, true, false, true, true, true, false, true] rfl
  | 24, _ => eOf hT [true, false, true, true, true, true, true, true, false, true, true] rfl
  | n + 25, h => absurd h (by omega)
theorem e_o1 (hT : stC.before args s = true) : ∀ i : Nat, i < 25 → (Cond.eq (.field (eW i) "LaneEyes$Word" "value" "I") (.int (oVal.getD i 0))).before args s = true
  | 0, _ => eOf hT [true, false, false, false, false, true, false, true, true, true, true] rfl
  | 1, _ => eOf hT [true, false, false, false, true, true, true, true, true, true, false] rfl
  | 2, _ => eOf hT [true, false, false, true, false, false, false, true, false, true, true] rfl
  | 3, _ => eOf hT [true, false, false, true, false, false, true, true, false, false, false] rfl
  | 4, _ => eOf hT [true, false, false, true, false, true, false, false, true, true, false] rfl
  | 5, _ => eOf hT [true, false, false, true, false, true, true, false, true, true, false] rfl
  | 6, _ => eOf hT [true, false, false, true, true, false, false, false, true, true, false] rfl
  | 7, _ => eOf hT [true, false, false, true, true, false, true, true, false, false, false] rfl
  | 8, _ => eOf hT [true, false, false, true, true, true, false, true, false, true, false] rfl
  | 9, _ => eOf hT [true, false, false, true, true, true, true, true, true, false, true] rfl
  | 10, _ => eOf hT [true, false, false, false, true, false, true, false, true, false, false] rfl
  | 11, _ => eOf hT [true, false, true, false, false, false, true, false, false, true, true] rfl
  | 12, _ => eOf hT [true, false, false, false, true, false, true, true, false, true, false] rfl
  | 13, _ => eOf hT [true, false, false, false, true, true, true, false, true, false, false] rfl
  | 14, _ => eOf hT [true, false, false, false, true, true, false, true, false, true, false] rfl
  | 15, _ => eOf hT [true, false, false, false, true, true, false, false, false, true, false] rfl
  | 16, _ => eOf hT [true, false, true, false, false, true, false, true, false, false] rfl
  | 17, _ => eOf hT [true, false, true, false, false, true, true, true, true, true, true] rfl
  | 18, _ => eOf hT [true, false, true, false, true, false, true, true, false, false, false] rfl
  | 19, _ => eOf hT [true, false, true, false, true, true, true, false, false, false] rfl
  | 20, _ => eOf hT [true, false, true, true, false, false, false, true, false, true, true] rfl
  | 21, _ => eOf hT [true, false, true, true, false, true, false, false, true, true, false] rfl
  | 22, _ => eOf hT [true, false, true, true, true, false, false, false, false, true, false] rfl
  | 23, _ => eOf hT [true, false, true, true, true, false, true, true, true, true, true] rfl
  | 24, _ => eOf hT [true, false, true, true, true, true, true, true, true, false, true] rfl
  | n + 25, h => absurd h (by omega)
theorem e_o2 (hT : stC.before args s = true) : ∀ i : Nat, i < 25 → (Cond.eq (.field (eW i) "LaneEyes$Word" "rules" "I") (.int (oRul.getD i 0))).before args s = true
  | 0, _ => eOf hT [true, false, false, false, false, true, true, false, false, false] rfl
  | 1, _ => eOf hT [true, false, false, false, true, true, true, true, true, true, true] rfl
  | 2, _ => eOf hT [true, false, false, true, false, false, false, true, true, false, false] rfl
  | 3, _ => eOf hT [true, false, false, true, false, false, true, true, false, false, true] rfl
  | 4, _ => eOf hT [true, false, false, true, false, true, false, false, true, true, true] rfl
  | 5, _ => eOf hT [true, false, false, true, false, true, true, false, true, true, true] rfl
  | 6, _ => eOf hT [true, false, false, true, true, false, false, false, true, true, true] rfl
  | 7, _ => eOf hT [true, false, false, true, true, false, true, true, false, false, true] rfl
  | 8, _ => eOf hT [true, false, false, true, true, true, false, true, false, true, true] rfl
  | 9, _ => eOf hT [true, false, false, true, true, true, true, true, true, true, false] rfl
  | 10, _ => eOf hT [true, false, false, false, true, false, true, false, true, false, true] rfl
  | 11, _ => eOf hT [true, false, true, false, false, false, true, false, true, false, false] rfl
  | 12, _ => eOf hT [true, false, false, false, true, false, true, true, false, true, true] rfl
  | 13, _ => eOf hT [true, false, false, false, true, true, true, false, true, false, true] rfl
  | 14, _ => eOf hT [true, false, false, false, true, true, false, true, false, true, true] rfl
  | 15, _ => eOf hT [true, false, false, false, true, true, false, false, false, true, true] rfl
  | 16, _ => eOf hT [true, false, true, false, false, true, false, true, false, true, false] rfl
  | 17, _ => eOf hT [true, false, true, false, true, false, false, false, false, false] rfl
  | 18, _ => eOf hT [true, false, true, false, true, false, true, true, false, false, true] rfl
  | 19, _ => eOf hT [true, false, true, false, true, true, true, false, false, true, false] rfl
  | 20, _ => eOf hT [true, false, true, true, false, false, false, true, true, false, false] rfl
  | 21, _ => eOf hT [true, false, true, true, false, true, false, false, true, true, true] rfl
  | 22, _ => eOf hT [true, false, true, true, true, false, false, false, false, true, true] rfl
  | 23, _ => eOf hT [true, false, true, true, true, true, false, false, false, false] rfl
  | 24, _ => eOf hT [true, false, true, true, true, true, true, true, true, true, false] rfl
  | n + 25, h => absurd h (by omega)
theorem e_o3 (hT : stC.before args s = true) : ∀ i : Nat, i < 25 → (Cond.eq (.field (eW i) "LaneEyes$Word" "letters" "Ljava/lang/String;") (eS i)).before args s = true
  | 0, _ => eOf hT [true, false, false, false, false, true, false, true, true, true, false] rfl
  | 1, _ => eOf hT [true, false, false, false, true, true, true, true, true, false, true] rfl
  | 2, _ => eOf hT [true, false, false, true, false, false, false, true, false, true, false] rfl
  | 3, _ => eOf hT [true, false, false, true, false, false, true, false, true, true, true] rfl
  | 4, _ => eOf hT [true, false, false, true, false, true, false, false, true, false, true] rfl
  | 5, _ => eOf hT [true, false, false, true, false, true, true, false, true, false, true] rfl
  | 6, _ => eOf hT [true, false, false, true, true, false, false, false, true, false, true] rfl
  | 7, _ => eOf hT [true, false, false, true, true, false, true, false, true, true, true] rfl
  | 8, _ => eOf hT [true, false, false, true, true, true, false, true, false, false, true] rfl
  | 9, _ => eOf hT [true, false, false, true, true, true, true, true, true, false, false] rfl
  | 10, _ => eOf hT [true, false, false, false, true, false, true, false, false, true, true] rfl
  | 11, _ => eOf hT [true, false, true, false, false, false, true, false, false, true, false] rfl
  | 12, _ => eOf hT [true, false, false, false, true, false, true, true, false, false, true] rfl
  | 13, _ => eOf hT [true, false, false, false, true, true, true, false, false, true, true] rfl
  | 14, _ => eOf hT [true, false, false, false, true, true, false, true, false, false, true] rfl
  | 15, _ => eOf hT [true, false, false, false, true, true, false, false, false, false] rfl
  | 16, _ => eOf hT [true, false, true, false, false, true, false, false, true, true, true] rfl
  | 17, _ => eOf hT [true, false, true, false, false, true, true, true, true, true, false] rfl
  | 18, _ => eOf hT [true, false, true, false, true, false, true, false, true, true, true] rfl
  | 19, _ => eOf hT [true, false, true, false, true, true, false, true, true, true, true] rfl
  | 20, _ => eOf hT [true, false, true, true, false, false, false, true, false, true, false] rfl
  | 21, _ => eOf hT [true, false, true, true, false, true, false, false, true, false, true] rfl
  | 22, _ => eOf hT [true, false, true, true, true, false, false, false, false, false] rfl
  | 23, _ => eOf hT [true, false, true, true, true, false, true, true, true, true, false] rfl
  | 24, _ => eOf hT [true, false, true, true, true, true, true, true, true, false, false] rfl
  | n + 25, h => absurd h (by omega)
theorem e_se (hT : stC.before args s = true) : ∀ i : Nat, i < 25 → (Cond.exactly (eS i) "java/lang/String").before args s = true
  | 0, _ => eOf hT [true, true, true, false, false, false, true, true, false, false, true] rfl
  | 1, _ => eOf hT [true, true, true, false, true, false, false, true, true, false, false] rfl
  | 2, _ => eOf hT [true, true, true, false, true, false, true, false, true, false, true] rfl
  | 3, _ => eOf hT [true, true, true, false, true, false, true, true, true, true, false] rfl
  | 4, _ => eOf hT [true, true, true, false, true, true, false, true, false, true, false] rfl
  | 5, _ => eOf hT [true, true, true, false, true, true, true, false, true, false, false] rfl
  | 6, _ => eOf hT [true, true, true, false, true, true, true, true, true, false, false] rfl
  | 7, _ => eOf hT [true, true, true, true, false, false, false, false, true, false, true] rfl
  | 8, _ => eOf hT [true, true, true, true, false, false, false, true, true, true, false] rfl
  | 9, _ => eOf hT [true, true, true, true, false, false, true, false, true, true, true] rfl
  | 10, _ => eOf hT [true, true, true, false, false, true, false, false, false, true, false] rfl
  | 11, _ => eOf hT [true, true, true, true, false, true, false, false, false, false] rfl
  | 12, _ => eOf hT [true, true, true, false, false, true, false, true, true, true, false] rfl
  | 13, _ => eOf hT [true, true, true, false, true, false, false, false, true, false, true] rfl
  | 14, _ => eOf hT [true, true, true, false, false, true, true, true, true, false, true] rfl
  | 15, _ => eOf hT [true, true, true, false, false, true, true, false, true, true, false] rfl
  | 16, _ => eOf hT [true, true, true, true, false, true, false, true, false, false, true] rfl
  | 17, _ => eOf hT [true, true, true, true, false, true, true, false, false, true, true] rfl
  | 18, _ => eOf hT [true, true, true, true, false, true, true, true, false, true, false] rfl
  | 19, _ => eOf hT [true, true, true, true, true, false, false, false, true, false, false] rfl
  | 20, _ => eOf hT [true, true, true, true, true, false, false, true, true, true, false] rfl
  | 21, _ => eOf hT [true, true, true, true, true, false, true, true, false, false, false] rfl
  | 22, _ => eOf hT [true, true, true, true, true, true, false, false, false, false] rfl
  | 23, _ => eOf hT [true, true, true, true, true, true, false, true, false, true, false] rfl
  | 24, _ => eOf hT [true, true, true, true, true, true, true, false, true, false, false] rfl
  | n + 25, h => absurd h (by omega)
theorem e_sc (hT : stC.before args s = true) : ∀ i : Nat, i < 25 → (Cond.eq (.field (eS i) "java/lang/String" "coder" "B") (.int 0)).before args s = true
  | 0, _ => eOf hT [true, true, true, false, false, false, true, true, false, true, false] rfl
  | 1, _ => eOf hT [true, true, true, false, true, false, false, true, true, false, true] rfl
  | 2, _ => eOf hT [true, true, true, false, true, false, true, false, true, true, false] rfl
  | 3, _ => eOf hT [true, true, true, false, true, false, true, true, true, true, true] rfl
  | 4, _ => eOf hT [true, true, true, false, true, true, false, true, false, true, true] rfl
  | 5, _ => eOf hT [true, true, true, false, true, true, true, false, true, false, true] rfl
  | 6, _ => eOf hT [true, true, true, false, true, true, true, true, true, false, true] rfl
  | 7, _ => eOf hT [true, true, true, true, false, false, false, false, true, true, false] rfl
  | 8, _ => eOf hT [true, true, true, true, false, false, false, true, true, true, true] rfl
  | 9, _ => eOf hT [true, true, true, true, false, false, true, true, false, false, false] rfl
  | 10, _ => eOf hT [true, true, true, false, false, true, false, false, false, true, true] rfl
  | 11, _ => eOf hT [true, true, true, true, false, true, false, false, false, true, false] rfl
  | 12, _ => eOf hT [true, true, true, false, false, true, false, true, true, true, true] rfl
  | 13, _ => eOf hT [true, true, true, false, true, false, false, false, true, true, false] rfl
  | 14, _ => eOf hT [true, true, true, false, false, true, true, true, true, true, false] rfl
  | 15, _ => eOf hT [true, true, true, false, false, true, true, false, true, true, true] rfl
  | 16, _ => eOf hT [true, true, true, true, false, true, false, true, false, true, false] rfl
  | 17, _ => eOf hT [true, true, true, true, false, true, true, false, true, false, false] rfl
  | 18, _ => eOf hT [true, true, true, true, false, true, true, true, false, true, true] rfl
  | 19, _ => eOf hT [true, true, true, true, true, false, false, false, true, false, true] rfl
  | 20, _ => eOf hT [true, true, true, true, true, false, false, true, true, true, true] rfl
  | 21, _ => eOf hT [true, true, true, true, true, false, true, true, false, false, true] rfl
  | 22, _ => eOf hT [true, true, true, true, true, true, false, false, false, true, false] rfl
  | 23, _ => eOf hT [true, true, true, true, true, true, false, true, false, true, true] rfl
  | 24, _ => eOf hT [true, true, true, true, true, true, true, false, true, false, true] rfl
  | n + 25, h => absurd h (by omega)
theorem e_sa (hT : stC.before args s = true) : ∀ i : Nat, i < 25 → (Cond.arrayOf (eV i) .byte).before args s = true
  | 0, _ => eOf hT [true, true, true, false, false, false, true, true, false, true, true] rfl
  | 1, _ => eOf hT [true, true, true, false, true, false, false, true, true, true, false] rfl
  | 2, _ => eOf hT [true, true, true, false, true, false, true, false, true, true, true] rfl
  | 3, _ => eOf hT [true, true, true, false, true, true, false, false, false, false] rfl
  | 4, _ => eOf hT [true, true, true, false, true, true, false, true, true, false, false] rfl
  | 5, _ => eOf hT [true, true, true, false, true, true, true, false, true, true, false] rfl
  | 6, _ => eOf hT [true, true, true, false, true, true, true, true, true, true, false] rfl
  | 7, _ => eOf hT [true, true, true, true, false, false, false, false, true, true, true] rfl
  | 8, _ => eOf hT [true, true, true, true, false, false, true, false, false, false] rfl
  | 9, _ => eOf hT [true, true, true, true, false, false, true, true, false, false, true] rfl
  | 10, _ => eOf hT [true, true, true, false, false, true, false, false, true, false, false] rfl
  | 11, _ => eOf hT [true, true, true, true, false, true, false, false, false, true, true] rfl
  | 12, _ => eOf hT [true, true, true, false, false, true, true, false, false, false] rfl
  | 13, _ => eOf hT [true, true, true, false, true, false, false, false, true, true, true] rfl
  | 14, _ => eOf hT [true, true, true, false, false, true, true, true, true, true, true] rfl
  | 15, _ => eOf hT [true, true, true, false, false, true, true, true, false, false, false] rfl
  | 16, _ => eOf hT [true, true, true, true, false, true, false, true, false, true, true] rfl
  | 17, _ => eOf hT [true, true, true, true, false, true, true, false, true, false, true] rfl
  | 18, _ => eOf hT [true, true, true, true, false, true, true, true, true, false, false] rfl
  | 19, _ => eOf hT [true, true, true, true, true, false, false, false, true, true, false] rfl
  | 20, _ => eOf hT [true, true, true, true, true, false, true, false, false, false] rfl
  | 21, _ => eOf hT [true, true, true, true, true, false, true, true, false, true, false] rfl
  | 22, _ => eOf hT [true, true, true, true, true, true, false, false, false, true, true] rfl
  | 23, _ => eOf hT [true, true, true, true, true, true, false, true, true, false, false] rfl
  | 24, _ => eOf hT [true, true, true, true, true, true, true, false, true, true, false] rfl
  | n + 25, h => absurd h (by omega)
theorem e_sl (hT : stC.before args s = true) : ∀ i : Nat, i < 25 → (Cond.eq (.length (eV i)) (.int (Int32.ofNat (oByt.getD i []).length))).before args s = true
  | 0, _ => eOf hT [true, true, true, false, false, false, true, true, true, false, false] rfl
  | 1, _ => eOf hT [true, true, true, false, true, false, false, true, true, true, true] rfl
  | 2, _ => eOf hT [true, true, true, false, true, false, true, true, false, false, false] rfl
  | 3, _ => eOf hT [true, true, true, false, true, true, false, false, false, true, false] rfl
  | 4, _ => eOf hT [true, true, true, false, true, true, false, true, true, false, true] rfl
  | 5, _ => eOf hT [true, true, true, false, true, true, true, false, true, true, true] rfl
  | 6, _ => eOf hT [true, true, true, false, true, true, true, true, true, true, true] rfl
  | 7, _ => eOf hT [true, true, true, true, false, false, false, true, false, false] rfl
  | 8, _ => eOf hT [true, true, true, true, false, false, true, false, false, true, false] rfl
  | 9, _ => eOf hT [true, true, true, true, false, false, true, true, false, true, false] rfl
  | 10, _ => eOf hT [true, true, true, false, false, true, false, false, true, false, true] rfl
  | 11, _ => eOf hT [true, true, true, true, false, true, false, false, true, false, false] rfl
  | 12, _ => eOf hT [true, true, true, false, false, true, true, false, false, true, false] rfl
  | 13, _ => eOf hT [true, true, true, false, true, false, false, true, false, false] rfl
  | 14, _ => eOf hT [true, true, true, false, true, false, false, false, false, false] rfl
  | 15, _ => eOf hT [true, true, true, false, false, true, true, true, false, false, true] rfl
  | 16, _ => eOf hT [true, true, true, true, false, true, false, true, true, false, false] rfl
  | 17, _ => eOf hT [true, true, true, true, false, true, true, false, true, true, false] rfl
  | 18, _ => eOf hT [true, true, true, true, false, true, true, true, true, false, true] rfl
  | 19, _ => eOf hT [true, true, true, true, true, false, false, false, true, true, true] rfl
  | 20, _ => eOf hT [true, true, true, true, true, false, true, false, false, true, false] rfl
  | 21, _ => eOf hT [true, true, true, true, true, false, true, true, false, true, true] rfl
  | 22, _ => eOf hT [true, true, true, true, true, true, false, false, true, false, false] rfl
  | 23, _ => eOf hT [true, true, true, true, true, true, false, true, true, false, true] rfl
  | 24, _ => eOf hT [true, true, true, true, true, true, true, false, true, true, true] rfl
  | n + 25, h => absurd h (by omega)
theorem e_b0 (hT : stC.before args s = true) : ∀ i : Nat, i < 4 → (Cond.eq (.elem (eV 0) (.int (Int32.ofNat i))) (.int ((oByt.getD 0 []).getD i 0))).before args s = true
  | 0, _ => eOf hT [true, true, true, false, false, false, true, true, true, false, true] rfl
  | 1, _ => eOf hT [true, true, true, false, false, false, true, true, true, true, false] rfl
  | 2, _ => eOf hT [true, true, true, false, false, false, true, true, true, true, true] rfl
  | 3, _ => eOf hT [true, true, true, false, false, true, false, false, false, false] rfl
  | n + 4, h => absurd h (by omega)
theorem e_b1 (hT : stC.before args s = true) : ∀ i : Nat, i < 4 → (Cond.eq (.elem (eV 1) (.int (Int32.ofNat i))) (.int ((oByt.getD 1 []).getD i 0))).before args s = true
  | 0, _ => eOf hT [true, true, true, false, true, false, true, false, false, false] rfl
  | 1, _ => eOf hT [true, true, true, false, true, false, true, false, false, true, false] rfl
  | 2, _ => eOf hT [true, true, true, false, true, false, true, false, false, true, true] rfl
  | 3, _ => eOf hT [true, true, true, false, true, false, true, false, true, false, false] rfl
  | n + 4, h => absurd h (by omega)
theorem e_b2 (hT : stC.before args s = true) : ∀ i : Nat, i < 5 → (Cond.eq (.elem (eV 2) (.int (Int32.ofNat i))) (.int ((oByt.getD 2 []).getD i 0))).before args s = true
  | 0, _ => eOf hT [true, true, true, false, true, false, true, true, false, false, true] rfl
  | 1, _ => eOf hT [true, true, true, false, true, false, true, true, false, true, false] rfl
  | 2, _ => eOf hT [true, true, true, false, true, false, true, true, false, true, true] rfl
  | 3, _ => eOf hT [true, true, true, false, true, false, true, true, true, false, false] rfl
  | 4, _ => eOf hT [true, true, true, false, true, false, true, true, true, false, true] rfl
  | n + 5, h => absurd h (by omega)
theorem e_b3 (hT : stC.before args s = true) : ∀ i : Nat, i < 7 → (Cond.eq (.elem (eV 3) (.int (Int32.ofNat i))) (.int ((oByt.getD 3 []).getD i 0))).before args s = true
  | 0, _ => eOf hT [true, true, true, false, true, true, false, false, false, true, true] rfl
  | 1, _ => eOf hT [true, true, true, false, true, true, false, false, true, false, false] rfl
  | 2, _ => eOf hT [true, true, true, false, true, true, false, false, true, false, true] rfl
  | 3, _ => eOf hT [true, true, true, false, true, true, false, false, true, true, false] rfl
  | 4, _ => eOf hT [true, true, true, false, true, true, false, false, true, true, true] rfl
  | 5, _ => eOf hT [true, true, true, false, true, true, false, true, false, false, false] rfl
  | 6, _ => eOf hT [true, true, true, false, true, true, false, true, false, false, true] rfl
  | n + 7, h => absurd h (by omega)
theorem e_b4 (hT : stC.before args s = true) : ∀ i : Nat, i < 5 → (Cond.eq (.elem (eV 4) (.int (Int32.ofNat i))) (.int ((oByt.getD 4 []).getD i 0))).before args s = true
  | 0, _ => eOf hT [true, true, true, false, true, true, false, true, true, true, false] rfl
  | 1, _ => eOf hT [true, true, true, false, true, true, false, true, true, true, true] rfl
  | 2, _ => eOf hT [true, true, true, false, true, true, true, false, false, false] rfl
  | 3, _ => eOf hT [true, true, true, false, true, true, true, false, false, true, false] rfl
  | 4, _ => eOf hT [true, true, true, false, true, true, true, false, false, true, true] rfl
  | n + 5, h => absurd h (by omega)
theorem e_b5 (hT : stC.before args s = true) : ∀ i : Nat, i < 4 → (Cond.eq (.elem (eV 5) (.int (Int32.ofNat i))) (.int ((oByt.getD 5 []).getD i 0))).before args s = true
  | 0, _ => eOf hT [true, true, true, false, true, true, true, true, false, false, false] rfl
  | 1, _ => eOf hT [true, true, true, false, true, true, true, true, false, false, true] rfl
  | 2, _ => eOf hT [true, true, true, false, true, true, true, true, false, true, false] rfl
  | 3, _ => eOf hT [true, true, true, false, true, true, true, true, false, true, true] rfl
  | n + 4, h => absurd h (by omega)
theorem e_b6 (hT : stC.before args s = true) : ∀ i : Nat, i < 4 → (Cond.eq (.elem (eV 6) (.int (Int32.ofNat i))) (.int ((oByt.getD 6 []).getD i 0))).before args s = true
  | 0, _ => eOf hT [true, true, true, true, false, false, false, false, false, false] rfl
  | 1, _ => eOf hT [true, true, true, true, false, false, false, false, false, true, false] rfl
  | 2, _ => eOf hT [true, true, true, true, false, false, false, false, false, true, true] rfl
  | 3, _ => eOf hT [true, true, true, true, false, false, false, false, true, false, false] rfl
  | n + 4, h => absurd h (by omega)
theorem e_b7 (hT : stC.before args s = true) : ∀ i : Nat, i < 4 → (Cond.eq (.elem (eV 7) (.int (Int32.ofNat i))) (.int ((oByt.getD 7 []).getD i 0))).before args s = true
  | 0, _ => eOf hT [true, true, true, true, false, false, false, true, false, true, false] rfl
  | 1, _ => eOf hT [true, true, true, true, false, false, false, true, false, true, true] rfl
  | 2, _ => eOf hT [true, true, true, true, false, false, false, true, true, false, false] rfl
  | 3, _ => eOf hT [true, true, true, true, false, false, false, true, true, false, true] rfl
  | n + 4, h => absurd h (by omega)
theorem e_b8 (hT : stC.before args s = true) : ∀ i : Nat, i < 4 → (Cond.eq (.elem (eV 8) (.int (Int32.ofNat i))) (.int ((oByt.getD 8 []).getD i 0))).before args s = true
  | 0, _ => eOf hT [true, true, true, true, false, false, true, false, false, true, true] rfl
  | 1, _ => eOf hT [true, true, true, true, false, false, true, false, true, false, false] rfl
  | 2, _ => eOf hT [true, true, true, true, false, false, true, false, true, false, true] rfl
  | 3, _ => eOf hT [true, true, true, true, false, false, true, false, true, true, false] rfl
  | n + 4, h => absurd h (by omega)
theorem e_b9 (hT : stC.before args s = true) : ∀ i : Nat, i < 5 → (Cond.eq (.elem (eV 9) (.int (Int32.ofNat i))) (.int ((oByt.getD 9 []).getD i 0))).before args s = true
  | 0, _ => eOf hT [true, true, true, true, false, false, true, true, false, true, true] rfl
  | 1, _ => eOf hT [true, true, true, true, false, false, true, true, true, false, false] rfl
  | 2, _ => eOf hT [true, true, true, true, false, false, true, true, true, false, true] rfl
  | 3, _ => eOf hT [true, true, true, true, false, false, true, true, true, true, false] rfl
  | 4, _ => eOf hT [true, true, true, true, false, false, true, true, true, true, true] rfl
  | n + 5, h => absurd h (by omega)
theorem e_b10 (hT : stC.before args s = true) : ∀ i : Nat, i < 7 → (Cond.eq (.elem (eV 10) (.int (Int32.ofNat i))) (.int ((oByt.getD 10 []).getD i 0))).before args s = true
  | 0, _ => eOf hT [true, true, true, false, false, true, false, false, true, true, false] rfl
  | 1, _ => eOf hT [true, true, true, false, false, true, false, false, true, true, true] rfl
  | 2, _ => eOf hT [true, true, true, false, false, true, false, true, false, false] rfl
  | 3, _ => eOf hT [true, true, true, false, false, true, false, true, false, true, false] rfl
  | 4, _ => eOf hT [true, true, true, false, false, true, false, true, false, true, true] rfl
  | 5, _ => eOf hT [true, true, true, false, false, true, false, true, true, false, false] rfl
  | 6, _ => eOf hT [true, true, true, false, false, true, false, true, true, false, true] rfl
  | n + 7, h => absurd h (by omega)
theorem e_b11 (hT : stC.before args s = true) : ∀ i : Nat, i < 4 → (Cond.eq (.elem (eV 11) (.int (Int32.ofNat i))) (.int ((oByt.getD 11 []).getD i 0))).before args s = true
  | 0, _ => eOf hT [true, true, true, true, false, true, false, false, true, false, true] rfl
  | 1, _ => eOf hT [true, true, true, true, false, true, false, false, true, true, false] rfl
  | 2, _ => eOf hT [true, true, true, true, false, true, false, false, true, true, true] rfl
  | 3, _ => eOf hT [true, true, true, true, false, true, false, true, false, false, false] rfl
  | n + 4, h => absurd h (by omega)
theorem e_b12 (hT : stC.before args s = true) : ∀ i : Nat, i < 3 → (Cond.eq (.elem (eV 12) (.int (Int32.ofNat i))) (.int ((oByt.getD 12 []).getD i 0))).before args s = true
  | 0, _ => eOf hT [true, true, true, false, false, true, true, false, false, true, true] rfl
  | 1, _ => eOf hT [true, true, true, false, false, true, true, false, true, false, false] rfl
  | 2, _ => eOf hT [true, true, true, false, false, true, true, false, true, false, true] rfl
  | n + 3, h => absurd h (by omega)
theorem e_b13 (hT : stC.before args s = true) : ∀ i : Nat, i < 2 → (Cond.eq (.elem (eV 13) (.int (Int32.ofNat i))) (.int ((oByt.getD 13 []).getD i 0))).before args s = true
  | 0, _ => eOf hT [true, true, true, false, true, false, false, true, false, true, false] rfl
  | 1, _ => eOf hT [true, true, true, false, true, false, false, true, false, true, true] rfl
  | n + 2, h => absurd h (by omega)
theorem e_b14 (hT : stC.before args s = true) : ∀ i : Nat, i < 3 → (Cond.eq (.elem (eV 14) (.int (Int32.ofNat i))) (.int ((oByt.getD 14 []).getD i 0))).before args s = true
  | 0, _ => eOf hT [true, true, true, false, true, false, false, false, false, true, false] rfl
  | 1, _ => eOf hT [true, true, true, false, true, false, false, false, false, true, true] rfl
  | 2, _ => eOf hT [true, true, true, false, true, false, false, false, true, false, false] rfl
  | n + 3, h => absurd h (by omega)
theorem e_b15 (hT : stC.before args s = true) : ∀ i : Nat, i < 3 → (Cond.eq (.elem (eV 15) (.int (Int32.ofNat i))) (.int ((oByt.getD 15 []).getD i 0))).before args s = true
  | 0, _ => eOf hT [true, true, true, false, false, true, true, true, false, true, false] rfl
  | 1, _ => eOf hT [true, true, true, false, false, true, true, true, false, true, true] rfl
  | 2, _ => eOf hT [true, true, true, false, false, true, true, true, true, false, false] rfl
  | n + 3, h => absurd h (by omega)
theorem e_b16 (hT : stC.before args s = true) : ∀ i : Nat, i < 5 → (Cond.eq (.elem (eV 16) (.int (Int32.ofNat i))) (.int ((oByt.getD 16 []).getD i 0))).before args s = true
  | 0, _ => eOf hT [true, true, true, true, false, true, false, true, true, false, true] rfl
  | 1, _ => eOf hT [true, true, true, true, false, true, false, true, true, true, false] rfl
  | 2, _ => eOf hT [true, true, true, true, false, true, false, true, true, true, true] rfl
  | 3, _ => eOf hT [true, true, true, true, false, true, true, false, false, false] rfl
  | 4, _ => eOf hT [true, true, true, true, false, true, true, false, false, true, false] rfl
  | n + 5, h => absurd h (by omega)
theorem e_b17 (hT : stC.before args s = true) : ∀ i : Nat, i < 3 → (Cond.eq (.elem (eV 17) (.int (Int32.ofNat i))) (.int ((oByt.getD 17 []).getD i 0))).before args s = true
  | 0, _ => eOf hT [true, true, true, true, false, true, true, false, true, true, true] rfl
  | 1, _ => eOf hT [true, true, true, true, false, true, true, true, false, false, false] rfl
  | 2, _ => eOf hT [true, true, true, true, false, true, true, true, false, false, true] rfl
  | n + 3, h => absurd h (by omega)
theorem e_b18 (hT : stC.before args s = true) : ∀ i : Nat, i < 5 → (Cond.eq (.elem (eV 18) (.int (Int32.ofNat i))) (.int ((oByt.getD 18 []).getD i 0))).before args s = true
  | 0, _ => eOf hT [true, true, true, true, false, true, true, true, true, true, false] rfl
  | 1, _ => eOf hT [true, true, true, true, false, true, true, true, true, true, true] rfl
  | 2, _ => eOf hT [true, true, true, true, true, false, false, false, false, false] rfl
  | 3, _ => eOf hT [true, true, true, true, true, false, false, false, false, true, false] rfl
  | 4, _ => eOf hT [true, true, true, true, true, false, false, false, false, true, true] rfl
  | n + 5, h => absurd h (by omega)
theorem e_b19 (hT : stC.before args s = true) : ∀ i : Nat, i < 5 → (Cond.eq (.elem (eV 19) (.int (Int32.ofNat i))) (.int ((oByt.getD 19 []).getD i 0))).before args s = true
  | 0, _ => eOf hT [true, true, true, true, true, false, false, true, false, false] rfl
  | 1, _ => eOf hT [true, true, true, true, true, false, false, true, false, true, false] rfl
  | 2, _ => eOf hT [true, true, true, true, true, false, false, true, false, true, true] rfl
  | 3, _ => eOf hT [true, true, true, true, true, false, false, true, true, false, false] rfl
  | 4, _ => eOf hT [true, true, true, true, true, false, false, true, true, false, true] rfl
  | n + 5, h => absurd h (by omega)
theorem e_b20 (hT : stC.before args s = true) : ∀ i : Nat, i < 5 → (Cond.eq (.elem (eV 20) (.int (Int32.ofNat i))) (.int ((oByt.getD 20 []).getD i 0))).before args s = true
  | 0, _ => eOf hT [true, true, true, true, true, false, true, false, false, true, true] rfl
  | 1, _ => eOf hT [true, true, true, true, true, false, true, false, true, false, false] rfl
  | 2, _ => eOf hT [true, true, true, true, true, false, true, false, true, false, true] rfl
  | 3, _ => eOf hT [true, true, true, true, true, false, true, false, true, true, false] rfl
  | 4, _ => eOf hT [true, true, true, true, true, false, true, false, true, true, true] rfl
  | n + 5, h => absurd h (by omega)
theorem e_b21 (hT : stC.before args s = true) : ∀ i : Nat, i < 4 → (Cond.eq (.elem (eV 21) (.int (Int32.ofNat i))) (.int ((oByt.getD 21 []).getD i 0))).before args s = true
  | 0, _ => eOf hT [true, true, true, true, true, false, true, true, true, false, false] rfl
  | 1, _ => eOf hT [true, true, true, true, true, false, true, true, true, false, true] rfl
  | 2, _ => eOf hT [true, true, true, true, true, false, true, true, true, true, false] rfl
  | 3, _ => eOf hT [true, true, true, true, true, false, true, true, true, true, true] rfl
  | n + 4, h => absurd h (by omega)
theorem e_b22 (hT : stC.before args s = true) : ∀ i : Nat, i < 5 → (Cond.eq (.elem (eV 22) (.int (Int32.ofNat i))) (.int ((oByt.getD 22 []).getD i 0))).before args s = true
  | 0, _ => eOf hT [true, true, true, true, true, true, false, false, true, false, true] rfl
  | 1, _ => eOf hT [true, true, true, true, true, true, false, false, true, true, false] rfl
  | 2, _ => eOf hT [true, true, true, true, true, true, false, false, true, true, true] rfl
  | 3, _ => eOf hT [true, true, true, true, true, true, false, true, false, false, false] rfl
  | 4, _ => eOf hT [true, true, true, true, true, true, false, true, false, false, true] rfl
  | n + 5, h => absurd h (by omega)
theorem e_b23 (hT : stC.before args s = true) : ∀ i : Nat, i < 5 → (Cond.eq (.elem (eV 23) (.int (Int32.ofNat i))) (.int ((oByt.getD 23 []).getD i 0))).before args s = true
  | 0, _ => eOf hT [true, true, true, true, true, true, false, true, true, true, false] rfl
  | 1, _ => eOf hT [true, true, true, true, true, true, false, true, true, true, true] rfl
  | 2, _ => eOf hT [true, true, true, true, true, true, true, false, false, false] rfl
  | 3, _ => eOf hT [true, true, true, true, true, true, true, false, false, true, false] rfl
  | 4, _ => eOf hT [true, true, true, true, true, true, true, false, false, true, true] rfl
  | n + 5, h => absurd h (by omega)
theorem e_b24 (hT : stC.before args s = true) : ∀ i : Nat, i < 7 → (Cond.eq (.elem (eV 24) (.int (Int32.ofNat i))) (.int ((oByt.getD 24 []).getD i 0))).before args s = true
  | 0, _ => eOf hT [true, true, true, true, true, true, true, true, false, false, false] rfl
  | 1, _ => eOf hT [true, true, true, true, true, true, true, true, false, false, true] rfl
  | 2, _ => eOf hT [true, true, true, true, true, true, true, true, false, true, false] rfl
  | 3, _ => eOf hT [true, true, true, true, true, true, true, true, false, true, true] rfl
  | 4, _ => eOf hT [true, true, true, true, true, true, true, true, true, false, false] rfl
  | 5, _ => eOf hT [true, true, true, true, true, true, true, true, true, false, true] rfl
  | 6, _ => eOf hT [true, true, true, true, true, true, true, true, true, true, false] rfl
  | n + 7, h => absurd h (by omega)
theorem e_sb (hT : stC.before args s = true) : ∀ i : Nat, i < 25 → ∀ j : Nat, j < (oByt.getD i []).length → (Cond.eq (.elem (eV i) (.int (Int32.ofNat j))) (.int ((oByt.getD i []).getD j 0))).before args s = true
  | 0, _ => e_b0 hT
  | 1, _ => e_b1 hT
  | 2, _ => e_b2 hT
  | 3, _ => e_b3 hT
  | 4, _ => e_b4 hT
  | 5, _ => e_b5 hT
  | 6, _ => e_b6 hT
  | 7, _ => e_b7 hT
  | 8, _ => e_b8 hT
  | 9, _ => e_b9 hT
  | 10, _ => e_b10 hT
  | 11, _ => e_b11 hT
  | 12, _ => e_b12 hT
  | 13, _ => e_b13 hT
  | 14, _ => e_b14 hT
  | 15, _ => e_b15 hT
  | 16, _ => e_b16 hT
  | 17, _ => e_b17 hT
  | 18, _ => e_b18 hT
  | 19, _ => e_b19 hT
  | 20, _ => e_b20 hT
  | 21, _ => e_b21 hT
  | 22, _ => e_b22 hT
  | 23, _ => e_b23 hT
  | 24, _ => e_b24 hT
  | n + 25, h => absurd h (by omega)
theorem e_wi (hT : stC.before args s = true) : ∀ i : Nat, i < 25 → (Cond.eq (.elem eWd (.int (Int32.ofNat i))) (eW i)).before args s = true
  | 0, _ => eOf hT [true, false, false, false, false, false, false, true, false, true, true] rfl
  | 1, _ => eOf hT [true, false, false, false, false, false, false, true, true, false, false] rfl
  | 2, _ => eOf hT [true, false, false, false, false, false, false, true, true, false, true] rfl
  | 3, _ => eOf hT [true, false, false, false, false, false, false, true, true, true, false] rfl
  | 4, _ => eOf hT [true, false, false, false, false, false, false, true, true, true, true] rfl
  | 5, _ => eOf hT [true, false, false, false, false, false, true, false, false, false] rfl
  | 6, _ => eOf hT [true, false, false, false, false, false, true, false, false, true, false] rfl
  | 7, _ => eOf hT [true, false, false, false, false, false, true, false, false, true, true] rfl
  | 8, _ => eOf hT [true, false, false, false, false, false, true, false, true, false, false] rfl
  | 9, _ => eOf hT [true, false, false, false, false, false, true, false, true, false, true] rfl
  | 10, _ => eOf hT [true, false, false, false, false, false, true, false, true, true, false] rfl
  | 11, _ => eOf hT [true, false, false, false, false, false, true, false, true, true, true] rfl
  | 12, _ => eOf hT [true, false, false, false, false, false, true, true, false, false, false] rfl
  | 13, _ => eOf hT [true, false, false, false, false, false, true, true, false, false, true] rfl
  | 14, _ => eOf hT [true, false, false, false, false, false, true, true, false, true, false] rfl
  | 15, _ => eOf hT [true, false, false, false, false, false, true, true, false, true, true] rfl
  | 16, _ => eOf hT [true, false, false, false, false, false, true, true, true, false, false] rfl
  | 17, _ => eOf hT [true, false, false, false, false, false, true, true, true, false, true] rfl
  | 18, _ => eOf hT [true, false, false, false, false, false, true, true, true, true, false] rfl
  | 19, _ => eOf hT [true, false, false, false, false, false, true, true, true, true, true] rfl
  | 20, _ => eOf hT [true, false, false, false, false, true, false, false, false, false] rfl
  | 21, _ => eOf hT [true, false, false, false, false, true, false, false, false, true, false] rfl
  | 22, _ => eOf hT [true, false, false, false, false, true, false, false, false, true, true] rfl
  | 23, _ => eOf hT [true, false, false, false, false, true, false, false, true, false, false] rfl
  | 24, _ => eOf hT [true, false, false, false, false, true, false, false, true, false, true] rfl
  | n + 25, h => absurd h (by omega)
theorem e_mi (hT : stC.before args s = true) : ∀ i : Nat, i < 25 → (Cond.eq (.elem eSm (.int (Int32.ofNat i))) (.int (oSwm.getD i 0))).before args s = true
  | 0, _ => eOf hT [true, false, false, false, false, true, true, false, true, false, true] rfl
  | 1, _ => eOf hT [true, false, false, false, false, true, true, false, true, true, false] rfl
  | 2, _ => eOf hT [true, false, false, false, false, true, true, false, true, true, true] rfl
  | 3, _ => eOf hT [true, false, false, false, false, true, true, true, false, false, false] rfl
  | 4, _ => eOf hT [true, false, false, false, false, true, true, true, false, false, true] rfl
  | 5, _ => eOf hT [true, false, false, false, false, true, true, true, false, true, false] rfl
  | 6, _ => eOf hT [true, false, false, false, false, true, true, true, false, true, true] rfl
  | 7, _ => eOf hT [true, false, false, false, false, true, true, true, true, false, false] rfl
  | 8, _ => eOf hT [true, false, false, false, false, true, true, true, true, false, true] rfl
  | 9, _ => eOf hT [true, false, false, false, false, true, true, true, true, true, false] rfl
  | 10, _ => eOf hT [true, false, false, false, false, true, true, true, true, true, true] rfl
  | 11, _ => eOf hT [true, false, false, false, true, false, false, false, false, false] rfl
  | 12, _ => eOf hT [true, false, false, false, true, false, false, false, false, true, false] rfl
  | 13, _ => eOf hT [true, false, false, false, true, false, false, false, false, true, true] rfl
  | 14, _ => eOf hT [true, false, false, false, true, false, false, false, true, false, false] rfl
  | 15, _ => eOf hT [true, false, false, false, true, false, false, false, true, false, true] rfl
  | 16, _ => eOf hT [true, false, false, false, true, false, false, false, true, true, false] rfl
  | 17, _ => eOf hT [true, false, false, false, true, false, false, false, true, true, true] rfl
  | 18, _ => eOf hT [true, false, false, false, true, false, false, true, false, false] rfl
  | 19, _ => eOf hT [true, false, false, false, true, false, false, true, false, true, false] rfl
  | 20, _ => eOf hT [true, false, false, false, true, false, false, true, false, true, true] rfl
  | 21, _ => eOf hT [true, false, false, false, true, false, false, true, true, false, false] rfl
  | 22, _ => eOf hT [true, false, false, false, true, false, false, true, true, false, true] rfl
  | 23, _ => eOf hT [true, false, false, false, true, false, false, true, true, true, false] rfl
  | 24, _ => eOf hT [true, false, false, false, true, false, false, true, true, true, true] rfl
  | n + 25, h => absurd h (by omega)
theorem e_wa (hT : stC.before args s = true) : (Cond.arrayOf eWd (.object "LaneEyes$Word")).before args s = true := eOf hT [true, false, false, false, false, false, false, false, true, true, true] rfl
theorem e_wl (hT : stC.before args s = true) : (Cond.eq (.length eWd) (.int 25)).before args s = true := eOf hT [true, false, false, false, false, false, false, true, false, false] rfl
theorem e_ma (hT : stC.before args s = true) : (Cond.arrayOf eSm .int).before args s = true := eOf hT [true, false, false, false, false, true, true, false, false, true, true] rfl
theorem e_ml (hT : stC.before args s = true) : (Cond.eq (.length eSm) (.int 25)).before args s = true := eOf hT [true, false, false, false, false, true, true, false, true, false, false] rfl
theorem e_si (hT : stC.before args s = true) : (Cond.isRef eSi).before args s = true := eOf hT [true, false, false, false, false, true, false, false, true, true, true] rfl
theorem e_cs (hT : stC.before args s = true) : (Cond.eq (.static "java/lang/String" "COMPACT_STRINGS" "Z") (.int 1)).before args s = true := eOf hT [true, false, false, false, false, true, false, false, true, true, false] rfl
theorem e_us (hT : stC.before args s = true) : (Cond.isRef (.static "java/lang/Throwable" "UNASSIGNED_STACK" "[Ljava/lang/StackTraceElement;")).before args s = true := eOf hT [true, false, false, false, false, false, false, false, false, true, true] rfl
theorem e_ss (hT : stC.before args s = true) : (Cond.isRef (.static "java/lang/Throwable" "SUPPRESSED_SENTINEL" "Ljava/util/List;")).before args s = true := eOf hT [true, false, false, false, false, false, false, false, true, false, false] rfl
theorem e_n1 (hT : stC.before args s = true) : (Cond.not (.castable mIAE mNSE)).before args s = true := eOf hT [true, true, false, false, false, true, true, false, true, false, true] rfl
theorem e_n2 (hT : stC.before args s = true) : (Cond.not (.castable mNSE mIAE)).before args s = true := eOf hT [true, true, false, false, false, true, false, false, true, true, true] rfl
end EOF1
