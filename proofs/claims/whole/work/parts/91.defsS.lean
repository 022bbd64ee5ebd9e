/-- the String constants of the Reader: texts, places in its pool, characters -/
def txS : List String := ["state", "whole", "remember", "in", "enter", "exit", "on", "from", "to", "unless", "if", "do"]
def ixS : List Nat := [32, 63, 65, 67, 41, 53, 58, 103, 105, 107, 109, 132]
def bytS : List (List Int32) := [[115, 116, 97, 116, 101], [119, 104, 111, 108, 101], [114, 101, 109, 101, 109, 98, 101, 114], [105, 110], [101, 110, 116, 101, 114], [101, 120, 105, 116], [111, 110], [102, 114, 111, 109], [116, 111], [117, 110, 108, 101, 115, 115], [105, 102], [100, 111]]
def lenS : List Nat := [5, 5, 8, 2, 5, 4, 2, 4, 2, 6, 2, 2]
/-! X0_says (ILjava/lang/String;)Z -/
def rm_X0_says : Room := { frames := 4, cells := 0, slots := 0, locals := 85 }
def B_X0_says_16 (kh16 : Int32 → Int32 → Option Int32) (si : Nat) (M : Mem) (x1 : Int32) (x3 : Int32) : Option Int32 :=
  (if (nI (bytS.getD si []).length) ≤ x3 then some (1 : Int32) else bd (F_X0_letterAt x1 x3 M) fun r_1 => gi (bytS.getD si []).length x3 ((if r_1 = ((bytS.getD si []).getD x3.toNatClampNeg 0) then nm (x3 + (1 : Int32)) fun x3_4 => kh16 x1 x3_4 else some (0 : Int32))))
def H_X0_says_16 (si : Nat) (M : Mem) : Nat → Int32 → Int32 → Option Int32
  | 0 => fun _ _ => none
  | n + 1 => B_X0_says_16 (H_X0_says_16 si M n) si M
def F_X0_says (si : Nat) (x1 : Int32) (M : Mem) : Option Int32 :=
  bd (F_X0_sizeOf x1 M) fun r_1 => (if r_1 = (nI (bytS.getD si []).length) then H_X0_says_16 si M 100 x1 (0 : Int32) else some (0 : Int32))
/-! X2_readState ()I -/
def rm_X2_readState : Room := { frames := 5, cells := 0, slots := 0, locals := 108 }
def B_X2_readState_42  (x1 : Int32) (x2 : Int32) (t0 : Int32) (t1 : Int32) (M : Mem) : Option (Int32 × Mem) :=
  (if t1 = t0 then bd (F_X0_says 3 (2 : Int32) M) fun r_1 => (if r_1 = (0 : Int32) then some ((-1 : Int32), M) else bd (F_X0_nameAt (1 : Int32) M) fun r_3 => bd (F_X0_nameAt (3 : Int32) M) fun r_5 => bd (F_X4_find r_5 M) fun r_7 => (if r_3 = (-1 : Int32) then some ((-1 : Int32), M) else bd (F_X4_find r_3 M) fun r_9 => (if r_9 = (-1 : Int32) then (if r_7 = (-1 : Int32) then some ((-1 : Int32), M) else bd (F_X4_depthOf r_7 M) fun r_11 => (if r_11 < (6 : Int32) then bd (F_X4_isFull M) fun r_13 => (if r_13 = (0 : Int32) then bd (F_X4_make r_3 r_7 x1 x2 M) fun M_17 => some ((1 : Int32), M_17) else some ((-2 : Int32), M)) else some ((-1 : Int32), M))) else some ((-1 : Int32), M)))) else some ((-1 : Int32), M))
def B_X2_readState_37  (x1 : Int32) (x2 : Int32) (t0 : Int32) (M : Mem) : Option (Int32 × Mem) :=
  B_X2_readState_42  x1 x2 (5 : Int32) t0 M
def F_X2_readState   (M : Mem) : Option (Int32 × Mem) :=
  bd (F_X0_says 1 (4 : Int32) M) fun r_1 => bd (F_X0_says 2 (4 : Int32) M) fun r_3 => bd (F_X0_words M) fun r_5 => (if r_1 = (0 : Int32) then (if r_3 = (0 : Int32) then B_X2_readState_42  r_1 r_3 (4 : Int32) r_5 M else B_X2_readState_37  r_1 r_3 r_5 M) else B_X2_readState_37  r_1 r_3 r_5 M)
/-! X2_isEndOfRule (I)Z -/
def rm_X2_isEndOfRule : Room := { frames := 5, cells := 0, slots := 0, locals := 108 }
def F_X2_isEndOfRule  (x1 : Int32) (M : Mem) : Option Int32 :=
  bd (F_X0_says 11 x1 M) fun r_1 => (if r_1 = (0 : Int32) then bd (F_X0_words M) fun r_3 => (if r_3 = x1 then some (1 : Int32) else some (0 : Int32)) else bd (F_X0_words M) fun r_6 => (if r_6 = (x1 + (2 : Int32)) then bd (F_X0_isLetters (x1 + (1 : Int32)) (3 : Int32) M) fun r_8 => (if r_8 = (0 : Int32) then some (0 : Int32) else some (1 : Int32)) else some (0 : Int32)))
/-! X2_readRule ()I -/
def rm_X2_readRule : Room := { frames := 6, cells := 0, slots := 0, locals := 129 }
def B_X2_readRule_246  (x6 : Int32) (t0 : Int32) (t1 : Int32) (t2 : Int32) (t3 : Int32) (t4 : Int32) (t5 : Int32) (M : Mem) : Option (Int32 × Mem) :=
  bd (F_X3_make t5 t4 t3 t2 t1 t0 M) fun M_3 => bd (F_X3_made M_3) fun r_4 => bd (F_X2_addMarks 26 (r_4 - (1 : Int32)) (x6 + (1 : Int32)) M_3) fun M_8 => some ((3 : Int32), M_8)
def B_X2_readRule_168  (x1 : Int32) (x2 : Int32) (x3 : Int32) (x5 : Int32) (t0 : Int32) (M : Mem) : Option (Int32 × Mem) :=
  (if x5 = (-1 : Int32) then some ((-1 : Int32), M) else bd (F_X2_isEndOfRule t0 M) fun r_1 => (if r_1 = (0 : Int32) then some ((-1 : Int32), M) else bd (F_X0_nameAt (1 : Int32) M) fun r_3 => bd (F_X3_hasRoom r_3 M) fun r_5 => (if r_5 = (0 : Int32) then some ((-2 : Int32), M) else bd (F_X4_scopeOf x1 x2 M) fun r_7 => bd (F_X0_nameAt (1 : Int32) M) fun r_9 => (if x3 = (0 : Int32) then B_X2_readRule_246  t0 (1 : Int32) x5 r_7 x2 x1 r_9 M else B_X2_readRule_246  t0 (0 : Int32) x5 r_7 x2 x1 r_9 M))))
def B_X2_readRule_154  (x1 : Int32) (x2 : Int32) (x3 : Int32) (x4 : Int32) (t0 : Int32) (M : Mem) : Option (Int32 × Mem) :=
  (if x4 = (0 : Int32) then B_X2_readRule_168  x1 x2 x3 t0 (6 : Int32) M else B_X2_readRule_168  x1 x2 x3 t0 (8 : Int32) M)
def B_X2_readRule_127  (x1 : Int32) (x2 : Int32) (x3 : Int32) (t0 : Int32) (M : Mem) : Option (Int32 × Mem) :=
  (if t0 = (0 : Int32) then B_X2_readRule_154  x1 x2 x3 t0 (0 : Int32) M else bd (F_X0_nameAt (7 : Int32) M) fun r_1 => bd (F_X4_find r_1 M) fun r_3 => B_X2_readRule_154  x1 x2 x3 t0 r_3 M)
def B_X2_readRule_122  (x1 : Int32) (x2 : Int32) (x3 : Int32) (M : Mem) : Option (Int32 × Mem) :=
  B_X2_readRule_127  x1 x2 x3 (1 : Int32) M
def F_X2_readRule   (M : Mem) : Option (Int32 × Mem) :=
  bd (F_X0_nameAt (3 : Int32) M) fun r_1 => bd (F_X4_find r_1 M) fun r_3 => bd (F_X0_nameAt (5 : Int32) M) fun r_5 => bd (F_X4_find r_5 M) fun r_7 => bd (F_X0_nameAt (1 : Int32) M) fun r_9 => (if r_9 = (-1 : Int32) then some ((-1 : Int32), M) else bd (F_X0_says 7 (2 : Int32) M) fun r_11 => (if r_11 = (0 : Int32) then some ((-1 : Int32), M) else bd (F_X0_says 8 (4 : Int32) M) fun r_13 => (if r_13 = (0 : Int32) then some ((-1 : Int32), M) else (if r_3 = (-1 : Int32) then some ((-1 : Int32), M) else (if r_3 = (0 : Int32) then some ((-1 : Int32), M) else (if r_7 = (-1 : Int32) then some ((-1 : Int32), M) else (if r_7 = (0 : Int32) then some ((-1 : Int32), M) else bd (F_X0_says 9 (6 : Int32) M) fun r_15 => (if r_15 = (0 : Int32) then bd (F_X0_says 10 (6 : Int32) M) fun r_17 => (if r_17 = (0 : Int32) then B_X2_readRule_127  r_3 r_7 r_15 (0 : Int32) M else B_X2_readRule_122  r_3 r_7 r_15 M) else B_X2_readRule_122  r_3 r_7 r_15 M))))))))
/-! X2_read ()I -/
def rm_X2_read : Room := { frames := 7, cells := 0, slots := 0, locals := 156 }
def F_X2_read   (M : Mem) : Option (Int32 × Mem) :=
  bd (F_X0_split M) fun M_3 => bd (F_X0_words M_3) fun r_4 => (if r_4 = (0 : Int32) then some ((0 : Int32), M_3) else bd (F_X0_says 0 (0 : Int32) M_3) fun r_6 => (if r_6 = (0 : Int32) then bd (F_X0_says 4 (0 : Int32) M_3) fun r_8 => (if r_8 = (0 : Int32) then bd (F_X0_says 5 (0 : Int32) M_3) fun r_10 => (if r_10 = (0 : Int32) then bd (F_X0_says 6 (0 : Int32) M_3) fun r_12 => (if r_12 = (0 : Int32) then some ((-1 : Int32), M_3) else bd2 (F_X2_readRule M_3) fun r_14 M_16 => some (r_14, M_16)) else bd2 (F_X2_readMarks 15 M_3) fun r_18 M_20 => some (r_18, M_20)) else bd2 (F_X2_readMarks 12 M_3) fun r_22 M_24 => some (r_22, M_24)) else bd2 (F_X2_readState M_3) fun r_26 M_28 => some (r_26, M_28)))
