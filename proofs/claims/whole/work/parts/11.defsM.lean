/-! X8_thrown ()I -/
def rm_X8_thrown : Room := { frames := 0, cells := 0, slots := 0, locals := 0 }
def F_X8_thrown   (M : Mem) : Option Int32 :=
  some (M 0 0)
/-! X8_fails (I)I -/
def rm_X8_fails : Room := { frames := 0, cells := 0, slots := 0, locals := 0 }
def F_X8_fails  (x1 : Int32) (M : Mem) : Option (Int32 × Mem) :=
  wr M 0 0 x1 fun M_1 => some ((0 : Int32), M_1)
/-! X8_write (C)Z -/
def rm_X8_write : Room := { frames := 0, cells := 0, slots := 0, locals := 0 }
def F_X8_write  (x1 : Int32) (M : Mem) : Option (Int32 × Mem) :=
  wr M 0 0 (0 : Int32) fun M_1 => (if x1 < (32 : Int32) then some ((0 : Int32), M_1) else (if (126 : Int32) < x1 then some ((0 : Int32), M_1) else (if (M_1 0 2) < (50 : Int32) then gi 50 (M_1 0 2) (wr M_1 1 (M_1 0 2).toNatClampNeg (vp_nar .char x1) fun M_4 => wr M_4 0 2 ((M_4 0 2) + (1 : Int32)) fun M_6 => some ((1 : Int32), M_6)) else some ((0 : Int32), M_1))))
/-! X8_split ()V -/
def rm_X8_split : Room := { frames := 0, cells := 0, slots := 0, locals := 0 }
def B_X8_split_83 (kh7 : Int32 → Mem → Option Mem) (x1 : Int32) (M : Mem) : Option Mem :=
  gi 26 (M 0 3) (wr M 3 (M 0 3).toNatClampNeg x1 fun M_2 => wr M_2 0 3 ((M_2 0 3) + (1 : Int32)) fun M_4 => kh7 x1 M_4)
def B_X8_split_58 (kh7 : Int32 → Mem → Option Mem) (kh58 : Int32 → Mem → Option Mem) (x1 : Int32) (M : Mem) : Option Mem :=
  (if (M 0 2) ≤ x1 then B_X8_split_83 kh7 x1 M else gi 50 x1 ((if (M 1 x1.toNatClampNeg) = (32 : Int32) then B_X8_split_83 kh7 x1 M else nm (x1 + (1 : Int32)) fun x1_2 => kh58 x1_2 M)))
def H_X8_split_58 (kh7 : Int32 → Mem → Option Mem) : Nat → Int32 → Mem → Option Mem
  | 0 => fun _ _ => none
  | n + 1 => B_X8_split_58 kh7 (H_X8_split_58 kh7 n)
def B_X8_split_40 (kh7 : Int32 → Mem → Option Mem) (x1 : Int32) (M : Mem) : Option Mem :=
  (if (M 0 2) ≤ x1 then kh7 x1 M else gi 26 (M 0 3) (wr M 2 (M 0 3).toNatClampNeg x1 fun M_2 => H_X8_split_58 kh7 100 x1 M_2))
def B_X8_split_15 (kh7 : Int32 → Mem → Option Mem) (kh15 : Int32 → Mem → Option Mem) (x1 : Int32) (M : Mem) : Option Mem :=
  (if (M 0 2) ≤ x1 then B_X8_split_40 kh7 x1 M else gi 50 x1 ((if (M 1 x1.toNatClampNeg) = (32 : Int32) then nm (x1 + (1 : Int32)) fun x1_2 => kh15 x1_2 M else B_X8_split_40 kh7 x1 M)))
def H_X8_split_15 (kh7 : Int32 → Mem → Option Mem) : Nat → Int32 → Mem → Option Mem
  | 0 => fun _ _ => none
  | n + 1 => B_X8_split_15 kh7 (H_X8_split_15 kh7 n)
def B_X8_split_7 (kh7 : Int32 → Mem → Option Mem) (x1 : Int32) (M : Mem) : Option Mem :=
  (if (M 0 2) ≤ x1 then some M else H_X8_split_15 kh7 100 x1 M)
def H_X8_split_7  : Nat → Int32 → Mem → Option Mem
  | 0 => fun _ _ => none
  | n + 1 => B_X8_split_7 (H_X8_split_7  n)
def F_X8_split   (M : Mem) : Option Mem :=
  wr M 0 3 (0 : Int32) fun M_1 => H_X8_split_7  100 (0 : Int32) M_1
/-! X8_letter (II)C -/
def rm_X8_letter : Room := { frames := 0, cells := 0, slots := 0, locals := 0 }
def F_X8_letter  (x1 : Int32) (x2 : Int32) (M : Mem) : Option Int32 :=
  gi 26 x1 (gi 26 x1 ((if (M 3 x1.toNatClampNeg) ≤ ((M 2 x1.toNatClampNeg) + x2) then some (0 : Int32) else gi 26 x1 (gi 50 ((M 2 x1.toNatClampNeg) + x2) (gc (M 1 ((M 2 x1.toNatClampNeg) + x2).toNatClampNeg) (some (M 1 ((M 2 x1.toNatClampNeg) + x2).toNatClampNeg)))))))
/-! X8_length (I)I -/
def rm_X8_length : Room := { frames := 0, cells := 0, slots := 0, locals := 0 }
def F_X8_length  (x1 : Int32) (M : Mem) : Option Int32 :=
  gi 26 x1 (gi 26 x1 (some ((M 3 x1.toNatClampNeg) - (M 2 x1.toNatClampNeg))))
/-! X8_isWord (II)Z -/
def rm_X8_isWord : Room := { frames := 1, cells := 0, slots := 0, locals := 22 }
def B_X8_isWord_61 (kh18 : Int32 → Int32 → Int32 → Option Int32) (M : Mem) (x1 : Int32) (x4 : Int32) (t0 : Int32) : Option Int32 :=
  nm (x4 + (1 : Int32)) fun x4_1 => kh18 x1 t0 x4_1
def B_X8_isWord_60 (kh18 : Int32 → Int32 → Int32 → Option Int32) (M : Mem) (x1 : Int32) (x4 : Int32) : Option Int32 :=
  B_X8_isWord_61 kh18 M x1 x4 (0 : Int32)
def B_X8_isWord_18 (kh18 : Int32 → Int32 → Int32 → Option Int32) (M : Mem) (x1 : Int32) (x3 : Int32) (x4 : Int32) : Option Int32 :=
  bd (F_X8_length x1 M) fun r_1 => (if r_1 ≤ x4 then gz x3 (some x3) else (if x3 = (0 : Int32) then gz x3 (some x3) else bd (F_X8_letter x1 x4 M) fun r_5 => (if r_5 < (97 : Int32) then B_X8_isWord_60 kh18 M x1 x4 else bd (F_X8_letter x1 x4 M) fun r_7 => (if (122 : Int32) < r_7 then B_X8_isWord_60 kh18 M x1 x4 else B_X8_isWord_61 kh18 M x1 x4 (1 : Int32)))))
def H_X8_isWord_18 (M : Mem) : Nat → Int32 → Int32 → Int32 → Option Int32
  | 0 => fun _ _ _ => none
  | n + 1 => B_X8_isWord_18 (H_X8_isWord_18 M n) M
def B_X8_isWord_14 (M : Mem) (x1 : Int32) (t0 : Int32) : Option Int32 :=
  H_X8_isWord_18 M 100 x1 t0 (0 : Int32)
def F_X8_isWord  (x1 : Int32) (x2 : Int32) (M : Mem) : Option Int32 :=
  bd (F_X8_length x1 M) fun r_1 => (if x2 < r_1 then B_X8_isWord_14 M x1 (0 : Int32) else B_X8_isWord_14 M x1 (1 : Int32))
/-! X8_says (ICCCCCC)Z -/
def rm_X8_says : Room := { frames := 1, cells := 0, slots := 0, locals := 22 }
def F_X8_says  (x1 : Int32) (x2 : Int32) (x3 : Int32) (x4 : Int32) (x5 : Int32) (x6 : Int32) (x7 : Int32) (M : Mem) : Option Int32 :=
  bd (F_X8_letter x1 (0 : Int32) M) fun r_1 => (if r_1 = x2 then bd (F_X8_letter x1 (1 : Int32) M) fun r_3 => (if r_3 = x3 then bd (F_X8_letter x1 (2 : Int32) M) fun r_5 => (if r_5 = x4 then bd (F_X8_letter x1 (3 : Int32) M) fun r_7 => (if r_7 = x5 then bd (F_X8_letter x1 (4 : Int32) M) fun r_9 => (if r_9 = x6 then bd (F_X8_letter x1 (5 : Int32) M) fun r_11 => (if r_11 = x7 then bd (F_X8_length x1 M) fun r_13 => (if (8 : Int32) < r_13 then some (0 : Int32) else some (1 : Int32)) else some (0 : Int32)) else some (0 : Int32)) else some (0 : Int32)) else some (0 : Int32)) else some (0 : Int32)) else some (0 : Int32))
/-! X8_stateOf (I)I -/
def rm_X8_stateOf : Room := { frames := 1, cells := 0, slots := 0, locals := 22 }
def B_X8_stateOf_60 (kh2 : Int32 → Int32 → Option Int32) (kh24 : Int32 → Int32 → Int32 → Int32 → Option Int32) (M : Mem) (x1 : Int32) (x2 : Int32) (x4 : Int32) (t0 : Int32) : Option Int32 :=
  nm (x4 + (1 : Int32)) fun x4_1 => kh24 x1 x2 t0 x4_1
def B_X8_stateOf_59 (kh2 : Int32 → Int32 → Option Int32) (kh24 : Int32 → Int32 → Int32 → Int32 → Option Int32) (M : Mem) (x1 : Int32) (x2 : Int32) (x4 : Int32) : Option Int32 :=
  B_X8_stateOf_60 kh2 kh24 M x1 x2 x4 (0 : Int32)
def B_X8_stateOf_24 (kh2 : Int32 → Int32 → Option Int32) (kh24 : Int32 → Int32 → Int32 → Int32 → Option Int32) (M : Mem) (x1 : Int32) (x2 : Int32) (x3 : Int32) (x4 : Int32) : Option Int32 :=
  (if (4 : Int32) ≤ x4 then (if x3 = (0 : Int32) then nm (x2 + (1 : Int32)) fun x2_1 => kh2 x1 x2_1 else some x2) else (if x3 = (0 : Int32) then B_X8_stateOf_59 kh2 kh24 M x1 x2 x4 else gi 56 (((4 : Int32) * x2) + x4) (bd (F_X8_letter x1 x4 M) fun r_5 => (if (M 4 (((4 : Int32) * x2) + x4).toNatClampNeg) = r_5 then B_X8_stateOf_60 kh2 kh24 M x1 x2 x4 (1 : Int32) else B_X8_stateOf_59 kh2 kh24 M x1 x2 x4))))
def H_X8_stateOf_24 (kh2 : Int32 → Int32 → Option Int32) (M : Mem) : Nat → Int32 → Int32 → Int32 → Int32 → Option Int32
  | 0 => fun _ _ _ _ => none
  | n + 1 => B_X8_stateOf_24 kh2 (H_X8_stateOf_24 kh2 M n) M
def B_X8_stateOf_2 (kh2 : Int32 → Int32 → Option Int32) (M : Mem) (x1 : Int32) (x2 : Int32) : Option Int32 :=
  (if (M 0 6) ≤ x2 then some (-1 : Int32) else bd (F_X8_length x1 M) fun r_1 => (if (4 : Int32) < r_1 then some (-1 : Int32) else H_X8_stateOf_24 kh2 M 100 x1 x2 (1 : Int32) (0 : Int32)))
def H_X8_stateOf_2 (M : Mem) : Nat → Int32 → Int32 → Option Int32
  | 0 => fun _ _ => none
  | n + 1 => B_X8_stateOf_2 (H_X8_stateOf_2 M n) M
def F_X8_stateOf  (x1 : Int32) (M : Mem) : Option Int32 :=
  H_X8_stateOf_2 M 100 x1 (0 : Int32)
/-! X8_eventOf (I)I -/
def rm_X8_eventOf : Room := { frames := 1, cells := 0, slots := 0, locals := 22 }
def B_X8_eventOf_51 (kh2 : Int32 → Int32 → Option Int32) (kh15 : Int32 → Int32 → Int32 → Int32 → Option Int32) (M : Mem) (x1 : Int32) (x2 : Int32) (x4 : Int32) (t0 : Int32) : Option Int32 :=
  nm (x4 + (1 : Int32)) fun x4_1 => kh15 x1 x2 t0 x4_1
def B_X8_eventOf_50 (kh2 : Int32 → Int32 → Option Int32) (kh15 : Int32 → Int32 → Int32 → Int32 → Option Int32) (M : Mem) (x1 : Int32) (x2 : Int32) (x4 : Int32) : Option Int32 :=
  B_X8_eventOf_51 kh2 kh15 M x1 x2 x4 (0 : Int32)
def B_X8_eventOf_15 (kh2 : Int32 → Int32 → Option Int32) (kh15 : Int32 → Int32 → Int32 → Int32 → Option Int32) (M : Mem) (x1 : Int32) (x2 : Int32) (x3 : Int32) (x4 : Int32) : Option Int32 :=
  (if (4 : Int32) ≤ x4 then (if x3 = (0 : Int32) then nm (x2 + (1 : Int32)) fun x2_1 => kh2 x1 x2_1 else some x2) else (if x3 = (0 : Int32) then B_X8_eventOf_50 kh2 kh15 M x1 x2 x4 else gi 24 (((4 : Int32) * x2) + x4) (bd (F_X8_letter x1 x4 M) fun r_5 => (if (M 11 (((4 : Int32) * x2) + x4).toNatClampNeg) = r_5 then B_X8_eventOf_51 kh2 kh15 M x1 x2 x4 (1 : Int32) else B_X8_eventOf_50 kh2 kh15 M x1 x2 x4))))
def H_X8_eventOf_15 (kh2 : Int32 → Int32 → Option Int32) (M : Mem) : Nat → Int32 → Int32 → Int32 → Int32 → Option Int32
  | 0 => fun _ _ _ _ => none
  | n + 1 => B_X8_eventOf_15 kh2 (H_X8_eventOf_15 kh2 M n) M
def B_X8_eventOf_2 (kh2 : Int32 → Int32 → Option Int32) (M : Mem) (x1 : Int32) (x2 : Int32) : Option Int32 :=
  (if (M 0 14) ≤ x2 then some (-1 : Int32) else H_X8_eventOf_15 kh2 M 100 x1 x2 (1 : Int32) (0 : Int32))
def H_X8_eventOf_2 (M : Mem) : Nat → Int32 → Int32 → Option Int32
  | 0 => fun _ _ => none
  | n + 1 => B_X8_eventOf_2 (H_X8_eventOf_2 M n) M
def F_X8_eventOf  (x1 : Int32) (M : Mem) : Option Int32 :=
  H_X8_eventOf_2 M 100 x1 (0 : Int32)
/-! X8_newState ()I -/
def rm_X8_newState : Room := { frames := 2, cells := 0, slots := 0, locals := 49 }
def B_X8_newState_215 (kh215 : Int32 → Int32 → Int32 → Int32 → Mem → Option (Int32 × Mem)) (x1 : Int32) (x2 : Int32) (x3 : Int32) (x4 : Int32) (M : Mem) : Option (Int32 × Mem) :=
  (if (4 : Int32) ≤ x4 then gi 14 (M 0 6) (wr M 6 (M 0 6).toNatClampNeg x1 fun M_2 => gi 14 x1 (gi 14 (M_2 0 6) (wr M_2 7 (M_2 0 6).toNatClampNeg ((M_2 7 x1.toNatClampNeg) + (1 : Int32)) fun M_6 => gi 14 (M_6 0 6) (wr M_6 9 (M_6 0 6).toNatClampNeg (vp_nar .boolean x2) fun M_9 => gi 14 (M_9 0 6) (wr M_9 10 (M_9 0 6).toNatClampNeg (vp_nar .boolean x3) fun M_12 => wr M_12 0 6 ((M_12 0 6) + (1 : Int32)) fun M_14 => some ((1 : Int32), M_14)))))) else bd (F_X8_letter (1 : Int32) x4 M) fun r_16 => gi 56 (((4 : Int32) * (M 0 6)) + x4) (wr M 4 (((4 : Int32) * (M 0 6)) + x4).toNatClampNeg (vp_nar .char r_16) fun M_19 => nm (x4 + (1 : Int32)) fun x4_21 => kh215 x1 x2 x3 x4_21 M_19))
def H_X8_newState_215  : Nat → Int32 → Int32 → Int32 → Int32 → Mem → Option (Int32 × Mem)
  | 0 => fun _ _ _ _ _ => none
  | n + 1 => B_X8_newState_215 (H_X8_newState_215  n)
def B_X8_newState_200  (x1 : Int32) (x2 : Int32) (x3 : Int32) (M : Mem) : Option (Int32 × Mem) :=
  (if (M 0 6) = (14 : Int32) then some ((-2 : Int32), M) else H_X8_newState_215  100 x1 x2 x3 (0 : Int32) M)
def B_X8_newState_166  (x1 : Int32) (x2 : Int32) (t0 : Int32) (M : Mem) : Option (Int32 × Mem) :=
  (if x1 < (0 : Int32) then some ((-1 : Int32), M) else gi 14 x1 ((if (M 7 x1.toNatClampNeg) = (6 : Int32) then some ((-1 : Int32), M) else (if (M 0 3) = (5 : Int32) then (if x2 = (0 : Int32) then (if t0 = (0 : Int32) then some ((-1 : Int32), M) else B_X8_newState_200  x1 x2 t0 M) else B_X8_newState_200  x1 x2 t0 M) else B_X8_newState_200  x1 x2 t0 M))))
def B_X8_newState_165  (x1 : Int32) (x2 : Int32) (M : Mem) : Option (Int32 × Mem) :=
  B_X8_newState_166  x1 x2 (0 : Int32) M
def B_X8_newState_98  (x1 : Int32) (t0 : Int32) (M : Mem) : Option (Int32 × Mem) :=
  (if (M 0 3) = (5 : Int32) then bd (F_X8_says (4 : Int32) (114 : Int32) (101 : Int32) (109 : Int32) (101 : Int32) (109 : Int32) (98 : Int32) M) fun r_1 => (if r_1 = (0 : Int32) then B_X8_newState_165  x1 t0 M else bd (F_X8_length (4 : Int32) M) fun r_3 => (if r_3 = (8 : Int32) then bd (F_X8_letter (4 : Int32) (6 : Int32) M) fun r_5 => (if r_5 = (101 : Int32) then bd (F_X8_letter (4 : Int32) (7 : Int32) M) fun r_7 => (if r_7 = (114 : Int32) then B_X8_newState_166  x1 t0 (1 : Int32) M else B_X8_newState_165  x1 t0 M) else B_X8_newState_165  x1 t0 M) else B_X8_newState_165  x1 t0 M)) else B_X8_newState_165  x1 t0 M)
def B_X8_newState_97  (x1 : Int32) (M : Mem) : Option (Int32 × Mem) :=
  B_X8_newState_98  x1 (0 : Int32) M
def F_X8_newState   (M : Mem) : Option (Int32 × Mem) :=
  (if (M 0 3) < (4 : Int32) then some ((-1 : Int32), M) else (if (5 : Int32) < (M 0 3) then some ((-1 : Int32), M) else bd (F_X8_isWord (1 : Int32) (4 : Int32) M) fun r_1 => (if r_1 = (0 : Int32) then some ((-1 : Int32), M) else bd (F_X8_stateOf (1 : Int32) M) fun r_3 => (if (0 : Int32) ≤ r_3 then some ((-1 : Int32), M) else bd (F_X8_says (2 : Int32) (105 : Int32) (110 : Int32) (0 : Int32) (0 : Int32) (0 : Int32) (0 : Int32) M) fun r_5 => (if r_5 = (0 : Int32) then some ((-1 : Int32), M) else bd (F_X8_stateOf (3 : Int32) M) fun r_7 => (if (M 0 3) = (5 : Int32) then bd (F_X8_says (4 : Int32) (119 : Int32) (104 : Int32) (111 : Int32) (108 : Int32) (101 : Int32) (0 : Int32) M) fun r_9 => (if r_9 = (0 : Int32) then B_X8_newState_97  r_7 M else bd (F_X8_length (4 : Int32) M) fun r_11 => (if r_11 = (5 : Int32) then B_X8_newState_98  r_7 (1 : Int32) M else B_X8_newState_97  r_7 M)) else B_X8_newState_97  r_7 M))))))
/-! X8_newMarks (I)I -/
def rm_X8_newMarks : Room := { frames := 2, cells := 0, slots := 0, locals := 46 }
def B_X8_newMarks_60 (kh60 : Int32 → Int32 → Mem → Option (Int32 × Mem)) (x3 : Int32) (x4 : Int32) (M : Mem) : Option (Int32 × Mem) :=
  bd (F_X8_length (2 : Int32) M) fun r_1 => (if r_1 ≤ x4 then gi 28 x3 (bd (F_X8_length (2 : Int32) M) fun r_4 => gi 28 x3 (wr M 8 x3.toNatClampNeg ((M 8 x3.toNatClampNeg) + r_4) fun M_7 => some ((2 : Int32), M_7))) else gi 28 x3 (bd (F_X8_letter (2 : Int32) x4 M) fun r_10 => gi 168 ((((6 : Int32) * x3) + (M 8 x3.toNatClampNeg)) + x4) (wr M 5 ((((6 : Int32) * x3) + (M 8 x3.toNatClampNeg)) + x4).toNatClampNeg (vp_nar .char r_10) fun M_13 => nm (x4 + (1 : Int32)) fun x4_15 => kh60 x3 x4_15 M_13)))
def H_X8_newMarks_60  : Nat → Int32 → Int32 → Mem → Option (Int32 × Mem)
  | 0 => fun _ _ _ => none
  | n + 1 => B_X8_newMarks_60 (H_X8_newMarks_60  n)
def F_X8_newMarks  (x1 : Int32) (M : Mem) : Option (Int32 × Mem) :=
  (if (M 0 3) = (3 : Int32) then bd (F_X8_isWord (2 : Int32) (3 : Int32) M) fun r_1 => (if r_1 = (0 : Int32) then some ((-1 : Int32), M) else bd (F_X8_stateOf (1 : Int32) M) fun r_3 => (if (0 : Int32) ≤ r_3 then nm (((2 : Int32) * r_3) + x1) fun x3_5 => gi 28 x3_5 (bd (F_X8_length (2 : Int32) M) fun r_8 => (if ((M 8 x3_5.toNatClampNeg) + r_8) ≤ (6 : Int32) then H_X8_newMarks_60  100 x3_5 (0 : Int32) M else some ((-2 : Int32), M))) else some ((-1 : Int32), M))) else some ((-1 : Int32), M))
/-! X8_newRule ()I -/
def rm_X8_newRule : Room := { frames := 2, cells := 0, slots := 0, locals := 49 }
def B_X8_newRule_431 (kh431 : Int32 → Int32 → Mem → Option (Int32 × Mem)) (x6 : Int32) (x9 : Int32) (M : Mem) : Option (Int32 × Mem) :=
  gi 20 (M 0 15) ((if (M 18 (M 0 15).toNatClampNeg) ≤ x9 then wr M 0 15 ((M 0 15) + (1 : Int32)) fun M_2 => some ((3 : Int32), M_2) else bd (F_X8_letter (x6 + (1 : Int32)) x9 M) fun r_4 => gi 60 (((3 : Int32) * (M 0 15)) + x9) (wr M 12 (((3 : Int32) * (M 0 15)) + x9).toNatClampNeg (vp_nar .char r_4) fun M_7 => nm (x9 + (1 : Int32)) fun x9_9 => kh431 x6 x9_9 M_7)))
def H_X8_newRule_431  : Nat → Int32 → Int32 → Mem → Option (Int32 × Mem)
  | 0 => fun _ _ _ => none
  | n + 1 => B_X8_newRule_431 (H_X8_newRule_431  n)
def B_X8_newRule_427  (x6 : Int32) (t0 : Int32) (t1 : Int32) (M : Mem) : Option (Int32 × Mem) :=
  gi 20 t1 (wr M 18 t1.toNatClampNeg t0 fun M_2 => H_X8_newRule_431  100 x6 (0 : Int32) M_2)
def B_X8_newRule_349  (x2 : Int32) (x3 : Int32) (x4 : Int32) (x5 : Int32) (x6 : Int32) (x7 : Int32) (x8 : Int32) (M : Mem) : Option (Int32 × Mem) :=
  gi 20 (M 0 15) (wr M 13 (M 0 15).toNatClampNeg x8 fun M_2 => gi 20 (M_2 0 15) (wr M_2 14 (M_2 0 15).toNatClampNeg x2 fun M_5 => gi 20 (M_5 0 15) (wr M_5 15 (M_5 0 15).toNatClampNeg x3 fun M_8 => gi 20 (M_8 0 15) (wr M_8 16 (M_8 0 15).toNatClampNeg x4 fun M_11 => gi 20 (M_11 0 15) (wr M_11 17 (M_11 0 15).toNatClampNeg x5 fun M_14 => (if x7 = (0 : Int32) then B_X8_newRule_427  x6 (0 : Int32) (M_14 0 15) M_14 else bd (F_X8_length (x6 + (1 : Int32)) M_14) fun r_16 => B_X8_newRule_427  x6 r_16 (M_14 0 15) M_14))))))
def B_X8_newRule_318 (kh318 : Int32 → Int32 → Int32 → Int32 → Int32 → Int32 → Int32 → Int32 → Mem → Option (Int32 × Mem)) (x2 : Int32) (x3 : Int32) (x4 : Int32) (x5 : Int32) (x6 : Int32) (x7 : Int32) (x8 : Int32) (x9 : Int32) (M : Mem) : Option (Int32 × Mem) :=
  (if (4 : Int32) ≤ x9 then B_X8_newRule_349  x2 x3 x4 x5 x6 x7 x8 M else bd (F_X8_letter (1 : Int32) x9 M) fun r_1 => gi 24 (((4 : Int32) * x8) + x9) (wr M 11 (((4 : Int32) * x8) + x9).toNatClampNeg (vp_nar .char r_1) fun M_4 => nm (x9 + (1 : Int32)) fun x9_6 => kh318 x2 x3 x4 x5 x6 x7 x8 x9_6 M_4))
def H_X8_newRule_318  : Nat → Int32 → Int32 → Int32 → Int32 → Int32 → Int32 → Int32 → Int32 → Mem → Option (Int32 × Mem)
  | 0 => fun _ _ _ _ _ _ _ _ _ => none
  | n + 1 => B_X8_newRule_318 (H_X8_newRule_318  n)
def B_X8_newRule_294  (x2 : Int32) (x3 : Int32) (x4 : Int32) (x5 : Int32) (x6 : Int32) (x7 : Int32) (x8 : Int32) (M : Mem) : Option (Int32 × Mem) :=
  (if (0 : Int32) ≤ x8 then B_X8_newRule_349  x2 x3 x4 x5 x6 x7 x8 M else nm (M 0 14) fun x8_1 => wr M 0 14 ((M 0 14) + (1 : Int32)) fun M_3 => H_X8_newRule_318  100 x2 x3 x4 x5 x6 x7 x8_1 (0 : Int32) M_3)
def B_X8_newRule_251  (x1 : Int32) (x2 : Int32) (x3 : Int32) (x4 : Int32) (x5 : Int32) (x6 : Int32) (x7 : Int32) (M : Mem) : Option (Int32 × Mem) :=
  (if x1 ≤ (x6 + (2 : Int32)) then bd (F_X8_eventOf (1 : Int32) M) fun r_1 => (if (M 0 15) = (20 : Int32) then some ((-2 : Int32), M) else (if (0 : Int32) ≤ r_1 then B_X8_newRule_294  x2 x3 x4 x5 x6 x7 r_1 M else (if (M 0 14) = (6 : Int32) then some ((-2 : Int32), M) else B_X8_newRule_294  x2 x3 x4 x5 x6 x7 r_1 M))) else some ((-1 : Int32), M))
def B_X8_newRule_223  (x1 : Int32) (x2 : Int32) (x3 : Int32) (x4 : Int32) (x5 : Int32) (x6 : Int32) (t0 : Int32) (M : Mem) : Option (Int32 × Mem) :=
  (if x2 < (1 : Int32) then some ((-1 : Int32), M) else (if x3 < (1 : Int32) then some ((-1 : Int32), M) else (if x5 < (0 : Int32) then some ((-1 : Int32), M) else (if x1 ≤ x6 then B_X8_newRule_251  x1 x2 x3 x4 x5 x6 t0 M else (if t0 = (0 : Int32) then some ((-1 : Int32), M) else B_X8_newRule_251  x1 x2 x3 x4 x5 x6 t0 M)))))
def B_X8_newRule_222  (x1 : Int32) (x2 : Int32) (x3 : Int32) (x4 : Int32) (x5 : Int32) (x6 : Int32) (M : Mem) : Option (Int32 × Mem) :=
  B_X8_newRule_223  x1 x2 x3 x4 x5 x6 (0 : Int32) M
def B_X8_newRule_181  (x1 : Int32) (x2 : Int32) (x3 : Int32) (x4 : Int32) (x5 : Int32) (t0 : Int32) (M : Mem) : Option (Int32 × Mem) :=
  (if x1 ≤ t0 then B_X8_newRule_222  x1 x2 x3 x4 x5 t0 M else bd (F_X8_says t0 (100 : Int32) (111 : Int32) (0 : Int32) (0 : Int32) (0 : Int32) (0 : Int32) M) fun r_1 => (if r_1 = (0 : Int32) then B_X8_newRule_222  x1 x2 x3 x4 x5 t0 M else bd (F_X8_isWord (t0 + (1 : Int32)) (3 : Int32) M) fun r_3 => (if r_3 = (0 : Int32) then B_X8_newRule_222  x1 x2 x3 x4 x5 t0 M else B_X8_newRule_223  x1 x2 x3 x4 x5 t0 (1 : Int32) M)))
def B_X8_newRule_169  (x1 : Int32) (x2 : Int32) (x3 : Int32) (x4 : Int32) (x5 : Int32) (M : Mem) : Option (Int32 × Mem) :=
  (if x4 ≤ (0 : Int32) then B_X8_newRule_181  x1 x2 x3 x4 x5 (6 : Int32) M else B_X8_newRule_181  x1 x2 x3 x4 x5 (8 : Int32) M)
def B_X8_newRule_167  (x1 : Int32) (x2 : Int32) (x3 : Int32) (x4 : Int32) (t0 : Int32) (M : Mem) : Option (Int32 × Mem) :=
  B_X8_newRule_169  x1 x2 x3 x4 t0 M
def B_X8_newRule_150  (x1 : Int32) (x2 : Int32) (x3 : Int32) (t0 : Int32) (M : Mem) : Option (Int32 × Mem) :=
  (if t0 ≤ (0 : Int32) then B_X8_newRule_167  x1 x2 x3 t0 (0 : Int32) M else bd (F_X8_stateOf (7 : Int32) M) fun r_1 => B_X8_newRule_167  x1 x2 x3 t0 r_1 M)
def B_X8_newRule_149  (x1 : Int32) (x2 : Int32) (x3 : Int32) (M : Mem) : Option (Int32 × Mem) :=
  B_X8_newRule_150  x1 x2 x3 (0 : Int32) M
def B_X8_newRule_23  (x1 : Int32) (M : Mem) : Option (Int32 × Mem) :=
  bd (F_X8_isWord (1 : Int32) (4 : Int32) M) fun r_1 => (if r_1 = (0 : Int32) then some ((-1 : Int32), M) else bd (F_X8_says (2 : Int32) (102 : Int32) (114 : Int32) (111 : Int32) (109 : Int32) (0 : Int32) (0 : Int32) M) fun r_3 => (if r_3 = (0 : Int32) then some ((-1 : Int32), M) else bd (F_X8_says (4 : Int32) (116 : Int32) (111 : Int32) (0 : Int32) (0 : Int32) (0 : Int32) (0 : Int32) M) fun r_5 => (if r_5 = (0 : Int32) then some ((-1 : Int32), M) else bd (F_X8_stateOf (3 : Int32) M) fun r_7 => bd (F_X8_stateOf (5 : Int32) M) fun r_9 => (if x1 ≤ (6 : Int32) then B_X8_newRule_169  x1 r_7 r_9 (0 : Int32) (0 : Int32) M else bd (F_X8_says (6 : Int32) (105 : Int32) (102 : Int32) (0 : Int32) (0 : Int32) (0 : Int32) (0 : Int32) M) fun r_11 => (if r_11 = (0 : Int32) then bd (F_X8_says (6 : Int32) (117 : Int32) (110 : Int32) (108 : Int32) (101 : Int32) (115 : Int32) (115 : Int32) M) fun r_13 => (if r_13 = (0 : Int32) then B_X8_newRule_149  x1 r_7 r_9 M else bd (F_X8_length (6 : Int32) M) fun r_15 => (if r_15 = (6 : Int32) then B_X8_newRule_150  x1 r_7 r_9 (2 : Int32) M else B_X8_newRule_149  x1 r_7 r_9 M)) else B_X8_newRule_150  x1 r_7 r_9 (1 : Int32) M)))))
def F_X8_newRule   (M : Mem) : Option (Int32 × Mem) :=
  nm (M 0 3) fun x1_1 => (if x1_1 = (6 : Int32) then B_X8_newRule_23  x1_1 M else (if x1_1 = (8 : Int32) then B_X8_newRule_23  x1_1 M else (if x1_1 = (10 : Int32) then B_X8_newRule_23  x1_1 M else some ((-1 : Int32), M))))
/-! X8_line ()I -/
def rm_X8_line : Room := { frames := 3, cells := 0, slots := 0, locals := 78 }
def B_X8_line_171  (t0 : Int32) (M : Mem) : Option (Int32 × Mem) :=
  bd2 (F_X8_fails t0 M) fun r_1 M_3 => some (r_1, M_3)
def B_X8_line_155  (x1 : Int32) (M : Mem) : Option (Int32 × Mem) :=
  (if (0 : Int32) ≤ x1 then wr M 0 27 (0 : Int32) fun M_1 => some (x1, M_1) else (if x1 = (-2 : Int32) then B_X8_line_171  (2 : Int32) M else B_X8_line_171  (1 : Int32) M))
def B_X8_line_134  (x1 : Int32) (M : Mem) : Option (Int32 × Mem) :=
  bd (F_X8_says (0 : Int32) (111 : Int32) (110 : Int32) (0 : Int32) (0 : Int32) (0 : Int32) (0 : Int32) M) fun r_1 => (if r_1 = (0 : Int32) then B_X8_line_155  x1 M else bd2 (F_X8_newRule M) fun r_3 M_5 => B_X8_line_155  r_3 M_5)
def B_X8_line_98  (x1 : Int32) (M : Mem) : Option (Int32 × Mem) :=
  bd (F_X8_says (0 : Int32) (101 : Int32) (120 : Int32) (105 : Int32) (116 : Int32) (0 : Int32) (0 : Int32) M) fun r_1 => (if r_1 = (0 : Int32) then B_X8_line_134  x1 M else bd (F_X8_length (0 : Int32) M) fun r_3 => (if r_3 = (4 : Int32) then bd2 (F_X8_newMarks (1 : Int32) M) fun r_5 M_7 => B_X8_line_155  r_5 M_7 else B_X8_line_134  x1 M))
def B_X8_line_61  (x1 : Int32) (M : Mem) : Option (Int32 × Mem) :=
  bd (F_X8_says (0 : Int32) (101 : Int32) (110 : Int32) (116 : Int32) (101 : Int32) (114 : Int32) (0 : Int32) M) fun r_1 => (if r_1 = (0 : Int32) then B_X8_line_98  x1 M else bd (F_X8_length (0 : Int32) M) fun r_3 => (if r_3 = (5 : Int32) then bd2 (F_X8_newMarks (0 : Int32) M) fun r_5 M_7 => B_X8_line_155  r_5 M_7 else B_X8_line_98  x1 M))
def F_X8_line   (M : Mem) : Option (Int32 × Mem) :=
  wr M 0 0 (0 : Int32) fun M_1 => bd (F_X8_split M_1) fun M_5 => wr M_5 0 2 (0 : Int32) fun M_6 => (if (M_6 0 3) = (0 : Int32) then some ((0 : Int32), M_6) else bd (F_X8_says (0 : Int32) (115 : Int32) (116 : Int32) (97 : Int32) (116 : Int32) (101 : Int32) (0 : Int32) M_6) fun r_8 => (if r_8 = (0 : Int32) then B_X8_line_61  (-1 : Int32) M_6 else bd (F_X8_length (0 : Int32) M_6) fun r_10 => (if r_10 = (5 : Int32) then bd2 (F_X8_newState M_6) fun r_12 M_14 => B_X8_line_155  r_12 M_14 else B_X8_line_61  (-1 : Int32) M_6)))
/-! X8_named ()I -/
def rm_X8_named : Room := { frames := 2, cells := 0, slots := 0, locals := 46 }
def B_X8_named_31  (t0 : Int32) (M : Mem) : Option (Int32 × Mem) :=
  (if (0 : Int32) ≤ t0 then some (t0, M) else bd2 (F_X8_fails (1 : Int32) M) fun r_1 M_3 => some (r_1, M_3))
def F_X8_named   (M : Mem) : Option (Int32 × Mem) :=
  wr M 0 0 (0 : Int32) fun M_1 => bd (F_X8_split M_1) fun M_5 => wr M_5 0 2 (0 : Int32) fun M_6 => (if (M_6 0 3) = (1 : Int32) then bd (F_X8_stateOf (0 : Int32) M_6) fun r_8 => B_X8_named_31  r_8 M_6 else B_X8_named_31  (-1 : Int32) M_6)
/-! X8_firstChild (I)I -/
def rm_X8_firstChild : Room := { frames := 0, cells := 0, slots := 0, locals := 0 }
def B_X8_firstChild_4 (kh4 : Int32 → Int32 → Option Int32) (M : Mem) (x1 : Int32) (x2 : Int32) : Option Int32 :=
  (if (M 0 6) ≤ x2 then some (-1 : Int32) else gi 14 x2 ((if (M 6 x2.toNatClampNeg) = x1 then some x2 else nm (x2 + (1 : Int32)) fun x2_2 => kh4 x1 x2_2)))
def H_X8_firstChild_4 (M : Mem) : Nat → Int32 → Int32 → Option Int32
  | 0 => fun _ _ => none
  | n + 1 => B_X8_firstChild_4 (H_X8_firstChild_4 M n) M
def F_X8_firstChild  (x1 : Int32) (M : Mem) : Option Int32 :=
  nm (x1 + (1 : Int32)) fun x2_1 => H_X8_firstChild_4 M 100 x1 x2_1
/-! X8_within (II)Z -/
def rm_X8_within : Room := { frames := 0, cells := 0, slots := 0, locals := 0 }
def B_X8_within_2 (kh2 : Int32 → Int32 → Option Int32) (M : Mem) (x2 : Int32) (x3 : Int32) : Option Int32 :=
  (if x3 ≤ x2 then (if x3 = x2 then some (1 : Int32) else some (0 : Int32)) else gi 14 x3 (nm (M 6 x3.toNatClampNeg) fun x3_3 => kh2 x2 x3_3))
def H_X8_within_2 (M : Mem) : Nat → Int32 → Int32 → Option Int32
  | 0 => fun _ _ => none
  | n + 1 => B_X8_within_2 (H_X8_within_2 M n) M
def F_X8_within  (x1 : Int32) (x2 : Int32) (M : Mem) : Option Int32 :=
  H_X8_within_2 M 100 x2 x1
/-! X8_isActive (I)Z -/
def rm_X8_isActive : Room := { frames := 0, cells := 0, slots := 0, locals := 0 }
def B_X8_isActive_46 (kh4 : Int32 → Int32 → Option Int32) (M : Mem) (x3 : Int32) (t0 : Int32) : Option Int32 :=
  gi 14 x3 (nm (M 6 x3.toNatClampNeg) fun x3_2 => kh4 t0 x3_2)
def B_X8_isActive_45 (kh4 : Int32 → Int32 → Option Int32) (M : Mem) (x3 : Int32) : Option Int32 :=
  B_X8_isActive_46 kh4 M x3 (0 : Int32)
def B_X8_isActive_41 (kh4 : Int32 → Int32 → Option Int32) (M : Mem) (x3 : Int32) : Option Int32 :=
  B_X8_isActive_46 kh4 M x3 (1 : Int32)
def B_X8_isActive_4 (kh4 : Int32 → Int32 → Option Int32) (M : Mem) (x2 : Int32) (x3 : Int32) : Option Int32 :=
  (if x3 ≤ (0 : Int32) then gz x2 (some x2) else (if x2 = (0 : Int32) then B_X8_isActive_45 kh4 M x3 else gi 14 x3 (gi 14 (M 6 x3.toNatClampNeg) ((if (M 9 (M 6 x3.toNatClampNeg).toNatClampNeg) = (0 : Int32) then gi 14 x3 (gi 14 (M 6 x3.toNatClampNeg) ((if (M 19 (M 6 x3.toNatClampNeg).toNatClampNeg) = x3 then B_X8_isActive_41 kh4 M x3 else B_X8_isActive_45 kh4 M x3))) else B_X8_isActive_41 kh4 M x3)))))
def H_X8_isActive_4 (M : Mem) : Nat → Int32 → Int32 → Option Int32
  | 0 => fun _ _ => none
  | n + 1 => B_X8_isActive_4 (H_X8_isActive_4 M n) M
def F_X8_isActive  (x1 : Int32) (M : Mem) : Option Int32 :=
  H_X8_isActive_4 M 100 (1 : Int32) x1
/-! X8_put (C)V -/
def rm_X8_put : Room := { frames := 0, cells := 0, slots := 0, locals := 0 }
def B_X8_put_40  (t0 : Int32) (M : Mem) : Option Mem :=
  wr M 0 26 t0 fun M_1 => some M_1
def B_X8_put_19   (M : Mem) : Option Mem :=
  (if (40 : Int32) ≤ (M 0 26) then B_X8_put_40  (40 : Int32) M else B_X8_put_40  ((M 0 26) + (1 : Int32)) M)
def F_X8_put  (x1 : Int32) (M : Mem) : Option Mem :=
  (if (40 : Int32) ≤ (M 0 26) then B_X8_put_19  M else gi 40 (M 0 26) (wr M 20 (M 0 26).toNatClampNeg (vp_nar .char x1) fun M_2 => B_X8_put_19  M_2))
/-! X8_notes (I)V -/
def rm_X8_notes : Room := { frames := 1, cells := 0, slots := 0, locals := 21 }
def B_X8_notes_2 (kh2 : Int32 → Int32 → Mem → Option Mem) (x1 : Int32) (x2 : Int32) (M : Mem) : Option Mem :=
  gi 28 x1 ((if (M 8 x1.toNatClampNeg) ≤ x2 then some M else gi 168 (((6 : Int32) * x1) + x2) (bd (F_X8_put (M 5 (((6 : Int32) * x1) + x2).toNatClampNeg) M) fun M_5 => nm (x2 + (1 : Int32)) fun x2_6 => kh2 x1 x2_6 M_5)))
def H_X8_notes_2  : Nat → Int32 → Int32 → Mem → Option Mem
  | 0 => fun _ _ _ => none
  | n + 1 => B_X8_notes_2 (H_X8_notes_2  n)
def F_X8_notes  (x1 : Int32) (M : Mem) : Option Mem :=
  H_X8_notes_2  100 x1 (0 : Int32) M
/-! X8_enter (II)V -/
def rm_X8_enter : Room := { frames := 2, cells := 0, slots := 0, locals := 43 }
def B_X8_enter_198 (kh9 : Int32 → Int32 → Mem → Option Mem) (kh146 : Int32 → Int32 → Int32 → Int32 → Mem → Option Mem) (x2 : Int32) (x3 : Int32) (x4 : Int32) (x6 : Int32) (M : Mem) : Option Mem :=
  nm (x6 + (-1 : Int32)) fun x6_1 => kh146 x2 x3 x4 x6_1 M
def B_X8_enter_187 (kh9 : Int32 → Int32 → Mem → Option Mem) (kh146 : Int32 → Int32 → Int32 → Int32 → Mem → Option Mem) (x2 : Int32) (x3 : Int32) (x4 : Int32) (x6 : Int32) (M : Mem) : Option Mem :=
  gi 20 x3 (wr M 25 x3.toNatClampNeg x6 fun M_2 => nm (x3 + (1 : Int32)) fun x3_4 => B_X8_enter_198 kh9 kh146 x2 x3_4 x4 x6 M_2)
def B_X8_enter_146 (kh9 : Int32 → Int32 → Mem → Option Mem) (kh146 : Int32 → Int32 → Int32 → Int32 → Mem → Option Mem) (x2 : Int32) (x3 : Int32) (x4 : Int32) (x6 : Int32) (M : Mem) : Option Mem :=
  (if x6 ≤ x4 then kh9 x2 x3 M else gi 14 x6 ((if (M 6 x6.toNatClampNeg) = x4 then gi 14 x4 ((if (M 9 x4.toNatClampNeg) = (0 : Int32) then gi 14 x4 ((if (M 19 x4.toNatClampNeg) = x6 then B_X8_enter_187 kh9 kh146 x2 x3 x4 x6 M else B_X8_enter_198 kh9 kh146 x2 x3 x4 x6 M)) else B_X8_enter_187 kh9 kh146 x2 x3 x4 x6 M)) else B_X8_enter_198 kh9 kh146 x2 x3 x4 x6 M)))
def H_X8_enter_146 (kh9 : Int32 → Int32 → Mem → Option Mem) : Nat → Int32 → Int32 → Int32 → Int32 → Mem → Option Mem
  | 0 => fun _ _ _ _ _ => none
  | n + 1 => B_X8_enter_146 kh9 (H_X8_enter_146 kh9 n)
def B_X8_enter_132 (kh9 : Int32 → Int32 → Mem → Option Mem) (kh67 : Int32 → Int32 → Int32 → Int32 → Int32 → Mem → Option Mem) (x2 : Int32) (x3 : Int32) (x4 : Int32) (x5 : Int32) (x6 : Int32) (M : Mem) : Option Mem :=
  nm (x6 + (-1 : Int32)) fun x6_1 => kh67 x2 x3 x4 x5 x6_1 M
def B_X8_enter_94 (kh9 : Int32 → Int32 → Mem → Option Mem) (kh67 : Int32 → Int32 → Int32 → Int32 → Int32 → Mem → Option Mem) (x2 : Int32) (x3 : Int32) (x4 : Int32) (x5 : Int32) (x6 : Int32) (t0 : Int32) (M : Mem) : Option Mem :=
  gi 14 x6 ((if (M 6 x6.toNatClampNeg) = x4 then gi 14 x4 ((if (M 9 x4.toNatClampNeg) = (0 : Int32) then (if t0 = (0 : Int32) then B_X8_enter_132 kh9 kh67 x2 x3 x4 x5 x6 M else gi 14 x4 (wr M 19 x4.toNatClampNeg x6 fun M_4 => B_X8_enter_132 kh9 kh67 x2 x3 x4 x5 x6 M_4)) else B_X8_enter_132 kh9 kh67 x2 x3 x4 x5 x6 M)) else B_X8_enter_132 kh9 kh67 x2 x3 x4 x5 x6 M))
def B_X8_enter_93 (kh9 : Int32 → Int32 → Mem → Option Mem) (kh67 : Int32 → Int32 → Int32 → Int32 → Int32 → Mem → Option Mem) (x2 : Int32) (x3 : Int32) (x4 : Int32) (x5 : Int32) (x6 : Int32) (M : Mem) : Option Mem :=
  B_X8_enter_94 kh9 kh67 x2 x3 x4 x5 x6 (0 : Int32) M
def B_X8_enter_67 (kh9 : Int32 → Int32 → Mem → Option Mem) (kh67 : Int32 → Int32 → Int32 → Int32 → Int32 → Mem → Option Mem) (x2 : Int32) (x3 : Int32) (x4 : Int32) (x5 : Int32) (x6 : Int32) (M : Mem) : Option Mem :=
  (if x6 ≤ x4 then nm ((M 0 6) - (1 : Int32)) fun x6_1 => H_X8_enter_146 kh9 100 x2 x3 x4 x6_1 M else (if x5 = (0 : Int32) then B_X8_enter_93 kh9 kh67 x2 x3 x4 x5 x6 M else bd (F_X8_within x2 x6 M) fun r_3 => (if r_3 = (0 : Int32) then B_X8_enter_93 kh9 kh67 x2 x3 x4 x5 x6 M else B_X8_enter_94 kh9 kh67 x2 x3 x4 x5 x6 (1 : Int32) M)))
def H_X8_enter_67 (kh9 : Int32 → Int32 → Mem → Option Mem) : Nat → Int32 → Int32 → Int32 → Int32 → Int32 → Mem → Option Mem
  | 0 => fun _ _ _ _ _ _ => none
  | n + 1 => B_X8_enter_67 kh9 (H_X8_enter_67 kh9 n)
def B_X8_enter_57 (kh9 : Int32 → Int32 → Mem → Option Mem) (x2 : Int32) (x3 : Int32) (x4 : Int32) (t0 : Int32) (M : Mem) : Option Mem :=
  nm ((M 0 6) - (1 : Int32)) fun x6_1 => H_X8_enter_67 kh9 100 x2 x3 x4 t0 x6_1 M
def B_X8_enter_56 (kh9 : Int32 → Int32 → Mem → Option Mem) (x2 : Int32) (x3 : Int32) (x4 : Int32) (M : Mem) : Option Mem :=
  B_X8_enter_57 kh9 x2 x3 x4 (0 : Int32) M
def B_X8_enter_9 (kh9 : Int32 → Int32 → Mem → Option Mem) (x2 : Int32) (x3 : Int32) (M : Mem) : Option Mem :=
  (if x3 ≤ (0 : Int32) then some M else nm (x3 + (-1 : Int32)) fun x3_1 => gi 20 x3_1 (nm (M 25 x3_1.toNatClampNeg) fun x4_4 => bd (F_X8_notes ((2 : Int32) * x4_4) M) fun M_8 => (if x2 < (0 : Int32) then B_X8_enter_56 kh9 x2 x3_1 x4_4 M_8 else (if x2 = x4_4 then B_X8_enter_56 kh9 x2 x3_1 x4_4 M_8 else bd (F_X8_within x2 x4_4 M_8) fun r_9 => (if r_9 = (0 : Int32) then B_X8_enter_56 kh9 x2 x3_1 x4_4 M_8 else B_X8_enter_57 kh9 x2 x3_1 x4_4 (1 : Int32) M_8)))))
def H_X8_enter_9  : Nat → Int32 → Int32 → Mem → Option Mem
  | 0 => fun _ _ _ => none
  | n + 1 => B_X8_enter_9 (H_X8_enter_9  n)
def F_X8_enter  (x1 : Int32) (x2 : Int32) (M : Mem) : Option Mem :=
  gi 20 (0 : Int32) (wr M 25 (0 : Int32).toNatClampNeg x1 fun M_2 => H_X8_enter_9  10000000000 x2 (1 : Int32) M_2)
/-! X8_firstOf (I)I -/
def rm_X8_firstOf : Room := { frames := 1, cells := 0, slots := 0, locals := 22 }
def F_X8_firstOf  (x1 : Int32) (M : Mem) : Option Int32 :=
  gi 14 x1 ((if (M 9 x1.toNatClampNeg) = (0 : Int32) then bd (F_X8_firstChild x1 M) fun r_2 => some r_2 else some (-1 : Int32)))
/-! X8_leave (I)V -/
def rm_X8_leave : Room := { frames := 2, cells := 0, slots := 0, locals := 43 }
def B_X8_leave_169 (kh111 : Int32 → Mem → Option Mem) (x4 : Int32) (M : Mem) : Option Mem :=
  nm (x4 + (-1 : Int32)) fun x4_1 => kh111 x4_1 M
def B_X8_leave_111 (kh111 : Int32 → Mem → Option Mem) (x4 : Int32) (M : Mem) : Option Mem :=
  (if x4 < (0 : Int32) then some M else gi 20 x4 (bd (F_X8_notes (((2 : Int32) * (M 26 x4.toNatClampNeg)) + (1 : Int32)) M) fun M_4 => gi 20 x4 (gi 14 (M_4 26 x4.toNatClampNeg) ((if (M_4 10 (M_4 26 x4.toNatClampNeg).toNatClampNeg) = (0 : Int32) then gi 20 x4 (gi 20 x4 (bd (F_X8_firstOf (M_4 26 x4.toNatClampNeg) M_4) fun r_9 => gi 14 (M_4 26 x4.toNatClampNeg) (wr M_4 19 (M_4 26 x4.toNatClampNeg).toNatClampNeg r_9 fun M_12 => B_X8_leave_169 kh111 x4 M_12))) else B_X8_leave_169 kh111 x4 M_4)))))
def H_X8_leave_111  : Nat → Int32 → Mem → Option Mem
  | 0 => fun _ _ => none
  | n + 1 => B_X8_leave_111 (H_X8_leave_111  n)
def B_X8_leave_97 (kh11 : Int32 → Int32 → Mem → Option Mem) (kh45 : Int32 → Int32 → Int32 → Int32 → Mem → Option Mem) (x2 : Int32) (x3 : Int32) (x4 : Int32) (x5 : Int32) (M : Mem) : Option Mem :=
  nm (x5 + (-1 : Int32)) fun x5_1 => kh45 x2 x3 x4 x5_1 M
def B_X8_leave_86 (kh11 : Int32 → Int32 → Mem → Option Mem) (kh45 : Int32 → Int32 → Int32 → Int32 → Mem → Option Mem) (x2 : Int32) (x3 : Int32) (x4 : Int32) (x5 : Int32) (M : Mem) : Option Mem :=
  gi 20 x3 (wr M 25 x3.toNatClampNeg x5 fun M_2 => nm (x3 + (1 : Int32)) fun x3_4 => B_X8_leave_97 kh11 kh45 x2 x3_4 x4 x5 M_2)
def B_X8_leave_45 (kh11 : Int32 → Int32 → Mem → Option Mem) (kh45 : Int32 → Int32 → Int32 → Int32 → Mem → Option Mem) (x2 : Int32) (x3 : Int32) (x4 : Int32) (x5 : Int32) (M : Mem) : Option Mem :=
  (if x5 ≤ x4 then kh11 x2 x3 M else gi 14 x5 ((if (M 6 x5.toNatClampNeg) = x4 then gi 14 x4 ((if (M 9 x4.toNatClampNeg) = (0 : Int32) then gi 14 x4 ((if (M 19 x4.toNatClampNeg) = x5 then B_X8_leave_86 kh11 kh45 x2 x3 x4 x5 M else B_X8_leave_97 kh11 kh45 x2 x3 x4 x5 M)) else B_X8_leave_86 kh11 kh45 x2 x3 x4 x5 M)) else B_X8_leave_97 kh11 kh45 x2 x3 x4 x5 M)))
def H_X8_leave_45 (kh11 : Int32 → Int32 → Mem → Option Mem) : Nat → Int32 → Int32 → Int32 → Int32 → Mem → Option Mem
  | 0 => fun _ _ _ _ _ => none
  | n + 1 => B_X8_leave_45 kh11 (H_X8_leave_45 kh11 n)
def B_X8_leave_11 (kh11 : Int32 → Int32 → Mem → Option Mem) (x2 : Int32) (x3 : Int32) (M : Mem) : Option Mem :=
  (if x3 ≤ (0 : Int32) then nm (x2 - (1 : Int32)) fun x4_1 => H_X8_leave_111  100 x4_1 M else nm (x3 + (-1 : Int32)) fun x3_3 => gi 20 x3_3 (nm (M 25 x3_3.toNatClampNeg) fun x4_6 => gi 20 x2 (wr M 26 x2.toNatClampNeg x4_6 fun M_9 => nm (x2 + (1 : Int32)) fun x2_11 => nm ((M_9 0 6) - (1 : Int32)) fun x5_13 => H_X8_leave_45 kh11 100 x2_11 x3_3 x4_6 x5_13 M_9)))
def H_X8_leave_11  : Nat → Int32 → Int32 → Mem → Option Mem
  | 0 => fun _ _ _ => none
  | n + 1 => B_X8_leave_11 (H_X8_leave_11  n)
def F_X8_leave  (x1 : Int32) (M : Mem) : Option Mem :=
  gi 20 (0 : Int32) (wr M 25 (0 : Int32).toNatClampNeg x1 fun M_2 => H_X8_leave_11  10000000000 (0 : Int32) (1 : Int32) M_2)
/-! X8_take (I)I -/
def rm_X8_take : Room := { frames := 3, cells := 0, slots := 0, locals := 70 }
def B_X8_take_42 (kh19 : Int32 → Int32 → Int32 → Mem → Option (Int32 × Mem)) (x1 : Int32) (x2 : Int32) (x3 : Int32) (M : Mem) : Option (Int32 × Mem) :=
  gi 14 x3 (nm (M 6 x3.toNatClampNeg) fun x3_2 => kh19 x1 x2 x3_2 M)
def B_X8_take_100 (kh100 : Int32 → Int32 → Int32 → Mem → Option (Int32 × Mem)) (x2 : Int32) (x3 : Int32) (x4 : Int32) (M : Mem) : Option (Int32 × Mem) :=
  gi 14 x4 ((if (M 6 x4.toNatClampNeg) = x3 then gi 14 x3 (wr M 19 x3.toNatClampNeg x4 fun M_3 => bd (F_X8_enter x4 x2 M_3) fun M_7 => gi 14 x3 (some ((M_7 7 x3.toNatClampNeg), M_7))) else gi 14 x4 (nm (M 6 x4.toNatClampNeg) fun x4_10 => kh100 x2 x3 x4_10 M)))
def H_X8_take_100  : Nat → Int32 → Int32 → Int32 → Mem → Option (Int32 × Mem)
  | 0 => fun _ _ _ _ => none
  | n + 1 => B_X8_take_100 (H_X8_take_100  n)
def B_X8_take_65 (kh65 : Int32 → Int32 → Int32 → Int32 → Mem → Option (Int32 × Mem)) (x1 : Int32) (x2 : Int32) (x3 : Int32) (x4 : Int32) (M : Mem) : Option (Int32 × Mem) :=
  gi 20 x1 ((if (M 18 x1.toNatClampNeg) ≤ x4 then H_X8_take_100  100 x2 x3 x2 M else gi 60 (((3 : Int32) * x1) + x4) (bd (F_X8_put (M 12 (((3 : Int32) * x1) + x4).toNatClampNeg) M) fun M_5 => nm (x4 + (1 : Int32)) fun x4_6 => kh65 x1 x2 x3 x4_6 M_5)))
def H_X8_take_65  : Nat → Int32 → Int32 → Int32 → Int32 → Mem → Option (Int32 × Mem)
  | 0 => fun _ _ _ _ _ => none
  | n + 1 => B_X8_take_65 (H_X8_take_65  n)
def B_X8_take_19 (kh19 : Int32 → Int32 → Int32 → Mem → Option (Int32 × Mem)) (x1 : Int32) (x2 : Int32) (x3 : Int32) (M : Mem) : Option (Int32 × Mem) :=
  gi 14 x3 ((if (M 9 x3.toNatClampNeg) = (0 : Int32) then (if x3 = x2 then B_X8_take_42 kh19 x1 x2 x3 M else bd (F_X8_within x2 x3 M) fun r_2 => (if r_2 = (0 : Int32) then B_X8_take_42 kh19 x1 x2 x3 M else gi 14 x3 (bd (F_X8_leave (M 19 x3.toNatClampNeg) M) fun M_7 => H_X8_take_65  100 x1 x2 x3 (0 : Int32) M_7))) else B_X8_take_42 kh19 x1 x2 x3 M))
def H_X8_take_19  : Nat → Int32 → Int32 → Int32 → Mem → Option (Int32 × Mem)
  | 0 => fun _ _ _ _ => none
  | n + 1 => B_X8_take_19 (H_X8_take_19  n)
def F_X8_take  (x1 : Int32) (M : Mem) : Option (Int32 × Mem) :=
  gi 20 x1 (nm (M 15 x1.toNatClampNeg) fun x2_2 => gi 20 x1 (gi 14 (M 14 x1.toNatClampNeg) (nm (M 6 (M 14 x1.toNatClampNeg).toNatClampNeg) fun x3_6 => H_X8_take_19  100 x1 x2_2 x3_6 M)))
/-! X8_own (II)I -/
def rm_X8_own : Room := { frames := 4, cells := 0, slots := 0, locals := 94 }
def B_X8_own_85 (kh2 : Int32 → Int32 → Int32 → Mem → Option (Int32 × Mem)) (x1 : Int32) (x2 : Int32) (x3 : Int32) (M : Mem) : Option (Int32 × Mem) :=
  nm (x3 + (1 : Int32)) fun x3_1 => kh2 x1 x2 x3_1 M
def B_X8_own_52 (kh2 : Int32 → Int32 → Int32 → Mem → Option (Int32 × Mem)) (x1 : Int32) (x2 : Int32) (x3 : Int32) (t0 : Int32) (M : Mem) : Option (Int32 × Mem) :=
  gi 20 x3 ((if (M 14 x3.toNatClampNeg) = x1 then gi 20 x3 ((if (M 13 x3.toNatClampNeg) = x2 then (if t0 = (0 : Int32) then B_X8_own_85 kh2 x1 x2 x3 M else bd2 (F_X8_take x3 M) fun r_3 M_5 => some (r_3, M_5)) else B_X8_own_85 kh2 x1 x2 x3 M)) else B_X8_own_85 kh2 x1 x2 x3 M))
def B_X8_own_47 (kh2 : Int32 → Int32 → Int32 → Mem → Option (Int32 × Mem)) (x1 : Int32) (x2 : Int32) (x3 : Int32) (M : Mem) : Option (Int32 × Mem) :=
  B_X8_own_52 kh2 x1 x2 x3 (1 : Int32) M
def B_X8_own_44 (kh2 : Int32 → Int32 → Int32 → Mem → Option (Int32 × Mem)) (x1 : Int32) (x2 : Int32) (x3 : Int32) (t0 : Int32) (t1 : Int32) (M : Mem) : Option (Int32 × Mem) :=
  (if t1 = t0 then B_X8_own_47 kh2 x1 x2 x3 M else B_X8_own_52 kh2 x1 x2 x3 (0 : Int32) M)
def B_X8_own_2 (kh2 : Int32 → Int32 → Int32 → Mem → Option (Int32 × Mem)) (x1 : Int32) (x2 : Int32) (x3 : Int32) (M : Mem) : Option (Int32 × Mem) :=
  (if (M 0 15) ≤ x3 then some ((99 : Int32), M) else gi 20 x3 ((if (M 16 x3.toNatClampNeg) = (0 : Int32) then B_X8_own_47 kh2 x1 x2 x3 M else gi 20 x3 (bd (F_X8_isActive (M 17 x3.toNatClampNeg) M) fun r_3 => gi 20 x3 ((if (M 16 x3.toNatClampNeg) = (1 : Int32) then B_X8_own_44 kh2 x1 x2 x3 (1 : Int32) r_3 M else B_X8_own_44 kh2 x1 x2 x3 (0 : Int32) r_3 M))))))
def H_X8_own_2  : Nat → Int32 → Int32 → Int32 → Mem → Option (Int32 × Mem)
  | 0 => fun _ _ _ _ => none
  | n + 1 => B_X8_own_2 (H_X8_own_2  n)
def F_X8_own  (x1 : Int32) (x2 : Int32) (M : Mem) : Option (Int32 × Mem) :=
  H_X8_own_2  100 x1 x2 (0 : Int32) M
/-! X8_following (II)I -/
def rm_X8_following : Room := { frames := 0, cells := 0, slots := 0, locals := 0 }
def B_X8_following_38 (kh38 : Int32 → Int32 → Option Int32) (M : Mem) (x1 : Int32) (x3 : Int32) : Option Int32 :=
  (if (M 0 6) ≤ x3 then some (-1 : Int32) else gi 14 x3 ((if (M 6 x3.toNatClampNeg) = x1 then some x3 else nm (x3 + (1 : Int32)) fun x3_2 => kh38 x1 x3_2)))
def H_X8_following_38 (M : Mem) : Nat → Int32 → Int32 → Option Int32
  | 0 => fun _ _ => none
  | n + 1 => B_X8_following_38 (H_X8_following_38 M n) M
def B_X8_following_37 (M : Mem) (x1 : Int32) (t0 : Int32) : Option Int32 :=
  H_X8_following_38 M 100 x1 t0
def F_X8_following  (x1 : Int32) (x2 : Int32) (M : Mem) : Option Int32 :=
  gi 14 x1 ((if (M 9 x1.toNatClampNeg) = (0 : Int32) then (if (0 : Int32) ≤ x2 then some (-1 : Int32) else gi 14 x1 (some (M 19 x1.toNatClampNeg))) else (if (0 : Int32) ≤ x2 then B_X8_following_37 M x1 (x2 + (1 : Int32)) else B_X8_following_37 M x1 (x1 + (1 : Int32)))))
/-! X8_offer (I)V -/
def rm_X8_offer : Room := { frames := 5, cells := 0, slots := 0, locals := 118 }
def B_X8_offer_204 (kh24 : Int32 → Int32 → Mem → Option Mem) (x1 : Int32) (x2 : Int32) (M : Mem) : Option Mem :=
  kh24 x1 x2 M
def B_X8_offer_166 (kh24 : Int32 → Int32 → Mem → Option Mem) (x1 : Int32) (x2 : Int32) (M : Mem) : Option Mem :=
  nm (x2 + (-1 : Int32)) fun x2_1 => (if x2_1 ≤ (0 : Int32) then B_X8_offer_204 kh24 x1 x2_1 M else gi 10 x2_1 (gi 10 (x2_1 - (1 : Int32)) ((if (M 29 (x2_1 - (1 : Int32)).toNatClampNeg) ≤ (M 29 x2_1.toNatClampNeg) then B_X8_offer_204 kh24 x1 x2_1 M else gi 10 x2_1 (gi 10 (x2_1 - (1 : Int32)) (wr M 29 (x2_1 - (1 : Int32)).toNatClampNeg (M 29 x2_1.toNatClampNeg) fun M_7 => B_X8_offer_204 kh24 x1 x2_1 M_7))))))
def B_X8_offer_93 (kh24 : Int32 → Int32 → Mem → Option Mem) (x1 : Int32) (x2 : Int32) (x3 : Int32) (t0 : Int32) (M : Mem) : Option Mem :=
  (if t0 < (0 : Int32) then gi 10 (x2 - (1 : Int32)) ((if (M 29 (x2 - (1 : Int32)).toNatClampNeg) = (99 : Int32) then bd2 (F_X8_own x3 x1 M) fun r_2 M_4 => gi 10 (x2 - (1 : Int32)) (wr M_4 29 (x2 - (1 : Int32)).toNatClampNeg r_2 fun M_6 => B_X8_offer_166 kh24 x1 x2 M_6) else B_X8_offer_166 kh24 x1 x2 M)) else gi 10 (x2 - (1 : Int32)) (wr M 28 (x2 - (1 : Int32)).toNatClampNeg t0 fun M_10 => gi 10 x2 (wr M_10 27 x2.toNatClampNeg t0 fun M_13 => gi 10 x2 (wr M_13 28 x2.toNatClampNeg (-1 : Int32) fun M_16 => gi 10 x2 (wr M_16 29 x2.toNatClampNeg (99 : Int32) fun M_19 => nm (x2 + (1 : Int32)) fun x2_21 => B_X8_offer_204 kh24 x1 x2_21 M_19)))))
def B_X8_offer_75 (kh24 : Int32 → Int32 → Mem → Option Mem) (x1 : Int32) (x2 : Int32) (x3 : Int32) (x4 : Int32) (t0 : Int32) (M : Mem) : Option Mem :=
  (if t0 = (0 : Int32) then bd (F_X8_following x3 x4 M) fun r_1 => B_X8_offer_93 kh24 x1 x2 x3 r_1 M else B_X8_offer_93 kh24 x1 x2 x3 (-1 : Int32) M)
def B_X8_offer_74 (kh24 : Int32 → Int32 → Mem → Option Mem) (x1 : Int32) (x2 : Int32) (x3 : Int32) (x4 : Int32) (M : Mem) : Option Mem :=
  B_X8_offer_75 kh24 x1 x2 x3 x4 (0 : Int32) M
def B_X8_offer_24 (kh24 : Int32 → Int32 → Mem → Option Mem) (x1 : Int32) (x2 : Int32) (M : Mem) : Option Mem :=
  (if x2 ≤ (0 : Int32) then some M else gi 10 (x2 - (1 : Int32)) (nm (M 27 (x2 - (1 : Int32)).toNatClampNeg) fun x3_2 => gi 10 (x2 - (1 : Int32)) (nm (M 28 (x2 - (1 : Int32)).toNatClampNeg) fun x4_5 => (if x4_5 < (0 : Int32) then B_X8_offer_74 kh24 x1 x2 x3_2 x4_5 M else gi 10 (x2 - (1 : Int32)) (gi 14 x4_5 ((if (M 7 x4_5.toNatClampNeg) ≤ (M 29 (x2 - (1 : Int32)).toNatClampNeg) then B_X8_offer_74 kh24 x1 x2 x3_2 x4_5 M else B_X8_offer_75 kh24 x1 x2 x3_2 x4_5 (1 : Int32) M)))))))
def H_X8_offer_24  : Nat → Int32 → Int32 → Mem → Option Mem
  | 0 => fun _ _ _ => none
  | n + 1 => B_X8_offer_24 (H_X8_offer_24  n)
def F_X8_offer  (x1 : Int32) (M : Mem) : Option Mem :=
  gi 10 (0 : Int32) (wr M 27 (0 : Int32).toNatClampNeg (0 : Int32) fun M_2 => gi 10 (0 : Int32) (wr M_2 28 (0 : Int32).toNatClampNeg (-1 : Int32) fun M_5 => gi 10 (0 : Int32) (wr M_5 29 (0 : Int32).toNatClampNeg (99 : Int32) fun M_8 => H_X8_offer_24  10000000000 x1 (1 : Int32) M_8)))
/-! X8_configuration ()I -/
def rm_X8_configuration : Room := { frames := 0, cells := 0, slots := 0, locals := 0 }
def B_X8_configuration_83 (kh83 : Int32 → Mem → Option (Int32 × Mem)) (x1 : Int32) (M : Mem) : Option (Int32 × Mem) :=
  (if (M 0 6) ≤ x1 then wr M 0 27 ((M 0 27) + (1 : Int32)) fun M_1 => some (((M_1 0 27) - (1 : Int32)), M_1) else gi 14 x1 (gi 420 (((14 : Int32) * (M 0 27)) + x1) (wr M 21 (((14 : Int32) * (M 0 27)) + x1).toNatClampNeg (M 19 x1.toNatClampNeg) fun M_5 => nm (x1 + (1 : Int32)) fun x1_7 => kh83 x1_7 M_5)))
def H_X8_configuration_83  : Nat → Int32 → Mem → Option (Int32 × Mem)
  | 0 => fun _ _ => none
  | n + 1 => B_X8_configuration_83 (H_X8_configuration_83  n)
def B_X8_configuration_51 (kh2 : Int32 → Mem → Option (Int32 × Mem)) (kh14 : Int32 → Int32 → Int32 → Mem → Option (Int32 × Mem)) (x1 : Int32) (x3 : Int32) (t0 : Int32) (M : Mem) : Option (Int32 × Mem) :=
  nm (x3 + (1 : Int32)) fun x3_1 => kh14 x1 t0 x3_1 M
def B_X8_configuration_50 (kh2 : Int32 → Mem → Option (Int32 × Mem)) (kh14 : Int32 → Int32 → Int32 → Mem → Option (Int32 × Mem)) (x1 : Int32) (x3 : Int32) (M : Mem) : Option (Int32 × Mem) :=
  B_X8_configuration_51 kh2 kh14 x1 x3 (0 : Int32) M
def B_X8_configuration_14 (kh2 : Int32 → Mem → Option (Int32 × Mem)) (kh14 : Int32 → Int32 → Int32 → Mem → Option (Int32 × Mem)) (x1 : Int32) (x2 : Int32) (x3 : Int32) (M : Mem) : Option (Int32 × Mem) :=
  (if (M 0 6) ≤ x3 then (if x2 = (0 : Int32) then nm (x1 + (1 : Int32)) fun x1_1 => kh2 x1_1 M else some (x1, M)) else (if x2 = (0 : Int32) then B_X8_configuration_50 kh2 kh14 x1 x3 M else gi 420 (((14 : Int32) * x1) + x3) (gi 14 x3 ((if (M 21 (((14 : Int32) * x1) + x3).toNatClampNeg) = (M 19 x3.toNatClampNeg) then B_X8_configuration_51 kh2 kh14 x1 x3 (1 : Int32) M else B_X8_configuration_50 kh2 kh14 x1 x3 M)))))
def H_X8_configuration_14 (kh2 : Int32 → Mem → Option (Int32 × Mem)) : Nat → Int32 → Int32 → Int32 → Mem → Option (Int32 × Mem)
  | 0 => fun _ _ _ _ => none
  | n + 1 => B_X8_configuration_14 kh2 (H_X8_configuration_14 kh2 n)
def B_X8_configuration_2 (kh2 : Int32 → Mem → Option (Int32 × Mem)) (x1 : Int32) (M : Mem) : Option (Int32 × Mem) :=
  (if (M 0 27) ≤ x1 then (if (M 0 27) = (30 : Int32) then some ((-1 : Int32), M) else H_X8_configuration_83  100 (0 : Int32) M) else H_X8_configuration_14 kh2 100 x1 (1 : Int32) (0 : Int32) M)
def H_X8_configuration_2  : Nat → Int32 → Mem → Option (Int32 × Mem)
  | 0 => fun _ _ => none
  | n + 1 => B_X8_configuration_2 (H_X8_configuration_2  n)
def F_X8_configuration   (M : Mem) : Option (Int32 × Mem) :=
  H_X8_configuration_2  100 (0 : Int32) M
/-! X8_keep (I)V -/
def rm_X8_keep : Room := { frames := 0, cells := 0, slots := 0, locals := 0 }
def B_X8_keep_12 (kh12 : Int32 → Int32 → Mem → Option Mem) (x1 : Int32) (x2 : Int32) (M : Mem) : Option Mem :=
  (if (M 0 26) ≤ x2 then some M else gi 40 x2 (gi 7240 (((40 : Int32) * x1) + x2) (wr M 24 (((40 : Int32) * x1) + x2).toNatClampNeg (vp_nar .char (M 20 x2.toNatClampNeg)) fun M_3 => nm (x2 + (1 : Int32)) fun x2_5 => kh12 x1 x2_5 M_3)))
def H_X8_keep_12  : Nat → Int32 → Int32 → Mem → Option Mem
  | 0 => fun _ _ _ => none
  | n + 1 => B_X8_keep_12 (H_X8_keep_12  n)
def F_X8_keep  (x1 : Int32) (M : Mem) : Option Mem :=
  gi 181 x1 (wr M 23 x1.toNatClampNeg (M 0 26) fun M_2 => H_X8_keep_12  100 x1 (0 : Int32) M_2)
/-! X8_offered (II)V -/
def rm_X8_offered : Room := { frames := 6, cells := 0, slots := 0, locals := 144 }
def B_X8_offered_2 (kh2 : Int32 → Int32 → Int32 → Mem → Option Mem) (x1 : Int32) (x2 : Int32) (x3 : Int32) (M : Mem) : Option Mem :=
  (if (M 0 6) ≤ x3 then wr M 0 26 (0 : Int32) fun M_1 => bd (F_X8_offer x2 M_1) fun M_5 => some M_5 else gi 420 (((14 : Int32) * x1) + x3) (gi 14 x3 (wr M 19 x3.toNatClampNeg (M 21 (((14 : Int32) * x1) + x3).toNatClampNeg) fun M_8 => nm (x3 + (1 : Int32)) fun x3_10 => kh2 x1 x2 x3_10 M_8)))
def H_X8_offered_2  : Nat → Int32 → Int32 → Int32 → Mem → Option Mem
  | 0 => fun _ _ _ _ => none
  | n + 1 => B_X8_offered_2 (H_X8_offered_2  n)
def F_X8_offered  (x1 : Int32) (x2 : Int32) (M : Mem) : Option Mem :=
  H_X8_offered_2  100 x1 x2 (0 : Int32) M
/-! X8_compile ()I -/
def rm_X8_compile : Room := { frames := 7, cells := 0, slots := 0, locals := 167 }
def B_X8_compile_146  (t0 : Int32) (M : Mem) : Option (Int32 × Mem) :=
  wr M 0 27 t0 fun M_1 => wr M_1 0 28 (0 : Int32) fun M_3 => gi 181 (180 : Int32) (wr M_3 0 29 (M_3 23 (180 : Int32).toNatClampNeg) fun M_6 => (if (M_6 0 27) ≤ (0 : Int32) then bd2 (F_X8_fails (1 : Int32) M_6) fun r_8 M_10 => some (r_8, M_10) else some ((M_6 0 27), M_6)))
def B_X8_compile_133  (x1 : Int32) (M : Mem) : Option (Int32 × Mem) :=
  (if (0 : Int32) ≤ x1 then B_X8_compile_146  (M 0 27) M else B_X8_compile_146  (0 : Int32) M)
def B_X8_compile_127 (kh62 : Int32 → Int32 → Mem → Option (Int32 × Mem)) (x1 : Int32) (x2 : Int32) (M : Mem) : Option (Int32 × Mem) :=
  nm (x2 + (1 : Int32)) fun x2_1 => kh62 x1 x2_1 M
def B_X8_compile_76 (kh62 : Int32 → Int32 → Mem → Option (Int32 × Mem)) (kh76 : Int32 → Int32 → Int32 → Mem → Option (Int32 × Mem)) (x1 : Int32) (x2 : Int32) (x3 : Int32) (M : Mem) : Option (Int32 × Mem) :=
  (if (M 0 14) ≤ x3 then B_X8_compile_127 kh62 x1 x2 M else (if x1 < (0 : Int32) then B_X8_compile_127 kh62 x1 x2 M else bd (F_X8_offered x2 x3 M) fun M_3 => bd (F_X8_keep (((6 : Int32) * x2) + x3) M_3) fun M_6 => bd2 (F_X8_configuration M_6) fun r_7 M_9 => gi 180 (((6 : Int32) * x2) + x3) (wr M_9 22 (((6 : Int32) * x2) + x3).toNatClampNeg r_7 fun M_11 => nm (x3 + (1 : Int32)) fun x3_13 => kh76 r_7 x2 x3_13 M_11)))
def H_X8_compile_76 (kh62 : Int32 → Int32 → Mem → Option (Int32 × Mem)) : Nat → Int32 → Int32 → Int32 → Mem → Option (Int32 × Mem)
  | 0 => fun _ _ _ _ => none
  | n + 1 => B_X8_compile_76 kh62 (H_X8_compile_76 kh62 n)
def B_X8_compile_62 (kh62 : Int32 → Int32 → Mem → Option (Int32 × Mem)) (x1 : Int32) (x2 : Int32) (M : Mem) : Option (Int32 × Mem) :=
  (if (M 0 27) ≤ x2 then B_X8_compile_133  x1 M else (if x1 < (0 : Int32) then B_X8_compile_133  x1 M else H_X8_compile_76 kh62 100 x1 x2 (0 : Int32) M))
def H_X8_compile_62  : Nat → Int32 → Int32 → Mem → Option (Int32 × Mem)
  | 0 => fun _ _ _ => none
  | n + 1 => B_X8_compile_62 (H_X8_compile_62  n)
def B_X8_compile_17 (kh17 : Int32 → Mem → Option (Int32 × Mem)) (x1 : Int32) (M : Mem) : Option (Int32 × Mem) :=
  (if (M 0 6) ≤ x1 then bd (F_X8_enter (0 : Int32) (-1 : Int32) M) fun M_3 => bd (F_X8_keep (180 : Int32) M_3) fun M_6 => bd2 (F_X8_configuration M_6) fun r_7 M_9 => H_X8_compile_62  100 r_7 (0 : Int32) M_9 else bd (F_X8_firstOf x1 M) fun r_10 => gi 14 x1 (wr M 19 x1.toNatClampNeg r_10 fun M_13 => nm (x1 + (1 : Int32)) fun x1_15 => kh17 x1_15 M_13))
def H_X8_compile_17  : Nat → Int32 → Mem → Option (Int32 × Mem)
  | 0 => fun _ _ => none
  | n + 1 => B_X8_compile_17 (H_X8_compile_17  n)
def F_X8_compile   (M : Mem) : Option (Int32 × Mem) :=
  wr M 0 0 (0 : Int32) fun M_1 => wr M_1 0 27 (0 : Int32) fun M_3 => wr M_3 0 26 (0 : Int32) fun M_5 => H_X8_compile_17  100 (0 : Int32) M_5
/-! X8_configurations ()I -/
def rm_X8_configurations : Room := { frames := 0, cells := 0, slots := 0, locals := 0 }
def F_X8_configurations   (M : Mem) : Option (Int32 × Mem) :=
  wr M 0 0 (0 : Int32) fun M_1 => some ((M_1 0 27), M_1)
/-! X8_count (I)I -/
def rm_X8_count : Room := { frames := 0, cells := 0, slots := 0, locals := 0 }
def F_X8_count  (x1 : Int32) (M : Mem) : Option (Int32 × Mem) :=
  wr M 0 0 (0 : Int32) fun M_1 => (if x1 = (3 : Int32) then (if (M_1 0 27) ≤ (0 : Int32) then some ((-1 : Int32), M_1) else some ((M_1 0 28), M_1)) else (if x1 = (0 : Int32) then some ((M_1 0 6), M_1) else (if x1 = (1 : Int32) then some ((M_1 0 15), M_1) else (if x1 = (2 : Int32) then some ((M_1 0 14), M_1) else some ((-1 : Int32), M_1)))))
/-! X8_isIn (II)Z -/
def rm_X8_isIn : Room := { frames := 0, cells := 0, slots := 0, locals := 0 }
def F_X8_isIn  (x1 : Int32) (x2 : Int32) (M : Mem) : Option Int32 :=
  (if x1 < (0 : Int32) then some (0 : Int32) else (if (M 0 27) ≤ x1 then some (0 : Int32) else (if x2 < (0 : Int32) then some (0 : Int32) else (if (M 0 14) ≤ x2 then some (0 : Int32) else some (1 : Int32)))))
/-! X8_next (II)I -/
def rm_X8_next : Room := { frames := 1, cells := 0, slots := 0, locals := 22 }
def F_X8_next  (x1 : Int32) (x2 : Int32) (M : Mem) : Option (Int32 × Mem) :=
  wr M 0 0 (0 : Int32) fun M_1 => bd (F_X8_isIn x1 x2 M_1) fun r_3 => (if r_3 = (0 : Int32) then bd2 (F_X8_fails (1 : Int32) M_1) fun r_5 M_7 => some (r_5, M_7) else gi 180 (((6 : Int32) * x1) + x2) (some ((M_1 22 (((6 : Int32) * x1) + x2).toNatClampNeg), M_1)))
/-! X8_trace (III)I -/
def rm_X8_trace : Room := { frames := 1, cells := 0, slots := 0, locals := 22 }
def B_X8_trace_61  (x3 : Int32) (t0 : Int32) (M : Mem) : Option (Int32 × Mem) :=
  (if x3 < (0 : Int32) then some ((-1 : Int32), M) else gi 181 t0 ((if (M 23 t0.toNatClampNeg) ≤ x3 then some ((-1 : Int32), M) else gi 7240 (((40 : Int32) * t0) + x3) (some ((M 24 (((40 : Int32) * t0) + x3).toNatClampNeg), M)))))
def B_X8_trace_44  (x1 : Int32) (x2 : Int32) (x3 : Int32) (x4 : Int32) (M : Mem) : Option (Int32 × Mem) :=
  (if x4 = (0 : Int32) then B_X8_trace_61  x3 (((6 : Int32) * x1) + x2) M else B_X8_trace_61  x3 (180 : Int32) M)
def B_X8_trace_26  (x1 : Int32) (x2 : Int32) (x3 : Int32) (t0 : Int32) (M : Mem) : Option (Int32 × Mem) :=
  (if t0 = (0 : Int32) then bd (F_X8_isIn x1 x2 M) fun r_1 => (if r_1 = (0 : Int32) then some ((-1 : Int32), M) else B_X8_trace_44  x1 x2 x3 t0 M) else B_X8_trace_44  x1 x2 x3 t0 M)
def B_X8_trace_25  (x1 : Int32) (x2 : Int32) (x3 : Int32) (M : Mem) : Option (Int32 × Mem) :=
  B_X8_trace_26  x1 x2 x3 (0 : Int32) M
def F_X8_trace  (x1 : Int32) (x2 : Int32) (x3 : Int32) (M : Mem) : Option (Int32 × Mem) :=
  wr M 0 0 (0 : Int32) fun M_1 => (if (M_1 0 27) ≤ (0 : Int32) then B_X8_trace_25  x1 x2 x3 M_1 else (if x1 = (0 : Int32) then (if x2 = (-1 : Int32) then B_X8_trace_26  x1 x2 x3 (1 : Int32) M_1 else B_X8_trace_25  x1 x2 x3 M_1) else B_X8_trace_25  x1 x2 x3 M_1))
/-! X8_active (II)Z -/
def rm_X8_active : Room := { frames := 1, cells := 0, slots := 0, locals := 23 }
def B_X8_active_33 (kh33 : Int32 → Int32 → Int32 → Mem → Option (Int32 × Mem)) (x1 : Int32) (x2 : Int32) (x3 : Int32) (M : Mem) : Option (Int32 × Mem) :=
  (if (M 0 6) ≤ x3 then bd (F_X8_isActive x2 M) fun r_1 => gz r_1 (some (r_1, M)) else gi 420 (((14 : Int32) * x1) + x3) (gi 14 x3 (wr M 19 x3.toNatClampNeg (M 21 (((14 : Int32) * x1) + x3).toNatClampNeg) fun M_6 => nm (x3 + (1 : Int32)) fun x3_8 => kh33 x1 x2 x3_8 M_6)))
def H_X8_active_33  : Nat → Int32 → Int32 → Int32 → Mem → Option (Int32 × Mem)
  | 0 => fun _ _ _ _ => none
  | n + 1 => B_X8_active_33 (H_X8_active_33  n)
def F_X8_active  (x1 : Int32) (x2 : Int32) (M : Mem) : Option (Int32 × Mem) :=
  wr M 0 0 (0 : Int32) fun M_1 => (if x1 < (0 : Int32) then some ((0 : Int32), M_1) else (if (M_1 0 27) ≤ x1 then some ((0 : Int32), M_1) else (if x2 < (0 : Int32) then some ((0 : Int32), M_1) else (if x2 < (M_1 0 6) then H_X8_active_33  100 x1 x2 (0 : Int32) M_1 else some ((0 : Int32), M_1)))))
/-! X8_current (II)I -/
def rm_X8_current : Room := { frames := 0, cells := 0, slots := 0, locals := 0 }
def F_X8_current  (x1 : Int32) (x2 : Int32) (M : Mem) : Option (Int32 × Mem) :=
  wr M 0 0 (0 : Int32) fun M_1 => (if x1 < (0 : Int32) then some ((-1 : Int32), M_1) else (if (M_1 0 27) ≤ x1 then some ((-1 : Int32), M_1) else (if x2 < (0 : Int32) then some ((-1 : Int32), M_1) else (if (M_1 0 6) ≤ x2 then some ((-1 : Int32), M_1) else gi 420 (((14 : Int32) * x1) + x2) (some ((M_1 21 (((14 : Int32) * x1) + x2).toNatClampNeg), M_1))))))
/-! X8_event (I)I -/
def rm_X8_event : Room := { frames := 1, cells := 0, slots := 0, locals := 21 }
def B_X8_event_30   (M : Mem) : Option (Int32 × Mem) :=
  bd2 (F_X8_fails (2 : Int32) M) fun r_1 M_3 => some (r_1, M_3)
def F_X8_event  (x1 : Int32) (M : Mem) : Option (Int32 × Mem) :=
  wr M 0 0 (0 : Int32) fun M_1 => (if (M_1 0 27) = (0 : Int32) then bd2 (F_X8_fails (1 : Int32) M_1) fun r_11 M_13 => some (r_11, M_13) else (if x1 < (0 : Int32) then B_X8_event_30  M_1 else (if x1 < (M_1 0 14) then gi 181 (((6 : Int32) * (M_1 0 28)) + x1) (wr M_1 0 29 ((M_1 0 29) + (M_1 23 (((6 : Int32) * (M_1 0 28)) + x1).toNatClampNeg)) fun M_4 => gi 180 (((6 : Int32) * (M_4 0 28)) + x1) (wr M_4 0 28 (M_4 22 (((6 : Int32) * (M_4 0 28)) + x1).toNatClampNeg) fun M_7 => some ((M_7 0 28), M_7))) else B_X8_event_30  M_1)))
/-! X8_noted ()I -/
def rm_X8_noted : Room := { frames := 0, cells := 0, slots := 0, locals := 0 }
def F_X8_noted   (M : Mem) : Option (Int32 × Mem) :=
  wr M 0 0 (0 : Int32) fun M_1 => (if (M_1 0 27) ≤ (0 : Int32) then some ((0 : Int32), M_1) else some ((M_1 0 29), M_1))
