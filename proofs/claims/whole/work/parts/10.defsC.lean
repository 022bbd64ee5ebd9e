/-! X0_append (C)Z -/
def rm_X0_append : Room := { frames := 0, cells := 0, slots := 0, locals := 0 }
def F_X0_append  (x1 : Int32) (M : Mem) : Option (Int32 × Mem) :=
  (if x1 < (32 : Int32) then some ((0 : Int32), M) else (if (126 : Int32) < x1 then some ((0 : Int32), M) else (if (M 1 3) < (50 : Int32) then gi 50 (M 1 3) (wr M 2 (M 1 3).toNatClampNeg (vp_nar .char x1) fun M_2 => wr M_2 1 3 ((M_2 1 3) + (1 : Int32)) fun M_4 => some ((1 : Int32), M_4)) else some ((0 : Int32), M))))
/-! X0_split ()V -/
def rm_X0_split : Room := { frames := 0, cells := 0, slots := 0, locals := 0 }
def B_X0_split_118   (M : Mem) : Option Mem :=
  wr M 1 3 (0 : Int32) fun M_1 => some M_1
def B_X0_split_111 (kh9 : Int32 → Int32 → Mem → Option Mem) (x2 : Int32) (t0 : Int32) (M : Mem) : Option Mem :=
  nm (x2 + (1 : Int32)) fun x2_1 => kh9 t0 x2_1 M
def B_X0_split_102 (kh9 : Int32 → Int32 → Mem → Option Mem) (x2 : Int32) (x3 : Int32) (M : Mem) : Option Mem :=
  (if x3 = (0 : Int32) then B_X0_split_111 kh9 x2 (1 : Int32) M else B_X0_split_111 kh9 x2 (0 : Int32) M)
def B_X0_split_77 (kh9 : Int32 → Int32 → Mem → Option Mem) (x2 : Int32) (x3 : Int32) (M : Mem) : Option Mem :=
  (if x3 = (0 : Int32) then (if (M 1 4) ≤ (0 : Int32) then B_X0_split_102 kh9 x2 x3 M else gi 25 ((M 1 4) - (1 : Int32)) (wr M 4 ((M 1 4) - (1 : Int32)).toNatClampNeg (x2 + (1 : Int32)) fun M_2 => B_X0_split_102 kh9 x2 x3 M_2)) else B_X0_split_102 kh9 x2 x3 M)
def B_X0_split_39 (kh9 : Int32 → Int32 → Mem → Option Mem) (x1 : Int32) (x2 : Int32) (t0 : Int32) (M : Mem) : Option Mem :=
  (if t0 = (0 : Int32) then (if x1 = (0 : Int32) then (if (25 : Int32) ≤ (M 1 4) then B_X0_split_77 kh9 x2 t0 M else gi 25 (M 1 4) (wr M 3 (M 1 4).toNatClampNeg x2 fun M_2 => wr M_2 1 4 ((M_2 1 4) + (1 : Int32)) fun M_4 => B_X0_split_77 kh9 x2 t0 M_4)) else B_X0_split_77 kh9 x2 t0 M) else B_X0_split_77 kh9 x2 t0 M)
def B_X0_split_9 (kh9 : Int32 → Int32 → Mem → Option Mem) (x1 : Int32) (x2 : Int32) (M : Mem) : Option Mem :=
  (if (M 1 3) ≤ x2 then B_X0_split_118  M else (if (50 : Int32) ≤ x2 then B_X0_split_118  M else gi 50 x2 ((if (M 2 x2.toNatClampNeg) = (32 : Int32) then B_X0_split_39 kh9 x1 x2 (1 : Int32) M else B_X0_split_39 kh9 x1 x2 (0 : Int32) M))))
def H_X0_split_9  : Nat → Int32 → Int32 → Mem → Option Mem
  | 0 => fun _ _ _ => none
  | n + 1 => B_X0_split_9 (H_X0_split_9  n)
def F_X0_split   (M : Mem) : Option Mem :=
  wr M 1 4 (0 : Int32) fun M_1 => H_X0_split_9  100 (0 : Int32) (0 : Int32) M_1
/-! X0_words ()I -/
def rm_X0_words : Room := { frames := 0, cells := 0, slots := 0, locals := 0 }
def F_X0_words   (M : Mem) : Option Int32 :=
  some (M 1 4)
/-! X0_sizeOf (I)I -/
def rm_X0_sizeOf : Room := { frames := 0, cells := 0, slots := 0, locals := 0 }
def F_X0_sizeOf  (x1 : Int32) (M : Mem) : Option Int32 :=
  (if x1 < (0 : Int32) then some (0 : Int32) else (if (M 1 4) ≤ x1 then some (0 : Int32) else gi 25 x1 (gi 25 x1 (some ((M 4 x1.toNatClampNeg) - (M 3 x1.toNatClampNeg))))))
/-! X0_letterAt (II)C -/
def rm_X0_letterAt : Room := { frames := 1, cells := 0, slots := 0, locals := 21 }
def F_X0_letterAt  (x1 : Int32) (x2 : Int32) (M : Mem) : Option Int32 :=
  (if x2 < (0 : Int32) then some (32 : Int32) else bd (F_X0_sizeOf x1 M) fun r_1 => (if r_1 ≤ x2 then some (32 : Int32) else gi 25 x1 (gi 50 ((M 3 x1.toNatClampNeg) + x2) (gc (M 2 ((M 3 x1.toNatClampNeg) + x2).toNatClampNeg) (some (M 2 ((M 3 x1.toNatClampNeg) + x2).toNatClampNeg))))))
/-! X0_isLetters (II)Z -/
def rm_X0_isLetters : Room := { frames := 2, cells := 0, slots := 0, locals := 43 }
def B_X0_isLetters_20 (kh20 : Int32 → Int32 → Int32 → Option Int32) (M : Mem) (x1 : Int32) (x3 : Int32) (x4 : Int32) : Option Int32 :=
  (if x3 ≤ x4 then some (1 : Int32) else bd (F_X0_letterAt x1 x4 M) fun r_1 => (if r_1 < (97 : Int32) then some (0 : Int32) else (if r_1 ≤ (122 : Int32) then nm (x4 + (1 : Int32)) fun x4_3 => kh20 x1 x3 x4_3 else some (0 : Int32))))
def H_X0_isLetters_20 (M : Mem) : Nat → Int32 → Int32 → Int32 → Option Int32
  | 0 => fun _ _ _ => none
  | n + 1 => B_X0_isLetters_20 (H_X0_isLetters_20 M n) M
def F_X0_isLetters  (x1 : Int32) (x2 : Int32) (M : Mem) : Option Int32 :=
  bd (F_X0_sizeOf x1 M) fun r_1 => (if r_1 = (0 : Int32) then some (0 : Int32) else (if r_1 ≤ x2 then H_X0_isLetters_20 M 100 x1 r_1 (0 : Int32) else some (0 : Int32)))
/-! X0_nameAt (I)I -/
def rm_X0_nameAt : Room := { frames := 3, cells := 0, slots := 0, locals := 68 }
def B_X0_nameAt_22 (kh22 : Int32 → Int32 → Int32 → Int32 → Option Int32) (M : Mem) (x1 : Int32) (x2 : Int32) (x3 : Int32) (x4 : Int32) : Option Int32 :=
  (if x3 ≤ x4 then some x2 else bd (F_X0_letterAt x1 x4 M) fun r_1 => nm ((((x2 * (27 : Int32)) + r_1) - (97 : Int32)) + (1 : Int32)) fun x2_3 => nm (x4 + (1 : Int32)) fun x4_5 => kh22 x1 x2_3 x3 x4_5)
def H_X0_nameAt_22 (M : Mem) : Nat → Int32 → Int32 → Int32 → Int32 → Option Int32
  | 0 => fun _ _ _ _ => none
  | n + 1 => B_X0_nameAt_22 (H_X0_nameAt_22 M n) M
def F_X0_nameAt  (x1 : Int32) (M : Mem) : Option Int32 :=
  bd (F_X0_isLetters x1 (4 : Int32) M) fun r_1 => (if r_1 = (0 : Int32) then some (-1 : Int32) else bd (F_X0_sizeOf x1 M) fun r_3 => H_X0_nameAt_22 M 100 x1 (0 : Int32) r_3 (0 : Int32))
/-! X1_isRow (I)Z -/
def rm_X1_isRow : Room := { frames := 0, cells := 0, slots := 0, locals := 0 }
def F_X1_isRow (o : Nat) (x1 : Int32) (M : Mem) : Option Int32 :=
  (if x1 < (0 : Int32) then some (0 : Int32) else (if (M o 0) ≤ x1 then some (0 : Int32) else some (1 : Int32)))
/-! X1_sizeOf (I)I -/
def rm_X1_sizeOf : Room := { frames := 1, cells := 0, slots := 0, locals := 21 }
def F_X1_sizeOf (o : Nat) (x1 : Int32) (M : Mem) : Option Int32 :=
  bd (F_X1_isRow o x1 M) fun r_1 => (if r_1 = (0 : Int32) then some (0 : Int32) else gi (dl_C (o + 2)) x1 (some (M (o + 2) x1.toNatClampNeg)))
/-! X1_letterAt (II)I -/
def rm_X1_letterAt : Room := { frames := 2, cells := 0, slots := 0, locals := 42 }
def F_X1_letterAt (o : Nat) (x1 : Int32) (x2 : Int32) (M : Mem) : Option Int32 :=
  (if x2 < (0 : Int32) then some (-1 : Int32) else bd (F_X1_sizeOf o x1 M) fun r_1 => (if r_1 ≤ x2 then some (-1 : Int32) else gi (dl_C (o + 1)) ((x1 * (M o 1)) + x2) (some (M (o + 1) ((x1 * (M o 1)) + x2).toNatClampNeg))))
/-! X1_hasRoom (II)Z -/
def rm_X1_hasRoom : Room := { frames := 1, cells := 0, slots := 0, locals := 21 }
def F_X1_hasRoom (o : Nat) (x1 : Int32) (x2 : Int32) (M : Mem) : Option Int32 :=
  bd (F_X1_isRow o x1 M) fun r_1 => (if r_1 = (0 : Int32) then some (0 : Int32) else gi (dl_C (o + 2)) x1 ((if ((M o 1) - (M (o + 2) x1.toNatClampNeg)) < x2 then some (0 : Int32) else some (1 : Int32))))
/-! X1_empty (I)V -/
def rm_X1_empty : Room := { frames := 1, cells := 0, slots := 0, locals := 21 }
def F_X1_empty (o : Nat) (x1 : Int32) (M : Mem) : Option Mem :=
  bd (F_X1_isRow o x1 M) fun r_1 => (if r_1 = (0 : Int32) then some M else gi (dl_C (o + 2)) x1 (wr M (o + 2) x1.toNatClampNeg (0 : Int32) fun M_4 => some M_4))
/-! X1_add (IC)V -/
def rm_X1_add : Room := { frames := 1, cells := 0, slots := 0, locals := 21 }
def F_X1_add (o : Nat) (x1 : Int32) (x2 : Int32) (M : Mem) : Option Mem :=
  bd (F_X1_isRow o x1 M) fun r_1 => (if r_1 = (0 : Int32) then some M else gi (dl_C (o + 2)) x1 ((if (M o 1) ≤ (M (o + 2) x1.toNatClampNeg) then some M else gi (dl_C (o + 2)) x1 (gi (dl_C (o + 1)) ((x1 * (M o 1)) + (M (o + 2) x1.toNatClampNeg)) (wr M (o + 1) ((x1 * (M o 1)) + (M (o + 2) x1.toNatClampNeg)).toNatClampNeg (vp_nar .char x2) fun M_6 => gi (dl_C (o + 2)) x1 (gi (dl_C (o + 2)) x1 (wr M_6 (o + 2) x1.toNatClampNeg ((M_6 (o + 2) x1.toNatClampNeg) + (1 : Int32)) fun M_10 => some M_10)))))))
/-! X1_addRow (ILChartTable$MarkRows;I)V -/
def rm_X1_addRow : Room := { frames := 1, cells := 0, slots := 0, locals := 30 }
def B_X1_addRow_61 (kh61 : Int32 → Int32 → Int32 → Int32 → Int32 → Mem → Option Mem) (o : Nat) (o2 : Nat) (x1 : Int32) (x3 : Int32) (x4 : Int32) (x5 : Int32) (x6 : Int32) (M : Mem) : Option Mem :=
  (if x4 ≤ x6 then gi (dl_C (o + 2)) x1 (gi (dl_C (o + 2)) x1 (wr M (o + 2) x1.toNatClampNeg ((M (o + 2) x1.toNatClampNeg) + x4) fun M_3 => some M_3)) else gi (dl_C (o2 + 1)) ((x3 * (M o2 1)) + x6) (gi (dl_C (o + 1)) (x5 + x6) (wr M (o + 1) (x5 + x6).toNatClampNeg (vp_nar .char (M (o2 + 1) ((x3 * (M o2 1)) + x6).toNatClampNeg)) fun M_7 => nm (x6 + (1 : Int32)) fun x6_9 => kh61 x1 x3 x4 x5 x6_9 M_7)))
def H_X1_addRow_61 (o : Nat) (o2 : Nat) : Nat → Int32 → Int32 → Int32 → Int32 → Int32 → Mem → Option Mem
  | 0 => fun _ _ _ _ _ _ => none
  | n + 1 => B_X1_addRow_61 (H_X1_addRow_61 o o2 n) o o2
def F_X1_addRow (o : Nat) (o2 : Nat) (x1 : Int32) (x3 : Int32) (M : Mem) : Option Mem :=
  bd (F_X1_isRow o x1 M) fun r_1 => (if r_1 = (0 : Int32) then some M else bd (F_X1_isRow o2 x3 M) fun r_3 => (if r_3 = (0 : Int32) then some M else gi (dl_C (o2 + 2)) x3 (gi (dl_C (o + 2)) x1 (nm (if ((M o 1) - (M (o + 2) x1.toNatClampNeg)) < (M (o2 + 2) x3.toNatClampNeg) then ((M o 1) - (M (o + 2) x1.toNatClampNeg)) else (M (o2 + 2) x3.toNatClampNeg)) fun x4_7 => gi (dl_C (o + 2)) x1 (nm ((x1 * (M o 1)) + (M (o + 2) x1.toNatClampNeg)) fun x5_10 => H_X1_addRow_61 o o2 100 x1 x3 x4_7 x5_10 (0 : Int32) M)))))
/-! X4_find (I)I -/
def rm_X4_find : Room := { frames := 0, cells := 0, slots := 0, locals := 0 }
def B_X4_find_2 (kh2 : Int32 → Int32 → Option Int32) (M : Mem) (x1 : Int32) (x2 : Int32) : Option Int32 :=
  (if (M 5 8) ≤ x2 then some (-1 : Int32) else gi 14 x2 ((if (M 6 x2.toNatClampNeg) = x1 then some x2 else nm (x2 + (1 : Int32)) fun x2_2 => kh2 x1 x2_2)))
def H_X4_find_2 (M : Mem) : Nat → Int32 → Int32 → Option Int32
  | 0 => fun _ _ => none
  | n + 1 => B_X4_find_2 (H_X4_find_2 M n) M
def F_X4_find  (x1 : Int32) (M : Mem) : Option Int32 :=
  H_X4_find_2 M 100 x1 (0 : Int32)
/-! X4_isState (I)Z -/
def rm_X4_isState : Room := { frames := 0, cells := 0, slots := 0, locals := 0 }
def F_X4_isState  (x1 : Int32) (M : Mem) : Option Int32 :=
  (if x1 < (0 : Int32) then some (0 : Int32) else (if (M 5 8) ≤ x1 then some (0 : Int32) else some (1 : Int32)))
/-! X4_depthOf (I)I -/
def rm_X4_depthOf : Room := { frames := 1, cells := 0, slots := 0, locals := 21 }
def F_X4_depthOf  (x1 : Int32) (M : Mem) : Option Int32 :=
  bd (F_X4_isState x1 M) fun r_1 => (if r_1 = (0 : Int32) then some (0 : Int32) else gi 14 x1 (some (M 8 x1.toNatClampNeg)))
/-! X4_isFull ()Z -/
def rm_X4_isFull : Room := { frames := 0, cells := 0, slots := 0, locals := 0 }
def F_X4_isFull   (M : Mem) : Option Int32 :=
  (if (M 5 8) < (14 : Int32) then some (0 : Int32) else some (1 : Int32))
/-! X4_make (IIZZ)V -/
def rm_X4_make : Room := { frames := 1, cells := 0, slots := 0, locals := 21 }
def B_X4_make_104   (M : Mem) : Option Mem :=
  wr M 5 8 ((M 5 8) + (1 : Int32)) fun M_1 => some M_1
def F_X4_make  (x1 : Int32) (x2 : Int32) (x3 : Int32) (x4 : Int32) (M : Mem) : Option Mem :=
  bd (F_X4_isFull M) fun r_1 => (if r_1 = (0 : Int32) then bd (F_X4_isState x2 M) fun r_3 => (if r_3 = (0 : Int32) then some M else gi 14 (M 5 8) (wr M 6 (M 5 8).toNatClampNeg x1 fun M_6 => gi 14 (M_6 5 8) (wr M_6 7 (M_6 5 8).toNatClampNeg x2 fun M_9 => gi 14 x2 (gi 14 (M_9 5 8) (wr M_9 8 (M_9 5 8).toNatClampNeg ((M_9 8 x2.toNatClampNeg) + (1 : Int32)) fun M_13 => gi 14 (M_13 5 8) (wr M_13 9 (M_13 5 8).toNatClampNeg (-1 : Int32) fun M_16 => gi 14 (M_16 5 8) (wr M_16 10 (M_16 5 8).toNatClampNeg (vp_nar .boolean x3) fun M_19 => gi 14 (M_19 5 8) (wr M_19 11 (M_19 5 8).toNatClampNeg (vp_nar .boolean x4) fun M_22 => gi 14 x2 ((if (M_22 9 x2.toNatClampNeg) = (-1 : Int32) then gi 14 x2 (wr M_22 9 x2.toNatClampNeg (M_22 5 8) fun M_26 => B_X4_make_104  M_26) else B_X4_make_104  M_22)))))))))) else some M)
/-! X4_entering ()LChartTable$MarkRows; -/
def rm_X4_entering : Room := { frames := 0, cells := 0, slots := 0, locals := 0 }
/-! X4_leaving ()LChartTable$MarkRows; -/
def rm_X4_leaving : Room := { frames := 0, cells := 0, slots := 0, locals := 0 }
/-! X4_parentOf (I)I -/
def rm_X4_parentOf : Room := { frames := 1, cells := 0, slots := 0, locals := 21 }
def F_X4_parentOf  (x1 : Int32) (M : Mem) : Option Int32 :=
  bd (F_X4_isState x1 M) fun r_1 => (if r_1 = (0 : Int32) then some (-1 : Int32) else gi 14 x1 (some (M 7 x1.toNatClampNeg)))
/-! X4_isWhole (I)Z -/
def rm_X4_isWhole : Room := { frames := 1, cells := 0, slots := 0, locals := 21 }
def F_X4_isWhole  (x1 : Int32) (M : Mem) : Option Int32 :=
  bd (F_X4_isState x1 M) fun r_1 => (if r_1 = (0 : Int32) then some (0 : Int32) else gi 14 x1 ((if (M 10 x1.toNatClampNeg) = (0 : Int32) then some (0 : Int32) else some (1 : Int32))))
/-! X4_childToward (II)I -/
def rm_X4_childToward : Room := { frames := 1, cells := 0, slots := 0, locals := 21 }
def B_X4_childToward_15 (kh15 : Int32 → Int32 → Int32 → Option Int32) (M : Mem) (x1 : Int32) (x3 : Int32) (x4 : Int32) : Option Int32 :=
  (if (6 : Int32) < x4 then some (-1 : Int32) else bd (F_X4_isState x3 M) fun r_1 => (if r_1 = (0 : Int32) then some (-1 : Int32) else gi 14 x3 ((if (M 7 x3.toNatClampNeg) = x1 then some x3 else gi 14 x3 (nm (M 7 x3.toNatClampNeg) fun x3_5 => nm (x4 + (1 : Int32)) fun x4_7 => kh15 x1 x3_5 x4_7)))))
def H_X4_childToward_15 (M : Mem) : Nat → Int32 → Int32 → Int32 → Option Int32
  | 0 => fun _ _ _ => none
  | n + 1 => B_X4_childToward_15 (H_X4_childToward_15 M n) M
def F_X4_childToward  (x1 : Int32) (x2 : Int32) (M : Mem) : Option Int32 :=
  bd (F_X4_isState x1 M) fun r_1 => (if r_1 = (0 : Int32) then some (-1 : Int32) else H_X4_childToward_15 M 100 x1 x2 (0 : Int32))
/-! X4_scopeOf (II)I -/
def rm_X4_scopeOf : Room := { frames := 2, cells := 0, slots := 0, locals := 45 }
def B_X4_scopeOf_40 (kh9 : Int32 → Int32 → Int32 → Option Int32) (M : Mem) (x2 : Int32) (x3 : Int32) (x4 : Int32) : Option Int32 :=
  bd (F_X4_parentOf x3 M) fun r_1 => nm (x4 + (1 : Int32)) fun x4_3 => kh9 x2 r_1 x4_3
def B_X4_scopeOf_9 (kh9 : Int32 → Int32 → Int32 → Option Int32) (M : Mem) (x2 : Int32) (x3 : Int32) (x4 : Int32) : Option Int32 :=
  (if (6 : Int32) < x4 then some (0 : Int32) else (if x3 ≤ (0 : Int32) then some (0 : Int32) else bd (F_X4_isWhole x3 M) fun r_1 => (if r_1 = (0 : Int32) then bd (F_X4_childToward x3 x2 M) fun r_3 => (if r_3 = (-1 : Int32) then B_X4_scopeOf_40 kh9 M x2 x3 x4 else some x3) else B_X4_scopeOf_40 kh9 M x2 x3 x4)))
def H_X4_scopeOf_9 (M : Mem) : Nat → Int32 → Int32 → Int32 → Option Int32
  | 0 => fun _ _ _ => none
  | n + 1 => B_X4_scopeOf_9 (H_X4_scopeOf_9 M n) M
def F_X4_scopeOf  (x1 : Int32) (x2 : Int32) (M : Mem) : Option Int32 :=
  bd (F_X4_parentOf x1 M) fun r_1 => H_X4_scopeOf_9 M 100 x2 r_1 (0 : Int32)
/-! X4_made ()I -/
def rm_X4_made : Room := { frames := 0, cells := 0, slots := 0, locals := 0 }
def F_X4_made   (M : Mem) : Option Int32 :=
  some (M 5 8)
/-! X4_isRemembering (I)Z -/
def rm_X4_isRemembering : Room := { frames := 1, cells := 0, slots := 0, locals := 21 }
def F_X4_isRemembering  (x1 : Int32) (M : Mem) : Option Int32 :=
  bd (F_X4_isState x1 M) fun r_1 => (if r_1 = (0 : Int32) then some (0 : Int32) else gi 14 x1 ((if (M 11 x1.toNatClampNeg) = (0 : Int32) then some (0 : Int32) else some (1 : Int32))))
/-! X4_currentAtFirst (I)I -/
def rm_X4_currentAtFirst : Room := { frames := 1, cells := 0, slots := 0, locals := 21 }
def F_X4_currentAtFirst  (x1 : Int32) (M : Mem) : Option Int32 :=
  bd (F_X4_isState x1 M) fun r_1 => (if r_1 = (0 : Int32) then some (-1 : Int32) else gi 14 x1 ((if (M 10 x1.toNatClampNeg) = (0 : Int32) then gi 14 x1 (some (M 9 x1.toNatClampNeg)) else some (-1 : Int32))))
/-! X3_findEvent (I)I -/
def rm_X3_findEvent : Room := { frames := 0, cells := 0, slots := 0, locals := 0 }
def B_X3_findEvent_2 (kh2 : Int32 → Int32 → Option Int32) (M : Mem) (x1 : Int32) (x2 : Int32) : Option Int32 :=
  (if (M 18 9) ≤ x2 then some (-1 : Int32) else gi 6 x2 ((if (M 19 x2.toNatClampNeg) = x1 then some x2 else nm (x2 + (1 : Int32)) fun x2_2 => kh2 x1 x2_2)))
def H_X3_findEvent_2 (M : Mem) : Nat → Int32 → Int32 → Option Int32
  | 0 => fun _ _ => none
  | n + 1 => B_X3_findEvent_2 (H_X3_findEvent_2 M n) M
def F_X3_findEvent  (x1 : Int32) (M : Mem) : Option Int32 :=
  H_X3_findEvent_2 M 100 x1 (0 : Int32)
/-! X3_hasRoom (I)Z -/
def rm_X3_hasRoom : Room := { frames := 1, cells := 0, slots := 0, locals := 22 }
def B_X3_hasRoom_27 (M : Mem)  : Option Int32 :=
  some (1 : Int32)
def F_X3_hasRoom  (x1 : Int32) (M : Mem) : Option Int32 :=
  (if (20 : Int32) ≤ (M 18 8) then some (0 : Int32) else (if (M 18 9) < (6 : Int32) then B_X3_hasRoom_27 M  else bd (F_X3_findEvent x1 M) fun r_1 => (if r_1 = (-1 : Int32) then some (0 : Int32) else B_X3_hasRoom_27 M )))
/-! X3_make (IIIIIZ)V -/
def rm_X3_make : Room := { frames := 2, cells := 0, slots := 0, locals := 43 }
def B_X3_make_48  (x2 : Int32) (x3 : Int32) (x4 : Int32) (x5 : Int32) (x6 : Int32) (x7 : Int32) (M : Mem) : Option Mem :=
  gi 20 (M 18 8) (wr M 20 (M 18 8).toNatClampNeg x7 fun M_2 => gi 20 (M_2 18 8) (wr M_2 21 (M_2 18 8).toNatClampNeg x2 fun M_5 => gi 20 (M_5 18 8) (wr M_5 22 (M_5 18 8).toNatClampNeg x3 fun M_8 => gi 20 (M_8 18 8) (wr M_8 23 (M_8 18 8).toNatClampNeg x4 fun M_11 => gi 20 (M_11 18 8) (wr M_11 24 (M_11 18 8).toNatClampNeg x5 fun M_14 => gi 20 (M_14 18 8) (wr M_14 25 (M_14 18 8).toNatClampNeg (vp_nar .boolean x6) fun M_17 => wr M_17 18 8 ((M_17 18 8) + (1 : Int32)) fun M_19 => some M_19))))))
def F_X3_make  (x1 : Int32) (x2 : Int32) (x3 : Int32) (x4 : Int32) (x5 : Int32) (x6 : Int32) (M : Mem) : Option Mem :=
  bd (F_X3_hasRoom x1 M) fun r_1 => (if r_1 = (0 : Int32) then some M else bd (F_X3_findEvent x1 M) fun r_3 => (if r_3 = (-1 : Int32) then nm (M 18 9) fun x7_5 => gi 6 (M 18 9) (wr M 19 (M 18 9).toNatClampNeg x1 fun M_8 => wr M_8 18 9 ((M_8 18 9) + (1 : Int32)) fun M_10 => B_X3_make_48  x2 x3 x4 x5 x6 x7_5 M_10) else B_X3_make_48  x2 x3 x4 x5 x6 r_3 M))
/-! X3_marks ()LChartTable$MarkRows; -/
def rm_X3_marks : Room := { frames := 0, cells := 0, slots := 0, locals := 0 }
/-! X3_made ()I -/
def rm_X3_made : Room := { frames := 0, cells := 0, slots := 0, locals := 0 }
def F_X3_made   (M : Mem) : Option Int32 :=
  some (M 18 8)
/-! X3_events ()I -/
def rm_X3_events : Room := { frames := 0, cells := 0, slots := 0, locals := 0 }
def F_X3_events   (M : Mem) : Option Int32 :=
  some (M 18 9)
/-! X3_isRule (I)Z -/
def rm_X3_isRule : Room := { frames := 0, cells := 0, slots := 0, locals := 0 }
def F_X3_isRule  (x1 : Int32) (M : Mem) : Option Int32 :=
  (if x1 < (0 : Int32) then some (0 : Int32) else (if (M 18 8) ≤ x1 then some (0 : Int32) else some (1 : Int32)))
/-! X3_isEvent (I)Z -/
def rm_X3_isEvent : Room := { frames := 0, cells := 0, slots := 0, locals := 0 }
def F_X3_isEvent  (x1 : Int32) (M : Mem) : Option Int32 :=
  (if x1 < (0 : Int32) then some (0 : Int32) else (if (M 18 9) ≤ x1 then some (0 : Int32) else some (1 : Int32)))
/-! X3_isFor (III)Z -/
def rm_X3_isFor : Room := { frames := 1, cells := 0, slots := 0, locals := 21 }
def F_X3_isFor  (x1 : Int32) (x2 : Int32) (x3 : Int32) (M : Mem) : Option Int32 :=
  bd (F_X3_isRule x1 M) fun r_1 => (if r_1 = (0 : Int32) then some (0 : Int32) else gi 20 x1 ((if (M 20 x1.toNatClampNeg) = x2 then gi 20 x1 ((if (M 21 x1.toNatClampNeg) = x3 then some (1 : Int32) else some (0 : Int32))) else some (0 : Int32))))
/-! X3_targetOf (I)I -/
def rm_X3_targetOf : Room := { frames := 1, cells := 0, slots := 0, locals := 21 }
def F_X3_targetOf  (x1 : Int32) (M : Mem) : Option Int32 :=
  bd (F_X3_isRule x1 M) fun r_1 => (if r_1 = (0 : Int32) then some (-1 : Int32) else gi 20 x1 (some (M 22 x1.toNatClampNeg)))
/-! X3_scopeOf (I)I -/
def rm_X3_scopeOf : Room := { frames := 1, cells := 0, slots := 0, locals := 21 }
def F_X3_scopeOf  (x1 : Int32) (M : Mem) : Option Int32 :=
  bd (F_X3_isRule x1 M) fun r_1 => (if r_1 = (0 : Int32) then some (-1 : Int32) else gi 20 x1 (some (M 23 x1.toNatClampNeg)))
/-! X3_askedOf (I)I -/
def rm_X3_askedOf : Room := { frames := 1, cells := 0, slots := 0, locals := 21 }
def F_X3_askedOf  (x1 : Int32) (M : Mem) : Option Int32 :=
  bd (F_X3_isRule x1 M) fun r_1 => (if r_1 = (0 : Int32) then some (-1 : Int32) else gi 20 x1 (some (M 24 x1.toNatClampNeg)))
/-! X3_isWantedActive (I)Z -/
def rm_X3_isWantedActive : Room := { frames := 1, cells := 0, slots := 0, locals := 21 }
def F_X3_isWantedActive  (x1 : Int32) (M : Mem) : Option Int32 :=
  bd (F_X3_isRule x1 M) fun r_1 => (if r_1 = (0 : Int32) then some (0 : Int32) else gi 20 x1 ((if (M 25 x1.toNatClampNeg) = (0 : Int32) then some (0 : Int32) else some (1 : Int32))))
/-! X2_addMarks (LChartTable$MarkRows;II)V -/
def rm_X2_addMarks : Room := { frames := 2, cells := 0, slots := 0, locals := 43 }
def B_X2_addMarks_13 (kh13 : Int32 → Int32 → Int32 → Int32 → Mem → Option Mem) (o1 : Nat) (x2 : Int32) (x3 : Int32) (x4 : Int32) (x5 : Int32) (M : Mem) : Option Mem :=
  (if x4 ≤ x5 then some M else bd (F_X0_letterAt x3 x5 M) fun r_1 => bd (F_X1_add o1 x2 r_1 M) fun M_5 => nm (x5 + (1 : Int32)) fun x5_6 => kh13 x2 x3 x4 x5_6 M_5)
def H_X2_addMarks_13 (o1 : Nat) : Nat → Int32 → Int32 → Int32 → Int32 → Mem → Option Mem
  | 0 => fun _ _ _ _ _ => none
  | n + 1 => B_X2_addMarks_13 (H_X2_addMarks_13 o1 n) o1
def F_X2_addMarks (o1 : Nat) (x2 : Int32) (x3 : Int32) (M : Mem) : Option Mem :=
  bd (F_X0_sizeOf x3 M) fun r_1 => H_X2_addMarks_13 o1 100 x2 x3 r_1 (0 : Int32) M
/-! X2_readMarks (LChartTable$MarkRows;)I -/
def rm_X2_readMarks : Room := { frames := 4, cells := 0, slots := 0, locals := 92 }
def F_X2_readMarks (o1 : Nat)  (M : Mem) : Option (Int32 × Mem) :=
  bd (F_X0_nameAt (1 : Int32) M) fun r_1 => bd (F_X4_find r_1 M) fun r_3 => bd (F_X0_words M) fun r_5 => (if r_5 = (3 : Int32) then (if r_3 = (-1 : Int32) then some ((-1 : Int32), M) else bd (F_X0_isLetters (2 : Int32) (3 : Int32) M) fun r_7 => (if r_7 = (0 : Int32) then some ((-1 : Int32), M) else bd (F_X0_sizeOf (2 : Int32) M) fun r_9 => bd (F_X1_hasRoom o1 r_3 r_9 M) fun r_11 => (if r_11 = (0 : Int32) then some ((-2 : Int32), M) else bd (F_X2_addMarks o1 r_3 (2 : Int32) M) fun M_15 => some ((2 : Int32), M_15)))) else some ((-1 : Int32), M))
/-! X6_noteIn (I)V -/
def rm_X6_noteIn : Room := { frames := 2, cells := 0, slots := 0, locals := 42 }
def F_X6_noteIn  (x1 : Int32) (M : Mem) : Option Mem :=
  wr M 34 4 x1 fun M_1 => bd (F_X1_empty 31 (M_1 34 4) M_1) fun M_5 => some M_5
/-! X6_makeCurrent (II)V -/
def rm_X6_makeCurrent : Room := { frames := 0, cells := 0, slots := 0, locals := 0 }
def F_X6_makeCurrent  (x1 : Int32) (x2 : Int32) (M : Mem) : Option Mem :=
  (if x1 < (0 : Int32) then some M else (if (14 : Int32) ≤ x1 then some M else gi 14 x1 (wr M 35 x1.toNatClampNeg x2 fun M_2 => some M_2)))
/-! X6_currentChild (I)I -/
def rm_X6_currentChild : Room := { frames := 0, cells := 0, slots := 0, locals := 0 }
def F_X6_currentChild  (x1 : Int32) (M : Mem) : Option Int32 :=
  (if x1 < (0 : Int32) then some (-1 : Int32) else (if (14 : Int32) ≤ x1 then some (-1 : Int32) else gi 14 x1 (some (M 35 x1.toNatClampNeg))))
/-! X6_enter (III)V -/
def rm_X6_enter (n : Nat) : Room := { frames := n + 2, cells := 0, slots := 0, locals := 24 * n + 56 }
def B_X6_enter_119 (rec : Int32 → Int32 → Int32 → Mem → Option Mem) (x1 : Int32) (x2 : Int32) (x3 : Int32) (M : Mem) : Option Mem :=
  bd (F_X6_currentChild x1 M) fun r_1 => bd (rec r_1 x2 (x3 + (1 : Int32)) M) fun M_5 => some M_5
def B_X6_enter_88 (rec : Int32 → Int32 → Int32 → Mem → Option Mem) (kh53 : Int32 → Int32 → Int32 → Int32 → Mem → Option Mem) (x1 : Int32) (x2 : Int32) (x3 : Int32) (x4 : Int32) (M : Mem) : Option Mem :=
  nm (x4 + (1 : Int32)) fun x4_1 => kh53 x1 x2 x3 x4_1 M
def B_X6_enter_53 (rec : Int32 → Int32 → Int32 → Mem → Option Mem) (kh53 : Int32 → Int32 → Int32 → Int32 → Mem → Option Mem) (x1 : Int32) (x2 : Int32) (x3 : Int32) (x4 : Int32) (M : Mem) : Option Mem :=
  bd (F_X4_made M) fun r_1 => (if r_1 ≤ x4 then some M else bd (F_X4_parentOf x4 M) fun r_3 => (if r_3 = x1 then bd (rec x4 x2 (x3 + (1 : Int32)) M) fun M_7 => B_X6_enter_88 rec kh53 x1 x2 x3 x4 M_7 else B_X6_enter_88 rec kh53 x1 x2 x3 x4 M))
def H_X6_enter_53 (rec : Int32 → Int32 → Int32 → Mem → Option Mem) : Nat → Int32 → Int32 → Int32 → Int32 → Mem → Option Mem
  | 0 => fun _ _ _ _ _ => none
  | n + 1 => B_X6_enter_53 rec (H_X6_enter_53 rec n)
def B_X6_enter_e (rec : Int32 → Int32 → Int32 → Mem → Option Mem) (x1 : Int32) (x2 : Int32) (x3 : Int32) (M : Mem) : Option Mem :=
  bd (F_X4_isState x1 M) fun r_1 => (if r_1 = (0 : Int32) then some M else (if x3 ≤ (6 : Int32) then bd (F_X1_addRow 31 12 (M 34 4) x1 M) fun M_5 => bd (F_X4_isWhole x1 M_5) fun r_6 => (if r_6 = (0 : Int32) then bd (F_X4_childToward x1 x2 M_5) fun r_8 => (if r_8 = (-1 : Int32) then B_X6_enter_119 rec x1 x2 x3 M_5 else bd (F_X6_makeCurrent x1 r_8 M_5) fun M_12 => B_X6_enter_119 rec x1 x2 x3 M_12) else nm (x1 + (1 : Int32)) fun x4_14 => H_X6_enter_53 rec 100 x1 x2 x3 x4_14 M_5) else some M))
def F_X6_enter : Nat → Int32 → Int32 → Int32 → Mem → Option Mem
  | 0 => fun _ _ _ _ => none
  | n + 1 => B_X6_enter_e (F_X6_enter n)
/-! X6_start (I)V -/
def rm_X6_start : Room := { frames := 13, cells := 0, slots := 0, locals := 320 }
def B_X6_start_2 (kh2 : Int32 → Int32 → Mem → Option Mem) (x1 : Int32) (x2 : Int32) (M : Mem) : Option Mem :=
  (if (14 : Int32) ≤ x2 then bd (F_X6_noteIn x1 M) fun M_3 => bd (F_X6_enter 10 (0 : Int32) (-1 : Int32) (0 : Int32) M_3) fun M_6 => some M_6 else bd (F_X4_currentAtFirst x2 M) fun r_7 => gi 14 x2 (wr M 35 x2.toNatClampNeg r_7 fun M_10 => nm (x2 + (1 : Int32)) fun x2_12 => kh2 x1 x2_12 M_10))
def H_X6_start_2  : Nat → Int32 → Int32 → Mem → Option Mem
  | 0 => fun _ _ _ => none
  | n + 1 => B_X6_start_2 (H_X6_start_2  n)
def F_X6_start  (x1 : Int32) (M : Mem) : Option Mem :=
  H_X6_start_2  100 x1 (0 : Int32) M
/-! X6_isActive (I)Z -/
def rm_X6_isActive : Room := { frames := 2, cells := 0, slots := 0, locals := 42 }
def B_X6_isActive_57 (M : Mem) (x2 : Int32) : Option Int32 :=
  (if x2 = (0 : Int32) then some (1 : Int32) else some (0 : Int32))
def B_X6_isActive_48 (kh4 : Int32 → Int32 → Option Int32) (M : Mem) (x3 : Int32) (x4 : Int32) : Option Int32 :=
  nm (x3 + (1 : Int32)) fun x3_1 => kh4 x4 x3_1
def B_X6_isActive_4 (kh4 : Int32 → Int32 → Option Int32) (M : Mem) (x2 : Int32) (x3 : Int32) : Option Int32 :=
  (if (6 : Int32) < x3 then B_X6_isActive_57 M x2 else (if x2 ≤ (0 : Int32) then B_X6_isActive_57 M x2 else bd (F_X4_parentOf x2 M) fun r_1 => bd (F_X4_isWhole r_1 M) fun r_3 => (if r_3 = (0 : Int32) then bd (F_X6_currentChild r_1 M) fun r_5 => (if r_5 = x2 then B_X6_isActive_48 kh4 M x3 r_1 else some (0 : Int32)) else B_X6_isActive_48 kh4 M x3 r_1)))
def H_X6_isActive_4 (M : Mem) : Nat → Int32 → Int32 → Option Int32
  | 0 => fun _ _ => none
  | n + 1 => B_X6_isActive_4 (H_X6_isActive_4 M n) M
def F_X6_isActive  (x1 : Int32) (M : Mem) : Option Int32 :=
  H_X6_isActive_4 M 100 x1 (0 : Int32)
/-! X6_ownRule (II)I -/
def rm_X6_ownRule : Room := { frames := 3, cells := 0, slots := 0, locals := 66 }
def B_X6_ownRule_51 (kh2 : Int32 → Int32 → Int32 → Option Int32) (M : Mem) (x1 : Int32) (x2 : Int32) (x3 : Int32) : Option Int32 :=
  nm (x3 + (1 : Int32)) fun x3_1 => kh2 x1 x2 x3_1
def B_X6_ownRule_2 (kh2 : Int32 → Int32 → Int32 → Option Int32) (M : Mem) (x1 : Int32) (x2 : Int32) (x3 : Int32) : Option Int32 :=
  bd (F_X3_made M) fun r_1 => (if r_1 ≤ x3 then some (-1 : Int32) else bd (F_X3_isFor x3 x2 x1 M) fun r_3 => (if r_3 = (0 : Int32) then B_X6_ownRule_51 kh2 M x1 x2 x3 else bd (F_X3_askedOf x3 M) fun r_5 => bd (F_X6_isActive r_5 M) fun r_7 => bd (F_X3_isWantedActive x3 M) fun r_9 => (if r_7 = r_9 then some x3 else B_X6_ownRule_51 kh2 M x1 x2 x3)))
def H_X6_ownRule_2 (M : Mem) : Nat → Int32 → Int32 → Int32 → Option Int32
  | 0 => fun _ _ _ => none
  | n + 1 => B_X6_ownRule_2 (H_X6_ownRule_2 M n) M
def F_X6_ownRule  (x1 : Int32) (x2 : Int32) (M : Mem) : Option Int32 :=
  H_X6_ownRule_2 M 100 x1 x2 (0 : Int32)
/-! X6_leave (II)V -/
def rm_X6_leave (n : Nat) : Room := { frames := n + 2, cells := 0, slots := 0, locals := 23 * n + 56 }
def B_X6_leave_85 (rec : Int32 → Int32 → Mem → Option Mem) (x1 : Int32) (M : Mem) : Option Mem :=
  bd (F_X1_addRow 31 15 (M 34 4) x1 M) fun M_3 => bd (F_X4_isRemembering x1 M_3) fun r_4 => (if r_4 = (0 : Int32) then bd (F_X4_currentAtFirst x1 M_3) fun r_6 => bd (F_X6_makeCurrent x1 r_6 M_3) fun M_10 => some M_10 else some M_3)
def B_X6_leave_64 (rec : Int32 → Int32 → Mem → Option Mem) (kh39 : Int32 → Int32 → Int32 → Mem → Option Mem) (x1 : Int32) (x2 : Int32) (x3 : Int32) (M : Mem) : Option Mem :=
  nm (x3 + (-1 : Int32)) fun x3_1 => kh39 x1 x2 x3_1 M
def B_X6_leave_39 (rec : Int32 → Int32 → Mem → Option Mem) (kh39 : Int32 → Int32 → Int32 → Mem → Option Mem) (x1 : Int32) (x2 : Int32) (x3 : Int32) (M : Mem) : Option Mem :=
  (if x3 ≤ x1 then B_X6_leave_85 rec x1 M else bd (F_X4_parentOf x3 M) fun r_1 => (if r_1 = x1 then bd (rec x3 (x2 + (1 : Int32)) M) fun M_5 => B_X6_leave_64 rec kh39 x1 x2 x3 M_5 else B_X6_leave_64 rec kh39 x1 x2 x3 M))
def H_X6_leave_39 (rec : Int32 → Int32 → Mem → Option Mem) : Nat → Int32 → Int32 → Int32 → Mem → Option Mem
  | 0 => fun _ _ _ _ => none
  | n + 1 => B_X6_leave_39 rec (H_X6_leave_39 rec n)
def B_X6_leave_e (rec : Int32 → Int32 → Mem → Option Mem) (x1 : Int32) (x2 : Int32) (M : Mem) : Option Mem :=
  bd (F_X4_isState x1 M) fun r_1 => (if r_1 = (0 : Int32) then some M else (if x2 ≤ (6 : Int32) then bd (F_X4_isWhole x1 M) fun r_3 => (if r_3 = (0 : Int32) then bd (F_X6_currentChild x1 M) fun r_5 => bd (rec r_5 (x2 + (1 : Int32)) M) fun M_9 => B_X6_leave_85 rec x1 M_9 else bd (F_X4_made M) fun r_10 => nm (r_10 - (1 : Int32)) fun x3_12 => H_X6_leave_39 rec 100 x1 x2 x3_12 M) else some M))
def F_X6_leave : Nat → Int32 → Int32 → Mem → Option Mem
  | 0 => fun _ _ _ => none
  | n + 1 => B_X6_leave_e (F_X6_leave n)
/-! X6_take (I)I -/
def rm_X6_take : Room := { frames := 13, cells := 0, slots := 0, locals := 320 }
def F_X6_take  (x1 : Int32) (M : Mem) : Option (Int32 × Mem) :=
  bd (F_X3_isRule x1 M) fun r_1 => (if r_1 = (0 : Int32) then some ((7 : Int32), M) else bd (F_X3_scopeOf x1 M) fun r_3 => bd (F_X3_targetOf x1 M) fun r_5 => bd (F_X4_depthOf r_3 M) fun r_7 => bd (F_X6_currentChild r_3 M) fun r_9 => bd (F_X6_leave 10 r_9 (r_7 + (1 : Int32)) M) fun M_13 => bd (F_X1_addRow 31 26 (M_13 34 4) x1 M_13) fun M_16 => bd (F_X4_childToward r_3 r_5 M_16) fun r_17 => bd (F_X6_makeCurrent r_3 r_17 M_16) fun M_21 => bd (F_X6_currentChild r_3 M_21) fun r_22 => bd (F_X6_enter 10 r_22 r_5 (r_7 + (1 : Int32)) M_21) fun M_26 => some (r_7, M_26))
/-! X6_offer (III)I -/
def rm_X6_offer (n : Nat) : Room := { frames := n + 14, cells := 0, slots := 0, locals := 25 * n + 344 }
def B_X6_offer_112 (rec : Int32 → Int32 → Int32 → Mem → Option (Int32 × Mem)) (x1 : Int32) (x2 : Int32) (x4 : Int32) (M : Mem) : Option (Int32 × Mem) :=
  (if x4 = (7 : Int32) then bd (F_X6_ownRule x1 x2 M) fun r_1 => bd2 (F_X6_take r_1 M) fun r_3 M_5 => some (r_3, M_5) else some (x4, M))
def B_X6_offer_94 (rec : Int32 → Int32 → Int32 → Mem → Option (Int32 × Mem)) (x1 : Int32) (x2 : Int32) (x4 : Int32) (M : Mem) : Option (Int32 × Mem) :=
  B_X6_offer_112 rec x1 x2 x4 M
def B_X6_offer_88 (rec : Int32 → Int32 → Int32 → Mem → Option (Int32 × Mem)) (kh40 : Int32 → Int32 → Int32 → Int32 → Int32 → Mem → Option (Int32 × Mem)) (x1 : Int32) (x2 : Int32) (x3 : Int32) (x4 : Int32) (x5 : Int32) (M : Mem) : Option (Int32 × Mem) :=
  nm (x5 + (1 : Int32)) fun x5_1 => kh40 x1 x2 x3 x4 x5_1 M
def B_X6_offer_40 (rec : Int32 → Int32 → Int32 → Mem → Option (Int32 × Mem)) (kh40 : Int32 → Int32 → Int32 → Int32 → Int32 → Mem → Option (Int32 × Mem)) (x1 : Int32) (x2 : Int32) (x3 : Int32) (x4 : Int32) (x5 : Int32) (M : Mem) : Option (Int32 × Mem) :=
  bd (F_X4_made M) fun r_1 => (if r_1 ≤ x5 then B_X6_offer_94 rec x1 x2 x4 M else (if x4 ≤ x3 then B_X6_offer_94 rec x1 x2 x4 M else bd (F_X4_parentOf x5 M) fun r_3 => (if r_3 = x1 then bd2 (rec x5 x2 (x3 + (1 : Int32)) M) fun r_5 M_7 => nm (if r_5 < x4 then r_5 else x4) fun x4_8 => B_X6_offer_88 rec kh40 x1 x2 x3 x4_8 x5 M_7 else B_X6_offer_88 rec kh40 x1 x2 x3 x4 x5 M)))
def H_X6_offer_40 (rec : Int32 → Int32 → Int32 → Mem → Option (Int32 × Mem)) : Nat → Int32 → Int32 → Int32 → Int32 → Int32 → Mem → Option (Int32 × Mem)
  | 0 => fun _ _ _ _ _ _ => none
  | n + 1 => B_X6_offer_40 rec (H_X6_offer_40 rec n)
def B_X6_offer_e (rec : Int32 → Int32 → Int32 → Mem → Option (Int32 × Mem)) (x1 : Int32) (x2 : Int32) (x3 : Int32) (M : Mem) : Option (Int32 × Mem) :=
  bd (F_X4_isState x1 M) fun r_1 => (if r_1 = (0 : Int32) then some ((7 : Int32), M) else (if x3 ≤ (6 : Int32) then bd (F_X4_isWhole x1 M) fun r_3 => (if r_3 = (0 : Int32) then bd (F_X6_currentChild x1 M) fun r_5 => bd2 (rec r_5 x2 (x3 + (1 : Int32)) M) fun r_7 M_9 => B_X6_offer_112 rec x1 x2 r_7 M_9 else nm (x1 + (1 : Int32)) fun x5_10 => H_X6_offer_40 rec 100 x1 x2 x3 (7 : Int32) x5_10 M) else some ((7 : Int32), M)))
def F_X6_offer : Nat → Int32 → Int32 → Int32 → Mem → Option (Int32 × Mem)
  | 0 => fun _ _ _ _ => none
  | n + 1 => B_X6_offer_e (F_X6_offer n)
/-! X6_receive (II)V -/
def rm_X6_receive : Room := { frames := 25, cells := 0, slots := 0, locals := 619 }
def F_X6_receive  (x1 : Int32) (x2 : Int32) (M : Mem) : Option Mem :=
  bd (F_X6_noteIn x2 M) fun M_3 => bd2 (F_X6_offer 10 (0 : Int32) x1 (0 : Int32) M_3) fun r_4 M_6 => some M_6
/-! X5_drop ()V -/
def rm_X5_drop : Room := { frames := 0, cells := 0, slots := 0, locals := 0 }
def F_X5_drop   (M : Mem) : Option Mem :=
  wr M 30 6 (0 : Int32) fun M_1 => some M_1
/-! X5_size ()I -/
def rm_X5_size : Room := { frames := 0, cells := 0, slots := 0, locals := 0 }
def F_X5_size   (M : Mem) : Option Int32 :=
  some (M 30 6)
/-! X5_place ()I -/
def rm_X5_place : Room := { frames := 0, cells := 0, slots := 0, locals := 0 }
def F_X5_place   (M : Mem) : Option Int32 :=
  (if (M 30 6) = (0 : Int32) then some (-1 : Int32) else some (M 30 7))
/-! X5_marksNoted ()I -/
def rm_X5_marksNoted : Room := { frames := 0, cells := 0, slots := 0, locals := 0 }
def F_X5_marksNoted   (M : Mem) : Option Int32 :=
  (if (M 30 6) = (0 : Int32) then some (0 : Int32) else some (M 30 8))
/-! X5_isConfiguration (I)Z -/
def rm_X5_isConfiguration : Room := { frames := 0, cells := 0, slots := 0, locals := 0 }
def F_X5_isConfiguration  (x1 : Int32) (M : Mem) : Option Int32 :=
  (if x1 < (0 : Int32) then some (0 : Int32) else (if (M 30 6) ≤ x1 then some (0 : Int32) else some (1 : Int32)))
/-! X5_currentChild (II)I -/
def rm_X5_currentChild : Room := { frames := 1, cells := 0, slots := 0, locals := 21 }
def F_X5_currentChild  (x1 : Int32) (x2 : Int32) (M : Mem) : Option Int32 :=
  bd (F_X5_isConfiguration x1 M) fun r_1 => (if r_1 = (0 : Int32) then some (-1 : Int32) else bd (F_X4_isState x2 M) fun r_3 => (if r_3 = (0 : Int32) then some (-1 : Int32) else gi 420 ((x1 * (14 : Int32)) + x2) (some (M 36 ((x1 * (14 : Int32)) + x2).toNatClampNeg))))
/-! X5_isWalk (I)Z -/
def rm_X5_isWalk : Room := { frames := 2, cells := 0, slots := 0, locals := 43 }
def B_X5_isWalk_2 (kh2 : Int32 → Int32 → Option Int32) (M : Mem) (x1 : Int32) (x2 : Int32) : Option Int32 :=
  (if (14 : Int32) ≤ x2 then some (1 : Int32) else bd (F_X5_currentChild x1 x2 M) fun r_1 => bd (F_X6_currentChild x2 M) fun r_3 => (if r_1 = r_3 then nm (x2 + (1 : Int32)) fun x2_5 => kh2 x1 x2_5 else some (0 : Int32)))
def H_X5_isWalk_2 (M : Mem) : Nat → Int32 → Int32 → Option Int32
  | 0 => fun _ _ => none
  | n + 1 => B_X5_isWalk_2 (H_X5_isWalk_2 M n) M
def F_X5_isWalk  (x1 : Int32) (M : Mem) : Option Int32 :=
  H_X5_isWalk_2 M 100 x1 (0 : Int32)
/-! X5_numberOfWalk ()I -/
def rm_X5_numberOfWalk : Room := { frames := 3, cells := 0, slots := 0, locals := 65 }
def B_X5_numberOfWalk_39 (kh39 : Int32 → Mem → Option (Int32 × Mem)) (x1 : Int32) (M : Mem) : Option (Int32 × Mem) :=
  (if (14 : Int32) ≤ x1 then wr M 30 6 ((M 30 6) + (1 : Int32)) fun M_1 => some (((M_1 30 6) - (1 : Int32)), M_1) else bd (F_X6_currentChild x1 M) fun r_3 => gi 420 (((M 30 6) * (14 : Int32)) + x1) (wr M 36 (((M 30 6) * (14 : Int32)) + x1).toNatClampNeg r_3 fun M_6 => nm (x1 + (1 : Int32)) fun x1_8 => kh39 x1_8 M_6))
def H_X5_numberOfWalk_39  : Nat → Int32 → Mem → Option (Int32 × Mem)
  | 0 => fun _ _ => none
  | n + 1 => B_X5_numberOfWalk_39 (H_X5_numberOfWalk_39  n)
def B_X5_numberOfWalk_2 (kh2 : Int32 → Mem → Option (Int32 × Mem)) (x1 : Int32) (M : Mem) : Option (Int32 × Mem) :=
  (if (M 30 6) ≤ x1 then (if (M 30 6) < (30 : Int32) then H_X5_numberOfWalk_39  100 (0 : Int32) M else some ((-1 : Int32), M)) else bd (F_X5_isWalk x1 M) fun r_2 => (if r_2 = (0 : Int32) then nm (x1 + (1 : Int32)) fun x1_4 => kh2 x1_4 M else some (x1, M)))
def H_X5_numberOfWalk_2  : Nat → Int32 → Mem → Option (Int32 × Mem)
  | 0 => fun _ _ => none
  | n + 1 => B_X5_numberOfWalk_2 (H_X5_numberOfWalk_2  n)
def F_X5_numberOfWalk   (M : Mem) : Option (Int32 × Mem) :=
  H_X5_numberOfWalk_2  100 (0 : Int32) M
/-! X5_cellOf (II)I -/
def rm_X5_cellOf : Room := { frames := 1, cells := 0, slots := 0, locals := 21 }
def F_X5_cellOf  (x1 : Int32) (x2 : Int32) (M : Mem) : Option Int32 :=
  bd (F_X5_isConfiguration x1 M) fun r_1 => (if r_1 = (0 : Int32) then some (-1 : Int32) else bd (F_X3_isEvent x2 M) fun r_3 => (if r_3 = (0 : Int32) then some (-1 : Int32) else some ((x1 * (6 : Int32)) + x2)))
/-! X5_setWalk (I)V -/
def rm_X5_setWalk : Room := { frames := 2, cells := 0, slots := 0, locals := 43 }
def B_X5_setWalk_2 (kh2 : Int32 → Int32 → Mem → Option Mem) (x1 : Int32) (x2 : Int32) (M : Mem) : Option Mem :=
  (if (14 : Int32) ≤ x2 then some M else bd (F_X5_currentChild x1 x2 M) fun r_1 => bd (F_X6_makeCurrent x2 r_1 M) fun M_5 => nm (x2 + (1 : Int32)) fun x2_6 => kh2 x1 x2_6 M_5)
def H_X5_setWalk_2  : Nat → Int32 → Int32 → Mem → Option Mem
  | 0 => fun _ _ _ => none
  | n + 1 => B_X5_setWalk_2 (H_X5_setWalk_2  n)
def F_X5_setWalk  (x1 : Int32) (M : Mem) : Option Mem :=
  H_X5_setWalk_2  100 x1 (0 : Int32) M
/-! X5_build ()Z -/
def rm_X5_build : Room := { frames := 26, cells := 0, slots := 0, locals := 641 }
def B_X5_build_120   (M : Mem) : Option (Int32 × Mem) :=
  wr M 30 7 (0 : Int32) fun M_1 => bd (F_X1_sizeOf 31 (180 : Int32) M_1) fun r_3 => wr M_1 30 8 r_3 fun M_5 => some ((1 : Int32), M_5)
def B_X5_build_114 (kh22 : Int32 → Mem → Option (Int32 × Mem)) (x1 : Int32) (M : Mem) : Option (Int32 × Mem) :=
  nm (x1 + (1 : Int32)) fun x1_1 => kh22 x1_1 M
def B_X5_build_93   (M : Mem) : Option (Int32 × Mem) :=
  wr M 30 6 (0 : Int32) fun M_1 => some ((0 : Int32), M_1)
def B_X5_build_38 (kh22 : Int32 → Mem → Option (Int32 × Mem)) (kh38 : Int32 → Int32 → Mem → Option (Int32 × Mem)) (x1 : Int32) (x2 : Int32) (M : Mem) : Option (Int32 × Mem) :=
  (if (6 : Int32) ≤ x2 then B_X5_build_114 kh22 x1 M else bd (F_X3_events M) fun r_1 => (if r_1 ≤ x2 then B_X5_build_114 kh22 x1 M else bd (F_X5_cellOf x1 x2 M) fun r_3 => bd (F_X5_setWalk x1 M) fun M_7 => bd (F_X6_receive x2 r_3 M_7) fun M_10 => bd2 (F_X5_numberOfWalk M_10) fun r_11 M_13 => (if r_3 = (-1 : Int32) then B_X5_build_93  M_13 else (if r_11 = (-1 : Int32) then B_X5_build_93  M_13 else gi 180 r_3 (wr M_13 37 r_3.toNatClampNeg r_11 fun M_15 => nm (x2 + (1 : Int32)) fun x2_17 => kh38 x1 x2_17 M_15)))))
def H_X5_build_38 (kh22 : Int32 → Mem → Option (Int32 × Mem)) : Nat → Int32 → Int32 → Mem → Option (Int32 × Mem)
  | 0 => fun _ _ _ => none
  | n + 1 => B_X5_build_38 kh22 (H_X5_build_38 kh22 n)
def B_X5_build_22 (kh22 : Int32 → Mem → Option (Int32 × Mem)) (x1 : Int32) (M : Mem) : Option (Int32 × Mem) :=
  (if (30 : Int32) ≤ x1 then B_X5_build_120  M else (if (M 30 6) ≤ x1 then B_X5_build_120  M else H_X5_build_38 kh22 100 x1 (0 : Int32) M))
def H_X5_build_22  : Nat → Int32 → Mem → Option (Int32 × Mem)
  | 0 => fun _ _ => none
  | n + 1 => B_X5_build_22 (H_X5_build_22  n)
def F_X5_build   (M : Mem) : Option (Int32 × Mem) :=
  wr M 30 6 (0 : Int32) fun M_1 => bd (F_X6_start (180 : Int32) M_1) fun M_5 => bd2 (F_X5_numberOfWalk M_5) fun r_6 M_8 => H_X5_build_22  100 (0 : Int32) M_8
/-! X5_following (II)I -/
def rm_X5_following : Room := { frames := 2, cells := 0, slots := 0, locals := 43 }
def F_X5_following  (x1 : Int32) (x2 : Int32) (M : Mem) : Option Int32 :=
  bd (F_X5_cellOf x1 x2 M) fun r_1 => (if r_1 = (-1 : Int32) then some (-1 : Int32) else gi 180 r_1 (some (M 37 r_1.toNatClampNeg)))
/-! X5_traceLetter (III)I -/
def rm_X5_traceLetter : Room := { frames := 3, cells := 0, slots := 0, locals := 64 }
def B_X5_traceLetter_44 (M : Mem) (x3 : Int32) (t0 : Int32) : Option Int32 :=
  bd (F_X1_letterAt 31 t0 x3 M) fun r_1 => some r_1
def B_X5_traceLetter_21 (M : Mem) (x1 : Int32) (x2 : Int32) (x3 : Int32) (t0 : Int32) : Option Int32 :=
  (if t0 = (0 : Int32) then bd (F_X5_cellOf x1 x2 M) fun r_1 => B_X5_traceLetter_44 M x3 r_1 else B_X5_traceLetter_44 M x3 (180 : Int32))
def B_X5_traceLetter_20 (M : Mem) (x1 : Int32) (x2 : Int32) (x3 : Int32) : Option Int32 :=
  B_X5_traceLetter_21 M x1 x2 x3 (0 : Int32)
def F_X5_traceLetter  (x1 : Int32) (x2 : Int32) (x3 : Int32) (M : Mem) : Option Int32 :=
  (if (M 30 6) ≤ (0 : Int32) then B_X5_traceLetter_20 M x1 x2 x3 else (if x1 = (0 : Int32) then (if x2 = (-1 : Int32) then B_X5_traceLetter_21 M x1 x2 x3 (1 : Int32) else B_X5_traceLetter_20 M x1 x2 x3) else B_X5_traceLetter_20 M x1 x2 x3))
/-! X5_isActive (II)Z -/
def rm_X5_isActive : Room := { frames := 3, cells := 0, slots := 0, locals := 66 }
def F_X5_isActive  (x1 : Int32) (x2 : Int32) (M : Mem) : Option (Int32 × Mem) :=
  bd (F_X5_isConfiguration x1 M) fun r_1 => (if r_1 = (0 : Int32) then some ((0 : Int32), M) else bd (F_X4_isState x2 M) fun r_3 => (if r_3 = (0 : Int32) then some ((0 : Int32), M) else bd (F_X5_setWalk x1 M) fun M_7 => bd (F_X6_isActive x2 M_7) fun r_8 => gz r_8 (some (r_8, M_7))))
/-! X5_step (I)I -/
def rm_X5_step : Room := { frames := 2, cells := 0, slots := 0, locals := 43 }
def B_X5_step_42   (M : Mem) : Option (Int32 × Mem) :=
  some ((M 30 7), M)
def F_X5_step  (x1 : Int32) (M : Mem) : Option (Int32 × Mem) :=
  bd (F_X5_cellOf (M 30 7) x1 M) fun r_1 => (if r_1 = (-1 : Int32) then B_X5_step_42  M else gi 180 r_1 (wr M 30 7 (M 37 r_1.toNatClampNeg) fun M_4 => bd (F_X1_sizeOf 31 r_1 M_4) fun r_6 => wr M_4 30 8 ((M_4 30 8) + r_6) fun M_8 => B_X5_step_42  M_8))
/-! X7_write (C)Z -/
def rm_X7_write : Room := { frames := 1, cells := 0, slots := 0, locals := 21 }
def F_X7_write  (x1 : Int32) (M : Mem) : Option (Int32 × Mem) :=
  bd2 (F_X0_append x1 M) fun r_1 M_3 => gz r_1 (some (r_1, M_3))
/-! X7_configurations ()I -/
def rm_X7_configurations : Room := { frames := 1, cells := 0, slots := 0, locals := 20 }
def F_X7_configurations   (M : Mem) : Option Int32 :=
  bd (F_X5_size M) fun r_1 => some r_1
/-! X7_count (I)I -/
def rm_X7_count : Room := { frames := 1, cells := 0, slots := 0, locals := 20 }
def F_X7_count  (x1 : Int32) (M : Mem) : Option Int32 :=
  (if x1 = (0 : Int32) then bd (F_X4_made M) fun r_2 => some r_2 else (if x1 = (1 : Int32) then bd (F_X3_made M) fun r_5 => some r_5 else (if x1 = (2 : Int32) then bd (F_X3_events M) fun r_8 => some r_8 else (if x1 = (3 : Int32) then bd (F_X5_place M) fun r_11 => some r_11 else some (-1 : Int32)))))
/-! X7_trace (III)I -/
def rm_X7_trace : Room := { frames := 4, cells := 0, slots := 0, locals := 88 }
def F_X7_trace  (x1 : Int32) (x2 : Int32) (x3 : Int32) (M : Mem) : Option Int32 :=
  bd (F_X5_traceLetter x1 x2 x3 M) fun r_1 => some r_1
/-! X7_active (II)Z -/
def rm_X7_active : Room := { frames := 4, cells := 0, slots := 0, locals := 88 }
def F_X7_active  (x1 : Int32) (x2 : Int32) (M : Mem) : Option (Int32 × Mem) :=
  bd2 (F_X5_isActive x1 x2 M) fun r_1 M_3 => gz r_1 (some (r_1, M_3))
/-! X7_current (II)I -/
def rm_X7_current : Room := { frames := 2, cells := 0, slots := 0, locals := 43 }
def F_X7_current  (x1 : Int32) (x2 : Int32) (M : Mem) : Option Int32 :=
  bd (F_X5_currentChild x1 x2 M) fun r_1 => some r_1
/-! X7_noted ()I -/
def rm_X7_noted : Room := { frames := 1, cells := 0, slots := 0, locals := 20 }
def F_X7_noted   (M : Mem) : Option Int32 :=
  bd (F_X5_marksNoted M) fun r_1 => some r_1
