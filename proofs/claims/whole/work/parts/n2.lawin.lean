/-! The law's words are among the tables'. -/
def tb_cs : List (List Cond) := [k2_sels lw_privs, tables_1_1, tables_1_2, tables_1_3, tables_1_4, tables_1_5]
theorem tb_cs_in : ∀ c ∈ tb_cs, ∀ w ∈ c, w ∈ lw_tbl := List.forall_mem_cons.mpr ⟨fun _ h => ap_l h, List.forall_mem_cons.mpr ⟨fun _ h => ap_r (ap_l h), List.forall_mem_cons.mpr ⟨fun _ h => ap_r (ap_r (ap_l h)), List.forall_mem_cons.mpr ⟨fun _ h => ap_r (ap_r (ap_r (ap_l h))), List.forall_mem_cons.mpr ⟨fun _ h => ap_r (ap_r (ap_r (ap_r (ap_l h)))), List.forall_mem_cons.mpr ⟨fun _ h => ap_r (ap_r (ap_r (ap_r (ap_r h)))), fun _ h => absurd h List.not_mem_nil⟩⟩⟩⟩⟩⟩
theorem mem_c {big : List Cond} (cs : List (List Cond)) (hb : ∀ c ∈ cs, ∀ w ∈ c, w ∈ big) (ws : List Cond) (ps : List (Nat × Nat)) (hp : ws = ps.filterMap (fun q => (cs.getD q.1 [])[q.2]?)) : ∀ w ∈ ws, w ∈ big := by
  intro w hw
  rw [hp] at hw
  obtain ⟨q, -, hq⟩ := List.mem_filterMap.mp hw
  have hm := List.mem_of_getElem? hq
  have hc : cs.getD q.1 [] ∈ cs := by
    rw [List.getD_eq_getElem?_getD] at hm ⊢
    cases e : cs[q.1]? with
    | none => rw [e] at hm; cases hm
    | some c => exact List.mem_of_getElem? e
  exact hb _ hc w hm
set_option maxRecDepth 20000 in
theorem li_0 : ∀ w ∈ wsL_law0_r1, w ∈ lw_tbl := mem_c tb_cs tb_cs_in _ [(1, 21), (1, 22), (1, 1), (4, 78), (4, 79), (1, 10), (5, 122), (1, 23), (1, 24), (1, 25), (1, 26), (1, 27), (1, 28), (1, 29), (1, 30), (1, 2), (1, 223), (1, 53), (1, 54), (1, 3), (1, 224), (1, 110), (1, 111), (1, 6)] (by first | rfl | decide +kernel)
set_option maxRecDepth 20000 in
theorem li_1 : ∀ w ∈ wsL_law0_r2, w ∈ lw_tbl := mem_c tb_cs tb_cs_in _ [(1, 225), (1, 149), (1, 150), (1, 7), (1, 226), (1, 165), (1, 166), (1, 8), (1, 227), (1, 32), (1, 33), (1, 34), (1, 51), (1, 35), (1, 52), (1, 36), (1, 37), (1, 55), (1, 56), (1, 57), (1, 58), (1, 82), (1, 83), (1, 84)] (by first | rfl | decide +kernel)
set_option maxRecDepth 20000 in
theorem li_2 : ∀ w ∈ wsL_law0_r3, w ∈ lw_tbl := mem_c tb_cs tb_cs_in _ [(1, 85), (1, 81), (1, 86), (1, 87), (1, 59), (1, 60), (1, 4), (1, 88), (1, 89), (1, 90), (1, 61), (1, 62), (1, 63), (1, 64), (1, 65), (1, 66), (1, 5), (1, 67), (1, 68), (1, 69), (1, 70), (1, 71), (1, 113), (1, 114)] (by first | rfl | decide +kernel)
set_option maxRecDepth 20000 in
theorem li_3 : ∀ w ∈ wsL_law0_r4, w ∈ lw_tbl := mem_c tb_cs tb_cs_in _ [(1, 115), (1, 118), (1, 119), (1, 120), (1, 121), (1, 122), (1, 123), (1, 124), (1, 116), (1, 125), (1, 117), (1, 151), (1, 152), (1, 153), (1, 154), (1, 155), (1, 156), (1, 157), (1, 167), (1, 168), (1, 169), (1, 170), (1, 171), (1, 197)] (by first | rfl | decide +kernel)
set_option maxRecDepth 20000 in
theorem li_4 : ∀ w ∈ wsL_law0_r5, w ∈ lw_tbl := mem_c tb_cs tb_cs_in _ [(1, 199), (1, 200), (1, 195), (1, 196), (1, 173), (1, 174), (1, 9), (1, 198), (1, 172), (1, 175), (1, 176), (1, 177), (1, 178), (1, 182), (1, 179), (1, 180), (1, 181), (4, 80), (4, 81), (4, 82), (4, 83), (4, 85), (4, 88), (4, 89)] (by first | rfl | decide +kernel)
set_option maxRecDepth 20000 in
theorem li_5 : ∀ w ∈ wsL_law0_r6, w ∈ lw_tbl := mem_c tb_cs tb_cs_in _ [(4, 90), (4, 91), (4, 92), (4, 93), (4, 94), (4, 95), (4, 96), (4, 97), (4, 100), (4, 101), (4, 102), (4, 103), (4, 104), (4, 105), (4, 106), (4, 107), (4, 108), (4, 109), (4, 114), (4, 115), (4, 116), (4, 117), (4, 118), (4, 119)] (by first | rfl | decide +kernel)
set_option maxRecDepth 20000 in
theorem li_6 : ∀ w ∈ wsL_law0_r7, w ∈ lw_tbl := mem_c tb_cs tb_cs_in _ [(4, 120), (4, 121), (4, 122), (1, 239), (2, 0), (2, 1), (2, 2), (2, 3), (2, 4), (2, 5), (2, 6), (1, 38), (4, 206), (4, 207), (4, 208), (4, 209), (4, 84), (4, 86), (2, 121), (2, 122), (1, 0), (2, 123), (2, 124), (2, 125)] (by first | rfl | decide +kernel)
set_option maxRecDepth 20000 in
theorem li_7 : ∀ w ∈ wsL_law0_r8, w ∈ lw_tbl := mem_c tb_cs tb_cs_in _ [(2, 126), (2, 127), (2, 128), (2, 129), (3, 66), (1, 18), (3, 134), (1, 19), (2, 130), (2, 131), (2, 132), (2, 133), (2, 134), (2, 135), (2, 136), (2, 137), (1, 39), (2, 138), (2, 139), (2, 140), (2, 141), (2, 143), (2, 144), (2, 145)] (by first | rfl | decide +kernel)
set_option maxRecDepth 20000 in
theorem li_8 : ∀ w ∈ wsL_law0_r9, w ∈ lw_tbl := mem_c tb_cs tb_cs_in _ [(2, 146), (2, 147), (2, 148), (2, 149), (2, 150), (2, 151), (2, 152), (2, 153), (1, 11), (2, 154), (5, 124), (2, 155), (2, 156), (2, 157), (2, 158), (2, 159), (5, 125), (2, 161), (2, 162), (2, 163), (2, 164), (2, 165), (2, 166), (2, 167)] (by first | rfl | decide +kernel)
set_option maxRecDepth 20000 in
theorem li_9 : ∀ w ∈ wsL_law0_r10, w ∈ lw_tbl := mem_c tb_cs tb_cs_in _ [(2, 168), (2, 169), (2, 170), (2, 171), (2, 172), (2, 173), (2, 174), (1, 12), (2, 175), (2, 176), (2, 177), (2, 178), (2, 179), (2, 181), (2, 182), (1, 13), (2, 183), (2, 184), (2, 185), (1, 14), (2, 186), (2, 187), (2, 188), (2, 189)] (by first | rfl | decide +kernel)
set_option maxRecDepth 20000 in
theorem li_10 : ∀ w ∈ wsL_law0_r11, w ∈ lw_tbl := mem_c tb_cs tb_cs_in _ [(2, 190), (2, 191), (2, 192), (2, 193), (2, 194), (2, 195), (2, 196), (2, 197), (2, 199), (2, 201), (2, 203), (2, 205), (0, 4), (2, 206), (2, 210), (2, 211), (2, 212), (2, 213), (2, 214), (2, 215), (2, 216), (2, 217), (2, 218), (2, 219)] (by first | rfl | decide +kernel)
set_option maxRecDepth 20000 in
theorem li_11 : ∀ w ∈ wsL_law0_r12, w ∈ lw_tbl := mem_c tb_cs tb_cs_in _ [(2, 220), (2, 221), (2, 222), (2, 223), (2, 224), (2, 225), (2, 99), (2, 76), (2, 77), (2, 78), (2, 226), (2, 227), (2, 228), (2, 229), (2, 230), (2, 231), (2, 232), (2, 233), (2, 234), (2, 236), (2, 237), (2, 238), (2, 239), (3, 0)] (by first | rfl | decide +kernel)
set_option maxRecDepth 20000 in
theorem li_12 : ∀ w ∈ wsL_law0_r13, w ∈ lw_tbl := mem_c tb_cs tb_cs_in _ [(3, 2), (0, 5), (3, 3), (3, 4), (3, 5), (3, 6), (3, 7), (3, 8), (3, 9), (2, 63), (2, 65), (0, 2), (2, 66), (3, 10), (3, 12), (0, 6), (3, 13), (3, 14), (3, 15), (3, 16), (3, 17), (3, 18), (3, 20), (3, 21)] (by first | rfl | decide +kernel)
set_option maxRecDepth 20000 in
theorem li_13 : ∀ w ∈ wsL_law0_r14, w ∈ lw_tbl := mem_c tb_cs tb_cs_in _ [(3, 22), (3, 23), (3, 25), (3, 27), (0, 7), (3, 28), (3, 33), (3, 35), (0, 8), (3, 36), (3, 38), (3, 39), (3, 40), (3, 41), (1, 126), (1, 127), (3, 42), (3, 44), (0, 9), (3, 45), (3, 46), (3, 47), (3, 48), (3, 49)] (by first | rfl | decide +kernel)
set_option maxRecDepth 20000 in
theorem li_14 : ∀ w ∈ wsL_law0_r15, w ∈ lw_tbl := mem_c tb_cs tb_cs_in _ [(3, 50), (2, 96), (2, 97), (2, 98), (3, 51), (2, 101), (2, 102), (2, 103), (3, 52), (3, 53), (3, 54), (3, 55), (3, 56), (3, 57), (3, 58), (3, 59), (3, 60), (3, 61), (3, 62), (3, 63), (3, 64), (3, 65), (2, 24), (2, 25)] (by first | rfl | decide +kernel)
set_option maxRecDepth 20000 in
theorem li_15 : ∀ w ∈ wsL_law0_r16, w ∈ lw_tbl := mem_c tb_cs tb_cs_in _ [(2, 26), (3, 150), (3, 151), (3, 152), (3, 153), (1, 201), (4, 210), (4, 211), (4, 212), (4, 213), (4, 87), (4, 111), (4, 214), (4, 216), (0, 19), (4, 217), (4, 218), (4, 220), (0, 20), (4, 221), (4, 222), (4, 224), (0, 21), (4, 225)] (by first | rfl | decide +kernel)
set_option maxRecDepth 20000 in
theorem li_16 : ∀ w ∈ wsL_law0_r17, w ∈ lw_tbl := mem_c tb_cs tb_cs_in _ [(4, 226), (4, 228), (0, 22), (4, 229), (4, 230), (4, 232), (0, 23), (4, 233), (4, 234), (4, 236), (0, 24), (4, 237), (4, 238), (5, 0), (0, 25), (5, 1), (5, 2), (5, 4), (0, 26), (5, 5), (5, 6), (5, 8), (0, 27), (5, 9)] (by first | rfl | decide +kernel)
set_option maxRecDepth 20000 in
theorem li_17 : ∀ w ∈ wsL_law0_r18, w ∈ lw_tbl := mem_c tb_cs tb_cs_in _ [(4, 99), (4, 98), (5, 10), (5, 12), (0, 28), (5, 13), (5, 14), (5, 16), (0, 29), (5, 17), (4, 202), (4, 203), (4, 204), (4, 205), (3, 154), (3, 155), (3, 156), (3, 157), (3, 158), (3, 159), (3, 160), (3, 161), (3, 162), (3, 163)] (by first | rfl | decide +kernel)
set_option maxRecDepth 20000 in
theorem li_18 : ∀ w ∈ wsL_law0_r19, w ∈ lw_tbl := mem_c tb_cs tb_cs_in _ [(3, 164), (1, 202), (1, 203), (3, 165), (3, 166), (3, 167), (3, 168), (3, 169), (3, 170), (3, 171), (3, 172), (3, 173), (3, 175), (0, 11), (3, 176), (1, 183), (3, 177), (3, 178), (3, 179), (3, 180), (3, 181), (3, 183), (0, 12), (3, 184)] (by first | rfl | decide +kernel)
set_option maxRecDepth 20000 in
theorem li_19 : ∀ w ∈ wsL_law0_r20, w ∈ lw_tbl := mem_c tb_cs tb_cs_in _ [(3, 185), (3, 186), (3, 187), (3, 188), (3, 189), (3, 190), (3, 191), (3, 192), (3, 193), (2, 100), (3, 194), (2, 20), (2, 21), (2, 22), (2, 95), (3, 195), (3, 196), (2, 88), (2, 89), (2, 90), (2, 104), (2, 105), (2, 106), (2, 107)] (by first | rfl | decide +kernel)
set_option maxRecDepth 20000 in
theorem li_20 : ∀ w ∈ wsL_law0_r21, w ∈ lw_tbl := mem_c tb_cs tb_cs_in _ [(3, 197), (3, 199), (0, 13), (3, 200), (3, 201), (3, 203), (0, 14), (3, 204), (2, 83), (2, 84), (2, 85), (2, 86), (2, 47), (2, 49), (0, 1), (2, 50), (2, 75), (3, 205), (3, 206), (2, 28), (2, 29), (2, 30), (2, 43), (2, 45)] (by first | rfl | decide +kernel)
set_option maxRecDepth 20000 in
theorem li_21 : ∀ w ∈ wsL_law0_r22, w ∈ lw_tbl := mem_c tb_cs tb_cs_in _ [(0, 0), (2, 46), (2, 51), (2, 52), (2, 53), (2, 54), (2, 79), (2, 81), (0, 3), (2, 82), (2, 87), (3, 207), (3, 208), (3, 209), (3, 210), (3, 211), (3, 213), (0, 15), (3, 214), (3, 215), (3, 216), (3, 218), (0, 16), (3, 219)] (by first | rfl | decide +kernel)
set_option maxRecDepth 20000 in
theorem li_22 : ∀ w ∈ wsL_law0_r23, w ∈ lw_tbl := mem_c tb_cs tb_cs_in _ [(3, 220), (3, 221), (3, 222), (3, 223), (3, 224), (3, 225), (3, 226), (3, 227), (3, 228), (3, 229), (3, 230), (3, 231), (3, 232), (3, 233), (2, 92), (2, 93), (2, 94), (3, 234), (3, 235), (3, 236), (3, 237), (3, 238), (4, 0), (0, 17)] (by first | rfl | decide +kernel)
set_option maxRecDepth 20000 in
theorem li_23 : ∀ w ∈ wsL_law0_r24, w ∈ lw_tbl := mem_c tb_cs tb_cs_in _ [(4, 1), (4, 2), (4, 3), (4, 4), (4, 5), (4, 6), (4, 7), (4, 8), (4, 9), (4, 10), (4, 11), (4, 12), (4, 14), (0, 18), (4, 15), (4, 16), (4, 17), (4, 18), (4, 19), (4, 20), (4, 21), (4, 22), (2, 60), (2, 61)] (by first | rfl | decide +kernel)
set_option maxRecDepth 20000 in
theorem li_24 : ∀ w ∈ wsL_law0_r25, w ∈ lw_tbl := mem_c tb_cs tb_cs_in _ [(2, 62), (2, 11), (2, 12), (2, 13), (2, 14), (5, 22), (5, 23), (5, 24), (5, 25), (4, 110), (4, 112), (4, 113), (5, 26), (5, 28), (0, 30), (5, 29), (5, 30), (5, 32), (0, 31), (5, 33), (5, 34), (5, 36), (0, 32), (5, 37)] (by first | rfl | decide +kernel)
set_option maxRecDepth 20000 in
theorem li_25 : ∀ w ∈ wsL_law0_r26, w ∈ lw_tbl := mem_c tb_cs tb_cs_in _ [(5, 38), (5, 40), (0, 33), (5, 41), (5, 42), (5, 44), (0, 34), (5, 45), (5, 46), (5, 48), (0, 35), (5, 49), (5, 50), (5, 52), (0, 36), (5, 53), (5, 54), (5, 56), (0, 37), (5, 57), (5, 58), (5, 60), (0, 38), (5, 61)] (by first | rfl | decide +kernel)
set_option maxRecDepth 20000 in
theorem li_26 : ∀ w ∈ wsL_law0_r27, w ∈ lw_tbl := mem_c tb_cs tb_cs_in _ [(5, 62), (5, 64), (0, 39), (5, 65), (5, 66), (5, 68), (0, 40), (5, 69), (5, 70), (5, 72), (0, 41), (5, 73), (5, 74), (5, 76), (0, 42), (5, 77), (5, 78), (5, 80), (0, 43), (5, 81), (5, 82), (5, 84), (0, 44), (5, 85)] (by first | rfl | decide +kernel)
set_option maxRecDepth 20000 in
theorem li_27 : ∀ w ∈ wsL_law0_r28, w ∈ lw_tbl := mem_c tb_cs tb_cs_in _ [(2, 7), (2, 8), (2, 9), (2, 10), (5, 86), (5, 87), (5, 88), (5, 89), (2, 15), (2, 16), (2, 17), (2, 18), (2, 19), (2, 23), (2, 27), (2, 31), (2, 32), (2, 33), (2, 34), (5, 90), (5, 91), (5, 92), (5, 93), (4, 24)] (by first | rfl | decide +kernel)
set_option maxRecDepth 20000 in
theorem li_28 : ∀ w ∈ wsL_law0_r29, w ∈ lw_tbl := mem_c tb_cs tb_cs_in _ [(4, 25), (4, 26), (4, 27), (4, 28), (4, 29), (4, 30), (4, 31), (4, 36), (1, 20), (4, 32), (4, 33), (4, 34), (4, 35), (5, 18), (5, 19), (5, 20), (5, 21), (4, 52), (4, 53), (4, 54), (4, 55), (4, 56), (4, 57), (4, 58)] (by first | rfl | decide +kernel)
set_option maxRecDepth 20000 in
theorem li_29 : ∀ w ∈ wsL_law0_r30, w ∈ lw_tbl := mem_c tb_cs tb_cs_in _ [(4, 59), (4, 60), (4, 61), (4, 62), (5, 94), (5, 95), (5, 96), (5, 97), (5, 98), (5, 100), (0, 45), (5, 101), (2, 35), (2, 36), (2, 37), (2, 38), (2, 39), (2, 40), (2, 41), (2, 42), (2, 55), (2, 56), (2, 57), (2, 58)] (by first | rfl | decide +kernel)
set_option maxRecDepth 20000 in
theorem li_30 : ∀ w ∈ wsL_law0_r31, w ∈ lw_tbl := mem_c tb_cs tb_cs_in _ [(2, 59), (5, 102), (5, 103), (5, 104), (5, 105), (2, 67), (2, 68), (2, 69), (2, 70), (2, 71), (2, 72), (2, 73), (2, 74), (2, 91), (5, 106), (5, 107), (5, 108), (5, 109), (2, 108), (2, 109), (2, 110), (2, 111), (2, 112), (5, 110)] (by first | rfl | decide +kernel)
set_option maxRecDepth 20000 in
theorem li_31 : ∀ w ∈ wsL_law0_r32, w ∈ lw_tbl := mem_c tb_cs tb_cs_in _ [(5, 111), (5, 112), (5, 113), (4, 64), (4, 65), (4, 66), (4, 67), (4, 68), (4, 69), (4, 70), (4, 72), (4, 74), (4, 75), (4, 76), (4, 77), (5, 114), (5, 115), (5, 116), (5, 117), (2, 113), (2, 114), (2, 115), (2, 116), (2, 117)] (by first | rfl | decide +kernel)
set_option maxRecDepth 20000 in
theorem li_32 : ∀ w ∈ wsL_law0_r33, w ∈ lw_tbl := mem_c tb_cs tb_cs_in _ [(2, 118), (2, 119), (2, 120), (5, 118), (5, 119), (5, 120), (5, 121)] (by first | rfl | decide +kernel)
theorem li_33 : ∀ w ∈ wsX70, w ∈ lw_tbl := by decide +kernel
theorem li_34 : ∀ w ∈ wsX80, w ∈ lw_tbl := by decide +kernel
theorem li_35 : ∀ w ∈ wsX00, w ∈ lw_tbl := by decide +kernel
theorem li_36 : ∀ w ∈ wsX40, w ∈ lw_tbl := by decide +kernel
theorem li_37 : ∀ w ∈ wsX30, w ∈ lw_tbl := by decide +kernel
theorem li_38 : ∀ w ∈ wsX20, w ∈ lw_tbl := by decide +kernel
theorem li_39 : ∀ w ∈ wsX50, w ∈ lw_tbl := by decide +kernel
theorem li_40 : ∀ w ∈ wsX10, w ∈ lw_tbl := by decide +kernel
theorem li_41 : ∀ w ∈ wsX60, w ∈ lw_tbl := by decide +kernel
theorem li_v0 : ∀ w ∈ (vx_atS RX7 60 "java/lang/IllegalArgumentException" ["java/lang/RuntimeException", "java/lang/Exception"]).filter goodWord, w ∈ lw_tbl := by decide +kernel
theorem li_v1 : ∀ w ∈ (vx_atS RX7 67 "java/lang/IllegalStateException" ["java/lang/RuntimeException", "java/lang/Exception"]).filter goodWord, w ∈ lw_tbl := by decide +kernel
theorem li_v2 : ∀ w ∈ (mx_atS RX7 107 nNS nRT 13 rxN [nEX]).filter goodWord, w ∈ lw_tbl := by decide +kernel
theorem ap_e {a b : List Cond} {Q : Cond → Prop} (h1 : ∀ w ∈ a, Q w) (h2 : ∀ w ∈ b, Q w) : ∀ w ∈ a ++ b, Q w := fun w h => (List.mem_append.mp h).elim (h1 w) (h2 w)
theorem wsN_law_in : ∀ w ∈ wsN_law, w ∈ lw_tbl := (ap_e (ap_e (ap_e (ap_e (ap_e (ap_e (ap_e (ap_e (ap_e (ap_e (ap_e (ap_e (ap_e (ap_e li_0 (ap_e li_1 (ap_e li_2 (ap_e li_3 (ap_e li_4 (ap_e li_5 (ap_e li_6 (ap_e li_7 (ap_e li_8 (ap_e li_9 (ap_e li_10 (ap_e li_11 (ap_e li_12 (ap_e li_13 (ap_e li_14 (ap_e li_15 (ap_e li_16 (ap_e li_17 (ap_e li_18 (ap_e li_19 (ap_e li_20 (ap_e li_21 (ap_e li_22 (ap_e li_23 (ap_e li_24 (ap_e li_25 (ap_e li_26 (ap_e li_27 (ap_e li_28 (ap_e li_29 (ap_e li_30 (ap_e li_31 li_32)))))))))))))))))))))))))))))))) li_33) li_34) li_35) li_36) li_37) li_38) li_39) li_40) li_41) (fun _ h => absurd h List.not_mem_nil)) li_v0) li_v1) li_v2)
