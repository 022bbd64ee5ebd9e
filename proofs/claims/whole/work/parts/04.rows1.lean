theorem dX0_init_0 : decode cX0_init 0 = .ok (.aload_n 0, 1) := by decide +kernel
theorem dX0_init_1 : decode cX0_init 1 = .ok (.invokespecial 3, 3) := by decide +kernel
theorem dX0_init_4 : decode cX0_init 4 = .ok (.aload_n 0, 1) := by decide +kernel
theorem dX0_init_5 : decode cX0_init 5 = .ok (.bipush 50, 2) := by decide +kernel
theorem dX0_init_7 : decode cX0_init 7 = .ok (.newarray .char, 2) := by decide +kernel
theorem dX0_init_9 : decode cX0_init 9 = .ok (.putfield 9, 3) := by decide +kernel
theorem dX0_init_12 : decode cX0_init 12 = .ok (.aload_n 0, 1) := by decide +kernel
theorem dX0_init_13 : decode cX0_init 13 = .ok (.bipush 25, 2) := by decide +kernel
theorem dX0_init_15 : decode cX0_init 15 = .ok (.newarray .int, 2) := by decide +kernel
theorem dX0_init_17 : decode cX0_init 17 = .ok (.putfield 15, 3) := by decide +kernel
theorem dX0_init_20 : decode cX0_init 20 = .ok (.aload_n 0, 1) := by decide +kernel
theorem dX0_init_21 : decode cX0_init 21 = .ok (.bipush 25, 2) := by decide +kernel
theorem dX0_init_23 : decode cX0_init 23 = .ok (.newarray .int, 2) := by decide +kernel
theorem dX0_init_25 : decode cX0_init 25 = .ok (.putfield 19, 3) := by decide +kernel
theorem dX0_init_28 : decode cX0_init 28 = .ok (.return_, 1) := by decide +kernel
theorem dX0_append_0 : decode cX0_append 0 = .ok (.iload_n 1, 1) := by decide +kernel
theorem dX0_append_1 : decode cX0_append 1 = .ok (.bipush 32, 2) := by decide +kernel
theorem dX0_append_3 : decode cX0_append 3 = .ok (.if_icmp .lt 18, 3) := by decide +kernel
theorem dX0_append_6 : decode cX0_append 6 = .ok (.iload_n 1, 1) := by decide +kernel
theorem dX0_append_7 : decode cX0_append 7 = .ok (.bipush 126, 2) := by decide +kernel
theorem dX0_append_9 : decode cX0_append 9 = .ok (.if_icmp .gt 12, 3) := by decide +kernel
theorem dX0_append_12 : decode cX0_append 12 = .ok (.aload_n 0, 1) := by decide +kernel
theorem dX0_append_13 : decode cX0_append 13 = .ok (.getfield 22, 3) := by decide +kernel
theorem dX0_append_16 : decode cX0_append 16 = .ok (.bipush 50, 2) := by decide +kernel
theorem dX0_append_18 : decode cX0_append 18 = .ok (.if_icmp .lt 5, 3) := by decide +kernel
theorem dX0_append_21 : decode cX0_append 21 = .ok (.iconst 0, 1) := by decide +kernel
theorem dX0_append_22 : decode cX0_append 22 = .ok (.ireturn, 1) := by decide +kernel
theorem dX0_append_23 : decode cX0_append 23 = .ok (.aload_n 0, 1) := by decide +kernel
theorem dX0_append_24 : decode cX0_append 24 = .ok (.getfield 9, 3) := by decide +kernel
theorem dX0_append_27 : decode cX0_append 27 = .ok (.aload_n 0, 1) := by decide +kernel
theorem dX0_append_28 : decode cX0_append 28 = .ok (.getfield 22, 3) := by decide +kernel
theorem dX0_append_31 : decode cX0_append 31 = .ok (.iload_n 1, 1) := by decide +kernel
theorem dX0_append_32 : decode cX0_append 32 = .ok (.castore, 1) := by decide +kernel
theorem dX0_append_33 : decode cX0_append 33 = .ok (.aload_n 0, 1) := by decide +kernel
theorem dX0_append_34 : decode cX0_append 34 = .ok (.dup, 1) := by decide +kernel
theorem dX0_append_35 : decode cX0_append 35 = .ok (.getfield 22, 3) := by decide +kernel
theorem dX0_append_38 : decode cX0_append 38 = .ok (.iconst 1, 1) := by decide +kernel
theorem dX0_append_39 : decode cX0_append 39 = .ok (.iadd, 1) := by decide +kernel
theorem dX0_append_40 : decode cX0_append 40 = .ok (.putfield 22, 3) := by decide +kernel
theorem dX0_append_43 : decode cX0_append 43 = .ok (.iconst 1, 1) := by decide +kernel
theorem dX0_append_44 : decode cX0_append 44 = .ok (.ireturn, 1) := by decide +kernel
theorem dX0_split_0 : decode cX0_split 0 = .ok (.aload_n 0, 1) := by decide +kernel
theorem dX0_split_1 : decode cX0_split 1 = .ok (.iconst 0, 1) := by decide +kernel
theorem dX0_split_2 : decode cX0_split 2 = .ok (.putfield 26, 3) := by decide +kernel
theorem dX0_split_5 : decode cX0_split 5 = .ok (.iconst 0, 1) := by decide +kernel
theorem dX0_split_6 : decode cX0_split 6 = .ok (.istore_n 1, 1) := by decide +kernel
theorem dX0_split_7 : decode cX0_split 7 = .ok (.iconst 0, 1) := by decide +kernel
theorem dX0_split_8 : decode cX0_split 8 = .ok (.istore_n 2, 1) := by decide +kernel
theorem dX0_split_9 : decode cX0_split 9 = .ok (.iload_n 2, 1) := by decide +kernel
theorem dX0_split_10 : decode cX0_split 10 = .ok (.aload_n 0, 1) := by decide +kernel
theorem dX0_split_11 : decode cX0_split 11 = .ok (.getfield 22, 3) := by decide +kernel
theorem dX0_split_14 : decode cX0_split 14 = .ok (.if_icmp .ge 104, 3) := by decide +kernel
theorem dX0_split_17 : decode cX0_split 17 = .ok (.iload_n 2, 1) := by decide +kernel
theorem dX0_split_18 : decode cX0_split 18 = .ok (.bipush 50, 2) := by decide +kernel
theorem dX0_split_20 : decode cX0_split 20 = .ok (.if_icmp .ge 98, 3) := by decide +kernel
theorem dX0_split_23 : decode cX0_split 23 = .ok (.aload_n 0, 1) := by decide +kernel
theorem dX0_split_24 : decode cX0_split 24 = .ok (.getfield 9, 3) := by decide +kernel
theorem dX0_split_27 : decode cX0_split 27 = .ok (.iload_n 2, 1) := by decide +kernel
theorem dX0_split_28 : decode cX0_split 28 = .ok (.caload, 1) := by decide +kernel
theorem dX0_split_29 : decode cX0_split 29 = .ok (.bipush 32, 2) := by decide +kernel
theorem dX0_split_31 : decode cX0_split 31 = .ok (.if_icmp .ne 7, 3) := by decide +kernel
theorem dX0_split_34 : decode cX0_split 34 = .ok (.iconst 1, 1) := by decide +kernel
theorem dX0_split_35 : decode cX0_split 35 = .ok (.goto 4, 3) := by decide +kernel
theorem dX0_split_38 : decode cX0_split 38 = .ok (.iconst 0, 1) := by decide +kernel
theorem dX0_split_39 : decode cX0_split 39 = .ok (.istore_n 3, 1) := by decide +kernel
theorem dX0_split_40 : decode cX0_split 40 = .ok (.iload_n 3, 1) := by decide +kernel
theorem dX0_split_41 : decode cX0_split 41 = .ok (.ifCond .ne 36, 3) := by decide +kernel
theorem dX0_split_44 : decode cX0_split 44 = .ok (.iload_n 1, 1) := by decide +kernel
theorem dX0_split_45 : decode cX0_split 45 = .ok (.ifCond .ne 32, 3) := by decide +kernel
theorem dX0_split_48 : decode cX0_split 48 = .ok (.aload_n 0, 1) := by decide +kernel
theorem dX0_split_49 : decode cX0_split 49 = .ok (.getfield 26, 3) := by decide +kernel
theorem dX0_split_52 : decode cX0_split 52 = .ok (.bipush 25, 2) := by decide +kernel
theorem dX0_split_54 : decode cX0_split 54 = .ok (.if_icmp .ge 23, 3) := by decide +kernel
theorem dX0_split_57 : decode cX0_split 57 = .ok (.aload_n 0, 1) := by decide +kernel
theorem dX0_split_58 : decode cX0_split 58 = .ok (.getfield 15, 3) := by decide +kernel
theorem dX0_split_61 : decode cX0_split 61 = .ok (.aload_n 0, 1) := by decide +kernel
theorem dX0_split_62 : decode cX0_split 62 = .ok (.getfield 26, 3) := by decide +kernel
theorem dX0_split_65 : decode cX0_split 65 = .ok (.iload_n 2, 1) := by decide +kernel
theorem dX0_split_66 : decode cX0_split 66 = .ok (.iastore, 1) := by decide +kernel
theorem dX0_split_67 : decode cX0_split 67 = .ok (.aload_n 0, 1) := by decide +kernel
theorem dX0_split_68 : decode cX0_split 68 = .ok (.dup, 1) := by decide +kernel
theorem dX0_split_69 : decode cX0_split 69 = .ok (.getfield 26, 3) := by decide +kernel
theorem dX0_split_72 : decode cX0_split 72 = .ok (.iconst 1, 1) := by decide +kernel
theorem dX0_split_73 : decode cX0_split 73 = .ok (.iadd, 1) := by decide +kernel
theorem dX0_split_74 : decode cX0_split 74 = .ok (.putfield 26, 3) := by decide +kernel
theorem dX0_split_77 : decode cX0_split 77 = .ok (.iload_n 3, 1) := by decide +kernel
theorem dX0_split_78 : decode cX0_split 78 = .ok (.ifCond .ne 24, 3) := by decide +kernel
theorem dX0_split_81 : decode cX0_split 81 = .ok (.aload_n 0, 1) := by decide +kernel
theorem dX0_split_82 : decode cX0_split 82 = .ok (.getfield 26, 3) := by decide +kernel
theorem dX0_split_85 : decode cX0_split 85 = .ok (.ifCond .le 17, 3) := by decide +kernel
theorem dX0_split_88 : decode cX0_split 88 = .ok (.aload_n 0, 1) := by decide +kernel
theorem dX0_split_89 : decode cX0_split 89 = .ok (.getfield 19, 3) := by decide +kernel
theorem dX0_split_92 : decode cX0_split 92 = .ok (.aload_n 0, 1) := by decide +kernel
theorem dX0_split_93 : decode cX0_split 93 = .ok (.getfield 26, 3) := by decide +kernel
theorem dX0_split_96 : decode cX0_split 96 = .ok (.iconst 1, 1) := by decide +kernel
theorem dX0_split_97 : decode cX0_split 97 = .ok (.isub, 1) := by decide +kernel
theorem dX0_split_98 : decode cX0_split 98 = .ok (.iload_n 2, 1) := by decide +kernel
theorem dX0_split_99 : decode cX0_split 99 = .ok (.iconst 1, 1) := by decide +kernel
theorem dX0_split_100 : decode cX0_split 100 = .ok (.iadd, 1) := by decide +kernel
theorem dX0_split_101 : decode cX0_split 101 = .ok (.iastore, 1) := by decide +kernel
theorem dX0_split_102 : decode cX0_split 102 = .ok (.iload_n 3, 1) := by decide +kernel
theorem dX0_split_103 : decode cX0_split 103 = .ok (.ifCond .ne 7, 3) := by decide +kernel
theorem dX0_split_106 : decode cX0_split 106 = .ok (.iconst 1, 1) := by decide +kernel
theorem dX0_split_107 : decode cX0_split 107 = .ok (.goto 4, 3) := by decide +kernel
theorem dX0_split_110 : decode cX0_split 110 = .ok (.iconst 0, 1) := by decide +kernel
theorem dX0_split_111 : decode cX0_split 111 = .ok (.istore_n 1, 1) := by decide +kernel
theorem dX0_split_112 : decode cX0_split 112 = .ok (.iinc 2 1, 3) := by decide +kernel
theorem dX0_split_115 : decode cX0_split 115 = .ok (.goto (-106), 3) := by decide +kernel
theorem dX0_split_118 : decode cX0_split 118 = .ok (.aload_n 0, 1) := by decide +kernel
theorem dX0_split_119 : decode cX0_split 119 = .ok (.iconst 0, 1) := by decide +kernel
theorem dX0_split_120 : decode cX0_split 120 = .ok (.putfield 22, 3) := by decide +kernel
theorem dX0_split_123 : decode cX0_split 123 = .ok (.return_, 1) := by decide +kernel
theorem dX0_words_0 : decode cX0_words 0 = .ok (.aload_n 0, 1) := by decide +kernel
theorem dX0_words_1 : decode cX0_words 1 = .ok (.getfield 26, 3) := by decide +kernel
theorem dX0_words_4 : decode cX0_words 4 = .ok (.ireturn, 1) := by decide +kernel
set_option maxRecDepth 20000 in
theorem ggX0_says_X0_sizeOf : GoodIn wsX0_says wsX0_sizeOf := goodIn_r _ [5, 6, 7, 8, 63, 64, 65, 66, 67] (by decide +kernel) (by decide +kernel)
set_option maxRecDepth 20000 in
theorem gX0_says_X0_sizeOf : GoodIn wsX0_says (wsV RX0 29 RX0 yX0_sizeOf wsX0_sizeOf) := goodIn_app (goodIn_of _ (by decide +kernel)) ggX0_says_X0_sizeOf
set_option maxRecDepth 20000 in
theorem ggX0_says_J0_length_8abf5 : GoodIn wsX0_says wsJ0_length_8abf5 := goodIn_r _ [13, 14, 15, 16, 17, 12, 18, 19, 20] (by decide +kernel) (by decide +kernel)
set_option maxRecDepth 20000 in
theorem gX0_says_J0_length_8abf5 : GoodIn wsX0_says (wsV RX0 33 RJ0 yJ0_length_8abf5 wsJ0_length_8abf5) := goodIn_app (goodIn_of _ (by decide +kernel)) ggX0_says_J0_length_8abf5
set_option maxRecDepth 20000 in
theorem ggX0_says_X0_letterAt : GoodIn wsX0_says wsX0_letterAt := goodIn_r _ [24, 25, 8, 1, 2, 3, 4, 5, 6, 7, 63, 64, 65, 66, 67] (by decide +kernel) (by decide +kernel)
set_option maxRecDepth 20000 in
theorem gX0_says_X0_letterAt : GoodIn wsX0_says (wsV RX0 38 RX0 yX0_letterAt wsX0_letterAt) := goodIn_app (goodIn_of _ (by decide +kernel)) ggX0_says_X0_letterAt
set_option maxRecDepth 20000 in
theorem ggX0_says_J0_charAt_5068e : GoodIn wsX0_says wsJ0_charAt_5068e := goodIn_r _ [29, 14, 30, 31, 32, 12, 33, 19, 20, 34, 35, 36, 37, 38, 39, 40, 41, 42, 43, 44, 45, 46, 47, 48, 49, 50, 51, 52, 53, 54, 55, 56, 57, 58, 59, 60, 61, 62] (by decide +kernel) (by decide +kernel)
set_option maxRecDepth 20000 in
theorem gX0_says_J0_charAt_5068e : GoodIn wsX0_says (wsV RX0 42 RJ0 yJ0_charAt_5068e wsJ0_charAt_5068e) := goodIn_app (goodIn_of _ (by decide +kernel)) ggX0_says_J0_charAt_5068e
theorem dX0_says_0 : decode cX0_says 0 = .ok (.aload_n 0, 1) := by decide +kernel
theorem dX0_says_1 : decode cX0_says 1 = .ok (.iload_n 1, 1) := by decide +kernel
theorem dX0_says_2 : decode cX0_says 2 = .ok (.invokevirtual 29, 3) := by decide +kernel
theorem dX0_says_5 : decode cX0_says 5 = .ok (.aload_n 2, 1) := by decide +kernel
theorem dX0_says_6 : decode cX0_says 6 = .ok (.invokevirtual 33, 3) := by decide +kernel
theorem dX0_says_9 : decode cX0_says 9 = .ok (.if_icmp .eq 5, 3) := by decide +kernel
theorem dX0_says_12 : decode cX0_says 12 = .ok (.iconst 0, 1) := by decide +kernel
theorem dX0_says_13 : decode cX0_says 13 = .ok (.ireturn, 1) := by decide +kernel
theorem dX0_says_14 : decode cX0_says 14 = .ok (.iconst 0, 1) := by decide +kernel
theorem dX0_says_15 : decode cX0_says 15 = .ok (.istore_n 3, 1) := by decide +kernel
theorem dX0_says_16 : decode cX0_says 16 = .ok (.iload_n 3, 1) := by decide +kernel
theorem dX0_says_17 : decode cX0_says 17 = .ok (.aload_n 2, 1) := by decide +kernel
theorem dX0_says_18 : decode cX0_says 18 = .ok (.invokevirtual 33, 3) := by decide +kernel
theorem dX0_says_21 : decode cX0_says 21 = .ok (.if_icmp .ge 25, 3) := by decide +kernel
theorem dX0_says_24 : decode cX0_says 24 = .ok (.aload_n 0, 1) := by decide +kernel
theorem dX0_says_25 : decode cX0_says 25 = .ok (.iload_n 1, 1) := by decide +kernel
theorem dX0_says_26 : decode cX0_says 26 = .ok (.iload_n 3, 1) := by decide +kernel
theorem dX0_says_27 : decode cX0_says 27 = .ok (.invokevirtual 38, 3) := by decide +kernel
theorem dX0_says_30 : decode cX0_says 30 = .ok (.aload_n 2, 1) := by decide +kernel
theorem dX0_says_31 : decode cX0_says 31 = .ok (.iload_n 3, 1) := by decide +kernel
theorem dX0_says_32 : decode cX0_says 32 = .ok (.invokevirtual 42, 3) := by decide +kernel
theorem dX0_says_35 : decode cX0_says 35 = .ok (.if_icmp .eq 5, 3) := by decide +kernel
theorem dX0_says_38 : decode cX0_says 38 = .ok (.iconst 0, 1) := by decide +kernel
theorem dX0_says_39 : decode cX0_says 39 = .ok (.ireturn, 1) := by decide +kernel
theorem dX0_says_40 : decode cX0_says 40 = .ok (.iinc 3 1, 3) := by decide +kernel
theorem dX0_says_43 : decode cX0_says 43 = .ok (.goto (-27), 3) := by decide +kernel
theorem dX0_says_46 : decode cX0_says 46 = .ok (.iconst 1, 1) := by decide +kernel
theorem dX0_says_47 : decode cX0_says 47 = .ok (.ireturn, 1) := by decide +kernel
theorem dX0_sizeOf_0 : decode cX0_sizeOf 0 = .ok (.iload_n 1, 1) := by decide +kernel
theorem dX0_sizeOf_1 : decode cX0_sizeOf 1 = .ok (.ifCond .lt 27, 3) := by decide +kernel
theorem dX0_sizeOf_4 : decode cX0_sizeOf 4 = .ok (.iload_n 1, 1) := by decide +kernel
theorem dX0_sizeOf_5 : decode cX0_sizeOf 5 = .ok (.aload_n 0, 1) := by decide +kernel
theorem dX0_sizeOf_6 : decode cX0_sizeOf 6 = .ok (.getfield 26, 3) := by decide +kernel
theorem dX0_sizeOf_9 : decode cX0_sizeOf 9 = .ok (.if_icmp .ge 19, 3) := by decide +kernel
theorem dX0_sizeOf_12 : decode cX0_sizeOf 12 = .ok (.aload_n 0, 1) := by decide +kernel
theorem dX0_sizeOf_13 : decode cX0_sizeOf 13 = .ok (.getfield 19, 3) := by decide +kernel
theorem dX0_sizeOf_16 : decode cX0_sizeOf 16 = .ok (.iload_n 1, 1) := by decide +kernel
theorem dX0_sizeOf_17 : decode cX0_sizeOf 17 = .ok (.iaload, 1) := by decide +kernel
theorem dX0_sizeOf_18 : decode cX0_sizeOf 18 = .ok (.aload_n 0, 1) := by decide +kernel
theorem dX0_sizeOf_19 : decode cX0_sizeOf 19 = .ok (.getfield 15, 3) := by decide +kernel
theorem dX0_sizeOf_22 : decode cX0_sizeOf 22 = .ok (.iload_n 1, 1) := by decide +kernel
theorem dX0_sizeOf_23 : decode cX0_sizeOf 23 = .ok (.iaload, 1) := by decide +kernel
theorem dX0_sizeOf_24 : decode cX0_sizeOf 24 = .ok (.isub, 1) := by decide +kernel
theorem dX0_sizeOf_25 : decode cX0_sizeOf 25 = .ok (.goto 4, 3) := by decide +kernel
theorem dX0_sizeOf_28 : decode cX0_sizeOf 28 = .ok (.iconst 0, 1) := by decide +kernel
theorem dX0_sizeOf_29 : decode cX0_sizeOf 29 = .ok (.ireturn, 1) := by decide +kernel
set_option maxRecDepth 20000 in
theorem ggX0_letterAt_X0_sizeOf : GoodIn wsX0_letterAt wsX0_sizeOf := goodIn_r _ [7, 8, 9, 2, 10, 11, 12, 13, 14] (by decide +kernel) (by decide +kernel)
set_option maxRecDepth 20000 in
theorem gX0_letterAt_X0_sizeOf : GoodIn wsX0_letterAt (wsV RX0 29 RX0 yX0_sizeOf wsX0_sizeOf) := goodIn_app (goodIn_of _ (by decide +kernel)) ggX0_letterAt_X0_sizeOf
theorem dX0_letterAt_0 : decode cX0_letterAt 0 = .ok (.iload_n 2, 1) := by decide +kernel
theorem dX0_letterAt_1 : decode cX0_letterAt 1 = .ok (.ifCond .lt 28, 3) := by decide +kernel
theorem dX0_letterAt_4 : decode cX0_letterAt 4 = .ok (.iload_n 2, 1) := by decide +kernel
theorem dX0_letterAt_5 : decode cX0_letterAt 5 = .ok (.aload_n 0, 1) := by decide +kernel
theorem dX0_letterAt_6 : decode cX0_letterAt 6 = .ok (.iload_n 1, 1) := by decide +kernel
theorem dX0_letterAt_7 : decode cX0_letterAt 7 = .ok (.invokevirtual 29, 3) := by decide +kernel
theorem dX0_letterAt_10 : decode cX0_letterAt 10 = .ok (.if_icmp .ge 19, 3) := by decide +kernel
theorem dX0_letterAt_13 : decode cX0_letterAt 13 = .ok (.aload_n 0, 1) := by decide +kernel
theorem dX0_letterAt_14 : decode cX0_letterAt 14 = .ok (.getfield 9, 3) := by decide +kernel
theorem dX0_letterAt_17 : decode cX0_letterAt 17 = .ok (.aload_n 0, 1) := by decide +kernel
theorem dX0_letterAt_18 : decode cX0_letterAt 18 = .ok (.getfield 15, 3) := by decide +kernel
theorem dX0_letterAt_21 : decode cX0_letterAt 21 = .ok (.iload_n 1, 1) := by decide +kernel
theorem dX0_letterAt_22 : decode cX0_letterAt 22 = .ok (.iaload, 1) := by decide +kernel
theorem dX0_letterAt_23 : decode cX0_letterAt 23 = .ok (.iload_n 2, 1) := by decide +kernel
theorem dX0_letterAt_24 : decode cX0_letterAt 24 = .ok (.iadd, 1) := by decide +kernel
theorem dX0_letterAt_25 : decode cX0_letterAt 25 = .ok (.caload, 1) := by decide +kernel
theorem dX0_letterAt_26 : decode cX0_letterAt 26 = .ok (.goto 5, 3) := by decide +kernel
theorem dX0_letterAt_29 : decode cX0_letterAt 29 = .ok (.bipush 32, 2) := by decide +kernel
theorem dX0_letterAt_31 : decode cX0_letterAt 31 = .ok (.ireturn, 1) := by decide +kernel
set_option maxRecDepth 20000 in
theorem ggX0_isLetters_X0_sizeOf : GoodIn wsX0_isLetters wsX0_sizeOf := goodIn_r _ [5, 6, 7, 8, 14, 15, 16, 17, 18] (by decide +kernel) (by decide +kernel)
set_option maxRecDepth 20000 in
theorem gX0_isLetters_X0_sizeOf : GoodIn wsX0_isLetters (wsV RX0 29 RX0 yX0_sizeOf wsX0_sizeOf) := goodIn_app (goodIn_of _ (by decide +kernel)) ggX0_isLetters_X0_sizeOf
set_option maxRecDepth 20000 in
theorem ggX0_isLetters_X0_letterAt : GoodIn wsX0_isLetters wsX0_letterAt := goodIn_r _ [12, 13, 8, 1, 2, 3, 4, 5, 6, 7, 14, 15, 16, 17, 18] (by decide +kernel) (by decide +kernel)
set_option maxRecDepth 20000 in
theorem gX0_isLetters_X0_letterAt : GoodIn wsX0_isLetters (wsV RX0 38 RX0 yX0_letterAt wsX0_letterAt) := goodIn_app (goodIn_of _ (by decide +kernel)) ggX0_isLetters_X0_letterAt
theorem dX0_isLetters_0 : decode cX0_isLetters 0 = .ok (.aload_n 0, 1) := by decide +kernel
theorem dX0_isLetters_1 : decode cX0_isLetters 1 = .ok (.iload_n 1, 1) := by decide +kernel
theorem dX0_isLetters_2 : decode cX0_isLetters 2 = .ok (.invokevirtual 29, 3) := by decide +kernel
theorem dX0_isLetters_5 : decode cX0_isLetters 5 = .ok (.istore_n 3, 1) := by decide +kernel
theorem dX0_isLetters_6 : decode cX0_isLetters 6 = .ok (.iload_n 3, 1) := by decide +kernel
theorem dX0_isLetters_7 : decode cX0_isLetters 7 = .ok (.ifCond .eq 8, 3) := by decide +kernel
theorem dX0_isLetters_10 : decode cX0_isLetters 10 = .ok (.iload_n 3, 1) := by decide +kernel
theorem dX0_isLetters_11 : decode cX0_isLetters 11 = .ok (.iload_n 2, 1) := by decide +kernel
theorem dX0_isLetters_12 : decode cX0_isLetters 12 = .ok (.if_icmp .le 5, 3) := by decide +kernel
theorem dX0_isLetters_15 : decode cX0_isLetters 15 = .ok (.iconst 0, 1) := by decide +kernel
theorem dX0_isLetters_16 : decode cX0_isLetters 16 = .ok (.ireturn, 1) := by decide +kernel
theorem dX0_isLetters_17 : decode cX0_isLetters 17 = .ok (.iconst 0, 1) := by decide +kernel
theorem dX0_isLetters_18 : decode cX0_isLetters 18 = .ok (.istore 4, 2) := by decide +kernel
theorem dX0_isLetters_20 : decode cX0_isLetters 20 = .ok (.iload 4, 2) := by decide +kernel
theorem dX0_isLetters_22 : decode cX0_isLetters 22 = .ok (.iload_n 3, 1) := by decide +kernel
theorem dX0_isLetters_23 : decode cX0_isLetters 23 = .ok (.if_icmp .ge 34, 3) := by decide +kernel
theorem dX0_isLetters_26 : decode cX0_isLetters 26 = .ok (.aload_n 0, 1) := by decide +kernel
theorem dX0_isLetters_27 : decode cX0_isLetters 27 = .ok (.iload_n 1, 1) := by decide +kernel
theorem dX0_isLetters_28 : decode cX0_isLetters 28 = .ok (.iload 4, 2) := by decide +kernel
theorem dX0_isLetters_30 : decode cX0_isLetters 30 = .ok (.invokevirtual 38, 3) := by decide +kernel
theorem dX0_isLetters_33 : decode cX0_isLetters 33 = .ok (.istore 5, 2) := by decide +kernel
theorem dX0_isLetters_35 : decode cX0_isLetters 35 = .ok (.iload 5, 2) := by decide +kernel
theorem dX0_isLetters_37 : decode cX0_isLetters 37 = .ok (.bipush 97, 2) := by decide +kernel
theorem dX0_isLetters_39 : decode cX0_isLetters 39 = .ok (.if_icmp .lt 10, 3) := by decide +kernel
theorem dX0_isLetters_42 : decode cX0_isLetters 42 = .ok (.iload 5, 2) := by decide +kernel
theorem dX0_isLetters_44 : decode cX0_isLetters 44 = .ok (.bipush 122, 2) := by decide +kernel
theorem dX0_isLetters_46 : decode cX0_isLetters 46 = .ok (.if_icmp .le 5, 3) := by decide +kernel
theorem dX0_isLetters_49 : decode cX0_isLetters 49 = .ok (.iconst 0, 1) := by decide +kernel
theorem dX0_isLetters_50 : decode cX0_isLetters 50 = .ok (.ireturn, 1) := by decide +kernel
theorem dX0_isLetters_51 : decode cX0_isLetters 51 = .ok (.iinc 4 1, 3) := by decide +kernel
theorem dX0_isLetters_54 : decode cX0_isLetters 54 = .ok (.goto (-34), 3) := by decide +kernel
theorem dX0_isLetters_57 : decode cX0_isLetters 57 = .ok (.iconst 1, 1) := by decide +kernel
theorem dX0_isLetters_58 : decode cX0_isLetters 58 = .ok (.ireturn, 1) := by decide +kernel
set_option maxRecDepth 20000 in
theorem ggX0_nameAt_X0_isLetters : GoodIn wsX0_nameAt wsX0_isLetters := goodIn_r _ [5, 6, 7, 8, 4, 9, 10, 11, 12, 13, 14, 15, 16, 17, 18, 19, 20, 21, 22] (by decide +kernel) (by decide +kernel)
set_option maxRecDepth 20000 in
theorem gX0_nameAt_X0_isLetters : GoodIn wsX0_nameAt (wsV RX0 46 RX0 yX0_isLetters wsX0_isLetters) := goodIn_app (goodIn_of _ (by decide +kernel)) ggX0_nameAt_X0_isLetters
set_option maxRecDepth 20000 in
theorem ggX0_nameAt_X0_sizeOf : GoodIn wsX0_nameAt wsX0_sizeOf := goodIn_r _ [9, 10, 11, 12, 18, 19, 20, 21, 22] (by decide +kernel) (by decide +kernel)
set_option maxRecDepth 20000 in
theorem gX0_nameAt_X0_sizeOf : GoodIn wsX0_nameAt (wsV RX0 29 RX0 yX0_sizeOf wsX0_sizeOf) := goodIn_app (goodIn_of _ (by decide +kernel)) ggX0_nameAt_X0_sizeOf
set_option maxRecDepth 20000 in
theorem ggX0_nameAt_X0_letterAt : GoodIn wsX0_nameAt wsX0_letterAt := goodIn_r _ [16, 17, 12, 6, 7, 8, 4, 9, 10, 11, 18, 19, 20, 21, 22] (by decide +kernel) (by decide +kernel)
set_option maxRecDepth 20000 in
theorem gX0_nameAt_X0_letterAt : GoodIn wsX0_nameAt (wsV RX0 38 RX0 yX0_letterAt wsX0_letterAt) := goodIn_app (goodIn_of _ (by decide +kernel)) ggX0_nameAt_X0_letterAt
theorem dX0_nameAt_0 : decode cX0_nameAt 0 = .ok (.aload_n 0, 1) := by decide +kernel
theorem dX0_nameAt_1 : decode cX0_nameAt 1 = .ok (.iload_n 1, 1) := by decide +kernel
theorem dX0_nameAt_2 : decode cX0_nameAt 2 = .ok (.iconst 4, 1) := by decide +kernel
theorem dX0_nameAt_3 : decode cX0_nameAt 3 = .ok (.invokevirtual 46, 3) := by decide +kernel
theorem dX0_nameAt_6 : decode cX0_nameAt 6 = .ok (.ifCond .ne 5, 3) := by decide +kernel
theorem dX0_nameAt_9 : decode cX0_nameAt 9 = .ok (.iconst (-1), 1) := by decide +kernel
theorem dX0_nameAt_10 : decode cX0_nameAt 10 = .ok (.ireturn, 1) := by decide +kernel
theorem dX0_nameAt_11 : decode cX0_nameAt 11 = .ok (.iconst 0, 1) := by decide +kernel
theorem dX0_nameAt_12 : decode cX0_nameAt 12 = .ok (.istore_n 2, 1) := by decide +kernel
theorem dX0_nameAt_13 : decode cX0_nameAt 13 = .ok (.aload_n 0, 1) := by decide +kernel
theorem dX0_nameAt_14 : decode cX0_nameAt 14 = .ok (.iload_n 1, 1) := by decide +kernel
theorem dX0_nameAt_15 : decode cX0_nameAt 15 = .ok (.invokevirtual 29, 3) := by decide +kernel
theorem dX0_nameAt_18 : decode cX0_nameAt 18 = .ok (.istore_n 3, 1) := by decide +kernel
theorem dX0_nameAt_19 : decode cX0_nameAt 19 = .ok (.iconst 0, 1) := by decide +kernel
theorem dX0_nameAt_20 : decode cX0_nameAt 20 = .ok (.istore 4, 2) := by decide +kernel
theorem dX0_nameAt_22 : decode cX0_nameAt 22 = .ok (.iload 4, 2) := by decide +kernel
theorem dX0_nameAt_24 : decode cX0_nameAt 24 = .ok (.iload_n 3, 1) := by decide +kernel
theorem dX0_nameAt_25 : decode cX0_nameAt 25 = .ok (.if_icmp .ge 27, 3) := by decide +kernel
theorem dX0_nameAt_28 : decode cX0_nameAt 28 = .ok (.iload_n 2, 1) := by decide +kernel
theorem dX0_nameAt_29 : decode cX0_nameAt 29 = .ok (.bipush 27, 2) := by decide +kernel
theorem dX0_nameAt_31 : decode cX0_nameAt 31 = .ok (.imul, 1) := by decide +kernel
theorem dX0_nameAt_32 : decode cX0_nameAt 32 = .ok (.aload_n 0, 1) := by decide +kernel
theorem dX0_nameAt_33 : decode cX0_nameAt 33 = .ok (.iload_n 1, 1) := by decide +kernel
theorem dX0_nameAt_34 : decode cX0_nameAt 34 = .ok (.iload 4, 2) := by decide +kernel
theorem dX0_nameAt_36 : decode cX0_nameAt 36 = .ok (.invokevirtual 38, 3) := by decide +kernel
theorem dX0_nameAt_39 : decode cX0_nameAt 39 = .ok (.iadd, 1) := by decide +kernel
theorem dX0_nameAt_40 : decode cX0_nameAt 40 = .ok (.bipush 97, 2) := by decide +kernel
theorem dX0_nameAt_42 : decode cX0_nameAt 42 = .ok (.isub, 1) := by decide +kernel
theorem dX0_nameAt_43 : decode cX0_nameAt 43 = .ok (.iconst 1, 1) := by decide +kernel
theorem dX0_nameAt_44 : decode cX0_nameAt 44 = .ok (.iadd, 1) := by decide +kernel
theorem dX0_nameAt_45 : decode cX0_nameAt 45 = .ok (.istore_n 2, 1) := by decide +kernel
theorem dX0_nameAt_46 : decode cX0_nameAt 46 = .ok (.iinc 4 1, 3) := by decide +kernel
theorem dX0_nameAt_49 : decode cX0_nameAt 49 = .ok (.goto (-27), 3) := by decide +kernel
theorem dX0_nameAt_52 : decode cX0_nameAt 52 = .ok (.iload_n 2, 1) := by decide +kernel
theorem dX0_nameAt_53 : decode cX0_nameAt 53 = .ok (.ireturn, 1) := by decide +kernel
theorem dX1_init_0 : decode cX1_init 0 = .ok (.aload_n 0, 1) := by decide +kernel
theorem dX1_init_1 : decode cX1_init 1 = .ok (.invokespecial 3, 3) := by decide +kernel
theorem dX1_init_4 : decode cX1_init 4 = .ok (.aload_n 0, 1) := by decide +kernel
theorem dX1_init_5 : decode cX1_init 5 = .ok (.iload_n 1, 1) := by decide +kernel
theorem dX1_init_6 : decode cX1_init 6 = .ok (.iconst 0, 1) := by decide +kernel
theorem dX1_init_7 : decode cX1_init 7 = .ok (.invokestatic 9, 3) := by decide +kernel
theorem dX1_init_10 : decode cX1_init 10 = .ok (.putfield 15, 3) := by decide +kernel
theorem dX1_init_13 : decode cX1_init 13 = .ok (.aload_n 0, 1) := by decide +kernel
theorem dX1_init_14 : decode cX1_init 14 = .ok (.iload_n 2, 1) := by decide +kernel
theorem dX1_init_15 : decode cX1_init 15 = .ok (.iconst 0, 1) := by decide +kernel
theorem dX1_init_16 : decode cX1_init 16 = .ok (.invokestatic 9, 3) := by decide +kernel
theorem dX1_init_19 : decode cX1_init 19 = .ok (.putfield 21, 3) := by decide +kernel
theorem dX1_init_22 : decode cX1_init 22 = .ok (.aload_n 0, 1) := by decide +kernel
theorem dX1_init_23 : decode cX1_init 23 = .ok (.aload_n 0, 1) := by decide +kernel
theorem dX1_init_24 : decode cX1_init 24 = .ok (.getfield 15, 3) := by decide +kernel
theorem dX1_init_27 : decode cX1_init 27 = .ok (.aload_n 0, 1) := by decide +kernel
theorem dX1_init_28 : decode cX1_init 28 = .ok (.getfield 21, 3) := by decide +kernel
theorem dX1_init_31 : decode cX1_init 31 = .ok (.imul, 1) := by decide +kernel
theorem dX1_init_32 : decode cX1_init 32 = .ok (.iconst 0, 1) := by decide +kernel
theorem dX1_init_33 : decode cX1_init 33 = .ok (.invokestatic 9, 3) := by decide +kernel
theorem dX1_init_36 : decode cX1_init 36 = .ok (.newarray .char, 2) := by decide +kernel
theorem dX1_init_38 : decode cX1_init 38 = .ok (.putfield 24, 3) := by decide +kernel
theorem dX1_init_41 : decode cX1_init 41 = .ok (.aload_n 0, 1) := by decide +kernel
theorem dX1_init_42 : decode cX1_init 42 = .ok (.aload_n 0, 1) := by decide +kernel
theorem dX1_init_43 : decode cX1_init 43 = .ok (.getfield 15, 3) := by decide +kernel
theorem dX1_init_46 : decode cX1_init 46 = .ok (.newarray .int, 2) := by decide +kernel
theorem dX1_init_48 : decode cX1_init 48 = .ok (.putfield 28, 3) := by decide +kernel
theorem dX1_init_51 : decode cX1_init 51 = .ok (.return_, 1) := by decide +kernel
theorem dX1_isRow_0 : decode cX1_isRow 0 = .ok (.iload_n 1, 1) := by decide +kernel
theorem dX1_isRow_1 : decode cX1_isRow 1 = .ok (.ifCond .lt 15, 3) := by decide +kernel
theorem dX1_isRow_4 : decode cX1_isRow 4 = .ok (.iload_n 1, 1) := by decide +kernel
theorem dX1_isRow_5 : decode cX1_isRow 5 = .ok (.aload_n 0, 1) := by decide +kernel
theorem dX1_isRow_6 : decode cX1_isRow 6 = .ok (.getfield 15, 3) := by decide +kernel
theorem dX1_isRow_9 : decode cX1_isRow 9 = .ok (.if_icmp .ge 7, 3) := by decide +kernel
theorem dX1_isRow_12 : decode cX1_isRow 12 = .ok (.iconst 1, 1) := by decide +kernel
theorem dX1_isRow_13 : decode cX1_isRow 13 = .ok (.goto 4, 3) := by decide +kernel
theorem dX1_isRow_16 : decode cX1_isRow 16 = .ok (.iconst 0, 1) := by decide +kernel
theorem dX1_isRow_17 : decode cX1_isRow 17 = .ok (.ireturn, 1) := by decide +kernel
set_option maxRecDepth 20000 in
theorem ggX1_sizeOf_X1_isRow : GoodIn wsX1_sizeOf wsX1_isRow := goodIn_r _ [6, 7, 8, 9, 10, 11] (by decide +kernel) (by decide +kernel)
set_option maxRecDepth 20000 in
theorem gX1_sizeOf_X1_isRow : GoodIn wsX1_sizeOf (wsV RX1 32 RX1 yX1_isRow wsX1_isRow) := goodIn_app (goodIn_of _ (by decide +kernel)) ggX1_sizeOf_X1_isRow
theorem dX1_sizeOf_0 : decode cX1_sizeOf 0 = .ok (.aload_n 0, 1) := by decide +kernel
theorem dX1_sizeOf_1 : decode cX1_sizeOf 1 = .ok (.iload_n 1, 1) := by decide +kernel
theorem dX1_sizeOf_2 : decode cX1_sizeOf 2 = .ok (.invokevirtual 32, 3) := by decide +kernel
theorem dX1_sizeOf_5 : decode cX1_sizeOf 5 = .ok (.ifCond .eq 12, 3) := by decide +kernel
theorem dX1_sizeOf_8 : decode cX1_sizeOf 8 = .ok (.aload_n 0, 1) := by decide +kernel
theorem dX1_sizeOf_9 : decode cX1_sizeOf 9 = .ok (.getfield 28, 3) := by decide +kernel
theorem dX1_sizeOf_12 : decode cX1_sizeOf 12 = .ok (.iload_n 1, 1) := by decide +kernel
theorem dX1_sizeOf_13 : decode cX1_sizeOf 13 = .ok (.iaload, 1) := by decide +kernel
theorem dX1_sizeOf_14 : decode cX1_sizeOf 14 = .ok (.goto 4, 3) := by decide +kernel
theorem dX1_sizeOf_17 : decode cX1_sizeOf 17 = .ok (.iconst 0, 1) := by decide +kernel
theorem dX1_sizeOf_18 : decode cX1_sizeOf 18 = .ok (.ireturn, 1) := by decide +kernel
set_option maxRecDepth 20000 in
theorem ggX1_letterAt_X1_sizeOf : GoodIn wsX1_letterAt wsX1_sizeOf := goodIn_r _ [7, 8, 9, 10, 11, 6, 12, 13, 14, 15, 16, 17] (by decide +kernel) (by decide +kernel)
set_option maxRecDepth 20000 in
theorem gX1_letterAt_X1_sizeOf : GoodIn wsX1_letterAt (wsV RX1 36 RX1 yX1_sizeOf wsX1_sizeOf) := goodIn_app (goodIn_of _ (by decide +kernel)) ggX1_letterAt_X1_sizeOf
theorem dX1_letterAt_0 : decode cX1_letterAt 0 = .ok (.iload_n 2, 1) := by decide +kernel
theorem dX1_letterAt_1 : decode cX1_letterAt 1 = .ok (.ifCond .lt 28, 3) := by decide +kernel
theorem dX1_letterAt_4 : decode cX1_letterAt 4 = .ok (.iload_n 2, 1) := by decide +kernel
theorem dX1_letterAt_5 : decode cX1_letterAt 5 = .ok (.aload_n 0, 1) := by decide +kernel
theorem dX1_letterAt_6 : decode cX1_letterAt 6 = .ok (.iload_n 1, 1) := by decide +kernel
theorem dX1_letterAt_7 : decode cX1_letterAt 7 = .ok (.invokevirtual 36, 3) := by decide +kernel
theorem dX1_letterAt_10 : decode cX1_letterAt 10 = .ok (.if_icmp .ge 19, 3) := by decide +kernel
theorem dX1_letterAt_13 : decode cX1_letterAt 13 = .ok (.aload_n 0, 1) := by decide +kernel
theorem dX1_letterAt_14 : decode cX1_letterAt 14 = .ok (.getfield 24, 3) := by decide +kernel
theorem dX1_letterAt_17 : decode cX1_letterAt 17 = .ok (.iload_n 1, 1) := by decide +kernel
theorem dX1_letterAt_18 : decode cX1_letterAt 18 = .ok (.aload_n 0, 1) := by decide +kernel
theorem dX1_letterAt_19 : decode cX1_letterAt 19 = .ok (.getfield 21, 3) := by decide +kernel
theorem dX1_letterAt_22 : decode cX1_letterAt 22 = .ok (.imul, 1) := by decide +kernel
theorem dX1_letterAt_23 : decode cX1_letterAt 23 = .ok (.iload_n 2, 1) := by decide +kernel
theorem dX1_letterAt_24 : decode cX1_letterAt 24 = .ok (.iadd, 1) := by decide +kernel
theorem dX1_letterAt_25 : decode cX1_letterAt 25 = .ok (.caload, 1) := by decide +kernel
theorem dX1_letterAt_26 : decode cX1_letterAt 26 = .ok (.goto 4, 3) := by decide +kernel
theorem dX1_letterAt_29 : decode cX1_letterAt 29 = .ok (.iconst (-1), 1) := by decide +kernel
theorem dX1_letterAt_30 : decode cX1_letterAt 30 = .ok (.ireturn, 1) := by decide +kernel
set_option maxRecDepth 20000 in
theorem ggX1_hasRoom_X1_isRow : GoodIn wsX1_hasRoom wsX1_isRow := goodIn_r _ [7, 8, 9, 10, 11, 12] (by decide +kernel) (by decide +kernel)
set_option maxRecDepth 20000 in
theorem gX1_hasRoom_X1_isRow : GoodIn wsX1_hasRoom (wsV RX1 32 RX1 yX1_isRow wsX1_isRow) := goodIn_app (goodIn_of _ (by decide +kernel)) ggX1_hasRoom_X1_isRow
theorem dX1_hasRoom_0 : decode cX1_hasRoom 0 = .ok (.aload_n 0, 1) := by decide +kernel
theorem dX1_hasRoom_1 : decode cX1_hasRoom 1 = .ok (.iload_n 1, 1) := by decide +kernel
theorem dX1_hasRoom_2 : decode cX1_hasRoom 2 = .ok (.invokevirtual 32, 3) := by decide +kernel
theorem dX1_hasRoom_5 : decode cX1_hasRoom 5 = .ok (.ifCond .eq 22, 3) := by decide +kernel
theorem dX1_hasRoom_8 : decode cX1_hasRoom 8 = .ok (.iload_n 2, 1) := by decide +kernel
theorem dX1_hasRoom_9 : decode cX1_hasRoom 9 = .ok (.aload_n 0, 1) := by decide +kernel
theorem dX1_hasRoom_10 : decode cX1_hasRoom 10 = .ok (.getfield 21, 3) := by decide +kernel
theorem dX1_hasRoom_13 : decode cX1_hasRoom 13 = .ok (.aload_n 0, 1) := by decide +kernel
theorem dX1_hasRoom_14 : decode cX1_hasRoom 14 = .ok (.getfield 28, 3) := by decide +kernel
theorem dX1_hasRoom_17 : decode cX1_hasRoom 17 = .ok (.iload_n 1, 1) := by decide +kernel
theorem dX1_hasRoom_18 : decode cX1_hasRoom 18 = .ok (.iaload, 1) := by decide +kernel
theorem dX1_hasRoom_19 : decode cX1_hasRoom 19 = .ok (.isub, 1) := by decide +kernel
theorem dX1_hasRoom_20 : decode cX1_hasRoom 20 = .ok (.if_icmp .gt 7, 3) := by decide +kernel
theorem dX1_hasRoom_23 : decode cX1_hasRoom 23 = .ok (.iconst 1, 1) := by decide +kernel
theorem dX1_hasRoom_24 : decode cX1_hasRoom 24 = .ok (.goto 4, 3) := by decide +kernel
theorem dX1_hasRoom_27 : decode cX1_hasRoom 27 = .ok (.iconst 0, 1) := by decide +kernel
theorem dX1_hasRoom_28 : decode cX1_hasRoom 28 = .ok (.ireturn, 1) := by decide +kernel
set_option maxRecDepth 20000 in
theorem ggX1_empty_X1_isRow : GoodIn wsX1_empty wsX1_isRow := goodIn_r _ [6, 7, 8, 9, 10, 11] (by decide +kernel) (by decide +kernel)
set_option maxRecDepth 20000 in
theorem gX1_empty_X1_isRow : GoodIn wsX1_empty (wsV RX1 32 RX1 yX1_isRow wsX1_isRow) := goodIn_app (goodIn_of _ (by decide +kernel)) ggX1_empty_X1_isRow
theorem dX1_empty_0 : decode cX1_empty 0 = .ok (.aload_n 0, 1) := by decide +kernel
theorem dX1_empty_1 : decode cX1_empty 1 = .ok (.iload_n 1, 1) := by decide +kernel
theorem dX1_empty_2 : decode cX1_empty 2 = .ok (.invokevirtual 32, 3) := by decide +kernel
theorem dX1_empty_5 : decode cX1_empty 5 = .ok (.ifCond .eq 10, 3) := by decide +kernel
theorem dX1_empty_8 : decode cX1_empty 8 = .ok (.aload_n 0, 1) := by decide +kernel
theorem dX1_empty_9 : decode cX1_empty 9 = .ok (.getfield 28, 3) := by decide +kernel
theorem dX1_empty_12 : decode cX1_empty 12 = .ok (.iload_n 1, 1) := by decide +kernel
theorem dX1_empty_13 : decode cX1_empty 13 = .ok (.iconst 0, 1) := by decide +kernel
theorem dX1_empty_14 : decode cX1_empty 14 = .ok (.iastore, 1) := by decide +kernel
theorem dX1_empty_15 : decode cX1_empty 15 = .ok (.return_, 1) := by decide +kernel
set_option maxRecDepth 20000 in
theorem ggX1_add_X1_isRow : GoodIn wsX1_add wsX1_isRow := goodIn_r _ [8, 9, 10, 11, 12, 13] (by decide +kernel) (by decide +kernel)
set_option maxRecDepth 20000 in
theorem gX1_add_X1_isRow : GoodIn wsX1_add (wsV RX1 32 RX1 yX1_isRow wsX1_isRow) := goodIn_app (goodIn_of _ (by decide +kernel)) ggX1_add_X1_isRow
theorem dX1_add_0 : decode cX1_add 0 = .ok (.aload_n 0, 1) := by decide +kernel
theorem dX1_add_1 : decode cX1_add 1 = .ok (.iload_n 1, 1) := by decide +kernel
theorem dX1_add_2 : decode cX1_add 2 = .ok (.invokevirtual 32, 3) := by decide +kernel
theorem dX1_add_5 : decode cX1_add 5 = .ok (.ifCond .eq 45, 3) := by decide +kernel
theorem dX1_add_8 : decode cX1_add 8 = .ok (.aload_n 0, 1) := by decide +kernel
theorem dX1_add_9 : decode cX1_add 9 = .ok (.getfield 28, 3) := by decide +kernel
theorem dX1_add_12 : decode cX1_add 12 = .ok (.iload_n 1, 1) := by decide +kernel
theorem dX1_add_13 : decode cX1_add 13 = .ok (.iaload, 1) := by decide +kernel
theorem dX1_add_14 : decode cX1_add 14 = .ok (.aload_n 0, 1) := by decide +kernel
theorem dX1_add_15 : decode cX1_add 15 = .ok (.getfield 21, 3) := by decide +kernel
theorem dX1_add_18 : decode cX1_add 18 = .ok (.if_icmp .ge 32, 3) := by decide +kernel
theorem dX1_add_21 : decode cX1_add 21 = .ok (.aload_n 0, 1) := by decide +kernel
theorem dX1_add_22 : decode cX1_add 22 = .ok (.getfield 24, 3) := by decide +kernel
theorem dX1_add_25 : decode cX1_add 25 = .ok (.iload_n 1, 1) := by decide +kernel
theorem dX1_add_26 : decode cX1_add 26 = .ok (.aload_n 0, 1) := by decide +kernel
theorem dX1_add_27 : decode cX1_add 27 = .ok (.getfield 21, 3) := by decide +kernel
theorem dX1_add_30 : decode cX1_add 30 = .ok (.imul, 1) := by decide +kernel
theorem dX1_add_31 : decode cX1_add 31 = .ok (.aload_n 0, 1) := by decide +kernel
theorem dX1_add_32 : decode cX1_add 32 = .ok (.getfield 28, 3) := by decide +kernel
theorem dX1_add_35 : decode cX1_add 35 = .ok (.iload_n 1, 1) := by decide +kernel
theorem dX1_add_36 : decode cX1_add 36 = .ok (.iaload, 1) := by decide +kernel
theorem dX1_add_37 : decode cX1_add 37 = .ok (.iadd, 1) := by decide +kernel
theorem dX1_add_38 : decode cX1_add 38 = .ok (.iload_n 2, 1) := by decide +kernel
theorem dX1_add_39 : decode cX1_add 39 = .ok (.castore, 1) := by decide +kernel
theorem dX1_add_40 : decode cX1_add 40 = .ok (.aload_n 0, 1) := by decide +kernel
theorem dX1_add_41 : decode cX1_add 41 = .ok (.getfield 28, 3) := by decide +kernel
theorem dX1_add_44 : decode cX1_add 44 = .ok (.iload_n 1, 1) := by decide +kernel
theorem dX1_add_45 : decode cX1_add 45 = .ok (.dup2, 1) := by decide +kernel
theorem dX1_add_46 : decode cX1_add 46 = .ok (.iaload, 1) := by decide +kernel
theorem dX1_add_47 : decode cX1_add 47 = .ok (.iconst 1, 1) := by decide +kernel
theorem dX1_add_48 : decode cX1_add 48 = .ok (.iadd, 1) := by decide +kernel
theorem dX1_add_49 : decode cX1_add 49 = .ok (.iastore, 1) := by decide +kernel
theorem dX1_add_50 : decode cX1_add 50 = .ok (.return_, 1) := by decide +kernel
set_option maxRecDepth 20000 in
theorem ggX1_addRow_X1_isRow : GoodIn wsX1_addRow wsX1_isRow := goodIn_r _ [12, 13, 14, 15, 16, 17] (by decide +kernel) (by decide +kernel)
set_option maxRecDepth 20000 in
theorem gX1_addRow_X1_isRow : GoodIn wsX1_addRow (wsV RX1 32 RX1 yX1_isRow wsX1_isRow) := goodIn_app (goodIn_of _ (by decide +kernel)) ggX1_addRow_X1_isRow
theorem dX1_addRow_0 : decode cX1_addRow 0 = .ok (.aload_n 2, 1) := by decide +kernel
theorem dX1_addRow_1 : decode cX1_addRow 1 = .ok (.ifnull 19, 3) := by decide +kernel
theorem dX1_addRow_4 : decode cX1_addRow 4 = .ok (.aload_n 0, 1) := by decide +kernel
theorem dX1_addRow_5 : decode cX1_addRow 5 = .ok (.iload_n 1, 1) := by decide +kernel
theorem dX1_addRow_6 : decode cX1_addRow 6 = .ok (.invokevirtual 32, 3) := by decide +kernel
theorem dX1_addRow_9 : decode cX1_addRow 9 = .ok (.ifCond .eq 11, 3) := by decide +kernel
theorem dX1_addRow_12 : decode cX1_addRow 12 = .ok (.aload_n 2, 1) := by decide +kernel
theorem dX1_addRow_13 : decode cX1_addRow 13 = .ok (.iload_n 3, 1) := by decide +kernel
theorem dX1_addRow_14 : decode cX1_addRow 14 = .ok (.invokevirtual 32, 3) := by decide +kernel
theorem dX1_addRow_17 : decode cX1_addRow 17 = .ok (.ifCond .ne 4, 3) := by decide +kernel
theorem dX1_addRow_20 : decode cX1_addRow 20 = .ok (.return_, 1) := by decide +kernel
theorem dX1_addRow_21 : decode cX1_addRow 21 = .ok (.aload_n 2, 1) := by decide +kernel
theorem dX1_addRow_22 : decode cX1_addRow 22 = .ok (.getfield 28, 3) := by decide +kernel
theorem dX1_addRow_25 : decode cX1_addRow 25 = .ok (.iload_n 3, 1) := by decide +kernel
theorem dX1_addRow_26 : decode cX1_addRow 26 = .ok (.iaload, 1) := by decide +kernel
theorem dX1_addRow_27 : decode cX1_addRow 27 = .ok (.aload_n 0, 1) := by decide +kernel
theorem dX1_addRow_28 : decode cX1_addRow 28 = .ok (.getfield 21, 3) := by decide +kernel
theorem dX1_addRow_31 : decode cX1_addRow 31 = .ok (.aload_n 0, 1) := by decide +kernel
theorem dX1_addRow_32 : decode cX1_addRow 32 = .ok (.getfield 28, 3) := by decide +kernel
theorem dX1_addRow_35 : decode cX1_addRow 35 = .ok (.iload_n 1, 1) := by decide +kernel
theorem dX1_addRow_36 : decode cX1_addRow 36 = .ok (.iaload, 1) := by decide +kernel
theorem dX1_addRow_37 : decode cX1_addRow 37 = .ok (.isub, 1) := by decide +kernel
theorem dX1_addRow_38 : decode cX1_addRow 38 = .ok (.invokestatic 40, 3) := by decide +kernel
theorem dX1_addRow_41 : decode cX1_addRow 41 = .ok (.istore 4, 2) := by decide +kernel
theorem dX1_addRow_43 : decode cX1_addRow 43 = .ok (.iload_n 1, 1) := by decide +kernel
theorem dX1_addRow_44 : decode cX1_addRow 44 = .ok (.aload_n 0, 1) := by decide +kernel
theorem dX1_addRow_45 : decode cX1_addRow 45 = .ok (.getfield 21, 3) := by decide +kernel
theorem dX1_addRow_48 : decode cX1_addRow 48 = .ok (.imul, 1) := by decide +kernel
theorem dX1_addRow_49 : decode cX1_addRow 49 = .ok (.aload_n 0, 1) := by decide +kernel
theorem dX1_addRow_50 : decode cX1_addRow 50 = .ok (.getfield 28, 3) := by decide +kernel
theorem dX1_addRow_53 : decode cX1_addRow 53 = .ok (.iload_n 1, 1) := by decide +kernel
theorem dX1_addRow_54 : decode cX1_addRow 54 = .ok (.iaload, 1) := by decide +kernel
theorem dX1_addRow_55 : decode cX1_addRow 55 = .ok (.iadd, 1) := by decide +kernel
theorem dX1_addRow_56 : decode cX1_addRow 56 = .ok (.istore 5, 2) := by decide +kernel
theorem dX1_addRow_58 : decode cX1_addRow 58 = .ok (.iconst 0, 1) := by decide +kernel
theorem dX1_addRow_59 : decode cX1_addRow 59 = .ok (.istore 6, 2) := by decide +kernel
theorem dX1_addRow_61 : decode cX1_addRow 61 = .ok (.iload 6, 2) := by decide +kernel
theorem dX1_addRow_63 : decode cX1_addRow 63 = .ok (.iload 4, 2) := by decide +kernel
theorem dX1_addRow_65 : decode cX1_addRow 65 = .ok (.if_icmp .ge 33, 3) := by decide +kernel
theorem dX1_addRow_68 : decode cX1_addRow 68 = .ok (.aload_n 0, 1) := by decide +kernel
theorem dX1_addRow_69 : decode cX1_addRow 69 = .ok (.getfield 24, 3) := by decide +kernel
theorem dX1_addRow_72 : decode cX1_addRow 72 = .ok (.iload 5, 2) := by decide +kernel
theorem dX1_addRow_74 : decode cX1_addRow 74 = .ok (.iload 6, 2) := by decide +kernel
theorem dX1_addRow_76 : decode cX1_addRow 76 = .ok (.iadd, 1) := by decide +kernel
theorem dX1_addRow_77 : decode cX1_addRow 77 = .ok (.aload_n 2, 1) := by decide +kernel
theorem dX1_addRow_78 : decode cX1_addRow 78 = .ok (.getfield 24, 3) := by decide +kernel
theorem dX1_addRow_81 : decode cX1_addRow 81 = .ok (.iload_n 3, 1) := by decide +kernel
theorem dX1_addRow_82 : decode cX1_addRow 82 = .ok (.aload_n 2, 1) := by decide +kernel
theorem dX1_addRow_83 : decode cX1_addRow 83 = .ok (.getfield 21, 3) := by decide +kernel
theorem dX1_addRow_86 : decode cX1_addRow 86 = .ok (.imul, 1) := by decide +kernel
theorem dX1_addRow_87 : decode cX1_addRow 87 = .ok (.iload 6, 2) := by decide +kernel
theorem dX1_addRow_89 : decode cX1_addRow 89 = .ok (.iadd, 1) := by decide +kernel
theorem dX1_addRow_90 : decode cX1_addRow 90 = .ok (.caload, 1) := by decide +kernel
theorem dX1_addRow_91 : decode cX1_addRow 91 = .ok (.castore, 1) := by decide +kernel
theorem dX1_addRow_92 : decode cX1_addRow 92 = .ok (.iinc 6 1, 3) := by decide +kernel
theorem dX1_addRow_95 : decode cX1_addRow 95 = .ok (.goto (-34), 3) := by decide +kernel
theorem dX1_addRow_98 : decode cX1_addRow 98 = .ok (.aload_n 0, 1) := by decide +kernel
theorem dX1_addRow_99 : decode cX1_addRow 99 = .ok (.getfield 28, 3) := by decide +kernel
theorem dX1_addRow_102 : decode cX1_addRow 102 = .ok (.iload_n 1, 1) := by decide +kernel
theorem dX1_addRow_103 : decode cX1_addRow 103 = .ok (.dup2, 1) := by decide +kernel
theorem dX1_addRow_104 : decode cX1_addRow 104 = .ok (.iaload, 1) := by decide +kernel
theorem dX1_addRow_105 : decode cX1_addRow 105 = .ok (.iload 4, 2) := by decide +kernel
theorem dX1_addRow_107 : decode cX1_addRow 107 = .ok (.iadd, 1) := by decide +kernel
theorem dX1_addRow_108 : decode cX1_addRow 108 = .ok (.iastore, 1) := by decide +kernel
theorem dX1_addRow_109 : decode cX1_addRow 109 = .ok (.return_, 1) := by decide +kernel
theorem dX2_init_0 : decode cX2_init 0 = .ok (.aload_n 0, 1) := by decide +kernel
theorem dX2_init_1 : decode cX2_init 1 = .ok (.invokespecial 3, 3) := by decide +kernel
theorem dX2_init_4 : decode cX2_init 4 = .ok (.aload_n 0, 1) := by decide +kernel
theorem dX2_init_5 : decode cX2_init 5 = .ok (.aload_n 1, 1) := by decide +kernel
theorem dX2_init_6 : decode cX2_init 6 = .ok (.putfield 9, 3) := by decide +kernel
theorem dX2_init_9 : decode cX2_init 9 = .ok (.aload_n 0, 1) := by decide +kernel
theorem dX2_init_10 : decode cX2_init 10 = .ok (.aload_n 2, 1) := by decide +kernel
theorem dX2_init_11 : decode cX2_init 11 = .ok (.putfield 15, 3) := by decide +kernel
theorem dX2_init_14 : decode cX2_init 14 = .ok (.aload_n 0, 1) := by decide +kernel
theorem dX2_init_15 : decode cX2_init 15 = .ok (.aload_n 3, 1) := by decide +kernel
theorem dX2_init_16 : decode cX2_init 16 = .ok (.putfield 19, 3) := by decide +kernel
theorem dX2_init_19 : decode cX2_init 19 = .ok (.return_, 1) := by decide +kernel
set_option maxRecDepth 20000 in
theorem ggX2_read_X0_split : GoodIn wsX2_read wsX0_split := goodIn_r _ [7, 8, 9, 10, 11, 12, 218, 219, 220, 221, 222] (by decide +kernel) (by decide +kernel)
set_option maxRecDepth 20000 in
theorem gX2_read_X0_split : GoodIn wsX2_read (wsV RX2 23 RX0 yX0_split wsX0_split) := goodIn_app (goodIn_of _ (by decide +kernel)) ggX2_read_X0_split
set_option maxRecDepth 20000 in
theorem ggX2_read_X0_words : GoodIn wsX2_read wsX0_words := goodIn_r _ [16, 8, 218, 219, 220, 221, 222] (by decide +kernel) (by decide +kernel)
set_option maxRecDepth 20000 in
theorem gX2_read_X0_words : GoodIn wsX2_read (wsV RX2 28 RX0 yX0_words wsX0_words) := goodIn_app (goodIn_of _ (by decide +kernel)) ggX2_read_X0_words
set_option maxRecDepth 20000 in
theorem ggX2_read_X0_says : GoodIn wsX2_read wsX0_says := goodIn_r _ [20, 21, 22, 23, 6, 24, 8, 12, 11, 25, 26, 27, 28, 29, 30, 31, 32, 33, 34, 35, 36, 37, 38, 39, 40, 10, 41, 42, 43, 44, 45, 46, 47, 48, 49, 50, 51, 52, 53, 54, 55, 56, 57, 58, 59, 60, 61, 62, 63, 64, 65, 66, 67, 68, 69, 70, 71, 72, 73, 74, 75, 76, 77, 218, 219, 220, 221, 222] (by decide +kernel) (by decide +kernel)
set_option maxRecDepth 20000 in
theorem gX2_read_X0_says : GoodIn wsX2_read (wsV RX2 34 RX0 yX0_says wsX0_says) := goodIn_app (goodIn_of _ (by decide +kernel)) ggX2_read_X0_says
set_option maxRecDepth 20000 in
theorem ggX2_read_X2_readState : GoodIn wsX2_read wsX2_readState := goodIn_r _ [82, 1, 2, 17, 18, 19, 6, 20, 21, 22, 23, 24, 8, 12, 11, 25, 26, 27, 28, 29, 30, 31, 32, 33, 34, 35, 36, 37, 38, 39, 40, 10, 41, 42, 43, 44, 45, 46, 47, 48, 49, 50, 51, 52, 53, 54, 55, 56, 57, 58, 59, 60, 61, 62, 63, 64, 65, 66, 67, 68, 69, 70, 71, 72, 73, 74, 75, 76, 77, 13, 14, 15, 16, 83, 84, 85, 86, 87, 88, 89, 90, 91, 92, 93, 94, 95, 96, 97, 98, 99, 100, 101, 102, 103, 104, 105, 106, 107, 108, 109, 110, 111, 112, 113, 114, 115, 116, 117, 118, 119, 215, 216, 217, 218, 219, 220, 221, 222, 223, 224, 225, 226, 227, 228, 229, 230, 231] (by decide +kernel) (by decide +kernel)
set_option maxRecDepth 20000 in
theorem gX2_read_X2_readState : GoodIn wsX2_read (wsV RX2 38 RX2 yX2_readState wsX2_readState) := goodIn_app (goodIn_of _ (by decide +kernel)) ggX2_read_X2_readState
set_option maxRecDepth 20000 in
theorem ggX2_read_X4_entering : GoodIn wsX2_read wsX4_entering := goodIn_r _ [123, 124, 223, 224, 225, 226, 227, 228, 229, 230, 231] (by decide +kernel) (by decide +kernel)
set_option maxRecDepth 20000 in
theorem gX2_read_X4_entering : GoodIn wsX2_read (wsV RX2 43 RX4 yX4_entering wsX4_entering) := goodIn_app (goodIn_of _ (by decide +kernel)) ggX2_read_X4_entering
set_option maxRecDepth 20000 in
theorem ggX2_read_X2_readMarks : GoodIn wsX2_read wsX2_readMarks := goodIn_r _ [128, 2, 1, 83, 84, 85, 6, 86, 87, 88, 89, 90, 21, 22, 23, 24, 8, 12, 11, 37, 38, 39, 40, 10, 91, 92, 93, 94, 95, 96, 97, 13, 14, 15, 16, 129, 130, 131, 132, 133, 134, 135, 136, 137, 138, 139, 140, 141, 142, 143, 144, 145, 81, 146, 147, 148, 149, 150, 151, 152, 215, 216, 217, 218, 219, 220, 221, 222, 223, 224, 225, 226, 227, 228, 229, 230, 231, 232, 233, 234, 235] (by decide +kernel) (by decide +kernel)
set_option maxRecDepth 20000 in
theorem gX2_read_X2_readMarks : GoodIn wsX2_read (wsV RX2 49 RX2 yX2_readMarks wsX2_readMarks) := goodIn_app (goodIn_of _ (by decide +kernel)) ggX2_read_X2_readMarks
set_option maxRecDepth 20000 in
theorem ggX2_read_X4_leaving : GoodIn wsX2_read wsX4_leaving := goodIn_r _ [156, 157, 223, 224, 225, 226, 227, 228, 229, 230, 231] (by decide +kernel) (by decide +kernel)
set_option maxRecDepth 20000 in
theorem gX2_read_X4_leaving : GoodIn wsX2_read (wsV RX2 55 RX4 yX4_leaving wsX4_leaving) := goodIn_app (goodIn_of _ (by decide +kernel)) ggX2_read_X4_leaving
set_option maxRecDepth 20000 in
theorem ggX2_read_X2_readRule : GoodIn wsX2_read wsX2_readRule := goodIn_r _ [161, 2, 1, 162, 83, 84, 85, 6, 86, 87, 88, 89, 90, 21, 22, 23, 24, 8, 12, 11, 37, 38, 39, 40, 10, 91, 92, 93, 94, 95, 96, 97, 17, 18, 19, 20, 25, 26, 27, 28, 29, 30, 31, 32, 33, 34, 35, 36, 41, 42, 43, 44, 45, 46, 47, 48, 49, 50, 51, 52, 53, 54, 55, 56, 57, 58, 59, 60, 61, 62, 63, 64, 65, 66, 67, 68, 69, 70, 71, 72, 73, 74, 75, 76, 77, 163, 164, 165, 81, 166, 13, 14, 15, 16, 129, 167, 168, 169, 170, 171, 172, 173, 174, 175, 176, 177, 178, 179, 180, 181, 182, 183, 184, 185, 186, 115, 103, 104, 105, 106, 187, 188, 189, 190, 117, 191, 192, 193, 194, 195, 196, 197, 198, 199, 200, 201, 202, 203, 204, 205, 206, 207, 208, 209, 210, 211, 212, 213, 214, 143, 144, 145, 146, 130, 147, 148, 149, 150, 134, 151, 137, 136, 152, 138, 139, 140, 141, 142, 215, 216, 217, 218, 219, 220, 221, 222, 223, 224, 225, 226, 227, 228, 229, 230, 231, 236, 237, 238, 239, 240, 241, 242, 243, 244, 245, 232, 233, 234, 235] (by decide +kernel) (by decide +kernel)
set_option maxRecDepth 20000 in
theorem gX2_read_X2_readRule : GoodIn wsX2_read (wsV RX2 60 RX2 yX2_readRule wsX2_readRule) := goodIn_app (goodIn_of _ (by decide +kernel)) ggX2_read_X2_readRule
theorem dX2_read_0 : decode cX2_read 0 = .ok (.aload_n 0, 1) := by decide +kernel
theorem dX2_read_1 : decode cX2_read 1 = .ok (.getfield 9, 3) := by decide +kernel
theorem dX2_read_4 : decode cX2_read 4 = .ok (.invokevirtual 23, 3) := by decide +kernel
theorem dX2_read_7 : decode cX2_read 7 = .ok (.aload_n 0, 1) := by decide +kernel
theorem dX2_read_8 : decode cX2_read 8 = .ok (.getfield 9, 3) := by decide +kernel
theorem dX2_read_11 : decode cX2_read 11 = .ok (.invokevirtual 28, 3) := by decide +kernel
theorem dX2_read_14 : decode cX2_read 14 = .ok (.ifCond .ne 5, 3) := by decide +kernel
theorem dX2_read_17 : decode cX2_read 17 = .ok (.iconst 0, 1) := by decide +kernel
theorem dX2_read_18 : decode cX2_read 18 = .ok (.ireturn, 1) := by decide +kernel
theorem dX2_read_19 : decode cX2_read 19 = .ok (.aload_n 0, 1) := by decide +kernel
theorem dX2_read_20 : decode cX2_read 20 = .ok (.getfield 9, 3) := by decide +kernel
theorem dX2_read_23 : decode cX2_read 23 = .ok (.iconst 0, 1) := by decide +kernel
theorem dX2_read_24 : decode cX2_read 24 = .ok (.ldc 32, 2) := by decide +kernel
theorem dX2_read_26 : decode cX2_read 26 = .ok (.invokevirtual 34, 3) := by decide +kernel
theorem dX2_read_29 : decode cX2_read 29 = .ok (.ifCond .eq 8, 3) := by decide +kernel
theorem dX2_read_32 : decode cX2_read 32 = .ok (.aload_n 0, 1) := by decide +kernel
theorem dX2_read_33 : decode cX2_read 33 = .ok (.invokevirtual 38, 3) := by decide +kernel
theorem dX2_read_36 : decode cX2_read 36 = .ok (.ireturn, 1) := by decide +kernel
theorem dX2_read_37 : decode cX2_read 37 = .ok (.aload_n 0, 1) := by decide +kernel
theorem dX2_read_38 : decode cX2_read 38 = .ok (.getfield 9, 3) := by decide +kernel
theorem dX2_read_41 : decode cX2_read 41 = .ok (.iconst 0, 1) := by decide +kernel
theorem dX2_read_42 : decode cX2_read 42 = .ok (.ldc 41, 2) := by decide +kernel
theorem dX2_read_44 : decode cX2_read 44 = .ok (.invokevirtual 34, 3) := by decide +kernel
theorem dX2_read_47 : decode cX2_read 47 = .ok (.ifCond .eq 15, 3) := by decide +kernel
theorem dX2_read_50 : decode cX2_read 50 = .ok (.aload_n 0, 1) := by decide +kernel
theorem dX2_read_51 : decode cX2_read 51 = .ok (.aload_n 0, 1) := by decide +kernel
theorem dX2_read_52 : decode cX2_read 52 = .ok (.getfield 15, 3) := by decide +kernel
theorem dX2_read_55 : decode cX2_read 55 = .ok (.invokevirtual 43, 3) := by decide +kernel
theorem dX2_read_58 : decode cX2_read 58 = .ok (.invokevirtual 49, 3) := by decide +kernel
theorem dX2_read_61 : decode cX2_read 61 = .ok (.ireturn, 1) := by decide +kernel
theorem dX2_read_62 : decode cX2_read 62 = .ok (.aload_n 0, 1) := by decide +kernel
theorem dX2_read_63 : decode cX2_read 63 = .ok (.getfield 9, 3) := by decide +kernel
theorem dX2_read_66 : decode cX2_read 66 = .ok (.iconst 0, 1) := by decide +kernel
theorem dX2_read_67 : decode cX2_read 67 = .ok (.ldc 53, 2) := by decide +kernel
theorem dX2_read_69 : decode cX2_read 69 = .ok (.invokevirtual 34, 3) := by decide +kernel
theorem dX2_read_72 : decode cX2_read 72 = .ok (.ifCond .eq 15, 3) := by decide +kernel
theorem dX2_read_75 : decode cX2_read 75 = .ok (.aload_n 0, 1) := by decide +kernel
theorem dX2_read_76 : decode cX2_read 76 = .ok (.aload_n 0, 1) := by decide +kernel
theorem dX2_read_77 : decode cX2_read 77 = .ok (.getfield 15, 3) := by decide +kernel
theorem dX2_read_80 : decode cX2_read 80 = .ok (.invokevirtual 55, 3) := by decide +kernel
theorem dX2_read_83 : decode cX2_read 83 = .ok (.invokevirtual 49, 3) := by decide +kernel
theorem dX2_read_86 : decode cX2_read 86 = .ok (.ireturn, 1) := by decide +kernel
theorem dX2_read_87 : decode cX2_read 87 = .ok (.aload_n 0, 1) := by decide +kernel
theorem dX2_read_88 : decode cX2_read 88 = .ok (.getfield 9, 3) := by decide +kernel
theorem dX2_read_91 : decode cX2_read 91 = .ok (.iconst 0, 1) := by decide +kernel
theorem dX2_read_92 : decode cX2_read 92 = .ok (.ldc 58, 2) := by decide +kernel
theorem dX2_read_94 : decode cX2_read 94 = .ok (.invokevirtual 34, 3) := by decide +kernel
theorem dX2_read_97 : decode cX2_read 97 = .ok (.ifCond .eq 10, 3) := by decide +kernel
theorem dX2_read_100 : decode cX2_read 100 = .ok (.aload_n 0, 1) := by decide +kernel
theorem dX2_read_101 : decode cX2_read 101 = .ok (.invokevirtual 60, 3) := by decide +kernel
theorem dX2_read_104 : decode cX2_read 104 = .ok (.goto 4, 3) := by decide +kernel
theorem dX2_read_107 : decode cX2_read 107 = .ok (.iconst (-1), 1) := by decide +kernel
theorem dX2_read_108 : decode cX2_read 108 = .ok (.ireturn, 1) := by decide +kernel
set_option maxRecDepth 20000 in
theorem ggX2_readState_X0_says : GoodIn wsX2_readState wsX0_says := goodIn_r _ [7, 8, 9, 10, 6, 11, 12, 13, 14, 15, 16, 17, 18, 19, 20, 21, 22, 23, 24, 25, 26, 27, 28, 29, 30, 31, 32, 33, 34, 35, 36, 37, 38, 39, 40, 41, 42, 43, 44, 45, 46, 47, 48, 49, 50, 51, 52, 53, 54, 55, 56, 57, 58, 59, 60, 61, 62, 63, 64, 65, 66, 67, 68, 113, 114, 115, 116, 117] (by decide +kernel) (by decide +kernel)
set_option maxRecDepth 20000 in
theorem gX2_readState_X0_says : GoodIn wsX2_readState (wsV RX2 34 RX0 yX0_says wsX0_says) := goodIn_app (goodIn_of _ (by decide +kernel)) ggX2_readState_X0_says
set_option maxRecDepth 20000 in
theorem ggX2_readState_X0_words : GoodIn wsX2_readState wsX0_words := goodIn_r _ [72, 12, 113, 114, 115, 116, 117] (by decide +kernel) (by decide +kernel)
set_option maxRecDepth 20000 in
theorem gX2_readState_X0_words : GoodIn wsX2_readState (wsV RX2 28 RX0 yX0_words wsX0_words) := goodIn_app (goodIn_of _ (by decide +kernel)) ggX2_readState_X0_words
set_option maxRecDepth 20000 in
theorem ggX2_readState_X0_nameAt : GoodIn wsX2_readState wsX0_nameAt := goodIn_r _ [76, 77, 78, 79, 6, 80, 8, 9, 10, 11, 12, 13, 14, 27, 28, 29, 30, 31, 113, 114, 115, 116, 117] (by decide +kernel) (by decide +kernel)
set_option maxRecDepth 20000 in
theorem gX2_readState_X0_nameAt : GoodIn wsX2_readState (wsV RX2 69 RX0 yX0_nameAt wsX0_nameAt) := goodIn_app (goodIn_of _ (by decide +kernel)) ggX2_readState_X0_nameAt
set_option maxRecDepth 20000 in
theorem ggX2_readState_X4_find : GoodIn wsX2_readState wsX4_find := goodIn_r _ [85, 86, 87, 118, 119, 120, 121, 122, 123, 124, 125, 126] (by decide +kernel) (by decide +kernel)
set_option maxRecDepth 20000 in
theorem gX2_readState_X4_find : GoodIn wsX2_readState (wsV RX2 73 RX4 yX4_find wsX4_find) := goodIn_app (goodIn_of _ (by decide +kernel)) ggX2_readState_X4_find
set_option maxRecDepth 20000 in
theorem ggX2_readState_X4_depthOf : GoodIn wsX2_readState wsX4_depthOf := goodIn_r _ [91, 92, 93, 94, 95, 84, 96, 86, 118, 119, 120, 121, 122, 123, 124, 125, 126] (by decide +kernel) (by decide +kernel)
set_option maxRecDepth 20000 in
theorem gX2_readState_X4_depthOf : GoodIn wsX2_readState (wsV RX2 76 RX4 yX4_depthOf wsX4_depthOf) := goodIn_app (goodIn_of _ (by decide +kernel)) ggX2_readState_X4_depthOf
set_option maxRecDepth 20000 in
theorem ggX2_readState_X4_isFull : GoodIn wsX2_readState wsX4_isFull := goodIn_r _ [100, 86, 118, 119, 120, 121, 122, 123, 124, 125, 126] (by decide +kernel) (by decide +kernel)
set_option maxRecDepth 20000 in
theorem gX2_readState_X4_isFull : GoodIn wsX2_readState (wsV RX2 79 RX4 yX4_isFull wsX4_isFull) := goodIn_app (goodIn_of _ (by decide +kernel)) ggX2_readState_X4_isFull
set_option maxRecDepth 20000 in
theorem ggX2_readState_X4_make : GoodIn wsX2_readState wsX4_make := goodIn_r _ [104, 87, 86, 105, 92, 106, 107, 108, 109, 98, 99, 84, 100, 93, 94, 95, 96, 118, 119, 120, 121, 122, 123, 124, 125, 126] (by decide +kernel) (by decide +kernel)
set_option maxRecDepth 20000 in
theorem gX2_readState_X4_make : GoodIn wsX2_readState (wsV RX2 83 RX4 yX4_make wsX4_make) := goodIn_app (goodIn_of _ (by decide +kernel)) ggX2_readState_X4_make
theorem dX2_readState_0 : decode cX2_readState 0 = .ok (.aload_n 0, 1) := by decide +kernel
theorem dX2_readState_1 : decode cX2_readState 1 = .ok (.getfield 9, 3) := by decide +kernel
theorem dX2_readState_4 : decode cX2_readState 4 = .ok (.iconst 4, 1) := by decide +kernel
theorem dX2_readState_5 : decode cX2_readState 5 = .ok (.ldc 63, 2) := by decide +kernel
theorem dX2_readState_7 : decode cX2_readState 7 = .ok (.invokevirtual 34, 3) := by decide +kernel
theorem dX2_readState_10 : decode cX2_readState 10 = .ok (.istore_n 1, 1) := by decide +kernel
theorem dX2_readState_11 : decode cX2_readState 11 = .ok (.aload_n 0, 1) := by decide +kernel
theorem dX2_readState_12 : decode cX2_readState 12 = .ok (.getfield 9, 3) := by decide +kernel
theorem dX2_readState_15 : decode cX2_readState 15 = .ok (.iconst 4, 1) := by decide +kernel
theorem dX2_readState_16 : decode cX2_readState 16 = .ok (.ldc 65, 2) := by decide +kernel
theorem dX2_readState_18 : decode cX2_readState 18 = .ok (.invokevirtual 34, 3) := by decide +kernel
theorem dX2_readState_21 : decode cX2_readState 21 = .ok (.istore_n 2, 1) := by decide +kernel
theorem dX2_readState_22 : decode cX2_readState 22 = .ok (.aload_n 0, 1) := by decide +kernel
theorem dX2_readState_23 : decode cX2_readState 23 = .ok (.getfield 9, 3) := by decide +kernel
theorem dX2_readState_26 : decode cX2_readState 26 = .ok (.invokevirtual 28, 3) := by decide +kernel
theorem dX2_readState_29 : decode cX2_readState 29 = .ok (.iload_n 1, 1) := by decide +kernel
theorem dX2_readState_30 : decode cX2_readState 30 = .ok (.ifCond .ne 7, 3) := by decide +kernel
theorem dX2_readState_33 : decode cX2_readState 33 = .ok (.iload_n 2, 1) := by decide +kernel
theorem dX2_readState_34 : decode cX2_readState 34 = .ok (.ifCond .eq 7, 3) := by decide +kernel
theorem dX2_readState_37 : decode cX2_readState 37 = .ok (.iconst 5, 1) := by decide +kernel
theorem dX2_readState_38 : decode cX2_readState 38 = .ok (.goto 4, 3) := by decide +kernel
theorem dX2_readState_41 : decode cX2_readState 41 = .ok (.iconst 4, 1) := by decide +kernel
theorem dX2_readState_42 : decode cX2_readState 42 = .ok (.if_icmp .ne 16, 3) := by decide +kernel
theorem dX2_readState_45 : decode cX2_readState 45 = .ok (.aload_n 0, 1) := by decide +kernel
theorem dX2_readState_46 : decode cX2_readState 46 = .ok (.getfield 9, 3) := by decide +kernel
theorem dX2_readState_49 : decode cX2_readState 49 = .ok (.iconst 2, 1) := by decide +kernel
theorem dX2_readState_50 : decode cX2_readState 50 = .ok (.ldc 67, 2) := by decide +kernel
theorem dX2_readState_52 : decode cX2_readState 52 = .ok (.invokevirtual 34, 3) := by decide +kernel
theorem dX2_readState_55 : decode cX2_readState 55 = .ok (.ifCond .ne 5, 3) := by decide +kernel
theorem dX2_readState_58 : decode cX2_readState 58 = .ok (.iconst (-1), 1) := by decide +kernel
theorem dX2_readState_59 : decode cX2_readState 59 = .ok (.ireturn, 1) := by decide +kernel
theorem dX2_readState_60 : decode cX2_readState 60 = .ok (.aload_n 0, 1) := by decide +kernel
theorem dX2_readState_61 : decode cX2_readState 61 = .ok (.getfield 9, 3) := by decide +kernel
theorem dX2_readState_64 : decode cX2_readState 64 = .ok (.iconst 1, 1) := by decide +kernel
theorem dX2_readState_65 : decode cX2_readState 65 = .ok (.invokevirtual 69, 3) := by decide +kernel
theorem dX2_readState_68 : decode cX2_readState 68 = .ok (.istore_n 3, 1) := by decide +kernel
theorem dX2_readState_69 : decode cX2_readState 69 = .ok (.aload_n 0, 1) := by decide +kernel
theorem dX2_readState_70 : decode cX2_readState 70 = .ok (.getfield 15, 3) := by decide +kernel
theorem dX2_readState_73 : decode cX2_readState 73 = .ok (.aload_n 0, 1) := by decide +kernel
theorem dX2_readState_74 : decode cX2_readState 74 = .ok (.getfield 9, 3) := by decide +kernel
theorem dX2_readState_77 : decode cX2_readState 77 = .ok (.iconst 3, 1) := by decide +kernel
theorem dX2_readState_78 : decode cX2_readState 78 = .ok (.invokevirtual 69, 3) := by decide +kernel
theorem dX2_readState_81 : decode cX2_readState 81 = .ok (.invokevirtual 73, 3) := by decide +kernel
theorem dX2_readState_84 : decode cX2_readState 84 = .ok (.istore 4, 2) := by decide +kernel
theorem dX2_readState_86 : decode cX2_readState 86 = .ok (.iload_n 3, 1) := by decide +kernel
theorem dX2_readState_87 : decode cX2_readState 87 = .ok (.iconst (-1), 1) := by decide +kernel
theorem dX2_readState_88 : decode cX2_readState 88 = .ok (.if_icmp .eq 15, 3) := by decide +kernel
theorem dX2_readState_91 : decode cX2_readState 91 = .ok (.aload_n 0, 1) := by decide +kernel
theorem dX2_readState_92 : decode cX2_readState 92 = .ok (.getfield 15, 3) := by decide +kernel
theorem dX2_readState_95 : decode cX2_readState 95 = .ok (.iload_n 3, 1) := by decide +kernel
theorem dX2_readState_96 : decode cX2_readState 96 = .ok (.invokevirtual 73, 3) := by decide +kernel
theorem dX2_readState_99 : decode cX2_readState 99 = .ok (.iconst (-1), 1) := by decide +kernel
theorem dX2_readState_100 : decode cX2_readState 100 = .ok (.if_icmp .eq 5, 3) := by decide +kernel
theorem dX2_readState_103 : decode cX2_readState 103 = .ok (.iconst (-1), 1) := by decide +kernel
theorem dX2_readState_104 : decode cX2_readState 104 = .ok (.ireturn, 1) := by decide +kernel
theorem dX2_readState_105 : decode cX2_readState 105 = .ok (.iload 4, 2) := by decide +kernel
theorem dX2_readState_107 : decode cX2_readState 107 = .ok (.iconst (-1), 1) := by decide +kernel
theorem dX2_readState_108 : decode cX2_readState 108 = .ok (.if_icmp .eq 17, 3) := by decide +kernel
theorem dX2_readState_111 : decode cX2_readState 111 = .ok (.aload_n 0, 1) := by decide +kernel
theorem dX2_readState_112 : decode cX2_readState 112 = .ok (.getfield 15, 3) := by decide +kernel
theorem dX2_readState_115 : decode cX2_readState 115 = .ok (.iload 4, 2) := by decide +kernel
theorem dX2_readState_117 : decode cX2_readState 117 = .ok (.invokevirtual 76, 3) := by decide +kernel
theorem dX2_readState_120 : decode cX2_readState 120 = .ok (.bipush 6, 2) := by decide +kernel
theorem dX2_readState_122 : decode cX2_readState 122 = .ok (.if_icmp .lt 5, 3) := by decide +kernel
theorem dX2_readState_125 : decode cX2_readState 125 = .ok (.iconst (-1), 1) := by decide +kernel
theorem dX2_readState_126 : decode cX2_readState 126 = .ok (.ireturn, 1) := by decide +kernel
theorem dX2_readState_127 : decode cX2_readState 127 = .ok (.aload_n 0, 1) := by decide +kernel
theorem dX2_readState_128 : decode cX2_readState 128 = .ok (.getfield 15, 3) := by decide +kernel
theorem dX2_readState_131 : decode cX2_readState 131 = .ok (.invokevirtual 79, 3) := by decide +kernel
theorem dX2_readState_134 : decode cX2_readState 134 = .ok (.ifCond .eq 6, 3) := by decide +kernel
theorem dX2_readState_137 : decode cX2_readState 137 = .ok (.bipush (-2), 2) := by decide +kernel
theorem dX2_readState_139 : decode cX2_readState 139 = .ok (.ireturn, 1) := by decide +kernel
theorem dX2_readState_140 : decode cX2_readState 140 = .ok (.aload_n 0, 1) := by decide +kernel
theorem dX2_readState_141 : decode cX2_readState 141 = .ok (.getfield 15, 3) := by decide +kernel
theorem dX2_readState_144 : decode cX2_readState 144 = .ok (.iload_n 3, 1) := by decide +kernel
theorem dX2_readState_145 : decode cX2_readState 145 = .ok (.iload 4, 2) := by decide +kernel
theorem dX2_readState_147 : decode cX2_readState 147 = .ok (.iload_n 1, 1) := by decide +kernel
theorem dX2_readState_148 : decode cX2_readState 148 = .ok (.iload_n 2, 1) := by decide +kernel
theorem dX2_readState_149 : decode cX2_readState 149 = .ok (.invokevirtual 83, 3) := by decide +kernel
theorem dX2_readState_152 : decode cX2_readState 152 = .ok (.iconst 1, 1) := by decide +kernel
theorem dX2_readState_153 : decode cX2_readState 153 = .ok (.ireturn, 1) := by decide +kernel
set_option maxRecDepth 20000 in
theorem ggX2_readMarks_X0_nameAt : GoodIn wsX2_readMarks wsX0_nameAt := goodIn_r _ [7, 8, 9, 10, 6, 11, 12, 13, 14, 15, 16, 17, 18, 19, 20, 21, 22, 23, 63, 64, 65, 66, 67] (by decide +kernel) (by decide +kernel)
set_option maxRecDepth 20000 in
theorem gX2_readMarks_X0_nameAt : GoodIn wsX2_readMarks (wsV RX2 69 RX0 yX0_nameAt wsX0_nameAt) := goodIn_app (goodIn_of _ (by decide +kernel)) ggX2_readMarks_X0_nameAt
set_option maxRecDepth 20000 in
theorem ggX2_readMarks_X4_find : GoodIn wsX2_readMarks wsX4_find := goodIn_r _ [28, 29, 30, 68, 69, 70, 71, 72, 73, 74, 75, 76] (by decide +kernel) (by decide +kernel)
set_option maxRecDepth 20000 in
theorem gX2_readMarks_X4_find : GoodIn wsX2_readMarks (wsV RX2 73 RX4 yX4_find wsX4_find) := goodIn_app (goodIn_of _ (by decide +kernel)) ggX2_readMarks_X4_find
set_option maxRecDepth 20000 in
theorem ggX2_readMarks_X0_words : GoodIn wsX2_readMarks wsX0_words := goodIn_r _ [34, 16, 63, 64, 65, 66, 67] (by decide +kernel) (by decide +kernel)
set_option maxRecDepth 20000 in
theorem gX2_readMarks_X0_words : GoodIn wsX2_readMarks (wsV RX2 28 RX0 yX0_words wsX0_words) := goodIn_app (goodIn_of _ (by decide +kernel)) ggX2_readMarks_X0_words
set_option maxRecDepth 20000 in
theorem ggX2_readMarks_X0_isLetters : GoodIn wsX2_readMarks wsX0_isLetters := goodIn_r _ [11, 12, 13, 14, 6, 15, 16, 17, 18, 19, 20, 21, 22, 23, 63, 64, 65, 66, 67] (by decide +kernel) (by decide +kernel)
set_option maxRecDepth 20000 in
theorem gX2_readMarks_X0_isLetters : GoodIn wsX2_readMarks (wsV RX2 87 RX0 yX0_isLetters wsX0_isLetters) := goodIn_app (goodIn_of _ (by decide +kernel)) ggX2_readMarks_X0_isLetters
set_option maxRecDepth 20000 in
theorem ggX2_readMarks_X0_sizeOf : GoodIn wsX2_readMarks wsX0_sizeOf := goodIn_r _ [15, 16, 17, 18, 63, 64, 65, 66, 67] (by decide +kernel) (by decide +kernel)
set_option maxRecDepth 20000 in
theorem gX2_readMarks_X0_sizeOf : GoodIn wsX2_readMarks (wsV RX2 91 RX0 yX0_sizeOf wsX0_sizeOf) := goodIn_app (goodIn_of _ (by decide +kernel)) ggX2_readMarks_X0_sizeOf
set_option maxRecDepth 20000 in
theorem ggX2_readMarks_X1_hasRoom : GoodIn wsX2_readMarks wsX1_hasRoom := goodIn_r _ [41, 42, 43, 44, 45, 46, 40, 47, 48, 77, 78, 79, 80] (by decide +kernel) (by decide +kernel)
set_option maxRecDepth 20000 in
theorem gX2_readMarks_X1_hasRoom : GoodIn wsX2_readMarks (wsV RX2 94 RX1 yX1_hasRoom wsX1_hasRoom) := goodIn_app (goodIn_of _ (by decide +kernel)) ggX2_readMarks_X1_hasRoom
set_option maxRecDepth 20000 in
theorem ggX2_readMarks_X2_addMarks : GoodIn wsX2_readMarks wsX2_addMarks := goodIn_r _ [53, 2, 36, 13, 14, 6, 15, 16, 17, 18, 54, 20, 21, 22, 23, 12, 55, 56, 57, 40, 58, 43, 42, 59, 44, 45, 46, 47, 48, 60, 61, 62, 63, 64, 65, 66, 67, 77, 78, 79, 80] (by decide +kernel) (by decide +kernel)
set_option maxRecDepth 20000 in
theorem gX2_readMarks_X2_addMarks : GoodIn wsX2_readMarks (wsV RX2 99 RX2 yX2_addMarks wsX2_addMarks) := goodIn_app (goodIn_of _ (by decide +kernel)) ggX2_readMarks_X2_addMarks
theorem dX2_readMarks_0 : decode cX2_readMarks 0 = .ok (.aload_n 0, 1) := by decide +kernel
theorem dX2_readMarks_1 : decode cX2_readMarks 1 = .ok (.getfield 15, 3) := by decide +kernel
theorem dX2_readMarks_4 : decode cX2_readMarks 4 = .ok (.aload_n 0, 1) := by decide +kernel
theorem dX2_readMarks_5 : decode cX2_readMarks 5 = .ok (.getfield 9, 3) := by decide +kernel
theorem dX2_readMarks_8 : decode cX2_readMarks 8 = .ok (.iconst 1, 1) := by decide +kernel
theorem dX2_readMarks_9 : decode cX2_readMarks 9 = .ok (.invokevirtual 69, 3) := by decide +kernel
theorem dX2_readMarks_12 : decode cX2_readMarks 12 = .ok (.invokevirtual 73, 3) := by decide +kernel
theorem dX2_readMarks_15 : decode cX2_readMarks 15 = .ok (.istore_n 2, 1) := by decide +kernel
theorem dX2_readMarks_16 : decode cX2_readMarks 16 = .ok (.aload_n 0, 1) := by decide +kernel
theorem dX2_readMarks_17 : decode cX2_readMarks 17 = .ok (.getfield 9, 3) := by decide +kernel
theorem dX2_readMarks_20 : decode cX2_readMarks 20 = .ok (.invokevirtual 28, 3) := by decide +kernel
theorem dX2_readMarks_23 : decode cX2_readMarks 23 = .ok (.iconst 3, 1) := by decide +kernel
theorem dX2_readMarks_24 : decode cX2_readMarks 24 = .ok (.if_icmp .ne 20, 3) := by decide +kernel
theorem dX2_readMarks_27 : decode cX2_readMarks 27 = .ok (.iload_n 2, 1) := by decide +kernel
theorem dX2_readMarks_28 : decode cX2_readMarks 28 = .ok (.iconst (-1), 1) := by decide +kernel
theorem dX2_readMarks_29 : decode cX2_readMarks 29 = .ok (.if_icmp .eq 15, 3) := by decide +kernel
theorem dX2_readMarks_32 : decode cX2_readMarks 32 = .ok (.aload_n 0, 1) := by decide +kernel
theorem dX2_readMarks_33 : decode cX2_readMarks 33 = .ok (.getfield 9, 3) := by decide +kernel
theorem dX2_readMarks_36 : decode cX2_readMarks 36 = .ok (.iconst 2, 1) := by decide +kernel
theorem dX2_readMarks_37 : decode cX2_readMarks 37 = .ok (.iconst 3, 1) := by decide +kernel
theorem dX2_readMarks_38 : decode cX2_readMarks 38 = .ok (.invokevirtual 87, 3) := by decide +kernel
theorem dX2_readMarks_41 : decode cX2_readMarks 41 = .ok (.ifCond .ne 5, 3) := by decide +kernel
theorem dX2_readMarks_44 : decode cX2_readMarks 44 = .ok (.iconst (-1), 1) := by decide +kernel
theorem dX2_readMarks_45 : decode cX2_readMarks 45 = .ok (.ireturn, 1) := by decide +kernel
theorem dX2_readMarks_46 : decode cX2_readMarks 46 = .ok (.aload_n 1, 1) := by decide +kernel
theorem dX2_readMarks_47 : decode cX2_readMarks 47 = .ok (.iload_n 2, 1) := by decide +kernel
theorem dX2_readMarks_48 : decode cX2_readMarks 48 = .ok (.aload_n 0, 1) := by decide +kernel
theorem dX2_readMarks_49 : decode cX2_readMarks 49 = .ok (.getfield 9, 3) := by decide +kernel
theorem dX2_readMarks_52 : decode cX2_readMarks 52 = .ok (.iconst 2, 1) := by decide +kernel
theorem dX2_readMarks_53 : decode cX2_readMarks 53 = .ok (.invokevirtual 91, 3) := by decide +kernel
theorem dX2_readMarks_56 : decode cX2_readMarks 56 = .ok (.invokevirtual 94, 3) := by decide +kernel
theorem dX2_readMarks_59 : decode cX2_readMarks 59 = .ok (.ifCond .ne 6, 3) := by decide +kernel
theorem dX2_readMarks_62 : decode cX2_readMarks 62 = .ok (.bipush (-2), 2) := by decide +kernel
theorem dX2_readMarks_64 : decode cX2_readMarks 64 = .ok (.ireturn, 1) := by decide +kernel
theorem dX2_readMarks_65 : decode cX2_readMarks 65 = .ok (.aload_n 0, 1) := by decide +kernel
theorem dX2_readMarks_66 : decode cX2_readMarks 66 = .ok (.aload_n 1, 1) := by decide +kernel
theorem dX2_readMarks_67 : decode cX2_readMarks 67 = .ok (.iload_n 2, 1) := by decide +kernel
theorem dX2_readMarks_68 : decode cX2_readMarks 68 = .ok (.iconst 2, 1) := by decide +kernel
theorem dX2_readMarks_69 : decode cX2_readMarks 69 = .ok (.invokevirtual 99, 3) := by decide +kernel
theorem dX2_readMarks_72 : decode cX2_readMarks 72 = .ok (.iconst 2, 1) := by decide +kernel
theorem dX2_readMarks_73 : decode cX2_readMarks 73 = .ok (.ireturn, 1) := by decide +kernel
set_option maxRecDepth 20000 in
theorem ggX2_readRule_X0_nameAt : GoodIn wsX2_readRule wsX0_nameAt := goodIn_r _ [8, 9, 10, 11, 7, 12, 13, 14, 15, 16, 17, 18, 19, 20, 21, 22, 23, 24, 171, 172, 173, 174, 175] (by decide +kernel) (by decide +kernel)
set_option maxRecDepth 20000 in
theorem gX2_readRule_X0_nameAt : GoodIn wsX2_readRule (wsV RX2 69 RX0 yX0_nameAt wsX0_nameAt) := goodIn_app (goodIn_of _ (by decide +kernel)) ggX2_readRule_X0_nameAt
set_option maxRecDepth 20000 in
theorem ggX2_readRule_X4_find : GoodIn wsX2_readRule wsX4_find := goodIn_r _ [29, 30, 31, 176, 177, 178, 179, 180, 181, 182, 183, 184] (by decide +kernel) (by decide +kernel)
set_option maxRecDepth 20000 in
theorem gX2_readRule_X4_find : GoodIn wsX2_readRule (wsV RX2 73 RX4 yX4_find wsX4_find) := goodIn_app (goodIn_of _ (by decide +kernel)) ggX2_readRule_X4_find
set_option maxRecDepth 20000 in
theorem ggX2_readRule_X0_says : GoodIn wsX2_readRule wsX0_says := goodIn_r _ [35, 13, 14, 15, 7, 16, 17, 18, 19, 36, 37, 38, 39, 40, 41, 42, 43, 44, 45, 46, 47, 20, 21, 22, 23, 24, 48, 49, 50, 51, 52, 53, 54, 55, 56, 57, 58, 59, 60, 61, 62, 63, 64, 65, 66, 67, 68, 69, 70, 71, 72, 73, 74, 75, 76, 77, 78, 79, 80, 81, 82, 83, 84, 171, 172, 173, 174, 175] (by decide +kernel) (by decide +kernel)
set_option maxRecDepth 20000 in
theorem gX2_readRule_X0_says : GoodIn wsX2_readRule (wsV RX2 34 RX0 yX0_says wsX0_says) := goodIn_app (goodIn_of _ (by decide +kernel)) ggX2_readRule_X0_says
set_option maxRecDepth 20000 in
theorem ggX2_readRule_X2_isEndOfRule : GoodIn wsX2_readRule wsX2_isEndOfRule := goodIn_r _ [89, 2, 32, 33, 34, 7, 35, 13, 14, 15, 16, 17, 18, 19, 36, 37, 38, 39, 40, 41, 42, 43, 44, 45, 46, 47, 20, 21, 22, 23, 24, 48, 49, 50, 51, 52, 53, 54, 55, 56, 57, 58, 59, 60, 61, 62, 63, 64, 65, 66, 67, 68, 69, 70, 71, 72, 73, 74, 75, 76, 77, 78, 79, 80, 81, 82, 83, 84, 90, 91, 92, 93, 94, 10, 11, 12, 168, 169, 170, 171, 172, 173, 174, 175] (by decide +kernel) (by decide +kernel)
set_option maxRecDepth 20000 in
theorem gX2_readRule_X2_isEndOfRule : GoodIn wsX2_readRule (wsV RX2 111 RX2 yX2_isEndOfRule wsX2_isEndOfRule) := goodIn_app (goodIn_of _ (by decide +kernel)) ggX2_readRule_X2_isEndOfRule
set_option maxRecDepth 20000 in
theorem ggX2_readRule_X3_hasRoom : GoodIn wsX2_readRule wsX3_hasRoom := goodIn_r _ [99, 100, 101, 102, 103, 104, 98, 105, 106, 185, 186, 187, 188, 189, 190, 191, 192, 193, 194] (by decide +kernel) (by decide +kernel)
set_option maxRecDepth 20000 in
theorem gX2_readRule_X3_hasRoom : GoodIn wsX2_readRule (wsV RX2 115 RX3 yX3_hasRoom wsX3_hasRoom) := goodIn_app (goodIn_of _ (by decide +kernel)) ggX2_readRule_X3_hasRoom
set_option maxRecDepth 20000 in
theorem ggX2_readRule_X4_scopeOf : GoodIn wsX2_readRule wsX4_scopeOf := goodIn_r _ [110, 111, 112, 113, 28, 114, 115, 116, 117, 118, 119, 30, 120, 121, 122, 123, 124, 125, 126, 127, 128, 176, 177, 178, 179, 180, 181, 182, 183, 184] (by decide +kernel) (by decide +kernel)
set_option maxRecDepth 20000 in
theorem gX2_readRule_X4_scopeOf : GoodIn wsX2_readRule (wsV RX2 119 RX4 yX4_scopeOf wsX4_scopeOf) := goodIn_app (goodIn_of _ (by decide +kernel)) ggX2_readRule_X4_scopeOf
set_option maxRecDepth 20000 in
theorem ggX2_readRule_X3_make : GoodIn wsX2_readRule wsX3_make := goodIn_r _ [132, 101, 106, 133, 100, 134, 135, 136, 137, 138, 139, 96, 97, 98, 99, 102, 103, 104, 105, 185, 186, 187, 188, 189, 190, 191, 192, 193, 194] (by decide +kernel) (by decide +kernel)
set_option maxRecDepth 20000 in
theorem gX2_readRule_X3_make : GoodIn wsX2_readRule (wsV RX2 123 RX3 yX3_make wsX3_make) := goodIn_app (goodIn_of _ (by decide +kernel)) ggX2_readRule_X3_make
set_option maxRecDepth 20000 in
theorem ggX2_readRule_X3_marks : GoodIn wsX2_readRule wsX3_marks := goodIn_r _ [143, 144, 185, 186, 187, 188, 189, 190, 191, 192, 193, 194] (by decide +kernel) (by decide +kernel)
set_option maxRecDepth 20000 in
theorem gX2_readRule_X3_marks : GoodIn wsX2_readRule (wsV RX2 126 RX3 yX3_marks wsX3_marks) := goodIn_app (goodIn_of _ (by decide +kernel)) ggX2_readRule_X3_marks
set_option maxRecDepth 20000 in
theorem ggX2_readRule_X3_made : GoodIn wsX2_readRule wsX3_made := goodIn_r _ [148, 100, 185, 186, 187, 188, 189, 190, 191, 192, 193, 194] (by decide +kernel) (by decide +kernel)
set_option maxRecDepth 20000 in
theorem gX2_readRule_X3_made : GoodIn wsX2_readRule (wsV RX2 129 RX3 yX3_made wsX3_made) := goodIn_app (goodIn_of _ (by decide +kernel)) ggX2_readRule_X3_made
set_option maxRecDepth 20000 in
theorem ggX2_readRule_X2_addMarks : GoodIn wsX2_readRule wsX2_addMarks := goodIn_r _ [152, 2, 153, 14, 15, 7, 16, 17, 18, 19, 154, 21, 22, 23, 24, 13, 155, 156, 157, 158, 159, 160, 161, 162, 163, 164, 165, 166, 167, 168, 169, 170, 171, 172, 173, 174, 175, 195, 196, 197, 198] (by decide +kernel) (by decide +kernel)
set_option maxRecDepth 20000 in
theorem gX2_readRule_X2_addMarks : GoodIn wsX2_readRule (wsV RX2 99 RX2 yX2_addMarks wsX2_addMarks) := goodIn_app (goodIn_of _ (by decide +kernel)) ggX2_readRule_X2_addMarks
theorem dX2_readRule_0 : decode cX2_readRule 0 = .ok (.aload_n 0, 1) := by decide +kernel
theorem dX2_readRule_1 : decode cX2_readRule 1 = .ok (.getfield 15, 3) := by decide +kernel
theorem dX2_readRule_4 : decode cX2_readRule 4 = .ok (.aload_n 0, 1) := by decide +kernel
theorem dX2_readRule_5 : decode cX2_readRule 5 = .ok (.getfield 9, 3) := by decide +kernel
theorem dX2_readRule_8 : decode cX2_readRule 8 = .ok (.iconst 3, 1) := by decide +kernel
theorem dX2_readRule_9 : decode cX2_readRule 9 = .ok (.invokevirtual 69, 3) := by decide +kernel
theorem dX2_readRule_12 : decode cX2_readRule 12 = .ok (.invokevirtual 73, 3) := by decide +kernel
theorem dX2_readRule_15 : decode cX2_readRule 15 = .ok (.istore_n 1, 1) := by decide +kernel
theorem dX2_readRule_16 : decode cX2_readRule 16 = .ok (.aload_n 0, 1) := by decide +kernel
theorem dX2_readRule_17 : decode cX2_readRule 17 = .ok (.getfield 15, 3) := by decide +kernel
theorem dX2_readRule_20 : decode cX2_readRule 20 = .ok (.aload_n 0, 1) := by decide +kernel
theorem dX2_readRule_21 : decode cX2_readRule 21 = .ok (.getfield 9, 3) := by decide +kernel
theorem dX2_readRule_24 : decode cX2_readRule 24 = .ok (.iconst 5, 1) := by decide +kernel
theorem dX2_readRule_25 : decode cX2_readRule 25 = .ok (.invokevirtual 69, 3) := by decide +kernel
theorem dX2_readRule_28 : decode cX2_readRule 28 = .ok (.invokevirtual 73, 3) := by decide +kernel
theorem dX2_readRule_31 : decode cX2_readRule 31 = .ok (.istore_n 2, 1) := by decide +kernel
theorem dX2_readRule_32 : decode cX2_readRule 32 = .ok (.aload_n 0, 1) := by decide +kernel
theorem dX2_readRule_33 : decode cX2_readRule 33 = .ok (.getfield 9, 3) := by decide +kernel
theorem dX2_readRule_36 : decode cX2_readRule 36 = .ok (.iconst 1, 1) := by decide +kernel
theorem dX2_readRule_37 : decode cX2_readRule 37 = .ok (.invokevirtual 69, 3) := by decide +kernel
theorem dX2_readRule_40 : decode cX2_readRule 40 = .ok (.iconst (-1), 1) := by decide +kernel
theorem dX2_readRule_41 : decode cX2_readRule 41 = .ok (.if_icmp .eq 29, 3) := by decide +kernel
theorem dX2_readRule_44 : decode cX2_readRule 44 = .ok (.aload_n 0, 1) := by decide +kernel
theorem dX2_readRule_45 : decode cX2_readRule 45 = .ok (.getfield 9, 3) := by decide +kernel
theorem dX2_readRule_48 : decode cX2_readRule 48 = .ok (.iconst 2, 1) := by decide +kernel
theorem dX2_readRule_49 : decode cX2_readRule 49 = .ok (.ldc 103, 2) := by decide +kernel
theorem dX2_readRule_51 : decode cX2_readRule 51 = .ok (.invokevirtual 34, 3) := by decide +kernel
theorem dX2_readRule_54 : decode cX2_readRule 54 = .ok (.ifCond .eq 16, 3) := by decide +kernel
theorem dX2_readRule_57 : decode cX2_readRule 57 = .ok (.aload_n 0, 1) := by decide +kernel
theorem dX2_readRule_58 : decode cX2_readRule 58 = .ok (.getfield 9, 3) := by decide +kernel
theorem dX2_readRule_61 : decode cX2_readRule 61 = .ok (.iconst 4, 1) := by decide +kernel
theorem dX2_readRule_62 : decode cX2_readRule 62 = .ok (.ldc 105, 2) := by decide +kernel
theorem dX2_readRule_64 : decode cX2_readRule 64 = .ok (.invokevirtual 34, 3) := by decide +kernel
theorem dX2_readRule_67 : decode cX2_readRule 67 = .ok (.ifCond .ne 5, 3) := by decide +kernel
theorem dX2_readRule_70 : decode cX2_readRule 70 = .ok (.iconst (-1), 1) := by decide +kernel
theorem dX2_readRule_71 : decode cX2_readRule 71 = .ok (.ireturn, 1) := by decide +kernel
theorem dX2_readRule_72 : decode cX2_readRule 72 = .ok (.iload_n 1, 1) := by decide +kernel
theorem dX2_readRule_73 : decode cX2_readRule 73 = .ok (.iconst (-1), 1) := by decide +kernel
theorem dX2_readRule_74 : decode cX2_readRule 74 = .ok (.if_icmp .eq 16, 3) := by decide +kernel
theorem dX2_readRule_77 : decode cX2_readRule 77 = .ok (.iload_n 1, 1) := by decide +kernel
theorem dX2_readRule_78 : decode cX2_readRule 78 = .ok (.ifCond .eq 12, 3) := by decide +kernel
theorem dX2_readRule_81 : decode cX2_readRule 81 = .ok (.iload_n 2, 1) := by decide +kernel
theorem dX2_readRule_82 : decode cX2_readRule 82 = .ok (.iconst (-1), 1) := by decide +kernel
theorem dX2_readRule_83 : decode cX2_readRule 83 = .ok (.if_icmp .eq 7, 3) := by decide +kernel
theorem dX2_readRule_86 : decode cX2_readRule 86 = .ok (.iload_n 2, 1) := by decide +kernel
theorem dX2_readRule_87 : decode cX2_readRule 87 = .ok (.ifCond .ne 5, 3) := by decide +kernel
theorem dX2_readRule_90 : decode cX2_readRule 90 = .ok (.iconst (-1), 1) := by decide +kernel
theorem dX2_readRule_91 : decode cX2_readRule 91 = .ok (.ireturn, 1) := by decide +kernel
theorem dX2_readRule_92 : decode cX2_readRule 92 = .ok (.aload_n 0, 1) := by decide +kernel
theorem dX2_readRule_93 : decode cX2_readRule 93 = .ok (.getfield 9, 3) := by decide +kernel
theorem dX2_readRule_96 : decode cX2_readRule 96 = .ok (.bipush 6, 2) := by decide +kernel
theorem dX2_readRule_98 : decode cX2_readRule 98 = .ok (.ldc 107, 2) := by decide +kernel
theorem dX2_readRule_100 : decode cX2_readRule 100 = .ok (.invokevirtual 34, 3) := by decide +kernel
theorem dX2_readRule_103 : decode cX2_readRule 103 = .ok (.istore_n 3, 1) := by decide +kernel
theorem dX2_readRule_104 : decode cX2_readRule 104 = .ok (.iload_n 3, 1) := by decide +kernel
theorem dX2_readRule_105 : decode cX2_readRule 105 = .ok (.ifCond .ne 17, 3) := by decide +kernel
theorem dX2_readRule_108 : decode cX2_readRule 108 = .ok (.aload_n 0, 1) := by decide +kernel
theorem dX2_readRule_109 : decode cX2_readRule 109 = .ok (.getfield 9, 3) := by decide +kernel
theorem dX2_readRule_112 : decode cX2_readRule 112 = .ok (.bipush 6, 2) := by decide +kernel
theorem dX2_readRule_114 : decode cX2_readRule 114 = .ok (.ldc 109, 2) := by decide +kernel
theorem dX2_readRule_116 : decode cX2_readRule 116 = .ok (.invokevirtual 34, 3) := by decide +kernel
theorem dX2_readRule_119 : decode cX2_readRule 119 = .ok (.ifCond .eq 7, 3) := by decide +kernel
theorem dX2_readRule_122 : decode cX2_readRule 122 = .ok (.iconst 1, 1) := by decide +kernel
theorem dX2_readRule_123 : decode cX2_readRule 123 = .ok (.goto 4, 3) := by decide +kernel
theorem dX2_readRule_126 : decode cX2_readRule 126 = .ok (.iconst 0, 1) := by decide +kernel
theorem dX2_readRule_127 : decode cX2_readRule 127 = .ok (.istore 4, 2) := by decide +kernel
theorem dX2_readRule_129 : decode cX2_readRule 129 = .ok (.iload 4, 2) := by decide +kernel
theorem dX2_readRule_131 : decode cX2_readRule 131 = .ok (.ifCond .eq 22, 3) := by decide +kernel
theorem dX2_readRule_134 : decode cX2_readRule 134 = .ok (.aload_n 0, 1) := by decide +kernel
theorem dX2_readRule_135 : decode cX2_readRule 135 = .ok (.getfield 15, 3) := by decide +kernel
theorem dX2_readRule_138 : decode cX2_readRule 138 = .ok (.aload_n 0, 1) := by decide +kernel
theorem dX2_readRule_139 : decode cX2_readRule 139 = .ok (.getfield 9, 3) := by decide +kernel
theorem dX2_readRule_142 : decode cX2_readRule 142 = .ok (.bipush 7, 2) := by decide +kernel
theorem dX2_readRule_144 : decode cX2_readRule 144 = .ok (.invokevirtual 69, 3) := by decide +kernel
theorem dX2_readRule_147 : decode cX2_readRule 147 = .ok (.invokevirtual 73, 3) := by decide +kernel
theorem dX2_readRule_150 : decode cX2_readRule 150 = .ok (.goto 4, 3) := by decide +kernel
theorem dX2_readRule_153 : decode cX2_readRule 153 = .ok (.iconst 0, 1) := by decide +kernel
theorem dX2_readRule_154 : decode cX2_readRule 154 = .ok (.istore 5, 2) := by decide +kernel
theorem dX2_readRule_156 : decode cX2_readRule 156 = .ok (.iload 4, 2) := by decide +kernel
theorem dX2_readRule_158 : decode cX2_readRule 158 = .ok (.ifCond .eq 8, 3) := by decide +kernel
theorem dX2_readRule_161 : decode cX2_readRule 161 = .ok (.bipush 8, 2) := by decide +kernel
theorem dX2_readRule_163 : decode cX2_readRule 163 = .ok (.goto 5, 3) := by decide +kernel
theorem dX2_readRule_166 : decode cX2_readRule 166 = .ok (.bipush 6, 2) := by decide +kernel
theorem dX2_readRule_168 : decode cX2_readRule 168 = .ok (.istore 6, 2) := by decide +kernel
theorem dX2_readRule_170 : decode cX2_readRule 170 = .ok (.iload 5, 2) := by decide +kernel
theorem dX2_readRule_172 : decode cX2_readRule 172 = .ok (.iconst (-1), 1) := by decide +kernel
theorem dX2_readRule_173 : decode cX2_readRule 173 = .ok (.if_icmp .eq 12, 3) := by decide +kernel
theorem dX2_readRule_176 : decode cX2_readRule 176 = .ok (.aload_n 0, 1) := by decide +kernel
theorem dX2_readRule_177 : decode cX2_readRule 177 = .ok (.iload 6, 2) := by decide +kernel
theorem dX2_readRule_179 : decode cX2_readRule 179 = .ok (.invokevirtual 111, 3) := by decide +kernel
theorem dX2_readRule_182 : decode cX2_readRule 182 = .ok (.ifCond .ne 5, 3) := by decide +kernel
theorem dX2_readRule_185 : decode cX2_readRule 185 = .ok (.iconst (-1), 1) := by decide +kernel
theorem dX2_readRule_186 : decode cX2_readRule 186 = .ok (.ireturn, 1) := by decide +kernel
theorem dX2_readRule_187 : decode cX2_readRule 187 = .ok (.aload_n 0, 1) := by decide +kernel
theorem dX2_readRule_188 : decode cX2_readRule 188 = .ok (.getfield 19, 3) := by decide +kernel
theorem dX2_readRule_191 : decode cX2_readRule 191 = .ok (.aload_n 0, 1) := by decide +kernel
theorem dX2_readRule_192 : decode cX2_readRule 192 = .ok (.getfield 9, 3) := by decide +kernel
theorem dX2_readRule_195 : decode cX2_readRule 195 = .ok (.iconst 1, 1) := by decide +kernel
theorem dX2_readRule_196 : decode cX2_readRule 196 = .ok (.invokevirtual 69, 3) := by decide +kernel
theorem dX2_readRule_199 : decode cX2_readRule 199 = .ok (.invokevirtual 115, 3) := by decide +kernel
theorem dX2_readRule_202 : decode cX2_readRule 202 = .ok (.ifCond .ne 6, 3) := by decide +kernel
theorem dX2_readRule_205 : decode cX2_readRule 205 = .ok (.bipush (-2), 2) := by decide +kernel
theorem dX2_readRule_207 : decode cX2_readRule 207 = .ok (.ireturn, 1) := by decide +kernel
theorem dX2_readRule_208 : decode cX2_readRule 208 = .ok (.aload_n 0, 1) := by decide +kernel
theorem dX2_readRule_209 : decode cX2_readRule 209 = .ok (.getfield 15, 3) := by decide +kernel
theorem dX2_readRule_212 : decode cX2_readRule 212 = .ok (.iload_n 1, 1) := by decide +kernel
theorem dX2_readRule_213 : decode cX2_readRule 213 = .ok (.iload_n 2, 1) := by decide +kernel
theorem dX2_readRule_214 : decode cX2_readRule 214 = .ok (.invokevirtual 119, 3) := by decide +kernel
theorem dX2_readRule_217 : decode cX2_readRule 217 = .ok (.istore 7, 2) := by decide +kernel
theorem dX2_readRule_219 : decode cX2_readRule 219 = .ok (.aload_n 0, 1) := by decide +kernel
theorem dX2_readRule_220 : decode cX2_readRule 220 = .ok (.getfield 19, 3) := by decide +kernel
theorem dX2_readRule_223 : decode cX2_readRule 223 = .ok (.aload_n 0, 1) := by decide +kernel
theorem dX2_readRule_224 : decode cX2_readRule 224 = .ok (.getfield 9, 3) := by decide +kernel
theorem dX2_readRule_227 : decode cX2_readRule 227 = .ok (.iconst 1, 1) := by decide +kernel
theorem dX2_readRule_228 : decode cX2_readRule 228 = .ok (.invokevirtual 69, 3) := by decide +kernel
theorem dX2_readRule_231 : decode cX2_readRule 231 = .ok (.iload_n 1, 1) := by decide +kernel
theorem dX2_readRule_232 : decode cX2_readRule 232 = .ok (.iload_n 2, 1) := by decide +kernel
theorem dX2_readRule_233 : decode cX2_readRule 233 = .ok (.iload 7, 2) := by decide +kernel
theorem dX2_readRule_235 : decode cX2_readRule 235 = .ok (.iload 5, 2) := by decide +kernel
theorem dX2_readRule_237 : decode cX2_readRule 237 = .ok (.iload_n 3, 1) := by decide +kernel
theorem dX2_readRule_238 : decode cX2_readRule 238 = .ok (.ifCond .ne 7, 3) := by decide +kernel
theorem dX2_readRule_241 : decode cX2_readRule 241 = .ok (.iconst 1, 1) := by decide +kernel
theorem dX2_readRule_242 : decode cX2_readRule 242 = .ok (.goto 4, 3) := by decide +kernel
theorem dX2_readRule_245 : decode cX2_readRule 245 = .ok (.iconst 0, 1) := by decide +kernel
theorem dX2_readRule_246 : decode cX2_readRule 246 = .ok (.invokevirtual 123, 3) := by decide +kernel
theorem dX2_readRule_249 : decode cX2_readRule 249 = .ok (.aload_n 0, 1) := by decide +kernel
theorem dX2_readRule_250 : decode cX2_readRule 250 = .ok (.aload_n 0, 1) := by decide +kernel
theorem dX2_readRule_251 : decode cX2_readRule 251 = .ok (.getfield 19, 3) := by decide +kernel
theorem dX2_readRule_254 : decode cX2_readRule 254 = .ok (.invokevirtual 126, 3) := by decide +kernel
theorem dX2_readRule_257 : decode cX2_readRule 257 = .ok (.aload_n 0, 1) := by decide +kernel
theorem dX2_readRule_258 : decode cX2_readRule 258 = .ok (.getfield 19, 3) := by decide +kernel
theorem dX2_readRule_261 : decode cX2_readRule 261 = .ok (.invokevirtual 129, 3) := by decide +kernel
theorem dX2_readRule_264 : decode cX2_readRule 264 = .ok (.iconst 1, 1) := by decide +kernel
theorem dX2_readRule_265 : decode cX2_readRule 265 = .ok (.isub, 1) := by decide +kernel
theorem dX2_readRule_266 : decode cX2_readRule 266 = .ok (.iload 6, 2) := by decide +kernel
theorem dX2_readRule_268 : decode cX2_readRule 268 = .ok (.iconst 1, 1) := by decide +kernel
theorem dX2_readRule_269 : decode cX2_readRule 269 = .ok (.iadd, 1) := by decide +kernel
theorem dX2_readRule_270 : decode cX2_readRule 270 = .ok (.invokevirtual 99, 3) := by decide +kernel
theorem dX2_readRule_273 : decode cX2_readRule 273 = .ok (.iconst 3, 1) := by decide +kernel
theorem dX2_readRule_274 : decode cX2_readRule 274 = .ok (.ireturn, 1) := by decide +kernel
set_option maxRecDepth 20000 in
theorem ggX2_isEndOfRule_X0_says : GoodIn wsX2_isEndOfRule wsX0_says := goodIn_r _ [6, 7, 8, 9, 5, 10, 11, 12, 13, 14, 15, 16, 17, 18, 19, 20, 21, 22, 23, 24, 25, 26, 27, 28, 29, 30, 31, 32, 33, 34, 35, 36, 37, 38, 39, 40, 41, 42, 43, 44, 45, 46, 47, 48, 49, 50, 51, 52, 53, 54, 55, 56, 57, 58, 59, 60, 61, 62, 63, 64, 65, 66, 67, 79, 80, 81, 82, 83] (by decide +kernel) (by decide +kernel)
set_option maxRecDepth 20000 in
theorem gX2_isEndOfRule_X0_says : GoodIn wsX2_isEndOfRule (wsV RX2 34 RX0 yX0_says wsX0_says) := goodIn_app (goodIn_of _ (by decide +kernel)) ggX2_isEndOfRule_X0_says
set_option maxRecDepth 20000 in
theorem ggX2_isEndOfRule_X0_words : GoodIn wsX2_isEndOfRule wsX0_words := goodIn_r _ [71, 11, 79, 80, 81, 82, 83] (by decide +kernel) (by decide +kernel)
set_option maxRecDepth 20000 in
theorem gX2_isEndOfRule_X0_words : GoodIn wsX2_isEndOfRule (wsV RX2 28 RX0 yX0_words wsX0_words) := goodIn_app (goodIn_of _ (by decide +kernel)) ggX2_isEndOfRule_X0_words
set_option maxRecDepth 20000 in
theorem ggX2_isEndOfRule_X0_isLetters : GoodIn wsX2_isEndOfRule wsX0_isLetters := goodIn_r _ [75, 7, 8, 9, 5, 10, 11, 12, 13, 26, 27, 28, 29, 30, 79, 80, 81, 82, 83] (by decide +kernel) (by decide +kernel)
set_option maxRecDepth 20000 in
theorem gX2_isEndOfRule_X0_isLetters : GoodIn wsX2_isEndOfRule (wsV RX2 87 RX0 yX0_isLetters wsX0_isLetters) := goodIn_app (goodIn_of _ (by decide +kernel)) ggX2_isEndOfRule_X0_isLetters
theorem dX2_isEndOfRule_0 : decode cX2_isEndOfRule 0 = .ok (.aload_n 0, 1) := by decide +kernel
theorem dX2_isEndOfRule_1 : decode cX2_isEndOfRule 1 = .ok (.getfield 9, 3) := by decide +kernel
theorem dX2_isEndOfRule_4 : decode cX2_isEndOfRule 4 = .ok (.iload_n 1, 1) := by decide +kernel
theorem dX2_isEndOfRule_5 : decode cX2_isEndOfRule 5 = .ok (.ldc 132, 2) := by decide +kernel
theorem dX2_isEndOfRule_7 : decode cX2_isEndOfRule 7 = .ok (.invokevirtual 34, 3) := by decide +kernel
theorem dX2_isEndOfRule_10 : decode cX2_isEndOfRule 10 = .ok (.ifCond .eq 36, 3) := by decide +kernel
theorem dX2_isEndOfRule_13 : decode cX2_isEndOfRule 13 = .ok (.aload_n 0, 1) := by decide +kernel
theorem dX2_isEndOfRule_14 : decode cX2_isEndOfRule 14 = .ok (.getfield 9, 3) := by decide +kernel
theorem dX2_isEndOfRule_17 : decode cX2_isEndOfRule 17 = .ok (.invokevirtual 28, 3) := by decide +kernel
theorem dX2_isEndOfRule_20 : decode cX2_isEndOfRule 20 = .ok (.iload_n 1, 1) := by decide +kernel
theorem dX2_isEndOfRule_21 : decode cX2_isEndOfRule 21 = .ok (.iconst 2, 1) := by decide +kernel
theorem dX2_isEndOfRule_22 : decode cX2_isEndOfRule 22 = .ok (.iadd, 1) := by decide +kernel
theorem dX2_isEndOfRule_23 : decode cX2_isEndOfRule 23 = .ok (.if_icmp .ne 21, 3) := by decide +kernel
theorem dX2_isEndOfRule_26 : decode cX2_isEndOfRule 26 = .ok (.aload_n 0, 1) := by decide +kernel
theorem dX2_isEndOfRule_27 : decode cX2_isEndOfRule 27 = .ok (.getfield 9, 3) := by decide +kernel
theorem dX2_isEndOfRule_30 : decode cX2_isEndOfRule 30 = .ok (.iload_n 1, 1) := by decide +kernel
theorem dX2_isEndOfRule_31 : decode cX2_isEndOfRule 31 = .ok (.iconst 1, 1) := by decide +kernel
theorem dX2_isEndOfRule_32 : decode cX2_isEndOfRule 32 = .ok (.iadd, 1) := by decide +kernel
theorem dX2_isEndOfRule_33 : decode cX2_isEndOfRule 33 = .ok (.iconst 3, 1) := by decide +kernel
theorem dX2_isEndOfRule_34 : decode cX2_isEndOfRule 34 = .ok (.invokevirtual 87, 3) := by decide +kernel
theorem dX2_isEndOfRule_37 : decode cX2_isEndOfRule 37 = .ok (.ifCond .eq 7, 3) := by decide +kernel
theorem dX2_isEndOfRule_40 : decode cX2_isEndOfRule 40 = .ok (.iconst 1, 1) := by decide +kernel
theorem dX2_isEndOfRule_41 : decode cX2_isEndOfRule 41 = .ok (.goto 4, 3) := by decide +kernel
theorem dX2_isEndOfRule_44 : decode cX2_isEndOfRule 44 = .ok (.iconst 0, 1) := by decide +kernel
theorem dX2_isEndOfRule_45 : decode cX2_isEndOfRule 45 = .ok (.ireturn, 1) := by decide +kernel
theorem dX2_isEndOfRule_46 : decode cX2_isEndOfRule 46 = .ok (.aload_n 0, 1) := by decide +kernel
theorem dX2_isEndOfRule_47 : decode cX2_isEndOfRule 47 = .ok (.getfield 9, 3) := by decide +kernel
theorem dX2_isEndOfRule_50 : decode cX2_isEndOfRule 50 = .ok (.invokevirtual 28, 3) := by decide +kernel
theorem dX2_isEndOfRule_53 : decode cX2_isEndOfRule 53 = .ok (.iload_n 1, 1) := by decide +kernel
theorem dX2_isEndOfRule_54 : decode cX2_isEndOfRule 54 = .ok (.if_icmp .ne 7, 3) := by decide +kernel
theorem dX2_isEndOfRule_57 : decode cX2_isEndOfRule 57 = .ok (.iconst 1, 1) := by decide +kernel
theorem dX2_isEndOfRule_58 : decode cX2_isEndOfRule 58 = .ok (.goto 4, 3) := by decide +kernel
theorem dX2_isEndOfRule_61 : decode cX2_isEndOfRule 61 = .ok (.iconst 0, 1) := by decide +kernel
theorem dX2_isEndOfRule_62 : decode cX2_isEndOfRule 62 = .ok (.ireturn, 1) := by decide +kernel
set_option maxRecDepth 20000 in
theorem ggX2_addMarks_X0_sizeOf : GoodIn wsX2_addMarks wsX0_sizeOf := goodIn_r _ [6, 7, 8, 9, 32, 33, 34, 35, 36] (by decide +kernel) (by decide +kernel)
set_option maxRecDepth 20000 in
theorem gX2_addMarks_X0_sizeOf : GoodIn wsX2_addMarks (wsV RX2 91 RX0 yX0_sizeOf wsX0_sizeOf) := goodIn_app (goodIn_of _ (by decide +kernel)) ggX2_addMarks_X0_sizeOf
set_option maxRecDepth 20000 in
theorem ggX2_addMarks_X0_letterAt : GoodIn wsX2_addMarks wsX0_letterAt := goodIn_r _ [13, 14, 9, 15, 3, 4, 5, 6, 7, 8, 32, 33, 34, 35, 36] (by decide +kernel) (by decide +kernel)
set_option maxRecDepth 20000 in
theorem gX2_addMarks_X0_letterAt : GoodIn wsX2_addMarks (wsV RX2 134 RX0 yX0_letterAt wsX0_letterAt) := goodIn_app (goodIn_of _ (by decide +kernel)) ggX2_addMarks_X0_letterAt
set_option maxRecDepth 20000 in
theorem ggX2_addMarks_X1_add : GoodIn wsX2_addMarks wsX1_add := goodIn_r _ [20, 21, 22, 23, 24, 25, 26, 19, 27, 28, 37, 38, 39, 40] (by decide +kernel) (by decide +kernel)
set_option maxRecDepth 20000 in
theorem gX2_addMarks_X1_add : GoodIn wsX2_addMarks (wsV RX2 138 RX1 yX1_add wsX1_add) := goodIn_app (goodIn_of _ (by decide +kernel)) ggX2_addMarks_X1_add
theorem dX2_addMarks_0 : decode cX2_addMarks 0 = .ok (.aload_n 0, 1) := by decide +kernel
theorem dX2_addMarks_1 : decode cX2_addMarks 1 = .ok (.getfield 9, 3) := by decide +kernel
theorem dX2_addMarks_4 : decode cX2_addMarks 4 = .ok (.iload_n 3, 1) := by decide +kernel
theorem dX2_addMarks_5 : decode cX2_addMarks 5 = .ok (.invokevirtual 91, 3) := by decide +kernel
theorem dX2_addMarks_8 : decode cX2_addMarks 8 = .ok (.istore 4, 2) := by decide +kernel
theorem dX2_addMarks_10 : decode cX2_addMarks 10 = .ok (.iconst 0, 1) := by decide +kernel
theorem dX2_addMarks_11 : decode cX2_addMarks 11 = .ok (.istore 5, 2) := by decide +kernel
theorem dX2_addMarks_13 : decode cX2_addMarks 13 = .ok (.iload 5, 2) := by decide +kernel
theorem dX2_addMarks_15 : decode cX2_addMarks 15 = .ok (.iload 4, 2) := by decide +kernel
theorem dX2_addMarks_17 : decode cX2_addMarks 17 = .ok (.if_icmp .ge 24, 3) := by decide +kernel
theorem dX2_addMarks_20 : decode cX2_addMarks 20 = .ok (.aload_n 1, 1) := by decide +kernel
theorem dX2_addMarks_21 : decode cX2_addMarks 21 = .ok (.iload_n 2, 1) := by decide +kernel
theorem dX2_addMarks_22 : decode cX2_addMarks 22 = .ok (.aload_n 0, 1) := by decide +kernel
theorem dX2_addMarks_23 : decode cX2_addMarks 23 = .ok (.getfield 9, 3) := by decide +kernel
theorem dX2_addMarks_26 : decode cX2_addMarks 26 = .ok (.iload_n 3, 1) := by decide +kernel
theorem dX2_addMarks_27 : decode cX2_addMarks 27 = .ok (.iload 5, 2) := by decide +kernel
theorem dX2_addMarks_29 : decode cX2_addMarks 29 = .ok (.invokevirtual 134, 3) := by decide +kernel
theorem dX2_addMarks_32 : decode cX2_addMarks 32 = .ok (.invokevirtual 138, 3) := by decide +kernel
theorem dX2_addMarks_35 : decode cX2_addMarks 35 = .ok (.iinc 5 1, 3) := by decide +kernel
theorem dX2_addMarks_38 : decode cX2_addMarks 38 = .ok (.goto (-25), 3) := by decide +kernel
theorem dX2_addMarks_41 : decode cX2_addMarks 41 = .ok (.return_, 1) := by decide +kernel
set_option maxRecDepth 20000 in
theorem ggX3_init_X1_init : GoodIn wsX3_init wsX1_init := goodIn_r _ [19, 20, 2, 3, 21, 22, 23, 24, 25, 26, 27, 28, 4, 29, 40, 41, 42, 43] (by decide +kernel) (by decide +kernel)
set_option maxRecDepth 20000 in
theorem gX3_init_X1_init : GoodIn wsX3_init (wsX1_init) := ggX3_init_X1_init
theorem dX3_init_0 : decode cX3_init 0 = .ok (.aload_n 0, 1) := by decide +kernel
theorem dX3_init_1 : decode cX3_init 1 = .ok (.invokespecial 3, 3) := by decide +kernel
theorem dX3_init_4 : decode cX3_init 4 = .ok (.aload_n 0, 1) := by decide +kernel
theorem dX3_init_5 : decode cX3_init 5 = .ok (.bipush 6, 2) := by decide +kernel
theorem dX3_init_7 : decode cX3_init 7 = .ok (.newarray .int, 2) := by decide +kernel
theorem dX3_init_9 : decode cX3_init 9 = .ok (.putfield 9, 3) := by decide +kernel
theorem dX3_init_12 : decode cX3_init 12 = .ok (.aload_n 0, 1) := by decide +kernel
theorem dX3_init_13 : decode cX3_init 13 = .ok (.bipush 20, 2) := by decide +kernel
theorem dX3_init_15 : decode cX3_init 15 = .ok (.newarray .int, 2) := by decide +kernel
theorem dX3_init_17 : decode cX3_init 17 = .ok (.putfield 15, 3) := by decide +kernel
theorem dX3_init_20 : decode cX3_init 20 = .ok (.aload_n 0, 1) := by decide +kernel
theorem dX3_init_21 : decode cX3_init 21 = .ok (.bipush 20, 2) := by decide +kernel
theorem dX3_init_23 : decode cX3_init 23 = .ok (.newarray .int, 2) := by decide +kernel
theorem dX3_init_25 : decode cX3_init 25 = .ok (.putfield 18, 3) := by decide +kernel
theorem dX3_init_28 : decode cX3_init 28 = .ok (.aload_n 0, 1) := by decide +kernel
theorem dX3_init_29 : decode cX3_init 29 = .ok (.bipush 20, 2) := by decide +kernel
theorem dX3_init_31 : decode cX3_init 31 = .ok (.newarray .int, 2) := by decide +kernel
theorem dX3_init_33 : decode cX3_init 33 = .ok (.putfield 21, 3) := by decide +kernel
theorem dX3_init_36 : decode cX3_init 36 = .ok (.aload_n 0, 1) := by decide +kernel
theorem dX3_init_37 : decode cX3_init 37 = .ok (.bipush 20, 2) := by decide +kernel
theorem dX3_init_39 : decode cX3_init 39 = .ok (.newarray .int, 2) := by decide +kernel
theorem dX3_init_41 : decode cX3_init 41 = .ok (.putfield 24, 3) := by decide +kernel
theorem dX3_init_44 : decode cX3_init 44 = .ok (.aload_n 0, 1) := by decide +kernel
theorem dX3_init_45 : decode cX3_init 45 = .ok (.bipush 20, 2) := by decide +kernel
theorem dX3_init_47 : decode cX3_init 47 = .ok (.newarray .int, 2) := by decide +kernel
theorem dX3_init_49 : decode cX3_init 49 = .ok (.putfield 27, 3) := by decide +kernel
theorem dX3_init_52 : decode cX3_init 52 = .ok (.aload_n 0, 1) := by decide +kernel
theorem dX3_init_53 : decode cX3_init 53 = .ok (.bipush 20, 2) := by decide +kernel
theorem dX3_init_55 : decode cX3_init 55 = .ok (.newarray .boolean, 2) := by decide +kernel
theorem dX3_init_57 : decode cX3_init 57 = .ok (.putfield 30, 3) := by decide +kernel
theorem dX3_init_60 : decode cX3_init 60 = .ok (.aload_n 0, 1) := by decide +kernel
theorem dX3_init_61 : decode cX3_init 61 = .ok (.new 34, 3) := by decide +kernel
theorem dX3_init_64 : decode cX3_init 64 = .ok (.dup, 1) := by decide +kernel
theorem dX3_init_65 : decode cX3_init 65 = .ok (.bipush 20, 2) := by decide +kernel
theorem dX3_init_67 : decode cX3_init 67 = .ok (.iconst 3, 1) := by decide +kernel
theorem dX3_init_68 : decode cX3_init 68 = .ok (.invokespecial 36, 3) := by decide +kernel
theorem dX3_init_71 : decode cX3_init 71 = .ok (.putfield 39, 3) := by decide +kernel
theorem dX3_init_74 : decode cX3_init 74 = .ok (.return_, 1) := by decide +kernel
theorem dX3_made_0 : decode cX3_made 0 = .ok (.aload_n 0, 1) := by decide +kernel
theorem dX3_made_1 : decode cX3_made 1 = .ok (.getfield 43, 3) := by decide +kernel
theorem dX3_made_4 : decode cX3_made 4 = .ok (.ireturn, 1) := by decide +kernel
theorem dX3_events_0 : decode cX3_events 0 = .ok (.aload_n 0, 1) := by decide +kernel
theorem dX3_events_1 : decode cX3_events 1 = .ok (.getfield 47, 3) := by decide +kernel
theorem dX3_events_4 : decode cX3_events 4 = .ok (.ireturn, 1) := by decide +kernel
theorem dX3_marks_0 : decode cX3_marks 0 = .ok (.aload_n 0, 1) := by decide +kernel
theorem dX3_marks_1 : decode cX3_marks 1 = .ok (.getfield 39, 3) := by decide +kernel
theorem dX3_marks_4 : decode cX3_marks 4 = .ok (.areturn, 1) := by decide +kernel
theorem dX3_isRule_0 : decode cX3_isRule 0 = .ok (.iload_n 1, 1) := by decide +kernel
theorem dX3_isRule_1 : decode cX3_isRule 1 = .ok (.ifCond .lt 15, 3) := by decide +kernel
theorem dX3_isRule_4 : decode cX3_isRule 4 = .ok (.iload_n 1, 1) := by decide +kernel
theorem dX3_isRule_5 : decode cX3_isRule 5 = .ok (.aload_n 0, 1) := by decide +kernel
theorem dX3_isRule_6 : decode cX3_isRule 6 = .ok (.getfield 43, 3) := by decide +kernel
theorem dX3_isRule_9 : decode cX3_isRule 9 = .ok (.if_icmp .ge 7, 3) := by decide +kernel
theorem dX3_isRule_12 : decode cX3_isRule 12 = .ok (.iconst 1, 1) := by decide +kernel
theorem dX3_isRule_13 : decode cX3_isRule 13 = .ok (.goto 4, 3) := by decide +kernel
theorem dX3_isRule_16 : decode cX3_isRule 16 = .ok (.iconst 0, 1) := by decide +kernel
theorem dX3_isRule_17 : decode cX3_isRule 17 = .ok (.ireturn, 1) := by decide +kernel
theorem dX3_isEvent_0 : decode cX3_isEvent 0 = .ok (.iload_n 1, 1) := by decide +kernel
theorem dX3_isEvent_1 : decode cX3_isEvent 1 = .ok (.ifCond .lt 15, 3) := by decide +kernel
theorem dX3_isEvent_4 : decode cX3_isEvent 4 = .ok (.iload_n 1, 1) := by decide +kernel
theorem dX3_isEvent_5 : decode cX3_isEvent 5 = .ok (.aload_n 0, 1) := by decide +kernel
theorem dX3_isEvent_6 : decode cX3_isEvent 6 = .ok (.getfield 47, 3) := by decide +kernel
theorem dX3_isEvent_9 : decode cX3_isEvent 9 = .ok (.if_icmp .ge 7, 3) := by decide +kernel
theorem dX3_isEvent_12 : decode cX3_isEvent 12 = .ok (.iconst 1, 1) := by decide +kernel
theorem dX3_isEvent_13 : decode cX3_isEvent 13 = .ok (.goto 4, 3) := by decide +kernel
theorem dX3_isEvent_16 : decode cX3_isEvent 16 = .ok (.iconst 0, 1) := by decide +kernel
theorem dX3_isEvent_17 : decode cX3_isEvent 17 = .ok (.ireturn, 1) := by decide +kernel
theorem dX3_findEvent_0 : decode cX3_findEvent 0 = .ok (.iconst 0, 1) := by decide +kernel
theorem dX3_findEvent_1 : decode cX3_findEvent 1 = .ok (.istore_n 2, 1) := by decide +kernel
theorem dX3_findEvent_2 : decode cX3_findEvent 2 = .ok (.iload_n 2, 1) := by decide +kernel
theorem dX3_findEvent_3 : decode cX3_findEvent 3 = .ok (.aload_n 0, 1) := by decide +kernel
theorem dX3_findEvent_4 : decode cX3_findEvent 4 = .ok (.getfield 47, 3) := by decide +kernel
theorem dX3_findEvent_7 : decode cX3_findEvent 7 = .ok (.if_icmp .ge 21, 3) := by decide +kernel
theorem dX3_findEvent_10 : decode cX3_findEvent 10 = .ok (.aload_n 0, 1) := by decide +kernel
theorem dX3_findEvent_11 : decode cX3_findEvent 11 = .ok (.getfield 9, 3) := by decide +kernel
theorem dX3_findEvent_14 : decode cX3_findEvent 14 = .ok (.iload_n 2, 1) := by decide +kernel
theorem dX3_findEvent_15 : decode cX3_findEvent 15 = .ok (.iaload, 1) := by decide +kernel
theorem dX3_findEvent_16 : decode cX3_findEvent 16 = .ok (.iload_n 1, 1) := by decide +kernel
theorem dX3_findEvent_17 : decode cX3_findEvent 17 = .ok (.if_icmp .ne 5, 3) := by decide +kernel
theorem dX3_findEvent_20 : decode cX3_findEvent 20 = .ok (.iload_n 2, 1) := by decide +kernel
theorem dX3_findEvent_21 : decode cX3_findEvent 21 = .ok (.ireturn, 1) := by decide +kernel
theorem dX3_findEvent_22 : decode cX3_findEvent 22 = .ok (.iinc 2 1, 3) := by decide +kernel
theorem dX3_findEvent_25 : decode cX3_findEvent 25 = .ok (.goto (-23), 3) := by decide +kernel
theorem dX3_findEvent_28 : decode cX3_findEvent 28 = .ok (.iconst (-1), 1) := by decide +kernel
theorem dX3_findEvent_29 : decode cX3_findEvent 29 = .ok (.ireturn, 1) := by decide +kernel
set_option maxRecDepth 20000 in
theorem ggX3_hasRoom_X3_findEvent : GoodIn wsX3_hasRoom wsX3_findEvent := goodIn_r _ [7, 2, 8, 9, 10, 11, 12, 13, 14, 15, 16, 17, 18] (by decide +kernel) (by decide +kernel)
set_option maxRecDepth 20000 in
theorem gX3_hasRoom_X3_findEvent : GoodIn wsX3_hasRoom (wsV RX3 50 RX3 yX3_findEvent wsX3_findEvent) := goodIn_app (goodIn_of _ (by decide +kernel)) ggX3_hasRoom_X3_findEvent
theorem dX3_hasRoom_0 : decode cX3_hasRoom 0 = .ok (.aload_n 0, 1) := by decide +kernel
theorem dX3_hasRoom_1 : decode cX3_hasRoom 1 = .ok (.getfield 43, 3) := by decide +kernel
theorem dX3_hasRoom_4 : decode cX3_hasRoom 4 = .ok (.bipush 20, 2) := by decide +kernel
theorem dX3_hasRoom_6 : decode cX3_hasRoom 6 = .ok (.if_icmp .ge 25, 3) := by decide +kernel
theorem dX3_hasRoom_9 : decode cX3_hasRoom 9 = .ok (.aload_n 0, 1) := by decide +kernel
theorem dX3_hasRoom_10 : decode cX3_hasRoom 10 = .ok (.getfield 47, 3) := by decide +kernel
theorem dX3_hasRoom_13 : decode cX3_hasRoom 13 = .ok (.bipush 6, 2) := by decide +kernel
theorem dX3_hasRoom_15 : decode cX3_hasRoom 15 = .ok (.if_icmp .lt 12, 3) := by decide +kernel
theorem dX3_hasRoom_18 : decode cX3_hasRoom 18 = .ok (.aload_n 0, 1) := by decide +kernel
theorem dX3_hasRoom_19 : decode cX3_hasRoom 19 = .ok (.iload_n 1, 1) := by decide +kernel
theorem dX3_hasRoom_20 : decode cX3_hasRoom 20 = .ok (.invokevirtual 50, 3) := by decide +kernel
theorem dX3_hasRoom_23 : decode cX3_hasRoom 23 = .ok (.iconst (-1), 1) := by decide +kernel
theorem dX3_hasRoom_24 : decode cX3_hasRoom 24 = .ok (.if_icmp .eq 7, 3) := by decide +kernel
theorem dX3_hasRoom_27 : decode cX3_hasRoom 27 = .ok (.iconst 1, 1) := by decide +kernel
theorem dX3_hasRoom_28 : decode cX3_hasRoom 28 = .ok (.goto 4, 3) := by decide +kernel
theorem dX3_hasRoom_31 : decode cX3_hasRoom 31 = .ok (.iconst 0, 1) := by decide +kernel
theorem dX3_hasRoom_32 : decode cX3_hasRoom 32 = .ok (.ireturn, 1) := by decide +kernel
set_option maxRecDepth 20000 in
theorem ggX3_make_X3_hasRoom : GoodIn wsX3_make wsX3_hasRoom := goodIn_r _ [14, 4, 1, 15, 16, 17, 13, 18, 2, 19, 20, 21, 22, 23, 24, 25, 26, 27, 28] (by decide +kernel) (by decide +kernel)
set_option maxRecDepth 20000 in
theorem gX3_make_X3_hasRoom : GoodIn wsX3_make (wsV RX3 54 RX3 yX3_hasRoom wsX3_hasRoom) := goodIn_app (goodIn_of _ (by decide +kernel)) ggX3_make_X3_hasRoom
set_option maxRecDepth 20000 in
theorem ggX3_make_X3_findEvent : GoodIn wsX3_make wsX3_findEvent := goodIn_r _ [18, 1, 2, 19, 20, 21, 22, 23, 24, 25, 26, 27, 28] (by decide +kernel) (by decide +kernel)
set_option maxRecDepth 20000 in
theorem gX3_make_X3_findEvent : GoodIn wsX3_make (wsV RX3 50 RX3 yX3_findEvent wsX3_findEvent) := goodIn_app (goodIn_of _ (by decide +kernel)) ggX3_make_X3_findEvent
theorem dX3_make_0 : decode cX3_make 0 = .ok (.aload_n 0, 1) := by decide +kernel
theorem dX3_make_1 : decode cX3_make 1 = .ok (.iload_n 1, 1) := by decide +kernel
theorem dX3_make_2 : decode cX3_make 2 = .ok (.invokevirtual 54, 3) := by decide +kernel
theorem dX3_make_5 : decode cX3_make 5 = .ok (.ifCond .ne 4, 3) := by decide +kernel
theorem dX3_make_8 : decode cX3_make 8 = .ok (.return_, 1) := by decide +kernel
theorem dX3_make_9 : decode cX3_make 9 = .ok (.aload_n 0, 1) := by decide +kernel
theorem dX3_make_10 : decode cX3_make 10 = .ok (.iload_n 1, 1) := by decide +kernel
theorem dX3_make_11 : decode cX3_make 11 = .ok (.invokevirtual 50, 3) := by decide +kernel
theorem dX3_make_14 : decode cX3_make 14 = .ok (.istore 7, 2) := by decide +kernel
theorem dX3_make_16 : decode cX3_make 16 = .ok (.iload 7, 2) := by decide +kernel
theorem dX3_make_18 : decode cX3_make 18 = .ok (.iconst (-1), 1) := by decide +kernel
theorem dX3_make_19 : decode cX3_make 19 = .ok (.if_icmp .ne 29, 3) := by decide +kernel
theorem dX3_make_22 : decode cX3_make 22 = .ok (.aload_n 0, 1) := by decide +kernel
theorem dX3_make_23 : decode cX3_make 23 = .ok (.getfield 47, 3) := by decide +kernel
theorem dX3_make_26 : decode cX3_make 26 = .ok (.istore 7, 2) := by decide +kernel
theorem dX3_make_28 : decode cX3_make 28 = .ok (.aload_n 0, 1) := by decide +kernel
theorem dX3_make_29 : decode cX3_make 29 = .ok (.getfield 9, 3) := by decide +kernel
theorem dX3_make_32 : decode cX3_make 32 = .ok (.aload_n 0, 1) := by decide +kernel
theorem dX3_make_33 : decode cX3_make 33 = .ok (.getfield 47, 3) := by decide +kernel
theorem dX3_make_36 : decode cX3_make 36 = .ok (.iload_n 1, 1) := by decide +kernel
theorem dX3_make_37 : decode cX3_make 37 = .ok (.iastore, 1) := by decide +kernel
theorem dX3_make_38 : decode cX3_make 38 = .ok (.aload_n 0, 1) := by decide +kernel
theorem dX3_make_39 : decode cX3_make 39 = .ok (.dup, 1) := by decide +kernel
theorem dX3_make_40 : decode cX3_make 40 = .ok (.getfield 47, 3) := by decide +kernel
theorem dX3_make_43 : decode cX3_make 43 = .ok (.iconst 1, 1) := by decide +kernel
theorem dX3_make_44 : decode cX3_make 44 = .ok (.iadd, 1) := by decide +kernel
theorem dX3_make_45 : decode cX3_make 45 = .ok (.putfield 47, 3) := by decide +kernel
theorem dX3_make_48 : decode cX3_make 48 = .ok (.aload_n 0, 1) := by decide +kernel
theorem dX3_make_49 : decode cX3_make 49 = .ok (.getfield 15, 3) := by decide +kernel
theorem dX3_make_52 : decode cX3_make 52 = .ok (.aload_n 0, 1) := by decide +kernel
theorem dX3_make_53 : decode cX3_make 53 = .ok (.getfield 43, 3) := by decide +kernel
theorem dX3_make_56 : decode cX3_make 56 = .ok (.iload 7, 2) := by decide +kernel
theorem dX3_make_58 : decode cX3_make 58 = .ok (.iastore, 1) := by decide +kernel
theorem dX3_make_59 : decode cX3_make 59 = .ok (.aload_n 0, 1) := by decide +kernel
theorem dX3_make_60 : decode cX3_make 60 = .ok (.getfield 18, 3) := by decide +kernel
theorem dX3_make_63 : decode cX3_make 63 = .ok (.aload_n 0, 1) := by decide +kernel
theorem dX3_make_64 : decode cX3_make 64 = .ok (.getfield 43, 3) := by decide +kernel
theorem dX3_make_67 : decode cX3_make 67 = .ok (.iload_n 2, 1) := by decide +kernel
theorem dX3_make_68 : decode cX3_make 68 = .ok (.iastore, 1) := by decide +kernel
theorem dX3_make_69 : decode cX3_make 69 = .ok (.aload_n 0, 1) := by decide +kernel
theorem dX3_make_70 : decode cX3_make 70 = .ok (.getfield 21, 3) := by decide +kernel
theorem dX3_make_73 : decode cX3_make 73 = .ok (.aload_n 0, 1) := by decide +kernel
theorem dX3_make_74 : decode cX3_make 74 = .ok (.getfield 43, 3) := by decide +kernel
theorem dX3_make_77 : decode cX3_make 77 = .ok (.iload_n 3, 1) := by decide +kernel
theorem dX3_make_78 : decode cX3_make 78 = .ok (.iastore, 1) := by decide +kernel
theorem dX3_make_79 : decode cX3_make 79 = .ok (.aload_n 0, 1) := by decide +kernel
theorem dX3_make_80 : decode cX3_make 80 = .ok (.getfield 24, 3) := by decide +kernel
theorem dX3_make_83 : decode cX3_make 83 = .ok (.aload_n 0, 1) := by decide +kernel
theorem dX3_make_84 : decode cX3_make 84 = .ok (.getfield 43, 3) := by decide +kernel
theorem dX3_make_87 : decode cX3_make 87 = .ok (.iload 4, 2) := by decide +kernel
theorem dX3_make_89 : decode cX3_make 89 = .ok (.iastore, 1) := by decide +kernel
theorem dX3_make_90 : decode cX3_make 90 = .ok (.aload_n 0, 1) := by decide +kernel
theorem dX3_make_91 : decode cX3_make 91 = .ok (.getfield 27, 3) := by decide +kernel
theorem dX3_make_94 : decode cX3_make 94 = .ok (.aload_n 0, 1) := by decide +kernel
theorem dX3_make_95 : decode cX3_make 95 = .ok (.getfield 43, 3) := by decide +kernel
theorem dX3_make_98 : decode cX3_make 98 = .ok (.iload 5, 2) := by decide +kernel
theorem dX3_make_100 : decode cX3_make 100 = .ok (.iastore, 1) := by decide +kernel
theorem dX3_make_101 : decode cX3_make 101 = .ok (.aload_n 0, 1) := by decide +kernel
theorem dX3_make_102 : decode cX3_make 102 = .ok (.getfield 30, 3) := by decide +kernel
theorem dX3_make_105 : decode cX3_make 105 = .ok (.aload_n 0, 1) := by decide +kernel
theorem dX3_make_106 : decode cX3_make 106 = .ok (.getfield 43, 3) := by decide +kernel
theorem dX3_make_109 : decode cX3_make 109 = .ok (.iload 6, 2) := by decide +kernel
theorem dX3_make_111 : decode cX3_make 111 = .ok (.bastore, 1) := by decide +kernel
theorem dX3_make_112 : decode cX3_make 112 = .ok (.aload_n 0, 1) := by decide +kernel
theorem dX3_make_113 : decode cX3_make 113 = .ok (.dup, 1) := by decide +kernel
theorem dX3_make_114 : decode cX3_make 114 = .ok (.getfield 43, 3) := by decide +kernel
theorem dX3_make_117 : decode cX3_make 117 = .ok (.iconst 1, 1) := by decide +kernel
theorem dX3_make_118 : decode cX3_make 118 = .ok (.iadd, 1) := by decide +kernel
theorem dX3_make_119 : decode cX3_make 119 = .ok (.putfield 43, 3) := by decide +kernel
theorem dX3_make_122 : decode cX3_make 122 = .ok (.return_, 1) := by decide +kernel
set_option maxRecDepth 20000 in
theorem ggX3_isFor_X3_isRule : GoodIn wsX3_isFor wsX3_isRule := goodIn_r _ [7, 8, 9, 10, 11, 12, 13, 14, 15, 16, 17, 18] (by decide +kernel) (by decide +kernel)
set_option maxRecDepth 20000 in
theorem gX3_isFor_X3_isRule : GoodIn wsX3_isFor (wsV RX3 58 RX3 yX3_isRule wsX3_isRule) := goodIn_app (goodIn_of _ (by decide +kernel)) ggX3_isFor_X3_isRule
theorem dX3_isFor_0 : decode cX3_isFor 0 = .ok (.aload_n 0, 1) := by decide +kernel
theorem dX3_isFor_1 : decode cX3_isFor 1 = .ok (.iload_n 1, 1) := by decide +kernel
theorem dX3_isFor_2 : decode cX3_isFor 2 = .ok (.invokevirtual 58, 3) := by decide +kernel
theorem dX3_isFor_5 : decode cX3_isFor 5 = .ok (.ifCond .eq 27, 3) := by decide +kernel
theorem dX3_isFor_8 : decode cX3_isFor 8 = .ok (.aload_n 0, 1) := by decide +kernel
theorem dX3_isFor_9 : decode cX3_isFor 9 = .ok (.getfield 15, 3) := by decide +kernel
theorem dX3_isFor_12 : decode cX3_isFor 12 = .ok (.iload_n 1, 1) := by decide +kernel
theorem dX3_isFor_13 : decode cX3_isFor 13 = .ok (.iaload, 1) := by decide +kernel
theorem dX3_isFor_14 : decode cX3_isFor 14 = .ok (.iload_n 2, 1) := by decide +kernel
theorem dX3_isFor_15 : decode cX3_isFor 15 = .ok (.if_icmp .ne 17, 3) := by decide +kernel
theorem dX3_isFor_18 : decode cX3_isFor 18 = .ok (.aload_n 0, 1) := by decide +kernel
theorem dX3_isFor_19 : decode cX3_isFor 19 = .ok (.getfield 18, 3) := by decide +kernel
theorem dX3_isFor_22 : decode cX3_isFor 22 = .ok (.iload_n 1, 1) := by decide +kernel
theorem dX3_isFor_23 : decode cX3_isFor 23 = .ok (.iaload, 1) := by decide +kernel
theorem dX3_isFor_24 : decode cX3_isFor 24 = .ok (.iload_n 3, 1) := by decide +kernel
theorem dX3_isFor_25 : decode cX3_isFor 25 = .ok (.if_icmp .ne 7, 3) := by decide +kernel
theorem dX3_isFor_28 : decode cX3_isFor 28 = .ok (.iconst 1, 1) := by decide +kernel
theorem dX3_isFor_29 : decode cX3_isFor 29 = .ok (.goto 4, 3) := by decide +kernel
theorem dX3_isFor_32 : decode cX3_isFor 32 = .ok (.iconst 0, 1) := by decide +kernel
theorem dX3_isFor_33 : decode cX3_isFor 33 = .ok (.ireturn, 1) := by decide +kernel
set_option maxRecDepth 20000 in
theorem ggX3_targetOf_X3_isRule : GoodIn wsX3_targetOf wsX3_isRule := goodIn_r _ [6, 7, 8, 9, 10, 11, 12, 13, 14, 15, 16, 17] (by decide +kernel) (by decide +kernel)
set_option maxRecDepth 20000 in
theorem gX3_targetOf_X3_isRule : GoodIn wsX3_targetOf (wsV RX3 58 RX3 yX3_isRule wsX3_isRule) := goodIn_app (goodIn_of _ (by decide +kernel)) ggX3_targetOf_X3_isRule
theorem dX3_targetOf_0 : decode cX3_targetOf 0 = .ok (.aload_n 0, 1) := by decide +kernel
theorem dX3_targetOf_1 : decode cX3_targetOf 1 = .ok (.iload_n 1, 1) := by decide +kernel
theorem dX3_targetOf_2 : decode cX3_targetOf 2 = .ok (.invokevirtual 58, 3) := by decide +kernel
theorem dX3_targetOf_5 : decode cX3_targetOf 5 = .ok (.ifCond .eq 12, 3) := by decide +kernel
theorem dX3_targetOf_8 : decode cX3_targetOf 8 = .ok (.aload_n 0, 1) := by decide +kernel
theorem dX3_targetOf_9 : decode cX3_targetOf 9 = .ok (.getfield 21, 3) := by decide +kernel
theorem dX3_targetOf_12 : decode cX3_targetOf 12 = .ok (.iload_n 1, 1) := by decide +kernel
theorem dX3_targetOf_13 : decode cX3_targetOf 13 = .ok (.iaload, 1) := by decide +kernel
theorem dX3_targetOf_14 : decode cX3_targetOf 14 = .ok (.goto 4, 3) := by decide +kernel
theorem dX3_targetOf_17 : decode cX3_targetOf 17 = .ok (.iconst (-1), 1) := by decide +kernel
theorem dX3_targetOf_18 : decode cX3_targetOf 18 = .ok (.ireturn, 1) := by decide +kernel
set_option maxRecDepth 20000 in
theorem ggX3_scopeOf_X3_isRule : GoodIn wsX3_scopeOf wsX3_isRule := goodIn_r _ [6, 7, 8, 9, 10, 11, 12, 13, 14, 15, 16, 17] (by decide +kernel) (by decide +kernel)
set_option maxRecDepth 20000 in
theorem gX3_scopeOf_X3_isRule : GoodIn wsX3_scopeOf (wsV RX3 58 RX3 yX3_isRule wsX3_isRule) := goodIn_app (goodIn_of _ (by decide +kernel)) ggX3_scopeOf_X3_isRule
theorem dX3_scopeOf_0 : decode cX3_scopeOf 0 = .ok (.aload_n 0, 1) := by decide +kernel
theorem dX3_scopeOf_1 : decode cX3_scopeOf 1 = .ok (.iload_n 1, 1) := by decide +kernel
theorem dX3_scopeOf_2 : decode cX3_scopeOf 2 = .ok (.invokevirtual 58, 3) := by decide +kernel
theorem dX3_scopeOf_5 : decode cX3_scopeOf 5 = .ok (.ifCond .eq 12, 3) := by decide +kernel
theorem dX3_scopeOf_8 : decode cX3_scopeOf 8 = .ok (.aload_n 0, 1) := by decide +kernel
theorem dX3_scopeOf_9 : decode cX3_scopeOf 9 = .ok (.getfield 24, 3) := by decide +kernel
theorem dX3_scopeOf_12 : decode cX3_scopeOf 12 = .ok (.iload_n 1, 1) := by decide +kernel
theorem dX3_scopeOf_13 : decode cX3_scopeOf 13 = .ok (.iaload, 1) := by decide +kernel
theorem dX3_scopeOf_14 : decode cX3_scopeOf 14 = .ok (.goto 4, 3) := by decide +kernel
theorem dX3_scopeOf_17 : decode cX3_scopeOf 17 = .ok (.iconst (-1), 1) := by decide +kernel
theorem dX3_scopeOf_18 : decode cX3_scopeOf 18 = .ok (.ireturn, 1) := by decide +kernel
set_option maxRecDepth 20000 in
theorem ggX3_askedOf_X3_isRule : GoodIn wsX3_askedOf wsX3_isRule := goodIn_r _ [6, 7, 8, 9, 10, 11, 12, 13, 14, 15, 16, 17] (by decide +kernel) (by decide +kernel)
set_option maxRecDepth 20000 in
theorem gX3_askedOf_X3_isRule : GoodIn wsX3_askedOf (wsV RX3 58 RX3 yX3_isRule wsX3_isRule) := goodIn_app (goodIn_of _ (by decide +kernel)) ggX3_askedOf_X3_isRule
theorem dX3_askedOf_0 : decode cX3_askedOf 0 = .ok (.aload_n 0, 1) := by decide +kernel
theorem dX3_askedOf_1 : decode cX3_askedOf 1 = .ok (.iload_n 1, 1) := by decide +kernel
theorem dX3_askedOf_2 : decode cX3_askedOf 2 = .ok (.invokevirtual 58, 3) := by decide +kernel
theorem dX3_askedOf_5 : decode cX3_askedOf 5 = .ok (.ifCond .eq 12, 3) := by decide +kernel
theorem dX3_askedOf_8 : decode cX3_askedOf 8 = .ok (.aload_n 0, 1) := by decide +kernel
theorem dX3_askedOf_9 : decode cX3_askedOf 9 = .ok (.getfield 27, 3) := by decide +kernel
theorem dX3_askedOf_12 : decode cX3_askedOf 12 = .ok (.iload_n 1, 1) := by decide +kernel
theorem dX3_askedOf_13 : decode cX3_askedOf 13 = .ok (.iaload, 1) := by decide +kernel
theorem dX3_askedOf_14 : decode cX3_askedOf 14 = .ok (.goto 4, 3) := by decide +kernel
theorem dX3_askedOf_17 : decode cX3_askedOf 17 = .ok (.iconst (-1), 1) := by decide +kernel
theorem dX3_askedOf_18 : decode cX3_askedOf 18 = .ok (.ireturn, 1) := by decide +kernel
set_option maxRecDepth 20000 in
theorem ggX3_isWantedActive_X3_isRule : GoodIn wsX3_isWantedActive wsX3_isRule := goodIn_r _ [6, 7, 8, 9, 10, 11, 12, 13, 14, 15, 16, 17] (by decide +kernel) (by decide +kernel)
set_option maxRecDepth 20000 in
theorem gX3_isWantedActive_X3_isRule : GoodIn wsX3_isWantedActive (wsV RX3 58 RX3 yX3_isRule wsX3_isRule) := goodIn_app (goodIn_of _ (by decide +kernel)) ggX3_isWantedActive_X3_isRule
theorem dX3_isWantedActive_0 : decode cX3_isWantedActive 0 = .ok (.aload_n 0, 1) := by decide +kernel
theorem dX3_isWantedActive_1 : decode cX3_isWantedActive 1 = .ok (.iload_n 1, 1) := by decide +kernel
theorem dX3_isWantedActive_2 : decode cX3_isWantedActive 2 = .ok (.invokevirtual 58, 3) := by decide +kernel
theorem dX3_isWantedActive_5 : decode cX3_isWantedActive 5 = .ok (.ifCond .eq 16, 3) := by decide +kernel
theorem dX3_isWantedActive_8 : decode cX3_isWantedActive 8 = .ok (.aload_n 0, 1) := by decide +kernel
theorem dX3_isWantedActive_9 : decode cX3_isWantedActive 9 = .ok (.getfield 30, 3) := by decide +kernel
theorem dX3_isWantedActive_12 : decode cX3_isWantedActive 12 = .ok (.iload_n 1, 1) := by decide +kernel
theorem dX3_isWantedActive_13 : decode cX3_isWantedActive 13 = .ok (.baload, 1) := by decide +kernel
theorem dX3_isWantedActive_14 : decode cX3_isWantedActive 14 = .ok (.ifCond .eq 7, 3) := by decide +kernel
theorem dX3_isWantedActive_17 : decode cX3_isWantedActive 17 = .ok (.iconst 1, 1) := by decide +kernel
theorem dX3_isWantedActive_18 : decode cX3_isWantedActive 18 = .ok (.goto 4, 3) := by decide +kernel
theorem dX3_isWantedActive_21 : decode cX3_isWantedActive 21 = .ok (.iconst 0, 1) := by decide +kernel
theorem dX3_isWantedActive_22 : decode cX3_isWantedActive 22 = .ok (.ireturn, 1) := by decide +kernel
set_option maxRecDepth 20000 in
theorem ggX4_init_X1_init : GoodIn wsX4_init wsX1_init := goodIn_r _ [20, 21, 2, 3, 22, 23, 24, 25, 26, 27, 28, 29, 4, 30, 40, 41, 42, 43] (by decide +kernel) (by decide +kernel)
set_option maxRecDepth 20000 in
theorem gX4_init_X1_init : GoodIn wsX4_init (wsX1_init) := ggX4_init_X1_init
