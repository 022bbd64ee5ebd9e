theorem dX4_init_0 : decode cX4_init 0 = .ok (.aload_n 0, 1) := by decide +kernel
theorem dX4_init_1 : decode cX4_init 1 = .ok (.invokespecial 3, 3) := by decide +kernel
theorem dX4_init_4 : decode cX4_init 4 = .ok (.aload_n 0, 1) := by decide +kernel
theorem dX4_init_5 : decode cX4_init 5 = .ok (.bipush 14, 2) := by decide +kernel
theorem dX4_init_7 : decode cX4_init 7 = .ok (.newarray .int, 2) := by decide +kernel
theorem dX4_init_9 : decode cX4_init 9 = .ok (.putfield 9, 3) := by decide +kernel
theorem dX4_init_12 : decode cX4_init 12 = .ok (.aload_n 0, 1) := by decide +kernel
theorem dX4_init_13 : decode cX4_init 13 = .ok (.bipush 14, 2) := by decide +kernel
theorem dX4_init_15 : decode cX4_init 15 = .ok (.newarray .int, 2) := by decide +kernel
theorem dX4_init_17 : decode cX4_init 17 = .ok (.putfield 15, 3) := by decide +kernel
theorem dX4_init_20 : decode cX4_init 20 = .ok (.aload_n 0, 1) := by decide +kernel
theorem dX4_init_21 : decode cX4_init 21 = .ok (.bipush 14, 2) := by decide +kernel
theorem dX4_init_23 : decode cX4_init 23 = .ok (.newarray .int, 2) := by decide +kernel
theorem dX4_init_25 : decode cX4_init 25 = .ok (.putfield 18, 3) := by decide +kernel
theorem dX4_init_28 : decode cX4_init 28 = .ok (.aload_n 0, 1) := by decide +kernel
theorem dX4_init_29 : decode cX4_init 29 = .ok (.bipush 14, 2) := by decide +kernel
theorem dX4_init_31 : decode cX4_init 31 = .ok (.newarray .int, 2) := by decide +kernel
theorem dX4_init_33 : decode cX4_init 33 = .ok (.putfield 21, 3) := by decide +kernel
theorem dX4_init_36 : decode cX4_init 36 = .ok (.aload_n 0, 1) := by decide +kernel
theorem dX4_init_37 : decode cX4_init 37 = .ok (.bipush 14, 2) := by decide +kernel
theorem dX4_init_39 : decode cX4_init 39 = .ok (.newarray .boolean, 2) := by decide +kernel
theorem dX4_init_41 : decode cX4_init 41 = .ok (.putfield 24, 3) := by decide +kernel
theorem dX4_init_44 : decode cX4_init 44 = .ok (.aload_n 0, 1) := by decide +kernel
theorem dX4_init_45 : decode cX4_init 45 = .ok (.bipush 14, 2) := by decide +kernel
theorem dX4_init_47 : decode cX4_init 47 = .ok (.newarray .boolean, 2) := by decide +kernel
theorem dX4_init_49 : decode cX4_init 49 = .ok (.putfield 28, 3) := by decide +kernel
theorem dX4_init_52 : decode cX4_init 52 = .ok (.aload_n 0, 1) := by decide +kernel
theorem dX4_init_53 : decode cX4_init 53 = .ok (.new 31, 3) := by decide +kernel
theorem dX4_init_56 : decode cX4_init 56 = .ok (.dup, 1) := by decide +kernel
theorem dX4_init_57 : decode cX4_init 57 = .ok (.bipush 14, 2) := by decide +kernel
theorem dX4_init_59 : decode cX4_init 59 = .ok (.bipush 6, 2) := by decide +kernel
theorem dX4_init_61 : decode cX4_init 61 = .ok (.invokespecial 33, 3) := by decide +kernel
theorem dX4_init_64 : decode cX4_init 64 = .ok (.putfield 36, 3) := by decide +kernel
theorem dX4_init_67 : decode cX4_init 67 = .ok (.aload_n 0, 1) := by decide +kernel
theorem dX4_init_68 : decode cX4_init 68 = .ok (.new 31, 3) := by decide +kernel
theorem dX4_init_71 : decode cX4_init 71 = .ok (.dup, 1) := by decide +kernel
theorem dX4_init_72 : decode cX4_init 72 = .ok (.bipush 14, 2) := by decide +kernel
theorem dX4_init_74 : decode cX4_init 74 = .ok (.bipush 6, 2) := by decide +kernel
theorem dX4_init_76 : decode cX4_init 76 = .ok (.invokespecial 33, 3) := by decide +kernel
theorem dX4_init_79 : decode cX4_init 79 = .ok (.putfield 40, 3) := by decide +kernel
theorem dX4_init_82 : decode cX4_init 82 = .ok (.aload_n 0, 1) := by decide +kernel
theorem dX4_init_83 : decode cX4_init 83 = .ok (.getfield 9, 3) := by decide +kernel
theorem dX4_init_86 : decode cX4_init 86 = .ok (.iconst 0, 1) := by decide +kernel
theorem dX4_init_87 : decode cX4_init 87 = .ok (.sipush 15001, 3) := by decide +kernel
theorem dX4_init_90 : decode cX4_init 90 = .ok (.iastore, 1) := by decide +kernel
theorem dX4_init_91 : decode cX4_init 91 = .ok (.aload_n 0, 1) := by decide +kernel
theorem dX4_init_92 : decode cX4_init 92 = .ok (.getfield 15, 3) := by decide +kernel
theorem dX4_init_95 : decode cX4_init 95 = .ok (.iconst 0, 1) := by decide +kernel
theorem dX4_init_96 : decode cX4_init 96 = .ok (.iconst (-1), 1) := by decide +kernel
theorem dX4_init_97 : decode cX4_init 97 = .ok (.iastore, 1) := by decide +kernel
theorem dX4_init_98 : decode cX4_init 98 = .ok (.aload_n 0, 1) := by decide +kernel
theorem dX4_init_99 : decode cX4_init 99 = .ok (.getfield 21, 3) := by decide +kernel
theorem dX4_init_102 : decode cX4_init 102 = .ok (.iconst 0, 1) := by decide +kernel
theorem dX4_init_103 : decode cX4_init 103 = .ok (.iconst (-1), 1) := by decide +kernel
theorem dX4_init_104 : decode cX4_init 104 = .ok (.iastore, 1) := by decide +kernel
theorem dX4_init_105 : decode cX4_init 105 = .ok (.aload_n 0, 1) := by decide +kernel
theorem dX4_init_106 : decode cX4_init 106 = .ok (.iconst 1, 1) := by decide +kernel
theorem dX4_init_107 : decode cX4_init 107 = .ok (.putfield 43, 3) := by decide +kernel
theorem dX4_init_110 : decode cX4_init 110 = .ok (.return_, 1) := by decide +kernel
theorem dX4_made_0 : decode cX4_made 0 = .ok (.aload_n 0, 1) := by decide +kernel
theorem dX4_made_1 : decode cX4_made 1 = .ok (.getfield 43, 3) := by decide +kernel
theorem dX4_made_4 : decode cX4_made 4 = .ok (.ireturn, 1) := by decide +kernel
theorem dX4_isFull_0 : decode cX4_isFull 0 = .ok (.aload_n 0, 1) := by decide +kernel
theorem dX4_isFull_1 : decode cX4_isFull 1 = .ok (.getfield 43, 3) := by decide +kernel
theorem dX4_isFull_4 : decode cX4_isFull 4 = .ok (.bipush 14, 2) := by decide +kernel
theorem dX4_isFull_6 : decode cX4_isFull 6 = .ok (.if_icmp .lt 7, 3) := by decide +kernel
theorem dX4_isFull_9 : decode cX4_isFull 9 = .ok (.iconst 1, 1) := by decide +kernel
theorem dX4_isFull_10 : decode cX4_isFull 10 = .ok (.goto 4, 3) := by decide +kernel
theorem dX4_isFull_13 : decode cX4_isFull 13 = .ok (.iconst 0, 1) := by decide +kernel
theorem dX4_isFull_14 : decode cX4_isFull 14 = .ok (.ireturn, 1) := by decide +kernel
theorem dX4_isState_0 : decode cX4_isState 0 = .ok (.iload_n 1, 1) := by decide +kernel
theorem dX4_isState_1 : decode cX4_isState 1 = .ok (.ifCond .lt 15, 3) := by decide +kernel
theorem dX4_isState_4 : decode cX4_isState 4 = .ok (.iload_n 1, 1) := by decide +kernel
theorem dX4_isState_5 : decode cX4_isState 5 = .ok (.aload_n 0, 1) := by decide +kernel
theorem dX4_isState_6 : decode cX4_isState 6 = .ok (.getfield 43, 3) := by decide +kernel
theorem dX4_isState_9 : decode cX4_isState 9 = .ok (.if_icmp .ge 7, 3) := by decide +kernel
theorem dX4_isState_12 : decode cX4_isState 12 = .ok (.iconst 1, 1) := by decide +kernel
theorem dX4_isState_13 : decode cX4_isState 13 = .ok (.goto 4, 3) := by decide +kernel
theorem dX4_isState_16 : decode cX4_isState 16 = .ok (.iconst 0, 1) := by decide +kernel
theorem dX4_isState_17 : decode cX4_isState 17 = .ok (.ireturn, 1) := by decide +kernel
theorem dX4_entering_0 : decode cX4_entering 0 = .ok (.aload_n 0, 1) := by decide +kernel
theorem dX4_entering_1 : decode cX4_entering 1 = .ok (.getfield 36, 3) := by decide +kernel
theorem dX4_entering_4 : decode cX4_entering 4 = .ok (.areturn, 1) := by decide +kernel
theorem dX4_leaving_0 : decode cX4_leaving 0 = .ok (.aload_n 0, 1) := by decide +kernel
theorem dX4_leaving_1 : decode cX4_leaving 1 = .ok (.getfield 40, 3) := by decide +kernel
theorem dX4_leaving_4 : decode cX4_leaving 4 = .ok (.areturn, 1) := by decide +kernel
theorem dX4_find_0 : decode cX4_find 0 = .ok (.iconst 0, 1) := by decide +kernel
theorem dX4_find_1 : decode cX4_find 1 = .ok (.istore_n 2, 1) := by decide +kernel
theorem dX4_find_2 : decode cX4_find 2 = .ok (.iload_n 2, 1) := by decide +kernel
theorem dX4_find_3 : decode cX4_find 3 = .ok (.aload_n 0, 1) := by decide +kernel
theorem dX4_find_4 : decode cX4_find 4 = .ok (.getfield 43, 3) := by decide +kernel
theorem dX4_find_7 : decode cX4_find 7 = .ok (.if_icmp .ge 21, 3) := by decide +kernel
theorem dX4_find_10 : decode cX4_find 10 = .ok (.aload_n 0, 1) := by decide +kernel
theorem dX4_find_11 : decode cX4_find 11 = .ok (.getfield 9, 3) := by decide +kernel
theorem dX4_find_14 : decode cX4_find 14 = .ok (.iload_n 2, 1) := by decide +kernel
theorem dX4_find_15 : decode cX4_find 15 = .ok (.iaload, 1) := by decide +kernel
theorem dX4_find_16 : decode cX4_find 16 = .ok (.iload_n 1, 1) := by decide +kernel
theorem dX4_find_17 : decode cX4_find 17 = .ok (.if_icmp .ne 5, 3) := by decide +kernel
theorem dX4_find_20 : decode cX4_find 20 = .ok (.iload_n 2, 1) := by decide +kernel
theorem dX4_find_21 : decode cX4_find 21 = .ok (.ireturn, 1) := by decide +kernel
theorem dX4_find_22 : decode cX4_find 22 = .ok (.iinc 2 1, 3) := by decide +kernel
theorem dX4_find_25 : decode cX4_find 25 = .ok (.goto (-23), 3) := by decide +kernel
theorem dX4_find_28 : decode cX4_find 28 = .ok (.iconst (-1), 1) := by decide +kernel
theorem dX4_find_29 : decode cX4_find 29 = .ok (.ireturn, 1) := by decide +kernel
set_option maxRecDepth 20000 in
theorem ggX4_make_X4_isFull : GoodIn wsX4_make wsX4_isFull := goodIn_r _ [12, 2, 17, 18, 19, 20, 21, 22, 23, 24, 25] (by decide +kernel) (by decide +kernel)
set_option maxRecDepth 20000 in
theorem gX4_make_X4_isFull : GoodIn wsX4_make (wsV RX4 47 RX4 yX4_isFull wsX4_isFull) := goodIn_app (goodIn_of _ (by decide +kernel)) ggX4_make_X4_isFull
set_option maxRecDepth 20000 in
theorem ggX4_make_X4_isState : GoodIn wsX4_make wsX4_isState := goodIn_r _ [16, 2, 17, 18, 19, 20, 21, 22, 23, 24, 25] (by decide +kernel) (by decide +kernel)
set_option maxRecDepth 20000 in
theorem gX4_make_X4_isState : GoodIn wsX4_make (wsV RX4 51 RX4 yX4_isState wsX4_isState) := goodIn_app (goodIn_of _ (by decide +kernel)) ggX4_make_X4_isState
theorem dX4_make_0 : decode cX4_make 0 = .ok (.aload_n 0, 1) := by decide +kernel
theorem dX4_make_1 : decode cX4_make 1 = .ok (.invokevirtual 47, 3) := by decide +kernel
theorem dX4_make_4 : decode cX4_make 4 = .ok (.ifCond .ne 11, 3) := by decide +kernel
theorem dX4_make_7 : decode cX4_make 7 = .ok (.aload_n 0, 1) := by decide +kernel
theorem dX4_make_8 : decode cX4_make 8 = .ok (.iload_n 2, 1) := by decide +kernel
theorem dX4_make_9 : decode cX4_make 9 = .ok (.invokevirtual 51, 3) := by decide +kernel
theorem dX4_make_12 : decode cX4_make 12 = .ok (.ifCond .ne 4, 3) := by decide +kernel
theorem dX4_make_15 : decode cX4_make 15 = .ok (.return_, 1) := by decide +kernel
theorem dX4_make_16 : decode cX4_make 16 = .ok (.aload_n 0, 1) := by decide +kernel
theorem dX4_make_17 : decode cX4_make 17 = .ok (.getfield 9, 3) := by decide +kernel
theorem dX4_make_20 : decode cX4_make 20 = .ok (.aload_n 0, 1) := by decide +kernel
theorem dX4_make_21 : decode cX4_make 21 = .ok (.getfield 43, 3) := by decide +kernel
theorem dX4_make_24 : decode cX4_make 24 = .ok (.iload_n 1, 1) := by decide +kernel
theorem dX4_make_25 : decode cX4_make 25 = .ok (.iastore, 1) := by decide +kernel
theorem dX4_make_26 : decode cX4_make 26 = .ok (.aload_n 0, 1) := by decide +kernel
theorem dX4_make_27 : decode cX4_make 27 = .ok (.getfield 15, 3) := by decide +kernel
theorem dX4_make_30 : decode cX4_make 30 = .ok (.aload_n 0, 1) := by decide +kernel
theorem dX4_make_31 : decode cX4_make 31 = .ok (.getfield 43, 3) := by decide +kernel
theorem dX4_make_34 : decode cX4_make 34 = .ok (.iload_n 2, 1) := by decide +kernel
theorem dX4_make_35 : decode cX4_make 35 = .ok (.iastore, 1) := by decide +kernel
theorem dX4_make_36 : decode cX4_make 36 = .ok (.aload_n 0, 1) := by decide +kernel
theorem dX4_make_37 : decode cX4_make 37 = .ok (.getfield 18, 3) := by decide +kernel
theorem dX4_make_40 : decode cX4_make 40 = .ok (.aload_n 0, 1) := by decide +kernel
theorem dX4_make_41 : decode cX4_make 41 = .ok (.getfield 43, 3) := by decide +kernel
theorem dX4_make_44 : decode cX4_make 44 = .ok (.aload_n 0, 1) := by decide +kernel
theorem dX4_make_45 : decode cX4_make 45 = .ok (.getfield 18, 3) := by decide +kernel
theorem dX4_make_48 : decode cX4_make 48 = .ok (.iload_n 2, 1) := by decide +kernel
theorem dX4_make_49 : decode cX4_make 49 = .ok (.iaload, 1) := by decide +kernel
theorem dX4_make_50 : decode cX4_make 50 = .ok (.iconst 1, 1) := by decide +kernel
theorem dX4_make_51 : decode cX4_make 51 = .ok (.iadd, 1) := by decide +kernel
theorem dX4_make_52 : decode cX4_make 52 = .ok (.iastore, 1) := by decide +kernel
theorem dX4_make_53 : decode cX4_make 53 = .ok (.aload_n 0, 1) := by decide +kernel
theorem dX4_make_54 : decode cX4_make 54 = .ok (.getfield 21, 3) := by decide +kernel
theorem dX4_make_57 : decode cX4_make 57 = .ok (.aload_n 0, 1) := by decide +kernel
theorem dX4_make_58 : decode cX4_make 58 = .ok (.getfield 43, 3) := by decide +kernel
theorem dX4_make_61 : decode cX4_make 61 = .ok (.iconst (-1), 1) := by decide +kernel
theorem dX4_make_62 : decode cX4_make 62 = .ok (.iastore, 1) := by decide +kernel
theorem dX4_make_63 : decode cX4_make 63 = .ok (.aload_n 0, 1) := by decide +kernel
theorem dX4_make_64 : decode cX4_make 64 = .ok (.getfield 24, 3) := by decide +kernel
theorem dX4_make_67 : decode cX4_make 67 = .ok (.aload_n 0, 1) := by decide +kernel
theorem dX4_make_68 : decode cX4_make 68 = .ok (.getfield 43, 3) := by decide +kernel
theorem dX4_make_71 : decode cX4_make 71 = .ok (.iload_n 3, 1) := by decide +kernel
theorem dX4_make_72 : decode cX4_make 72 = .ok (.bastore, 1) := by decide +kernel
theorem dX4_make_73 : decode cX4_make 73 = .ok (.aload_n 0, 1) := by decide +kernel
theorem dX4_make_74 : decode cX4_make 74 = .ok (.getfield 28, 3) := by decide +kernel
theorem dX4_make_77 : decode cX4_make 77 = .ok (.aload_n 0, 1) := by decide +kernel
theorem dX4_make_78 : decode cX4_make 78 = .ok (.getfield 43, 3) := by decide +kernel
theorem dX4_make_81 : decode cX4_make 81 = .ok (.iload 4, 2) := by decide +kernel
theorem dX4_make_83 : decode cX4_make 83 = .ok (.bastore, 1) := by decide +kernel
theorem dX4_make_84 : decode cX4_make 84 = .ok (.aload_n 0, 1) := by decide +kernel
theorem dX4_make_85 : decode cX4_make 85 = .ok (.getfield 21, 3) := by decide +kernel
theorem dX4_make_88 : decode cX4_make 88 = .ok (.iload_n 2, 1) := by decide +kernel
theorem dX4_make_89 : decode cX4_make 89 = .ok (.iaload, 1) := by decide +kernel
theorem dX4_make_90 : decode cX4_make 90 = .ok (.iconst (-1), 1) := by decide +kernel
theorem dX4_make_91 : decode cX4_make 91 = .ok (.if_icmp .ne 13, 3) := by decide +kernel
theorem dX4_make_94 : decode cX4_make 94 = .ok (.aload_n 0, 1) := by decide +kernel
theorem dX4_make_95 : decode cX4_make 95 = .ok (.getfield 21, 3) := by decide +kernel
theorem dX4_make_98 : decode cX4_make 98 = .ok (.iload_n 2, 1) := by decide +kernel
theorem dX4_make_99 : decode cX4_make 99 = .ok (.aload_n 0, 1) := by decide +kernel
theorem dX4_make_100 : decode cX4_make 100 = .ok (.getfield 43, 3) := by decide +kernel
theorem dX4_make_103 : decode cX4_make 103 = .ok (.iastore, 1) := by decide +kernel
theorem dX4_make_104 : decode cX4_make 104 = .ok (.aload_n 0, 1) := by decide +kernel
theorem dX4_make_105 : decode cX4_make 105 = .ok (.dup, 1) := by decide +kernel
theorem dX4_make_106 : decode cX4_make 106 = .ok (.getfield 43, 3) := by decide +kernel
theorem dX4_make_109 : decode cX4_make 109 = .ok (.iconst 1, 1) := by decide +kernel
theorem dX4_make_110 : decode cX4_make 110 = .ok (.iadd, 1) := by decide +kernel
theorem dX4_make_111 : decode cX4_make 111 = .ok (.putfield 43, 3) := by decide +kernel
theorem dX4_make_114 : decode cX4_make 114 = .ok (.return_, 1) := by decide +kernel
set_option maxRecDepth 20000 in
theorem ggX4_parentOf_X4_isState : GoodIn wsX4_parentOf wsX4_isState := goodIn_r _ [6, 7, 8, 9, 10, 11, 12, 13, 14, 15, 16] (by decide +kernel) (by decide +kernel)
set_option maxRecDepth 20000 in
theorem gX4_parentOf_X4_isState : GoodIn wsX4_parentOf (wsV RX4 51 RX4 yX4_isState wsX4_isState) := goodIn_app (goodIn_of _ (by decide +kernel)) ggX4_parentOf_X4_isState
theorem dX4_parentOf_0 : decode cX4_parentOf 0 = .ok (.aload_n 0, 1) := by decide +kernel
theorem dX4_parentOf_1 : decode cX4_parentOf 1 = .ok (.iload_n 1, 1) := by decide +kernel
theorem dX4_parentOf_2 : decode cX4_parentOf 2 = .ok (.invokevirtual 51, 3) := by decide +kernel
theorem dX4_parentOf_5 : decode cX4_parentOf 5 = .ok (.ifCond .eq 12, 3) := by decide +kernel
theorem dX4_parentOf_8 : decode cX4_parentOf 8 = .ok (.aload_n 0, 1) := by decide +kernel
theorem dX4_parentOf_9 : decode cX4_parentOf 9 = .ok (.getfield 15, 3) := by decide +kernel
theorem dX4_parentOf_12 : decode cX4_parentOf 12 = .ok (.iload_n 1, 1) := by decide +kernel
theorem dX4_parentOf_13 : decode cX4_parentOf 13 = .ok (.iaload, 1) := by decide +kernel
theorem dX4_parentOf_14 : decode cX4_parentOf 14 = .ok (.goto 4, 3) := by decide +kernel
theorem dX4_parentOf_17 : decode cX4_parentOf 17 = .ok (.iconst (-1), 1) := by decide +kernel
theorem dX4_parentOf_18 : decode cX4_parentOf 18 = .ok (.ireturn, 1) := by decide +kernel
set_option maxRecDepth 20000 in
theorem ggX4_depthOf_X4_isState : GoodIn wsX4_depthOf wsX4_isState := goodIn_r _ [6, 7, 8, 9, 10, 11, 12, 13, 14, 15, 16] (by decide +kernel) (by decide +kernel)
set_option maxRecDepth 20000 in
theorem gX4_depthOf_X4_isState : GoodIn wsX4_depthOf (wsV RX4 51 RX4 yX4_isState wsX4_isState) := goodIn_app (goodIn_of _ (by decide +kernel)) ggX4_depthOf_X4_isState
theorem dX4_depthOf_0 : decode cX4_depthOf 0 = .ok (.aload_n 0, 1) := by decide +kernel
theorem dX4_depthOf_1 : decode cX4_depthOf 1 = .ok (.iload_n 1, 1) := by decide +kernel
theorem dX4_depthOf_2 : decode cX4_depthOf 2 = .ok (.invokevirtual 51, 3) := by decide +kernel
theorem dX4_depthOf_5 : decode cX4_depthOf 5 = .ok (.ifCond .eq 12, 3) := by decide +kernel
theorem dX4_depthOf_8 : decode cX4_depthOf 8 = .ok (.aload_n 0, 1) := by decide +kernel
theorem dX4_depthOf_9 : decode cX4_depthOf 9 = .ok (.getfield 18, 3) := by decide +kernel
theorem dX4_depthOf_12 : decode cX4_depthOf 12 = .ok (.iload_n 1, 1) := by decide +kernel
theorem dX4_depthOf_13 : decode cX4_depthOf 13 = .ok (.iaload, 1) := by decide +kernel
theorem dX4_depthOf_14 : decode cX4_depthOf 14 = .ok (.goto 4, 3) := by decide +kernel
theorem dX4_depthOf_17 : decode cX4_depthOf 17 = .ok (.iconst 0, 1) := by decide +kernel
theorem dX4_depthOf_18 : decode cX4_depthOf 18 = .ok (.ireturn, 1) := by decide +kernel
set_option maxRecDepth 20000 in
theorem ggX4_isWhole_X4_isState : GoodIn wsX4_isWhole wsX4_isState := goodIn_r _ [6, 7, 8, 9, 10, 11, 12, 13, 14, 15, 16] (by decide +kernel) (by decide +kernel)
set_option maxRecDepth 20000 in
theorem gX4_isWhole_X4_isState : GoodIn wsX4_isWhole (wsV RX4 51 RX4 yX4_isState wsX4_isState) := goodIn_app (goodIn_of _ (by decide +kernel)) ggX4_isWhole_X4_isState
theorem dX4_isWhole_0 : decode cX4_isWhole 0 = .ok (.aload_n 0, 1) := by decide +kernel
theorem dX4_isWhole_1 : decode cX4_isWhole 1 = .ok (.iload_n 1, 1) := by decide +kernel
theorem dX4_isWhole_2 : decode cX4_isWhole 2 = .ok (.invokevirtual 51, 3) := by decide +kernel
theorem dX4_isWhole_5 : decode cX4_isWhole 5 = .ok (.ifCond .eq 16, 3) := by decide +kernel
theorem dX4_isWhole_8 : decode cX4_isWhole 8 = .ok (.aload_n 0, 1) := by decide +kernel
theorem dX4_isWhole_9 : decode cX4_isWhole 9 = .ok (.getfield 24, 3) := by decide +kernel
theorem dX4_isWhole_12 : decode cX4_isWhole 12 = .ok (.iload_n 1, 1) := by decide +kernel
theorem dX4_isWhole_13 : decode cX4_isWhole 13 = .ok (.baload, 1) := by decide +kernel
theorem dX4_isWhole_14 : decode cX4_isWhole 14 = .ok (.ifCond .eq 7, 3) := by decide +kernel
theorem dX4_isWhole_17 : decode cX4_isWhole 17 = .ok (.iconst 1, 1) := by decide +kernel
theorem dX4_isWhole_18 : decode cX4_isWhole 18 = .ok (.goto 4, 3) := by decide +kernel
theorem dX4_isWhole_21 : decode cX4_isWhole 21 = .ok (.iconst 0, 1) := by decide +kernel
theorem dX4_isWhole_22 : decode cX4_isWhole 22 = .ok (.ireturn, 1) := by decide +kernel
set_option maxRecDepth 20000 in
theorem ggX4_isRemembering_X4_isState : GoodIn wsX4_isRemembering wsX4_isState := goodIn_r _ [6, 7, 8, 9, 10, 11, 12, 13, 14, 15, 16] (by decide +kernel) (by decide +kernel)
set_option maxRecDepth 20000 in
theorem gX4_isRemembering_X4_isState : GoodIn wsX4_isRemembering (wsV RX4 51 RX4 yX4_isState wsX4_isState) := goodIn_app (goodIn_of _ (by decide +kernel)) ggX4_isRemembering_X4_isState
theorem dX4_isRemembering_0 : decode cX4_isRemembering 0 = .ok (.aload_n 0, 1) := by decide +kernel
theorem dX4_isRemembering_1 : decode cX4_isRemembering 1 = .ok (.iload_n 1, 1) := by decide +kernel
theorem dX4_isRemembering_2 : decode cX4_isRemembering 2 = .ok (.invokevirtual 51, 3) := by decide +kernel
theorem dX4_isRemembering_5 : decode cX4_isRemembering 5 = .ok (.ifCond .eq 16, 3) := by decide +kernel
theorem dX4_isRemembering_8 : decode cX4_isRemembering 8 = .ok (.aload_n 0, 1) := by decide +kernel
theorem dX4_isRemembering_9 : decode cX4_isRemembering 9 = .ok (.getfield 28, 3) := by decide +kernel
theorem dX4_isRemembering_12 : decode cX4_isRemembering 12 = .ok (.iload_n 1, 1) := by decide +kernel
theorem dX4_isRemembering_13 : decode cX4_isRemembering 13 = .ok (.baload, 1) := by decide +kernel
theorem dX4_isRemembering_14 : decode cX4_isRemembering 14 = .ok (.ifCond .eq 7, 3) := by decide +kernel
theorem dX4_isRemembering_17 : decode cX4_isRemembering 17 = .ok (.iconst 1, 1) := by decide +kernel
theorem dX4_isRemembering_18 : decode cX4_isRemembering 18 = .ok (.goto 4, 3) := by decide +kernel
theorem dX4_isRemembering_21 : decode cX4_isRemembering 21 = .ok (.iconst 0, 1) := by decide +kernel
theorem dX4_isRemembering_22 : decode cX4_isRemembering 22 = .ok (.ireturn, 1) := by decide +kernel
set_option maxRecDepth 20000 in
theorem ggX4_currentAtFirst_X4_isState : GoodIn wsX4_currentAtFirst wsX4_isState := goodIn_r _ [7, 8, 9, 10, 11, 12, 13, 14, 15, 16, 17] (by decide +kernel) (by decide +kernel)
set_option maxRecDepth 20000 in
theorem gX4_currentAtFirst_X4_isState : GoodIn wsX4_currentAtFirst (wsV RX4 51 RX4 yX4_isState wsX4_isState) := goodIn_app (goodIn_of _ (by decide +kernel)) ggX4_currentAtFirst_X4_isState
theorem dX4_currentAtFirst_0 : decode cX4_currentAtFirst 0 = .ok (.aload_n 0, 1) := by decide +kernel
theorem dX4_currentAtFirst_1 : decode cX4_currentAtFirst 1 = .ok (.iload_n 1, 1) := by decide +kernel
theorem dX4_currentAtFirst_2 : decode cX4_currentAtFirst 2 = .ok (.invokevirtual 51, 3) := by decide +kernel
theorem dX4_currentAtFirst_5 : decode cX4_currentAtFirst 5 = .ok (.ifCond .eq 21, 3) := by decide +kernel
theorem dX4_currentAtFirst_8 : decode cX4_currentAtFirst 8 = .ok (.aload_n 0, 1) := by decide +kernel
theorem dX4_currentAtFirst_9 : decode cX4_currentAtFirst 9 = .ok (.getfield 24, 3) := by decide +kernel
theorem dX4_currentAtFirst_12 : decode cX4_currentAtFirst 12 = .ok (.iload_n 1, 1) := by decide +kernel
theorem dX4_currentAtFirst_13 : decode cX4_currentAtFirst 13 = .ok (.baload, 1) := by decide +kernel
theorem dX4_currentAtFirst_14 : decode cX4_currentAtFirst 14 = .ok (.ifCond .ne 12, 3) := by decide +kernel
theorem dX4_currentAtFirst_17 : decode cX4_currentAtFirst 17 = .ok (.aload_n 0, 1) := by decide +kernel
theorem dX4_currentAtFirst_18 : decode cX4_currentAtFirst 18 = .ok (.getfield 21, 3) := by decide +kernel
theorem dX4_currentAtFirst_21 : decode cX4_currentAtFirst 21 = .ok (.iload_n 1, 1) := by decide +kernel
theorem dX4_currentAtFirst_22 : decode cX4_currentAtFirst 22 = .ok (.iaload, 1) := by decide +kernel
theorem dX4_currentAtFirst_23 : decode cX4_currentAtFirst 23 = .ok (.goto 4, 3) := by decide +kernel
theorem dX4_currentAtFirst_26 : decode cX4_currentAtFirst 26 = .ok (.iconst (-1), 1) := by decide +kernel
theorem dX4_currentAtFirst_27 : decode cX4_currentAtFirst 27 = .ok (.ireturn, 1) := by decide +kernel
set_option maxRecDepth 20000 in
theorem ggX4_childToward_X4_isState : GoodIn wsX4_childToward wsX4_isState := goodIn_r _ [6, 7, 8, 9, 10, 11, 12, 13, 14, 15, 16] (by decide +kernel) (by decide +kernel)
set_option maxRecDepth 20000 in
theorem gX4_childToward_X4_isState : GoodIn wsX4_childToward (wsV RX4 51 RX4 yX4_isState wsX4_isState) := goodIn_app (goodIn_of _ (by decide +kernel)) ggX4_childToward_X4_isState
theorem dX4_childToward_0 : decode cX4_childToward 0 = .ok (.aload_n 0, 1) := by decide +kernel
theorem dX4_childToward_1 : decode cX4_childToward 1 = .ok (.iload_n 1, 1) := by decide +kernel
theorem dX4_childToward_2 : decode cX4_childToward 2 = .ok (.invokevirtual 51, 3) := by decide +kernel
theorem dX4_childToward_5 : decode cX4_childToward 5 = .ok (.ifCond .ne 5, 3) := by decide +kernel
theorem dX4_childToward_8 : decode cX4_childToward 8 = .ok (.iconst (-1), 1) := by decide +kernel
theorem dX4_childToward_9 : decode cX4_childToward 9 = .ok (.ireturn, 1) := by decide +kernel
theorem dX4_childToward_10 : decode cX4_childToward 10 = .ok (.iload_n 2, 1) := by decide +kernel
theorem dX4_childToward_11 : decode cX4_childToward 11 = .ok (.istore_n 3, 1) := by decide +kernel
theorem dX4_childToward_12 : decode cX4_childToward 12 = .ok (.iconst 0, 1) := by decide +kernel
theorem dX4_childToward_13 : decode cX4_childToward 13 = .ok (.istore 4, 2) := by decide +kernel
theorem dX4_childToward_15 : decode cX4_childToward 15 = .ok (.iload 4, 2) := by decide +kernel
theorem dX4_childToward_17 : decode cX4_childToward 17 = .ok (.bipush 6, 2) := by decide +kernel
theorem dX4_childToward_19 : decode cX4_childToward 19 = .ok (.if_icmp .gt 36, 3) := by decide +kernel
theorem dX4_childToward_22 : decode cX4_childToward 22 = .ok (.aload_n 0, 1) := by decide +kernel
theorem dX4_childToward_23 : decode cX4_childToward 23 = .ok (.iload_n 3, 1) := by decide +kernel
theorem dX4_childToward_24 : decode cX4_childToward 24 = .ok (.invokevirtual 51, 3) := by decide +kernel
theorem dX4_childToward_27 : decode cX4_childToward 27 = .ok (.ifCond .eq 28, 3) := by decide +kernel
theorem dX4_childToward_30 : decode cX4_childToward 30 = .ok (.aload_n 0, 1) := by decide +kernel
theorem dX4_childToward_31 : decode cX4_childToward 31 = .ok (.getfield 15, 3) := by decide +kernel
theorem dX4_childToward_34 : decode cX4_childToward 34 = .ok (.iload_n 3, 1) := by decide +kernel
theorem dX4_childToward_35 : decode cX4_childToward 35 = .ok (.iaload, 1) := by decide +kernel
theorem dX4_childToward_36 : decode cX4_childToward 36 = .ok (.iload_n 1, 1) := by decide +kernel
theorem dX4_childToward_37 : decode cX4_childToward 37 = .ok (.if_icmp .ne 5, 3) := by decide +kernel
theorem dX4_childToward_40 : decode cX4_childToward 40 = .ok (.iload_n 3, 1) := by decide +kernel
theorem dX4_childToward_41 : decode cX4_childToward 41 = .ok (.ireturn, 1) := by decide +kernel
theorem dX4_childToward_42 : decode cX4_childToward 42 = .ok (.aload_n 0, 1) := by decide +kernel
theorem dX4_childToward_43 : decode cX4_childToward 43 = .ok (.getfield 15, 3) := by decide +kernel
theorem dX4_childToward_46 : decode cX4_childToward 46 = .ok (.iload_n 3, 1) := by decide +kernel
theorem dX4_childToward_47 : decode cX4_childToward 47 = .ok (.iaload, 1) := by decide +kernel
theorem dX4_childToward_48 : decode cX4_childToward 48 = .ok (.istore_n 3, 1) := by decide +kernel
theorem dX4_childToward_49 : decode cX4_childToward 49 = .ok (.iinc 4 1, 3) := by decide +kernel
theorem dX4_childToward_52 : decode cX4_childToward 52 = .ok (.goto (-37), 3) := by decide +kernel
theorem dX4_childToward_55 : decode cX4_childToward 55 = .ok (.iconst (-1), 1) := by decide +kernel
theorem dX4_childToward_56 : decode cX4_childToward 56 = .ok (.ireturn, 1) := by decide +kernel
set_option maxRecDepth 20000 in
theorem ggX4_scopeOf_X4_parentOf : GoodIn wsX4_scopeOf wsX4_parentOf := goodIn_r _ [5, 6, 7, 8, 9, 4, 10, 11, 21, 22, 23, 24, 25, 26, 27, 28, 29] (by decide +kernel) (by decide +kernel)
set_option maxRecDepth 20000 in
theorem gX4_scopeOf_X4_parentOf : GoodIn wsX4_scopeOf (wsV RX4 55 RX4 yX4_parentOf wsX4_parentOf) := goodIn_app (goodIn_of _ (by decide +kernel)) ggX4_scopeOf_X4_parentOf
set_option maxRecDepth 20000 in
theorem ggX4_scopeOf_X4_isWhole : GoodIn wsX4_scopeOf wsX4_isWhole := goodIn_r _ [15, 16, 7, 8, 9, 4, 10, 11, 21, 22, 23, 24, 25, 26, 27, 28, 29] (by decide +kernel) (by decide +kernel)
set_option maxRecDepth 20000 in
theorem gX4_scopeOf_X4_isWhole : GoodIn wsX4_scopeOf (wsV RX4 59 RX4 yX4_isWhole wsX4_isWhole) := goodIn_app (goodIn_of _ (by decide +kernel)) ggX4_scopeOf_X4_isWhole
set_option maxRecDepth 20000 in
theorem ggX4_scopeOf_X4_childToward : GoodIn wsX4_scopeOf wsX4_childToward := goodIn_r _ [20, 6, 7, 8, 9, 4, 10, 11, 21, 22, 23, 24, 25, 26, 27, 28, 29] (by decide +kernel) (by decide +kernel)
set_option maxRecDepth 20000 in
theorem gX4_scopeOf_X4_childToward : GoodIn wsX4_scopeOf (wsV RX4 62 RX4 yX4_childToward wsX4_childToward) := goodIn_app (goodIn_of _ (by decide +kernel)) ggX4_scopeOf_X4_childToward
theorem dX4_scopeOf_0 : decode cX4_scopeOf 0 = .ok (.aload_n 0, 1) := by decide +kernel
theorem dX4_scopeOf_1 : decode cX4_scopeOf 1 = .ok (.iload_n 1, 1) := by decide +kernel
theorem dX4_scopeOf_2 : decode cX4_scopeOf 2 = .ok (.invokevirtual 55, 3) := by decide +kernel
theorem dX4_scopeOf_5 : decode cX4_scopeOf 5 = .ok (.istore_n 3, 1) := by decide +kernel
theorem dX4_scopeOf_6 : decode cX4_scopeOf 6 = .ok (.iconst 0, 1) := by decide +kernel
theorem dX4_scopeOf_7 : decode cX4_scopeOf 7 = .ok (.istore 4, 2) := by decide +kernel
theorem dX4_scopeOf_9 : decode cX4_scopeOf 9 = .ok (.iload 4, 2) := by decide +kernel
theorem dX4_scopeOf_11 : decode cX4_scopeOf 11 = .ok (.bipush 6, 2) := by decide +kernel
theorem dX4_scopeOf_13 : decode cX4_scopeOf 13 = .ok (.if_icmp .gt 39, 3) := by decide +kernel
theorem dX4_scopeOf_16 : decode cX4_scopeOf 16 = .ok (.iload_n 3, 1) := by decide +kernel
theorem dX4_scopeOf_17 : decode cX4_scopeOf 17 = .ok (.ifCond .le 35, 3) := by decide +kernel
theorem dX4_scopeOf_20 : decode cX4_scopeOf 20 = .ok (.aload_n 0, 1) := by decide +kernel
theorem dX4_scopeOf_21 : decode cX4_scopeOf 21 = .ok (.iload_n 3, 1) := by decide +kernel
theorem dX4_scopeOf_22 : decode cX4_scopeOf 22 = .ok (.invokevirtual 59, 3) := by decide +kernel
theorem dX4_scopeOf_25 : decode cX4_scopeOf 25 = .ok (.ifCond .ne 15, 3) := by decide +kernel
theorem dX4_scopeOf_28 : decode cX4_scopeOf 28 = .ok (.aload_n 0, 1) := by decide +kernel
theorem dX4_scopeOf_29 : decode cX4_scopeOf 29 = .ok (.iload_n 3, 1) := by decide +kernel
theorem dX4_scopeOf_30 : decode cX4_scopeOf 30 = .ok (.iload_n 2, 1) := by decide +kernel
theorem dX4_scopeOf_31 : decode cX4_scopeOf 31 = .ok (.invokevirtual 62, 3) := by decide +kernel
theorem dX4_scopeOf_34 : decode cX4_scopeOf 34 = .ok (.iconst (-1), 1) := by decide +kernel
theorem dX4_scopeOf_35 : decode cX4_scopeOf 35 = .ok (.if_icmp .eq 5, 3) := by decide +kernel
theorem dX4_scopeOf_38 : decode cX4_scopeOf 38 = .ok (.iload_n 3, 1) := by decide +kernel
theorem dX4_scopeOf_39 : decode cX4_scopeOf 39 = .ok (.ireturn, 1) := by decide +kernel
theorem dX4_scopeOf_40 : decode cX4_scopeOf 40 = .ok (.aload_n 0, 1) := by decide +kernel
theorem dX4_scopeOf_41 : decode cX4_scopeOf 41 = .ok (.iload_n 3, 1) := by decide +kernel
theorem dX4_scopeOf_42 : decode cX4_scopeOf 42 = .ok (.invokevirtual 55, 3) := by decide +kernel
theorem dX4_scopeOf_45 : decode cX4_scopeOf 45 = .ok (.istore_n 3, 1) := by decide +kernel
theorem dX4_scopeOf_46 : decode cX4_scopeOf 46 = .ok (.iinc 4 1, 3) := by decide +kernel
theorem dX4_scopeOf_49 : decode cX4_scopeOf 49 = .ok (.goto (-40), 3) := by decide +kernel
theorem dX4_scopeOf_52 : decode cX4_scopeOf 52 = .ok (.iconst 0, 1) := by decide +kernel
theorem dX4_scopeOf_53 : decode cX4_scopeOf 53 = .ok (.ireturn, 1) := by decide +kernel
set_option maxRecDepth 20000 in
theorem ggX5_init_X1_init : GoodIn wsX5_init wsX1_init := goodIn_r _ [19, 20, 2, 3, 21, 22, 23, 24, 25, 26, 27, 28, 8, 29, 38, 39, 40, 41] (by decide +kernel) (by decide +kernel)
set_option maxRecDepth 20000 in
theorem gX5_init_X1_init : GoodIn wsX5_init (wsX1_init) := ggX5_init_X1_init
set_option maxRecDepth 20000 in
theorem ggX5_init_X6_init : GoodIn wsX5_init wsX6_init := goodIn_r _ [32, 33, 2, 3, 8, 34, 35, 36, 37, 51, 52, 53, 54, 55] (by decide +kernel) (by decide +kernel)
set_option maxRecDepth 20000 in
theorem gX5_init_X6_init : GoodIn wsX5_init (wsX6_init) := ggX5_init_X6_init
theorem dX5_init_0 : decode cX5_init 0 = .ok (.aload_n 0, 1) := by decide +kernel
theorem dX5_init_1 : decode cX5_init 1 = .ok (.invokespecial 3, 3) := by decide +kernel
theorem dX5_init_4 : decode cX5_init 4 = .ok (.aload_n 0, 1) := by decide +kernel
theorem dX5_init_5 : decode cX5_init 5 = .ok (.new 9, 3) := by decide +kernel
theorem dX5_init_8 : decode cX5_init 8 = .ok (.dup, 1) := by decide +kernel
theorem dX5_init_9 : decode cX5_init 9 = .ok (.sipush 181, 3) := by decide +kernel
theorem dX5_init_12 : decode cX5_init 12 = .ok (.bipush 40, 2) := by decide +kernel
theorem dX5_init_14 : decode cX5_init 14 = .ok (.invokespecial 11, 3) := by decide +kernel
theorem dX5_init_17 : decode cX5_init 17 = .ok (.putfield 14, 3) := by decide +kernel
theorem dX5_init_20 : decode cX5_init 20 = .ok (.aload_n 0, 1) := by decide +kernel
theorem dX5_init_21 : decode cX5_init 21 = .ok (.sipush 420, 3) := by decide +kernel
theorem dX5_init_24 : decode cX5_init 24 = .ok (.newarray .int, 2) := by decide +kernel
theorem dX5_init_26 : decode cX5_init 26 = .ok (.putfield 20, 3) := by decide +kernel
theorem dX5_init_29 : decode cX5_init 29 = .ok (.aload_n 0, 1) := by decide +kernel
theorem dX5_init_30 : decode cX5_init 30 = .ok (.sipush 180, 3) := by decide +kernel
theorem dX5_init_33 : decode cX5_init 33 = .ok (.newarray .int, 2) := by decide +kernel
theorem dX5_init_35 : decode cX5_init 35 = .ok (.putfield 24, 3) := by decide +kernel
theorem dX5_init_38 : decode cX5_init 38 = .ok (.aload_n 0, 1) := by decide +kernel
theorem dX5_init_39 : decode cX5_init 39 = .ok (.aload_n 1, 1) := by decide +kernel
theorem dX5_init_40 : decode cX5_init 40 = .ok (.putfield 27, 3) := by decide +kernel
theorem dX5_init_43 : decode cX5_init 43 = .ok (.aload_n 0, 1) := by decide +kernel
theorem dX5_init_44 : decode cX5_init 44 = .ok (.aload_n 2, 1) := by decide +kernel
theorem dX5_init_45 : decode cX5_init 45 = .ok (.putfield 31, 3) := by decide +kernel
theorem dX5_init_48 : decode cX5_init 48 = .ok (.aload_n 0, 1) := by decide +kernel
theorem dX5_init_49 : decode cX5_init 49 = .ok (.new 35, 3) := by decide +kernel
theorem dX5_init_52 : decode cX5_init 52 = .ok (.dup, 1) := by decide +kernel
theorem dX5_init_53 : decode cX5_init 53 = .ok (.aload_n 1, 1) := by decide +kernel
theorem dX5_init_54 : decode cX5_init 54 = .ok (.aload_n 2, 1) := by decide +kernel
theorem dX5_init_55 : decode cX5_init 55 = .ok (.aload_n 0, 1) := by decide +kernel
theorem dX5_init_56 : decode cX5_init 56 = .ok (.getfield 14, 3) := by decide +kernel
theorem dX5_init_59 : decode cX5_init 59 = .ok (.invokespecial 37, 3) := by decide +kernel
theorem dX5_init_62 : decode cX5_init 62 = .ok (.putfield 40, 3) := by decide +kernel
theorem dX5_init_65 : decode cX5_init 65 = .ok (.return_, 1) := by decide +kernel
theorem dX5_drop_0 : decode cX5_drop 0 = .ok (.aload_n 0, 1) := by decide +kernel
theorem dX5_drop_1 : decode cX5_drop 1 = .ok (.iconst 0, 1) := by decide +kernel
theorem dX5_drop_2 : decode cX5_drop 2 = .ok (.putfield 44, 3) := by decide +kernel
theorem dX5_drop_5 : decode cX5_drop 5 = .ok (.return_, 1) := by decide +kernel
theorem dX5_size_0 : decode cX5_size 0 = .ok (.aload_n 0, 1) := by decide +kernel
theorem dX5_size_1 : decode cX5_size 1 = .ok (.getfield 44, 3) := by decide +kernel
theorem dX5_size_4 : decode cX5_size 4 = .ok (.ireturn, 1) := by decide +kernel
theorem dX5_place_0 : decode cX5_place 0 = .ok (.aload_n 0, 1) := by decide +kernel
theorem dX5_place_1 : decode cX5_place 1 = .ok (.getfield 44, 3) := by decide +kernel
theorem dX5_place_4 : decode cX5_place 4 = .ok (.ifCond .ne 7, 3) := by decide +kernel
theorem dX5_place_7 : decode cX5_place 7 = .ok (.iconst (-1), 1) := by decide +kernel
theorem dX5_place_8 : decode cX5_place 8 = .ok (.goto 7, 3) := by decide +kernel
theorem dX5_place_11 : decode cX5_place 11 = .ok (.aload_n 0, 1) := by decide +kernel
theorem dX5_place_12 : decode cX5_place 12 = .ok (.getfield 48, 3) := by decide +kernel
theorem dX5_place_15 : decode cX5_place 15 = .ok (.ireturn, 1) := by decide +kernel
theorem dX5_marksNoted_0 : decode cX5_marksNoted 0 = .ok (.aload_n 0, 1) := by decide +kernel
theorem dX5_marksNoted_1 : decode cX5_marksNoted 1 = .ok (.getfield 44, 3) := by decide +kernel
theorem dX5_marksNoted_4 : decode cX5_marksNoted 4 = .ok (.ifCond .ne 7, 3) := by decide +kernel
theorem dX5_marksNoted_7 : decode cX5_marksNoted 7 = .ok (.iconst 0, 1) := by decide +kernel
theorem dX5_marksNoted_8 : decode cX5_marksNoted 8 = .ok (.goto 7, 3) := by decide +kernel
theorem dX5_marksNoted_11 : decode cX5_marksNoted 11 = .ok (.aload_n 0, 1) := by decide +kernel
theorem dX5_marksNoted_12 : decode cX5_marksNoted 12 = .ok (.getfield 51, 3) := by decide +kernel
theorem dX5_marksNoted_15 : decode cX5_marksNoted 15 = .ok (.ireturn, 1) := by decide +kernel
set_option maxRecDepth 20000 in
theorem ggX5_build_X6_start : GoodIn wsX5_build wsX6_start := goodIn_r _ [12, 13, 14, 15, 16, 17, 18, 19, 20, 21, 22, 23, 24, 25, 26, 27, 28, 29, 11, 30, 31, 32, 33, 34, 35, 36, 37, 38, 39, 40, 41, 42, 43, 44, 45, 46, 47, 48, 49, 50, 51, 52, 53, 54, 55, 56, 57, 58, 59, 60, 61, 62, 63, 64, 65, 66, 67, 68, 69, 70, 71, 72, 73, 74, 75, 76, 77, 78, 79, 80, 81, 82, 83, 84, 85, 86, 87, 88, 224, 225, 226, 227, 228, 229, 230, 231, 232, 233, 234, 235, 236, 237, 238, 239, 240, 241] (by decide +kernel) (by decide +kernel)
set_option maxRecDepth 20000 in
theorem gX5_build_X6_start : GoodIn wsX5_build (wsV RX5 54 RX6 yX6_start wsX6_start) := goodIn_app (goodIn_of _ (by decide +kernel)) ggX5_build_X6_start
set_option maxRecDepth 20000 in
theorem ggX5_build_X5_numberOfWalk : GoodIn wsX5_build wsX5_numberOfWalk := goodIn_r _ [93, 1, 94, 2, 95, 96, 97, 92, 98, 99, 100, 101, 102, 103, 104, 105, 106, 107, 108, 23, 24, 18, 25, 26, 109, 86, 87, 11, 88, 13, 215, 216, 217, 218, 219, 220, 221, 222, 223, 229, 230, 231, 232, 233, 234, 235, 236, 237, 224, 225, 226, 227, 228] (by decide +kernel) (by decide +kernel)
set_option maxRecDepth 20000 in
theorem gX5_build_X5_numberOfWalk : GoodIn wsX5_build (wsV RX5 58 RX5 yX5_numberOfWalk wsX5_numberOfWalk) := goodIn_app (goodIn_of _ (by decide +kernel)) ggX5_build_X5_numberOfWalk
set_option maxRecDepth 20000 in
theorem ggX5_build_X3_events : GoodIn wsX5_build wsX3_events := goodIn_r _ [114, 115, 242, 243, 244, 245, 246, 247, 248, 249, 250, 251] (by decide +kernel) (by decide +kernel)
set_option maxRecDepth 20000 in
theorem gX5_build_X3_events : GoodIn wsX5_build (wsV RX5 62 RX3 yX3_events wsX3_events) := goodIn_app (goodIn_of _ (by decide +kernel)) ggX5_build_X3_events
set_option maxRecDepth 20000 in
theorem ggX5_build_X5_cellOf : GoodIn wsX5_build wsX5_cellOf := goodIn_r _ [119, 3, 104, 105, 106, 92, 107, 1, 120, 121, 122, 113, 123, 115, 215, 216, 217, 218, 219, 220, 221, 222, 223, 242, 243, 244, 245, 246, 247, 248, 249, 250, 251] (by decide +kernel) (by decide +kernel)
set_option maxRecDepth 20000 in
theorem gX5_build_X5_cellOf : GoodIn wsX5_build (wsV RX5 67 RX5 yX5_cellOf wsX5_cellOf) := goodIn_app (goodIn_of _ (by decide +kernel)) ggX5_build_X5_cellOf
set_option maxRecDepth 20000 in
theorem ggX5_build_X5_setWalk : GoodIn wsX5_build wsX5_setWalk := goodIn_r _ [127, 2, 99, 100, 101, 92, 102, 103, 94, 104, 105, 106, 107, 1, 108, 23, 24, 18, 25, 26, 128, 82, 83, 11, 84, 13, 215, 216, 217, 218, 219, 220, 221, 222, 223, 229, 230, 231, 232, 233, 234, 235, 236, 237, 224, 225, 226, 227, 228] (by decide +kernel) (by decide +kernel)
set_option maxRecDepth 20000 in
theorem gX5_build_X5_setWalk : GoodIn wsX5_build (wsV RX5 71 RX5 yX5_setWalk wsX5_setWalk) := goodIn_app (goodIn_of _ (by decide +kernel)) ggX5_build_X5_setWalk
set_option maxRecDepth 20000 in
theorem ggX5_build_X6_receive : GoodIn wsX5_build wsX6_receive := goodIn_r _ [132, 27, 28, 29, 11, 30, 31, 32, 33, 34, 35, 36, 37, 38, 39, 40, 41, 42, 43, 133, 134, 135, 136, 14, 137, 60, 61, 62, 48, 23, 24, 18, 25, 26, 64, 65, 66, 67, 20, 22, 68, 69, 70, 71, 72, 73, 74, 75, 76, 85, 86, 87, 88, 13, 138, 139, 140, 141, 142, 143, 144, 145, 113, 146, 147, 148, 149, 150, 151, 152, 153, 154, 155, 156, 157, 158, 159, 160, 161, 162, 163, 164, 165, 166, 167, 168, 169, 170, 171, 172, 173, 174, 175, 176, 177, 178, 179, 180, 181, 182, 183, 184, 185, 186, 187, 188, 189, 190, 191, 192, 193, 194, 195, 196, 197, 198, 199, 200, 54, 55, 56, 57, 58, 59, 63, 201, 202, 203, 204, 205, 15, 16, 17, 19, 21, 81, 82, 83, 84, 206, 207, 208, 209, 210, 77, 78, 79, 80, 44, 45, 46, 47, 49, 50, 51, 52, 53, 224, 225, 226, 227, 228, 238, 239, 240, 241, 229, 230, 231, 232, 233, 234, 235, 236, 237, 242, 243, 244, 245, 246, 247, 248, 249, 250, 251] (by decide +kernel) (by decide +kernel)
set_option maxRecDepth 20000 in
theorem gX5_build_X6_receive : GoodIn wsX5_build (wsV RX5 74 RX6 yX6_receive wsX6_receive) := goodIn_app (goodIn_of _ (by decide +kernel)) ggX5_build_X6_receive
set_option maxRecDepth 20000 in
theorem ggX5_build_X1_sizeOf : GoodIn wsX5_build wsX1_sizeOf := goodIn_r _ [214, 38, 39, 40, 41, 36, 42, 43, 238, 239, 240, 241] (by decide +kernel) (by decide +kernel)
set_option maxRecDepth 20000 in
theorem gX5_build_X1_sizeOf : GoodIn wsX5_build (wsV RX5 77 RX1 yX1_sizeOf wsX1_sizeOf) := goodIn_app (goodIn_of _ (by decide +kernel)) ggX5_build_X1_sizeOf
theorem dX5_build_0 : decode cX5_build 0 = .ok (.aload_n 0, 1) := by decide +kernel
theorem dX5_build_1 : decode cX5_build 1 = .ok (.iconst 0, 1) := by decide +kernel
theorem dX5_build_2 : decode cX5_build 2 = .ok (.putfield 44, 3) := by decide +kernel
theorem dX5_build_5 : decode cX5_build 5 = .ok (.aload_n 0, 1) := by decide +kernel
theorem dX5_build_6 : decode cX5_build 6 = .ok (.getfield 40, 3) := by decide +kernel
theorem dX5_build_9 : decode cX5_build 9 = .ok (.sipush 180, 3) := by decide +kernel
theorem dX5_build_12 : decode cX5_build 12 = .ok (.invokevirtual 54, 3) := by decide +kernel
theorem dX5_build_15 : decode cX5_build 15 = .ok (.aload_n 0, 1) := by decide +kernel
theorem dX5_build_16 : decode cX5_build 16 = .ok (.invokevirtual 58, 3) := by decide +kernel
theorem dX5_build_19 : decode cX5_build 19 = .ok (.pop, 1) := by decide +kernel
theorem dX5_build_20 : decode cX5_build 20 = .ok (.iconst 0, 1) := by decide +kernel
theorem dX5_build_21 : decode cX5_build 21 = .ok (.istore_n 1, 1) := by decide +kernel
theorem dX5_build_22 : decode cX5_build 22 = .ok (.iload_n 1, 1) := by decide +kernel
theorem dX5_build_23 : decode cX5_build 23 = .ok (.bipush 30, 2) := by decide +kernel
theorem dX5_build_25 : decode cX5_build 25 = .ok (.if_icmp .ge 95, 3) := by decide +kernel
theorem dX5_build_28 : decode cX5_build 28 = .ok (.iload_n 1, 1) := by decide +kernel
theorem dX5_build_29 : decode cX5_build 29 = .ok (.aload_n 0, 1) := by decide +kernel
theorem dX5_build_30 : decode cX5_build 30 = .ok (.getfield 44, 3) := by decide +kernel
theorem dX5_build_33 : decode cX5_build 33 = .ok (.if_icmp .ge 87, 3) := by decide +kernel
theorem dX5_build_36 : decode cX5_build 36 = .ok (.iconst 0, 1) := by decide +kernel
theorem dX5_build_37 : decode cX5_build 37 = .ok (.istore_n 2, 1) := by decide +kernel
theorem dX5_build_38 : decode cX5_build 38 = .ok (.iload_n 2, 1) := by decide +kernel
theorem dX5_build_39 : decode cX5_build 39 = .ok (.bipush 6, 2) := by decide +kernel
theorem dX5_build_41 : decode cX5_build 41 = .ok (.if_icmp .ge 73, 3) := by decide +kernel
theorem dX5_build_44 : decode cX5_build 44 = .ok (.iload_n 2, 1) := by decide +kernel
theorem dX5_build_45 : decode cX5_build 45 = .ok (.aload_n 0, 1) := by decide +kernel
theorem dX5_build_46 : decode cX5_build 46 = .ok (.getfield 31, 3) := by decide +kernel
theorem dX5_build_49 : decode cX5_build 49 = .ok (.invokevirtual 62, 3) := by decide +kernel
theorem dX5_build_52 : decode cX5_build 52 = .ok (.if_icmp .ge 62, 3) := by decide +kernel
theorem dX5_build_55 : decode cX5_build 55 = .ok (.aload_n 0, 1) := by decide +kernel
theorem dX5_build_56 : decode cX5_build 56 = .ok (.iload_n 1, 1) := by decide +kernel
theorem dX5_build_57 : decode cX5_build 57 = .ok (.iload_n 2, 1) := by decide +kernel
theorem dX5_build_58 : decode cX5_build 58 = .ok (.invokevirtual 67, 3) := by decide +kernel
theorem dX5_build_61 : decode cX5_build 61 = .ok (.istore_n 3, 1) := by decide +kernel
theorem dX5_build_62 : decode cX5_build 62 = .ok (.aload_n 0, 1) := by decide +kernel
theorem dX5_build_63 : decode cX5_build 63 = .ok (.iload_n 1, 1) := by decide +kernel
theorem dX5_build_64 : decode cX5_build 64 = .ok (.invokevirtual 71, 3) := by decide +kernel
theorem dX5_build_67 : decode cX5_build 67 = .ok (.aload_n 0, 1) := by decide +kernel
theorem dX5_build_68 : decode cX5_build 68 = .ok (.getfield 40, 3) := by decide +kernel
theorem dX5_build_71 : decode cX5_build 71 = .ok (.iload_n 2, 1) := by decide +kernel
theorem dX5_build_72 : decode cX5_build 72 = .ok (.iload_n 3, 1) := by decide +kernel
theorem dX5_build_73 : decode cX5_build 73 = .ok (.invokevirtual 74, 3) := by decide +kernel
theorem dX5_build_76 : decode cX5_build 76 = .ok (.aload_n 0, 1) := by decide +kernel
theorem dX5_build_77 : decode cX5_build 77 = .ok (.invokevirtual 58, 3) := by decide +kernel
theorem dX5_build_80 : decode cX5_build 80 = .ok (.istore 4, 2) := by decide +kernel
theorem dX5_build_82 : decode cX5_build 82 = .ok (.iload_n 3, 1) := by decide +kernel
theorem dX5_build_83 : decode cX5_build 83 = .ok (.iconst (-1), 1) := by decide +kernel
theorem dX5_build_84 : decode cX5_build 84 = .ok (.if_icmp .eq 9, 3) := by decide +kernel
theorem dX5_build_87 : decode cX5_build 87 = .ok (.iload 4, 2) := by decide +kernel
theorem dX5_build_89 : decode cX5_build 89 = .ok (.iconst (-1), 1) := by decide +kernel
theorem dX5_build_90 : decode cX5_build 90 = .ok (.if_icmp .ne 10, 3) := by decide +kernel
theorem dX5_build_93 : decode cX5_build 93 = .ok (.aload_n 0, 1) := by decide +kernel
theorem dX5_build_94 : decode cX5_build 94 = .ok (.iconst 0, 1) := by decide +kernel
theorem dX5_build_95 : decode cX5_build 95 = .ok (.putfield 44, 3) := by decide +kernel
theorem dX5_build_98 : decode cX5_build 98 = .ok (.iconst 0, 1) := by decide +kernel
theorem dX5_build_99 : decode cX5_build 99 = .ok (.ireturn, 1) := by decide +kernel
theorem dX5_build_100 : decode cX5_build 100 = .ok (.aload_n 0, 1) := by decide +kernel
theorem dX5_build_101 : decode cX5_build 101 = .ok (.getfield 24, 3) := by decide +kernel
theorem dX5_build_104 : decode cX5_build 104 = .ok (.iload_n 3, 1) := by decide +kernel
theorem dX5_build_105 : decode cX5_build 105 = .ok (.iload 4, 2) := by decide +kernel
theorem dX5_build_107 : decode cX5_build 107 = .ok (.iastore, 1) := by decide +kernel
theorem dX5_build_108 : decode cX5_build 108 = .ok (.iinc 2 1, 3) := by decide +kernel
theorem dX5_build_111 : decode cX5_build 111 = .ok (.goto (-73), 3) := by decide +kernel
theorem dX5_build_114 : decode cX5_build 114 = .ok (.iinc 1 1, 3) := by decide +kernel
theorem dX5_build_117 : decode cX5_build 117 = .ok (.goto (-95), 3) := by decide +kernel
theorem dX5_build_120 : decode cX5_build 120 = .ok (.aload_n 0, 1) := by decide +kernel
theorem dX5_build_121 : decode cX5_build 121 = .ok (.iconst 0, 1) := by decide +kernel
theorem dX5_build_122 : decode cX5_build 122 = .ok (.putfield 48, 3) := by decide +kernel
theorem dX5_build_125 : decode cX5_build 125 = .ok (.aload_n 0, 1) := by decide +kernel
theorem dX5_build_126 : decode cX5_build 126 = .ok (.aload_n 0, 1) := by decide +kernel
theorem dX5_build_127 : decode cX5_build 127 = .ok (.getfield 14, 3) := by decide +kernel
theorem dX5_build_130 : decode cX5_build 130 = .ok (.sipush 180, 3) := by decide +kernel
theorem dX5_build_133 : decode cX5_build 133 = .ok (.invokevirtual 77, 3) := by decide +kernel
theorem dX5_build_136 : decode cX5_build 136 = .ok (.putfield 51, 3) := by decide +kernel
theorem dX5_build_139 : decode cX5_build 139 = .ok (.iconst 1, 1) := by decide +kernel
theorem dX5_build_140 : decode cX5_build 140 = .ok (.ireturn, 1) := by decide +kernel
theorem dX5_isConfiguration_0 : decode cX5_isConfiguration 0 = .ok (.iload_n 1, 1) := by decide +kernel
theorem dX5_isConfiguration_1 : decode cX5_isConfiguration 1 = .ok (.ifCond .lt 15, 3) := by decide +kernel
theorem dX5_isConfiguration_4 : decode cX5_isConfiguration 4 = .ok (.iload_n 1, 1) := by decide +kernel
theorem dX5_isConfiguration_5 : decode cX5_isConfiguration 5 = .ok (.aload_n 0, 1) := by decide +kernel
theorem dX5_isConfiguration_6 : decode cX5_isConfiguration 6 = .ok (.getfield 44, 3) := by decide +kernel
theorem dX5_isConfiguration_9 : decode cX5_isConfiguration 9 = .ok (.if_icmp .ge 7, 3) := by decide +kernel
theorem dX5_isConfiguration_12 : decode cX5_isConfiguration 12 = .ok (.iconst 1, 1) := by decide +kernel
theorem dX5_isConfiguration_13 : decode cX5_isConfiguration 13 = .ok (.goto 4, 3) := by decide +kernel
theorem dX5_isConfiguration_16 : decode cX5_isConfiguration 16 = .ok (.iconst 0, 1) := by decide +kernel
theorem dX5_isConfiguration_17 : decode cX5_isConfiguration 17 = .ok (.ireturn, 1) := by decide +kernel
set_option maxRecDepth 20000 in
theorem ggX5_cellOf_X5_isConfiguration : GoodIn wsX5_cellOf wsX5_isConfiguration := goodIn_r _ [6, 7, 14, 15, 16, 17, 18, 19, 20, 21, 22] (by decide +kernel) (by decide +kernel)
set_option maxRecDepth 20000 in
theorem gX5_cellOf_X5_isConfiguration : GoodIn wsX5_cellOf (wsV RX5 81 RX5 yX5_isConfiguration wsX5_isConfiguration) := goodIn_app (goodIn_of _ (by decide +kernel)) ggX5_cellOf_X5_isConfiguration
set_option maxRecDepth 20000 in
theorem ggX5_cellOf_X3_isEvent : GoodIn wsX5_cellOf wsX3_isEvent := goodIn_r _ [12, 13, 23, 24, 25, 26, 27, 28, 29, 30, 31, 32] (by decide +kernel) (by decide +kernel)
set_option maxRecDepth 20000 in
theorem gX5_cellOf_X3_isEvent : GoodIn wsX5_cellOf (wsV RX5 85 RX3 yX3_isEvent wsX3_isEvent) := goodIn_app (goodIn_of _ (by decide +kernel)) ggX5_cellOf_X3_isEvent
theorem dX5_cellOf_0 : decode cX5_cellOf 0 = .ok (.aload_n 0, 1) := by decide +kernel
theorem dX5_cellOf_1 : decode cX5_cellOf 1 = .ok (.iload_n 1, 1) := by decide +kernel
theorem dX5_cellOf_2 : decode cX5_cellOf 2 = .ok (.invokevirtual 81, 3) := by decide +kernel
theorem dX5_cellOf_5 : decode cX5_cellOf 5 = .ok (.ifCond .eq 23, 3) := by decide +kernel
theorem dX5_cellOf_8 : decode cX5_cellOf 8 = .ok (.aload_n 0, 1) := by decide +kernel
theorem dX5_cellOf_9 : decode cX5_cellOf 9 = .ok (.getfield 31, 3) := by decide +kernel
theorem dX5_cellOf_12 : decode cX5_cellOf 12 = .ok (.iload_n 2, 1) := by decide +kernel
theorem dX5_cellOf_13 : decode cX5_cellOf 13 = .ok (.invokevirtual 85, 3) := by decide +kernel
theorem dX5_cellOf_16 : decode cX5_cellOf 16 = .ok (.ifCond .eq 12, 3) := by decide +kernel
theorem dX5_cellOf_19 : decode cX5_cellOf 19 = .ok (.iload_n 1, 1) := by decide +kernel
theorem dX5_cellOf_20 : decode cX5_cellOf 20 = .ok (.bipush 6, 2) := by decide +kernel
theorem dX5_cellOf_22 : decode cX5_cellOf 22 = .ok (.imul, 1) := by decide +kernel
theorem dX5_cellOf_23 : decode cX5_cellOf 23 = .ok (.iload_n 2, 1) := by decide +kernel
theorem dX5_cellOf_24 : decode cX5_cellOf 24 = .ok (.iadd, 1) := by decide +kernel
theorem dX5_cellOf_25 : decode cX5_cellOf 25 = .ok (.goto 4, 3) := by decide +kernel
theorem dX5_cellOf_28 : decode cX5_cellOf 28 = .ok (.iconst (-1), 1) := by decide +kernel
theorem dX5_cellOf_29 : decode cX5_cellOf 29 = .ok (.ireturn, 1) := by decide +kernel
set_option maxRecDepth 20000 in
theorem ggX5_setWalk_X5_currentChild : GoodIn wsX5_setWalk wsX5_currentChild := goodIn_r _ [6, 7, 8, 9, 10, 11, 5, 12, 13, 14, 15, 16, 17, 18, 19, 26, 27, 28, 29, 30, 31, 32, 33, 34, 35, 36, 37, 38, 39, 40, 41, 42, 43] (by decide +kernel) (by decide +kernel)
set_option maxRecDepth 20000 in
theorem gX5_setWalk_X5_currentChild : GoodIn wsX5_setWalk (wsV RX5 88 RX5 yX5_currentChild wsX5_currentChild) := goodIn_app (goodIn_of _ (by decide +kernel)) ggX5_setWalk_X5_currentChild
set_option maxRecDepth 20000 in
theorem ggX5_setWalk_X6_makeCurrent : GoodIn wsX5_setWalk wsX6_makeCurrent := goodIn_r _ [24, 25, 44, 45, 46, 47, 48] (by decide +kernel) (by decide +kernel)
set_option maxRecDepth 20000 in
theorem gX5_setWalk_X6_makeCurrent : GoodIn wsX5_setWalk (wsV RX5 91 RX6 yX6_makeCurrent wsX6_makeCurrent) := goodIn_app (goodIn_of _ (by decide +kernel)) ggX5_setWalk_X6_makeCurrent
theorem dX5_setWalk_0 : decode cX5_setWalk 0 = .ok (.iconst 0, 1) := by decide +kernel
theorem dX5_setWalk_1 : decode cX5_setWalk 1 = .ok (.istore_n 2, 1) := by decide +kernel
theorem dX5_setWalk_2 : decode cX5_setWalk 2 = .ok (.iload_n 2, 1) := by decide +kernel
theorem dX5_setWalk_3 : decode cX5_setWalk 3 = .ok (.bipush 14, 2) := by decide +kernel
theorem dX5_setWalk_5 : decode cX5_setWalk 5 = .ok (.if_icmp .ge 23, 3) := by decide +kernel
theorem dX5_setWalk_8 : decode cX5_setWalk 8 = .ok (.aload_n 0, 1) := by decide +kernel
theorem dX5_setWalk_9 : decode cX5_setWalk 9 = .ok (.getfield 40, 3) := by decide +kernel
theorem dX5_setWalk_12 : decode cX5_setWalk 12 = .ok (.iload_n 2, 1) := by decide +kernel
theorem dX5_setWalk_13 : decode cX5_setWalk 13 = .ok (.aload_n 0, 1) := by decide +kernel
theorem dX5_setWalk_14 : decode cX5_setWalk 14 = .ok (.iload_n 1, 1) := by decide +kernel
theorem dX5_setWalk_15 : decode cX5_setWalk 15 = .ok (.iload_n 2, 1) := by decide +kernel
theorem dX5_setWalk_16 : decode cX5_setWalk 16 = .ok (.invokevirtual 88, 3) := by decide +kernel
theorem dX5_setWalk_19 : decode cX5_setWalk 19 = .ok (.invokevirtual 91, 3) := by decide +kernel
theorem dX5_setWalk_22 : decode cX5_setWalk 22 = .ok (.iinc 2 1, 3) := by decide +kernel
theorem dX5_setWalk_25 : decode cX5_setWalk 25 = .ok (.goto (-23), 3) := by decide +kernel
theorem dX5_setWalk_28 : decode cX5_setWalk 28 = .ok (.return_, 1) := by decide +kernel
set_option maxRecDepth 20000 in
theorem ggX5_isWalk_X5_currentChild : GoodIn wsX5_isWalk wsX5_currentChild := goodIn_r _ [6, 7, 8, 9, 10, 11, 5, 12, 13, 14, 15, 16, 17, 18, 19, 26, 27, 28, 29, 30, 31, 32, 33, 34, 35, 36, 37, 38, 39, 40, 41, 42, 43] (by decide +kernel) (by decide +kernel)
set_option maxRecDepth 20000 in
theorem gX5_isWalk_X5_currentChild : GoodIn wsX5_isWalk (wsV RX5 88 RX5 yX5_currentChild wsX5_currentChild) := goodIn_app (goodIn_of _ (by decide +kernel)) ggX5_isWalk_X5_currentChild
set_option maxRecDepth 20000 in
theorem ggX5_isWalk_X6_currentChild : GoodIn wsX5_isWalk wsX6_currentChild := goodIn_r _ [24, 25, 44, 45, 46, 47, 48] (by decide +kernel) (by decide +kernel)
set_option maxRecDepth 20000 in
theorem gX5_isWalk_X6_currentChild : GoodIn wsX5_isWalk (wsV RX5 94 RX6 yX6_currentChild wsX6_currentChild) := goodIn_app (goodIn_of _ (by decide +kernel)) ggX5_isWalk_X6_currentChild
theorem dX5_isWalk_0 : decode cX5_isWalk 0 = .ok (.iconst 0, 1) := by decide +kernel
theorem dX5_isWalk_1 : decode cX5_isWalk 1 = .ok (.istore_n 2, 1) := by decide +kernel
theorem dX5_isWalk_2 : decode cX5_isWalk 2 = .ok (.iload_n 2, 1) := by decide +kernel
theorem dX5_isWalk_3 : decode cX5_isWalk 3 = .ok (.bipush 14, 2) := by decide +kernel
theorem dX5_isWalk_5 : decode cX5_isWalk 5 = .ok (.if_icmp .ge 28, 3) := by decide +kernel
theorem dX5_isWalk_8 : decode cX5_isWalk 8 = .ok (.aload_n 0, 1) := by decide +kernel
theorem dX5_isWalk_9 : decode cX5_isWalk 9 = .ok (.iload_n 1, 1) := by decide +kernel
theorem dX5_isWalk_10 : decode cX5_isWalk 10 = .ok (.iload_n 2, 1) := by decide +kernel
theorem dX5_isWalk_11 : decode cX5_isWalk 11 = .ok (.invokevirtual 88, 3) := by decide +kernel
theorem dX5_isWalk_14 : decode cX5_isWalk 14 = .ok (.aload_n 0, 1) := by decide +kernel
theorem dX5_isWalk_15 : decode cX5_isWalk 15 = .ok (.getfield 40, 3) := by decide +kernel
theorem dX5_isWalk_18 : decode cX5_isWalk 18 = .ok (.iload_n 2, 1) := by decide +kernel
theorem dX5_isWalk_19 : decode cX5_isWalk 19 = .ok (.invokevirtual 94, 3) := by decide +kernel
theorem dX5_isWalk_22 : decode cX5_isWalk 22 = .ok (.if_icmp .eq 5, 3) := by decide +kernel
theorem dX5_isWalk_25 : decode cX5_isWalk 25 = .ok (.iconst 0, 1) := by decide +kernel
theorem dX5_isWalk_26 : decode cX5_isWalk 26 = .ok (.ireturn, 1) := by decide +kernel
theorem dX5_isWalk_27 : decode cX5_isWalk 27 = .ok (.iinc 2 1, 3) := by decide +kernel
theorem dX5_isWalk_30 : decode cX5_isWalk 30 = .ok (.goto (-28), 3) := by decide +kernel
theorem dX5_isWalk_33 : decode cX5_isWalk 33 = .ok (.iconst 1, 1) := by decide +kernel
theorem dX5_isWalk_34 : decode cX5_isWalk 34 = .ok (.ireturn, 1) := by decide +kernel
set_option maxRecDepth 20000 in
theorem ggX5_numberOfWalk_X5_isWalk : GoodIn wsX5_numberOfWalk wsX5_isWalk := goodIn_r _ [8, 3, 9, 10, 11, 7, 12, 13, 2, 14, 15, 16, 17, 1, 18, 19, 20, 21, 22, 23, 24, 25, 26, 27, 28, 29, 30, 31, 32, 33, 34, 35, 36, 37, 38, 39, 40, 41, 42, 43, 44, 45, 46, 47, 48, 49, 50, 51, 52] (by decide +kernel) (by decide +kernel)
set_option maxRecDepth 20000 in
theorem gX5_numberOfWalk_X5_isWalk : GoodIn wsX5_numberOfWalk (wsV RX5 96 RX5 yX5_isWalk wsX5_isWalk) := goodIn_app (goodIn_of _ (by decide +kernel)) ggX5_numberOfWalk_X5_isWalk
set_option maxRecDepth 20000 in
theorem ggX5_numberOfWalk_X6_currentChild : GoodIn wsX5_numberOfWalk wsX6_currentChild := goodIn_r _ [28, 29, 48, 49, 50, 51, 52] (by decide +kernel) (by decide +kernel)
set_option maxRecDepth 20000 in
theorem gX5_numberOfWalk_X6_currentChild : GoodIn wsX5_numberOfWalk (wsV RX5 94 RX6 yX6_currentChild wsX6_currentChild) := goodIn_app (goodIn_of _ (by decide +kernel)) ggX5_numberOfWalk_X6_currentChild
theorem dX5_numberOfWalk_0 : decode cX5_numberOfWalk 0 = .ok (.iconst 0, 1) := by decide +kernel
theorem dX5_numberOfWalk_1 : decode cX5_numberOfWalk 1 = .ok (.istore_n 1, 1) := by decide +kernel
theorem dX5_numberOfWalk_2 : decode cX5_numberOfWalk 2 = .ok (.iload_n 1, 1) := by decide +kernel
theorem dX5_numberOfWalk_3 : decode cX5_numberOfWalk 3 = .ok (.aload_n 0, 1) := by decide +kernel
theorem dX5_numberOfWalk_4 : decode cX5_numberOfWalk 4 = .ok (.getfield 44, 3) := by decide +kernel
theorem dX5_numberOfWalk_7 : decode cX5_numberOfWalk 7 = .ok (.if_icmp .ge 19, 3) := by decide +kernel
theorem dX5_numberOfWalk_10 : decode cX5_numberOfWalk 10 = .ok (.aload_n 0, 1) := by decide +kernel
theorem dX5_numberOfWalk_11 : decode cX5_numberOfWalk 11 = .ok (.iload_n 1, 1) := by decide +kernel
theorem dX5_numberOfWalk_12 : decode cX5_numberOfWalk 12 = .ok (.invokevirtual 96, 3) := by decide +kernel
theorem dX5_numberOfWalk_15 : decode cX5_numberOfWalk 15 = .ok (.ifCond .eq 5, 3) := by decide +kernel
theorem dX5_numberOfWalk_18 : decode cX5_numberOfWalk 18 = .ok (.iload_n 1, 1) := by decide +kernel
theorem dX5_numberOfWalk_19 : decode cX5_numberOfWalk 19 = .ok (.ireturn, 1) := by decide +kernel
theorem dX5_numberOfWalk_20 : decode cX5_numberOfWalk 20 = .ok (.iinc 1 1, 3) := by decide +kernel
theorem dX5_numberOfWalk_23 : decode cX5_numberOfWalk 23 = .ok (.goto (-21), 3) := by decide +kernel
theorem dX5_numberOfWalk_26 : decode cX5_numberOfWalk 26 = .ok (.aload_n 0, 1) := by decide +kernel
theorem dX5_numberOfWalk_27 : decode cX5_numberOfWalk 27 = .ok (.getfield 44, 3) := by decide +kernel
theorem dX5_numberOfWalk_30 : decode cX5_numberOfWalk 30 = .ok (.bipush 30, 2) := by decide +kernel
theorem dX5_numberOfWalk_32 : decode cX5_numberOfWalk 32 = .ok (.if_icmp .lt 5, 3) := by decide +kernel
theorem dX5_numberOfWalk_35 : decode cX5_numberOfWalk 35 = .ok (.iconst (-1), 1) := by decide +kernel
theorem dX5_numberOfWalk_36 : decode cX5_numberOfWalk 36 = .ok (.ireturn, 1) := by decide +kernel
theorem dX5_numberOfWalk_37 : decode cX5_numberOfWalk 37 = .ok (.iconst 0, 1) := by decide +kernel
theorem dX5_numberOfWalk_38 : decode cX5_numberOfWalk 38 = .ok (.istore_n 1, 1) := by decide +kernel
theorem dX5_numberOfWalk_39 : decode cX5_numberOfWalk 39 = .ok (.iload_n 1, 1) := by decide +kernel
theorem dX5_numberOfWalk_40 : decode cX5_numberOfWalk 40 = .ok (.bipush 14, 2) := by decide +kernel
theorem dX5_numberOfWalk_42 : decode cX5_numberOfWalk 42 = .ok (.if_icmp .ge 31, 3) := by decide +kernel
theorem dX5_numberOfWalk_45 : decode cX5_numberOfWalk 45 = .ok (.aload_n 0, 1) := by decide +kernel
theorem dX5_numberOfWalk_46 : decode cX5_numberOfWalk 46 = .ok (.getfield 20, 3) := by decide +kernel
theorem dX5_numberOfWalk_49 : decode cX5_numberOfWalk 49 = .ok (.aload_n 0, 1) := by decide +kernel
theorem dX5_numberOfWalk_50 : decode cX5_numberOfWalk 50 = .ok (.getfield 44, 3) := by decide +kernel
theorem dX5_numberOfWalk_53 : decode cX5_numberOfWalk 53 = .ok (.bipush 14, 2) := by decide +kernel
theorem dX5_numberOfWalk_55 : decode cX5_numberOfWalk 55 = .ok (.imul, 1) := by decide +kernel
theorem dX5_numberOfWalk_56 : decode cX5_numberOfWalk 56 = .ok (.iload_n 1, 1) := by decide +kernel
theorem dX5_numberOfWalk_57 : decode cX5_numberOfWalk 57 = .ok (.iadd, 1) := by decide +kernel
theorem dX5_numberOfWalk_58 : decode cX5_numberOfWalk 58 = .ok (.aload_n 0, 1) := by decide +kernel
theorem dX5_numberOfWalk_59 : decode cX5_numberOfWalk 59 = .ok (.getfield 40, 3) := by decide +kernel
theorem dX5_numberOfWalk_62 : decode cX5_numberOfWalk 62 = .ok (.iload_n 1, 1) := by decide +kernel
theorem dX5_numberOfWalk_63 : decode cX5_numberOfWalk 63 = .ok (.invokevirtual 94, 3) := by decide +kernel
theorem dX5_numberOfWalk_66 : decode cX5_numberOfWalk 66 = .ok (.iastore, 1) := by decide +kernel
theorem dX5_numberOfWalk_67 : decode cX5_numberOfWalk 67 = .ok (.iinc 1 1, 3) := by decide +kernel
theorem dX5_numberOfWalk_70 : decode cX5_numberOfWalk 70 = .ok (.goto (-31), 3) := by decide +kernel
theorem dX5_numberOfWalk_73 : decode cX5_numberOfWalk 73 = .ok (.aload_n 0, 1) := by decide +kernel
theorem dX5_numberOfWalk_74 : decode cX5_numberOfWalk 74 = .ok (.dup, 1) := by decide +kernel
theorem dX5_numberOfWalk_75 : decode cX5_numberOfWalk 75 = .ok (.getfield 44, 3) := by decide +kernel
theorem dX5_numberOfWalk_78 : decode cX5_numberOfWalk 78 = .ok (.iconst 1, 1) := by decide +kernel
theorem dX5_numberOfWalk_79 : decode cX5_numberOfWalk 79 = .ok (.iadd, 1) := by decide +kernel
theorem dX5_numberOfWalk_80 : decode cX5_numberOfWalk 80 = .ok (.putfield 44, 3) := by decide +kernel
theorem dX5_numberOfWalk_83 : decode cX5_numberOfWalk 83 = .ok (.aload_n 0, 1) := by decide +kernel
theorem dX5_numberOfWalk_84 : decode cX5_numberOfWalk 84 = .ok (.getfield 44, 3) := by decide +kernel
theorem dX5_numberOfWalk_87 : decode cX5_numberOfWalk 87 = .ok (.iconst 1, 1) := by decide +kernel
theorem dX5_numberOfWalk_88 : decode cX5_numberOfWalk 88 = .ok (.isub, 1) := by decide +kernel
theorem dX5_numberOfWalk_89 : decode cX5_numberOfWalk 89 = .ok (.ireturn, 1) := by decide +kernel
set_option maxRecDepth 20000 in
theorem ggX5_following_X5_cellOf : GoodIn wsX5_following wsX5_cellOf := goodIn_r _ [6, 7, 8, 9, 10, 5, 11, 12, 13, 14, 15, 16, 17, 18, 19, 20, 21, 22, 23, 24, 25, 26, 27, 28, 29, 30, 31, 32, 33, 34, 35, 36, 37] (by decide +kernel) (by decide +kernel)
set_option maxRecDepth 20000 in
theorem gX5_following_X5_cellOf : GoodIn wsX5_following (wsV RX5 67 RX5 yX5_cellOf wsX5_cellOf) := goodIn_app (goodIn_of _ (by decide +kernel)) ggX5_following_X5_cellOf
theorem dX5_following_0 : decode cX5_following 0 = .ok (.aload_n 0, 1) := by decide +kernel
theorem dX5_following_1 : decode cX5_following 1 = .ok (.iload_n 1, 1) := by decide +kernel
theorem dX5_following_2 : decode cX5_following 2 = .ok (.iload_n 2, 1) := by decide +kernel
theorem dX5_following_3 : decode cX5_following 3 = .ok (.invokevirtual 67, 3) := by decide +kernel
theorem dX5_following_6 : decode cX5_following 6 = .ok (.istore_n 3, 1) := by decide +kernel
theorem dX5_following_7 : decode cX5_following 7 = .ok (.iload_n 3, 1) := by decide +kernel
theorem dX5_following_8 : decode cX5_following 8 = .ok (.iconst (-1), 1) := by decide +kernel
theorem dX5_following_9 : decode cX5_following 9 = .ok (.if_icmp .ne 7, 3) := by decide +kernel
theorem dX5_following_12 : decode cX5_following 12 = .ok (.iconst (-1), 1) := by decide +kernel
theorem dX5_following_13 : decode cX5_following 13 = .ok (.goto 9, 3) := by decide +kernel
theorem dX5_following_16 : decode cX5_following 16 = .ok (.aload_n 0, 1) := by decide +kernel
theorem dX5_following_17 : decode cX5_following 17 = .ok (.getfield 24, 3) := by decide +kernel
theorem dX5_following_20 : decode cX5_following 20 = .ok (.iload_n 3, 1) := by decide +kernel
theorem dX5_following_21 : decode cX5_following 21 = .ok (.iaload, 1) := by decide +kernel
theorem dX5_following_22 : decode cX5_following 22 = .ok (.ireturn, 1) := by decide +kernel
set_option maxRecDepth 20000 in
theorem ggX5_traceLetter_X5_cellOf : GoodIn wsX5_traceLetter wsX5_cellOf := goodIn_r _ [7, 8, 9, 10, 11, 6, 12, 1, 13, 14, 15, 16, 17, 18, 36, 37, 38, 39, 40, 41, 42, 43, 44, 45, 46, 47, 48, 49, 50, 51, 52, 53, 54] (by decide +kernel) (by decide +kernel)
set_option maxRecDepth 20000 in
theorem gX5_traceLetter_X5_cellOf : GoodIn wsX5_traceLetter (wsV RX5 67 RX5 yX5_cellOf wsX5_cellOf) := goodIn_app (goodIn_of _ (by decide +kernel)) ggX5_traceLetter_X5_cellOf
set_option maxRecDepth 20000 in
theorem ggX5_traceLetter_X1_letterAt : GoodIn wsX5_traceLetter wsX1_letterAt := goodIn_r _ [23, 24, 25, 26, 27, 28, 22, 29, 30, 31, 32, 33, 34, 35, 55, 56, 57, 58] (by decide +kernel) (by decide +kernel)
set_option maxRecDepth 20000 in
theorem gX5_traceLetter_X1_letterAt : GoodIn wsX5_traceLetter (wsV RX5 99 RX1 yX1_letterAt wsX1_letterAt) := goodIn_app (goodIn_of _ (by decide +kernel)) ggX5_traceLetter_X1_letterAt
theorem dX5_traceLetter_0 : decode cX5_traceLetter 0 = .ok (.aload_n 0, 1) := by decide +kernel
theorem dX5_traceLetter_1 : decode cX5_traceLetter 1 = .ok (.getfield 44, 3) := by decide +kernel
theorem dX5_traceLetter_4 : decode cX5_traceLetter 4 = .ok (.ifCond .le 16, 3) := by decide +kernel
theorem dX5_traceLetter_7 : decode cX5_traceLetter 7 = .ok (.iload_n 1, 1) := by decide +kernel
theorem dX5_traceLetter_8 : decode cX5_traceLetter 8 = .ok (.ifCond .ne 12, 3) := by decide +kernel
theorem dX5_traceLetter_11 : decode cX5_traceLetter 11 = .ok (.iload_n 2, 1) := by decide +kernel
theorem dX5_traceLetter_12 : decode cX5_traceLetter 12 = .ok (.iconst (-1), 1) := by decide +kernel
theorem dX5_traceLetter_13 : decode cX5_traceLetter 13 = .ok (.if_icmp .ne 7, 3) := by decide +kernel
theorem dX5_traceLetter_16 : decode cX5_traceLetter 16 = .ok (.iconst 1, 1) := by decide +kernel
theorem dX5_traceLetter_17 : decode cX5_traceLetter 17 = .ok (.goto 4, 3) := by decide +kernel
theorem dX5_traceLetter_20 : decode cX5_traceLetter 20 = .ok (.iconst 0, 1) := by decide +kernel
theorem dX5_traceLetter_21 : decode cX5_traceLetter 21 = .ok (.istore 4, 2) := by decide +kernel
theorem dX5_traceLetter_23 : decode cX5_traceLetter 23 = .ok (.aload_n 0, 1) := by decide +kernel
theorem dX5_traceLetter_24 : decode cX5_traceLetter 24 = .ok (.getfield 14, 3) := by decide +kernel
theorem dX5_traceLetter_27 : decode cX5_traceLetter 27 = .ok (.iload 4, 2) := by decide +kernel
theorem dX5_traceLetter_29 : decode cX5_traceLetter 29 = .ok (.ifCond .eq 9, 3) := by decide +kernel
theorem dX5_traceLetter_32 : decode cX5_traceLetter 32 = .ok (.sipush 180, 3) := by decide +kernel
theorem dX5_traceLetter_35 : decode cX5_traceLetter 35 = .ok (.goto 9, 3) := by decide +kernel
theorem dX5_traceLetter_38 : decode cX5_traceLetter 38 = .ok (.aload_n 0, 1) := by decide +kernel
theorem dX5_traceLetter_39 : decode cX5_traceLetter 39 = .ok (.iload_n 1, 1) := by decide +kernel
theorem dX5_traceLetter_40 : decode cX5_traceLetter 40 = .ok (.iload_n 2, 1) := by decide +kernel
theorem dX5_traceLetter_41 : decode cX5_traceLetter 41 = .ok (.invokevirtual 67, 3) := by decide +kernel
theorem dX5_traceLetter_44 : decode cX5_traceLetter 44 = .ok (.iload_n 3, 1) := by decide +kernel
theorem dX5_traceLetter_45 : decode cX5_traceLetter 45 = .ok (.invokevirtual 99, 3) := by decide +kernel
theorem dX5_traceLetter_48 : decode cX5_traceLetter 48 = .ok (.ireturn, 1) := by decide +kernel
set_option maxRecDepth 20000 in
theorem ggX5_isActive_X5_isConfiguration : GoodIn wsX5_isActive wsX5_isConfiguration := goodIn_r _ [7, 8, 50, 51, 52, 53, 54, 55, 56, 57, 58] (by decide +kernel) (by decide +kernel)
set_option maxRecDepth 20000 in
theorem gX5_isActive_X5_isConfiguration : GoodIn wsX5_isActive (wsV RX5 81 RX5 yX5_isConfiguration wsX5_isConfiguration) := goodIn_app (goodIn_of _ (by decide +kernel)) ggX5_isActive_X5_isConfiguration
set_option maxRecDepth 20000 in
theorem ggX5_isActive_X4_isState : GoodIn wsX5_isActive wsX4_isState := goodIn_r _ [13, 14, 59, 60, 61, 62, 63, 64, 65, 66, 67] (by decide +kernel) (by decide +kernel)
set_option maxRecDepth 20000 in
theorem gX5_isActive_X4_isState : GoodIn wsX5_isActive (wsV RX5 102 RX4 yX4_isState wsX4_isState) := goodIn_app (goodIn_of _ (by decide +kernel)) ggX5_isActive_X4_isState
set_option maxRecDepth 20000 in
theorem ggX5_isActive_X5_setWalk : GoodIn wsX5_isActive wsX5_setWalk := goodIn_r _ [18, 2, 19, 20, 21, 6, 22, 1, 23, 3, 4, 5, 7, 8, 9, 10, 11, 12, 13, 14, 24, 25, 26, 27, 28, 29, 50, 51, 52, 53, 54, 55, 56, 57, 58, 59, 60, 61, 62, 63, 64, 65, 66, 67, 68, 69, 70, 71, 72] (by decide +kernel) (by decide +kernel)
set_option maxRecDepth 20000 in
theorem gX5_isActive_X5_setWalk : GoodIn wsX5_isActive (wsV RX5 71 RX5 yX5_setWalk wsX5_setWalk) := goodIn_app (goodIn_of _ (by decide +kernel)) ggX5_isActive_X5_setWalk
set_option maxRecDepth 20000 in
theorem ggX5_isActive_X6_isActive : GoodIn wsX5_isActive wsX6_isActive := goodIn_r _ [33, 34, 35, 36, 37, 12, 38, 39, 40, 10, 11, 13, 14, 41, 42, 43, 44, 45, 46, 47, 48, 27, 49, 29, 68, 69, 70, 71, 72, 59, 60, 61, 62, 63, 64, 65, 66, 67] (by decide +kernel) (by decide +kernel)
set_option maxRecDepth 20000 in
theorem gX5_isActive_X6_isActive : GoodIn wsX5_isActive (wsV RX5 107 RX6 yX6_isActive wsX6_isActive) := goodIn_app (goodIn_of _ (by decide +kernel)) ggX5_isActive_X6_isActive
theorem dX5_isActive_0 : decode cX5_isActive 0 = .ok (.aload_n 0, 1) := by decide +kernel
theorem dX5_isActive_1 : decode cX5_isActive 1 = .ok (.iload_n 1, 1) := by decide +kernel
theorem dX5_isActive_2 : decode cX5_isActive 2 = .ok (.invokevirtual 81, 3) := by decide +kernel
theorem dX5_isActive_5 : decode cX5_isActive 5 = .ok (.ifCond .eq 14, 3) := by decide +kernel
theorem dX5_isActive_8 : decode cX5_isActive 8 = .ok (.aload_n 0, 1) := by decide +kernel
theorem dX5_isActive_9 : decode cX5_isActive 9 = .ok (.getfield 27, 3) := by decide +kernel
theorem dX5_isActive_12 : decode cX5_isActive 12 = .ok (.iload_n 2, 1) := by decide +kernel
theorem dX5_isActive_13 : decode cX5_isActive 13 = .ok (.invokevirtual 102, 3) := by decide +kernel
theorem dX5_isActive_16 : decode cX5_isActive 16 = .ok (.ifCond .ne 5, 3) := by decide +kernel
theorem dX5_isActive_19 : decode cX5_isActive 19 = .ok (.iconst 0, 1) := by decide +kernel
theorem dX5_isActive_20 : decode cX5_isActive 20 = .ok (.ireturn, 1) := by decide +kernel
theorem dX5_isActive_21 : decode cX5_isActive 21 = .ok (.aload_n 0, 1) := by decide +kernel
theorem dX5_isActive_22 : decode cX5_isActive 22 = .ok (.iload_n 1, 1) := by decide +kernel
theorem dX5_isActive_23 : decode cX5_isActive 23 = .ok (.invokevirtual 71, 3) := by decide +kernel
theorem dX5_isActive_26 : decode cX5_isActive 26 = .ok (.aload_n 0, 1) := by decide +kernel
theorem dX5_isActive_27 : decode cX5_isActive 27 = .ok (.getfield 40, 3) := by decide +kernel
theorem dX5_isActive_30 : decode cX5_isActive 30 = .ok (.iload_n 2, 1) := by decide +kernel
theorem dX5_isActive_31 : decode cX5_isActive 31 = .ok (.invokevirtual 107, 3) := by decide +kernel
theorem dX5_isActive_34 : decode cX5_isActive 34 = .ok (.ireturn, 1) := by decide +kernel
set_option maxRecDepth 20000 in
theorem ggX5_currentChild_X5_isConfiguration : GoodIn wsX5_currentChild wsX5_isConfiguration := goodIn_r _ [7, 8, 15, 16, 17, 18, 19, 20, 21, 22, 23] (by decide +kernel) (by decide +kernel)
set_option maxRecDepth 20000 in
theorem gX5_currentChild_X5_isConfiguration : GoodIn wsX5_currentChild (wsV RX5 81 RX5 yX5_isConfiguration wsX5_isConfiguration) := goodIn_app (goodIn_of _ (by decide +kernel)) ggX5_currentChild_X5_isConfiguration
set_option maxRecDepth 20000 in
theorem ggX5_currentChild_X4_isState : GoodIn wsX5_currentChild wsX4_isState := goodIn_r _ [13, 14, 24, 25, 26, 27, 28, 29, 30, 31, 32] (by decide +kernel) (by decide +kernel)
set_option maxRecDepth 20000 in
theorem gX5_currentChild_X4_isState : GoodIn wsX5_currentChild (wsV RX5 102 RX4 yX4_isState wsX4_isState) := goodIn_app (goodIn_of _ (by decide +kernel)) ggX5_currentChild_X4_isState
theorem dX5_currentChild_0 : decode cX5_currentChild 0 = .ok (.aload_n 0, 1) := by decide +kernel
theorem dX5_currentChild_1 : decode cX5_currentChild 1 = .ok (.iload_n 1, 1) := by decide +kernel
theorem dX5_currentChild_2 : decode cX5_currentChild 2 = .ok (.invokevirtual 81, 3) := by decide +kernel
theorem dX5_currentChild_5 : decode cX5_currentChild 5 = .ok (.ifCond .eq 28, 3) := by decide +kernel
theorem dX5_currentChild_8 : decode cX5_currentChild 8 = .ok (.aload_n 0, 1) := by decide +kernel
theorem dX5_currentChild_9 : decode cX5_currentChild 9 = .ok (.getfield 27, 3) := by decide +kernel
theorem dX5_currentChild_12 : decode cX5_currentChild 12 = .ok (.iload_n 2, 1) := by decide +kernel
theorem dX5_currentChild_13 : decode cX5_currentChild 13 = .ok (.invokevirtual 102, 3) := by decide +kernel
theorem dX5_currentChild_16 : decode cX5_currentChild 16 = .ok (.ifCond .eq 17, 3) := by decide +kernel
theorem dX5_currentChild_19 : decode cX5_currentChild 19 = .ok (.aload_n 0, 1) := by decide +kernel
theorem dX5_currentChild_20 : decode cX5_currentChild 20 = .ok (.getfield 20, 3) := by decide +kernel
theorem dX5_currentChild_23 : decode cX5_currentChild 23 = .ok (.iload_n 1, 1) := by decide +kernel
theorem dX5_currentChild_24 : decode cX5_currentChild 24 = .ok (.bipush 14, 2) := by decide +kernel
theorem dX5_currentChild_26 : decode cX5_currentChild 26 = .ok (.imul, 1) := by decide +kernel
theorem dX5_currentChild_27 : decode cX5_currentChild 27 = .ok (.iload_n 2, 1) := by decide +kernel
theorem dX5_currentChild_28 : decode cX5_currentChild 28 = .ok (.iadd, 1) := by decide +kernel
theorem dX5_currentChild_29 : decode cX5_currentChild 29 = .ok (.iaload, 1) := by decide +kernel
theorem dX5_currentChild_30 : decode cX5_currentChild 30 = .ok (.goto 4, 3) := by decide +kernel
theorem dX5_currentChild_33 : decode cX5_currentChild 33 = .ok (.iconst (-1), 1) := by decide +kernel
theorem dX5_currentChild_34 : decode cX5_currentChild 34 = .ok (.ireturn, 1) := by decide +kernel
set_option maxRecDepth 20000 in
theorem ggX5_step_X5_cellOf : GoodIn wsX5_step wsX5_cellOf := goodIn_r _ [9, 10, 11, 12, 13, 8, 14, 15, 16, 17, 18, 19, 20, 21, 33, 34, 35, 36, 37, 38, 39, 40, 41, 42, 43, 44, 45, 46, 47, 48, 49, 50, 51] (by decide +kernel) (by decide +kernel)
set_option maxRecDepth 20000 in
theorem gX5_step_X5_cellOf : GoodIn wsX5_step (wsV RX5 67 RX5 yX5_cellOf wsX5_cellOf) := goodIn_app (goodIn_of _ (by decide +kernel)) ggX5_step_X5_cellOf
set_option maxRecDepth 20000 in
theorem ggX5_step_X1_sizeOf : GoodIn wsX5_step wsX1_sizeOf := goodIn_r _ [26, 27, 28, 29, 30, 25, 31, 32, 52, 53, 54, 55] (by decide +kernel) (by decide +kernel)
set_option maxRecDepth 20000 in
theorem gX5_step_X1_sizeOf : GoodIn wsX5_step (wsV RX5 77 RX1 yX1_sizeOf wsX1_sizeOf) := goodIn_app (goodIn_of _ (by decide +kernel)) ggX5_step_X1_sizeOf
theorem dX5_step_0 : decode cX5_step 0 = .ok (.aload_n 0, 1) := by decide +kernel
theorem dX5_step_1 : decode cX5_step 1 = .ok (.aload_n 0, 1) := by decide +kernel
theorem dX5_step_2 : decode cX5_step 2 = .ok (.getfield 48, 3) := by decide +kernel
theorem dX5_step_5 : decode cX5_step 5 = .ok (.iload_n 1, 1) := by decide +kernel
theorem dX5_step_6 : decode cX5_step 6 = .ok (.invokevirtual 67, 3) := by decide +kernel
theorem dX5_step_9 : decode cX5_step 9 = .ok (.istore_n 2, 1) := by decide +kernel
theorem dX5_step_10 : decode cX5_step 10 = .ok (.iload_n 2, 1) := by decide +kernel
theorem dX5_step_11 : decode cX5_step 11 = .ok (.iconst (-1), 1) := by decide +kernel
theorem dX5_step_12 : decode cX5_step 12 = .ok (.if_icmp .eq 30, 3) := by decide +kernel
theorem dX5_step_15 : decode cX5_step 15 = .ok (.aload_n 0, 1) := by decide +kernel
theorem dX5_step_16 : decode cX5_step 16 = .ok (.aload_n 0, 1) := by decide +kernel
theorem dX5_step_17 : decode cX5_step 17 = .ok (.getfield 24, 3) := by decide +kernel
theorem dX5_step_20 : decode cX5_step 20 = .ok (.iload_n 2, 1) := by decide +kernel
theorem dX5_step_21 : decode cX5_step 21 = .ok (.iaload, 1) := by decide +kernel
theorem dX5_step_22 : decode cX5_step 22 = .ok (.putfield 48, 3) := by decide +kernel
theorem dX5_step_25 : decode cX5_step 25 = .ok (.aload_n 0, 1) := by decide +kernel
theorem dX5_step_26 : decode cX5_step 26 = .ok (.dup, 1) := by decide +kernel
theorem dX5_step_27 : decode cX5_step 27 = .ok (.getfield 51, 3) := by decide +kernel
theorem dX5_step_30 : decode cX5_step 30 = .ok (.aload_n 0, 1) := by decide +kernel
theorem dX5_step_31 : decode cX5_step 31 = .ok (.getfield 14, 3) := by decide +kernel
theorem dX5_step_34 : decode cX5_step 34 = .ok (.iload_n 2, 1) := by decide +kernel
theorem dX5_step_35 : decode cX5_step 35 = .ok (.invokevirtual 77, 3) := by decide +kernel
theorem dX5_step_38 : decode cX5_step 38 = .ok (.iadd, 1) := by decide +kernel
theorem dX5_step_39 : decode cX5_step 39 = .ok (.putfield 51, 3) := by decide +kernel
theorem dX5_step_42 : decode cX5_step 42 = .ok (.aload_n 0, 1) := by decide +kernel
theorem dX5_step_43 : decode cX5_step 43 = .ok (.getfield 48, 3) := by decide +kernel
theorem dX5_step_46 : decode cX5_step 46 = .ok (.ireturn, 1) := by decide +kernel
theorem dX6_init_0 : decode cX6_init 0 = .ok (.aload_n 0, 1) := by decide +kernel
theorem dX6_init_1 : decode cX6_init 1 = .ok (.invokespecial 3, 3) := by decide +kernel
theorem dX6_init_4 : decode cX6_init 4 = .ok (.aload_n 0, 1) := by decide +kernel
theorem dX6_init_5 : decode cX6_init 5 = .ok (.bipush 14, 2) := by decide +kernel
theorem dX6_init_7 : decode cX6_init 7 = .ok (.newarray .int, 2) := by decide +kernel
theorem dX6_init_9 : decode cX6_init 9 = .ok (.putfield 9, 3) := by decide +kernel
theorem dX6_init_12 : decode cX6_init 12 = .ok (.aload_n 0, 1) := by decide +kernel
theorem dX6_init_13 : decode cX6_init 13 = .ok (.aload_n 1, 1) := by decide +kernel
theorem dX6_init_14 : decode cX6_init 14 = .ok (.putfield 15, 3) := by decide +kernel
theorem dX6_init_17 : decode cX6_init 17 = .ok (.aload_n 0, 1) := by decide +kernel
theorem dX6_init_18 : decode cX6_init 18 = .ok (.aload_n 2, 1) := by decide +kernel
theorem dX6_init_19 : decode cX6_init 19 = .ok (.putfield 19, 3) := by decide +kernel
theorem dX6_init_22 : decode cX6_init 22 = .ok (.aload_n 0, 1) := by decide +kernel
theorem dX6_init_23 : decode cX6_init 23 = .ok (.aload_n 3, 1) := by decide +kernel
theorem dX6_init_24 : decode cX6_init 24 = .ok (.putfield 23, 3) := by decide +kernel
theorem dX6_init_27 : decode cX6_init 27 = .ok (.return_, 1) := by decide +kernel
theorem dX6_currentChild_0 : decode cX6_currentChild 0 = .ok (.iload_n 1, 1) := by decide +kernel
theorem dX6_currentChild_1 : decode cX6_currentChild 1 = .ok (.ifCond .lt 18, 3) := by decide +kernel
theorem dX6_currentChild_4 : decode cX6_currentChild 4 = .ok (.iload_n 1, 1) := by decide +kernel
theorem dX6_currentChild_5 : decode cX6_currentChild 5 = .ok (.bipush 14, 2) := by decide +kernel
theorem dX6_currentChild_7 : decode cX6_currentChild 7 = .ok (.if_icmp .ge 12, 3) := by decide +kernel
theorem dX6_currentChild_10 : decode cX6_currentChild 10 = .ok (.aload_n 0, 1) := by decide +kernel
theorem dX6_currentChild_11 : decode cX6_currentChild 11 = .ok (.getfield 9, 3) := by decide +kernel
theorem dX6_currentChild_14 : decode cX6_currentChild 14 = .ok (.iload_n 1, 1) := by decide +kernel
theorem dX6_currentChild_15 : decode cX6_currentChild 15 = .ok (.iaload, 1) := by decide +kernel
theorem dX6_currentChild_16 : decode cX6_currentChild 16 = .ok (.goto 4, 3) := by decide +kernel
theorem dX6_currentChild_19 : decode cX6_currentChild 19 = .ok (.iconst (-1), 1) := by decide +kernel
theorem dX6_currentChild_20 : decode cX6_currentChild 20 = .ok (.ireturn, 1) := by decide +kernel
theorem dX6_makeCurrent_0 : decode cX6_makeCurrent 0 = .ok (.iload_n 1, 1) := by decide +kernel
theorem dX6_makeCurrent_1 : decode cX6_makeCurrent 1 = .ok (.ifCond .lt 16, 3) := by decide +kernel
theorem dX6_makeCurrent_4 : decode cX6_makeCurrent 4 = .ok (.iload_n 1, 1) := by decide +kernel
theorem dX6_makeCurrent_5 : decode cX6_makeCurrent 5 = .ok (.bipush 14, 2) := by decide +kernel
theorem dX6_makeCurrent_7 : decode cX6_makeCurrent 7 = .ok (.if_icmp .ge 10, 3) := by decide +kernel
theorem dX6_makeCurrent_10 : decode cX6_makeCurrent 10 = .ok (.aload_n 0, 1) := by decide +kernel
theorem dX6_makeCurrent_11 : decode cX6_makeCurrent 11 = .ok (.getfield 9, 3) := by decide +kernel
theorem dX6_makeCurrent_14 : decode cX6_makeCurrent 14 = .ok (.iload_n 1, 1) := by decide +kernel
theorem dX6_makeCurrent_15 : decode cX6_makeCurrent 15 = .ok (.iload_n 2, 1) := by decide +kernel
theorem dX6_makeCurrent_16 : decode cX6_makeCurrent 16 = .ok (.iastore, 1) := by decide +kernel
theorem dX6_makeCurrent_17 : decode cX6_makeCurrent 17 = .ok (.return_, 1) := by decide +kernel
set_option maxRecDepth 20000 in
theorem ggX6_start_X4_currentAtFirst : GoodIn wsX6_start wsX4_currentAtFirst := goodIn_r _ [7, 8, 9, 10, 11, 12, 6, 13, 14, 83, 84, 85, 86, 87, 88, 89, 90, 91] (by decide +kernel) (by decide +kernel)
set_option maxRecDepth 20000 in
theorem gX6_start_X4_currentAtFirst : GoodIn wsX6_start (wsV RX6 27 RX4 yX4_currentAtFirst wsX4_currentAtFirst) := goodIn_app (goodIn_of _ (by decide +kernel)) ggX6_start_X4_currentAtFirst
set_option maxRecDepth 20000 in
theorem ggX6_start_X6_noteIn : GoodIn wsX6_start wsX6_noteIn := goodIn_r _ [19, 20, 21, 22, 23, 24, 25, 26, 27, 28, 29, 30, 31, 32, 78, 79, 80, 81, 82, 92, 93, 94, 95] (by decide +kernel) (by decide +kernel)
set_option maxRecDepth 20000 in
theorem gX6_start_X6_noteIn : GoodIn wsX6_start (wsV RX6 33 RX6 yX6_noteIn wsX6_noteIn) := goodIn_app (goodIn_of _ (by decide +kernel)) ggX6_start_X6_noteIn
set_option maxRecDepth 20000 in
theorem ggX6_start_X6_enter : GoodIn wsX6_start wsX6_enter := goodIn_r _ [36, 2, 21, 20, 37, 11, 12, 6, 13, 14, 38, 39, 40, 41, 42, 43, 44, 45, 25, 46, 27, 47, 48, 49, 50, 51, 52, 28, 29, 30, 31, 32, 53, 54, 55, 56, 8, 10, 57, 58, 59, 60, 61, 62, 63, 64, 65, 33, 34, 35, 18, 66, 67, 68, 69, 70, 71, 72, 73, 1, 74, 75, 76, 77, 78, 79, 80, 81, 82, 83, 84, 85, 86, 87, 88, 89, 90, 91, 92, 93, 94, 95] (by decide +kernel) (by decide +kernel)
set_option maxRecDepth 20000 in
theorem gX6_start_X6_enter : GoodIn wsX6_start (wsV RX6 37 RX6 yX6_enter wsX6_enter) := goodIn_app (goodIn_of _ (by decide +kernel)) ggX6_start_X6_enter
theorem dX6_start_0 : decode cX6_start 0 = .ok (.iconst 0, 1) := by decide +kernel
theorem dX6_start_1 : decode cX6_start 1 = .ok (.istore_n 2, 1) := by decide +kernel
theorem dX6_start_2 : decode cX6_start 2 = .ok (.iload_n 2, 1) := by decide +kernel
theorem dX6_start_3 : decode cX6_start 3 = .ok (.bipush 14, 2) := by decide +kernel
theorem dX6_start_5 : decode cX6_start 5 = .ok (.if_icmp .ge 23, 3) := by decide +kernel
theorem dX6_start_8 : decode cX6_start 8 = .ok (.aload_n 0, 1) := by decide +kernel
theorem dX6_start_9 : decode cX6_start 9 = .ok (.getfield 9, 3) := by decide +kernel
theorem dX6_start_12 : decode cX6_start 12 = .ok (.iload_n 2, 1) := by decide +kernel
theorem dX6_start_13 : decode cX6_start 13 = .ok (.aload_n 0, 1) := by decide +kernel
theorem dX6_start_14 : decode cX6_start 14 = .ok (.getfield 15, 3) := by decide +kernel
theorem dX6_start_17 : decode cX6_start 17 = .ok (.iload_n 2, 1) := by decide +kernel
theorem dX6_start_18 : decode cX6_start 18 = .ok (.invokevirtual 27, 3) := by decide +kernel
theorem dX6_start_21 : decode cX6_start 21 = .ok (.iastore, 1) := by decide +kernel
theorem dX6_start_22 : decode cX6_start 22 = .ok (.iinc 2 1, 3) := by decide +kernel
theorem dX6_start_25 : decode cX6_start 25 = .ok (.goto (-23), 3) := by decide +kernel
theorem dX6_start_28 : decode cX6_start 28 = .ok (.aload_n 0, 1) := by decide +kernel
theorem dX6_start_29 : decode cX6_start 29 = .ok (.iload_n 1, 1) := by decide +kernel
theorem dX6_start_30 : decode cX6_start 30 = .ok (.invokevirtual 33, 3) := by decide +kernel
theorem dX6_start_33 : decode cX6_start 33 = .ok (.aload_n 0, 1) := by decide +kernel
theorem dX6_start_34 : decode cX6_start 34 = .ok (.iconst 0, 1) := by decide +kernel
theorem dX6_start_35 : decode cX6_start 35 = .ok (.iconst (-1), 1) := by decide +kernel
theorem dX6_start_36 : decode cX6_start 36 = .ok (.iconst 0, 1) := by decide +kernel
theorem dX6_start_37 : decode cX6_start 37 = .ok (.invokevirtual 37, 3) := by decide +kernel
theorem dX6_start_40 : decode cX6_start 40 = .ok (.return_, 1) := by decide +kernel
set_option maxRecDepth 20000 in
theorem ggX6_receive_X6_noteIn : GoodIn wsX6_receive wsX6_noteIn := goodIn_r _ [5, 6, 7, 8, 9, 10, 11, 12, 13, 14, 15, 16, 17, 18, 157, 158, 159, 160, 161, 162, 163, 164, 165] (by decide +kernel) (by decide +kernel)
set_option maxRecDepth 20000 in
theorem gX6_receive_X6_noteIn : GoodIn wsX6_receive (wsV RX6 33 RX6 yX6_noteIn wsX6_noteIn) := goodIn_app (goodIn_of _ (by decide +kernel)) ggX6_receive_X6_noteIn
set_option maxRecDepth 20000 in
theorem ggX6_receive_X6_offer : GoodIn wsX6_receive wsX6_offer := goodIn_r _ [22, 23, 24, 25, 26, 27, 28, 29, 30, 31, 32, 33, 34, 35, 36, 37, 38, 39, 40, 41, 42, 43, 44, 45, 46, 47, 48, 19, 20, 21, 4, 49, 50, 51, 52, 53, 54, 55, 56, 57, 58, 59, 60, 61, 62, 63, 64, 65, 66, 67, 68, 69, 70, 71, 72, 73, 74, 75, 76, 77, 78, 79, 80, 81, 82, 83, 84, 85, 86, 87, 88, 89, 90, 91, 92, 7, 6, 93, 94, 95, 96, 97, 98, 99, 100, 101, 102, 103, 104, 105, 106, 107, 108, 109, 110, 111, 112, 113, 114, 115, 116, 117, 118, 119, 120, 11, 121, 13, 122, 123, 124, 14, 15, 16, 17, 18, 125, 126, 127, 128, 129, 130, 131, 132, 133, 134, 135, 136, 137, 138, 139, 140, 141, 142, 143, 144, 145, 146, 147, 148, 149, 150, 151, 152, 153, 154, 155, 156, 157, 158, 159, 160, 161, 166, 167, 168, 169, 170, 171, 172, 173, 174, 175, 176, 177, 178, 179, 180, 181, 182, 183, 184, 162, 163, 164, 165] (by decide +kernel) (by decide +kernel)
set_option maxRecDepth 20000 in
theorem gX6_receive_X6_offer : GoodIn wsX6_receive (wsV RX6 41 RX6 yX6_offer wsX6_offer) := goodIn_app (goodIn_of _ (by decide +kernel)) ggX6_receive_X6_offer
theorem dX6_receive_0 : decode cX6_receive 0 = .ok (.aload_n 0, 1) := by decide +kernel
theorem dX6_receive_1 : decode cX6_receive 1 = .ok (.iload_n 2, 1) := by decide +kernel
theorem dX6_receive_2 : decode cX6_receive 2 = .ok (.invokevirtual 33, 3) := by decide +kernel
theorem dX6_receive_5 : decode cX6_receive 5 = .ok (.aload_n 0, 1) := by decide +kernel
theorem dX6_receive_6 : decode cX6_receive 6 = .ok (.iconst 0, 1) := by decide +kernel
theorem dX6_receive_7 : decode cX6_receive 7 = .ok (.iload_n 1, 1) := by decide +kernel
theorem dX6_receive_8 : decode cX6_receive 8 = .ok (.iconst 0, 1) := by decide +kernel
theorem dX6_receive_9 : decode cX6_receive 9 = .ok (.invokevirtual 41, 3) := by decide +kernel
theorem dX6_receive_12 : decode cX6_receive 12 = .ok (.pop, 1) := by decide +kernel
theorem dX6_receive_13 : decode cX6_receive 13 = .ok (.return_, 1) := by decide +kernel
set_option maxRecDepth 20000 in
theorem ggX6_noteIn_X1_empty : GoodIn wsX6_noteIn wsX1_empty := goodIn_r _ [7, 8, 9, 10, 11, 6, 12, 13, 19, 20, 21, 22] (by decide +kernel) (by decide +kernel)
set_option maxRecDepth 20000 in
theorem gX6_noteIn_X1_empty : GoodIn wsX6_noteIn (wsV RX6 49 RX1 yX1_empty wsX1_empty) := goodIn_app (goodIn_of _ (by decide +kernel)) ggX6_noteIn_X1_empty
theorem dX6_noteIn_0 : decode cX6_noteIn 0 = .ok (.aload_n 0, 1) := by decide +kernel
theorem dX6_noteIn_1 : decode cX6_noteIn 1 = .ok (.iload_n 1, 1) := by decide +kernel
theorem dX6_noteIn_2 : decode cX6_noteIn 2 = .ok (.putfield 45, 3) := by decide +kernel
theorem dX6_noteIn_5 : decode cX6_noteIn 5 = .ok (.aload_n 0, 1) := by decide +kernel
theorem dX6_noteIn_6 : decode cX6_noteIn 6 = .ok (.getfield 23, 3) := by decide +kernel
theorem dX6_noteIn_9 : decode cX6_noteIn 9 = .ok (.aload_n 0, 1) := by decide +kernel
theorem dX6_noteIn_10 : decode cX6_noteIn 10 = .ok (.getfield 45, 3) := by decide +kernel
theorem dX6_noteIn_13 : decode cX6_noteIn 13 = .ok (.invokevirtual 49, 3) := by decide +kernel
theorem dX6_noteIn_16 : decode cX6_noteIn 16 = .ok (.return_, 1) := by decide +kernel
set_option maxRecDepth 20000 in
theorem ggX6_isActive_X4_parentOf : GoodIn wsX6_isActive wsX4_parentOf := goodIn_r _ [6, 7, 8, 9, 10, 5, 11, 12, 29, 30, 31, 32, 33, 34, 35, 36, 37] (by decide +kernel) (by decide +kernel)
set_option maxRecDepth 20000 in
theorem gX6_isActive_X4_parentOf : GoodIn wsX6_isActive (wsV RX6 54 RX4 yX4_parentOf wsX4_parentOf) := goodIn_app (goodIn_of _ (by decide +kernel)) ggX6_isActive_X4_parentOf
set_option maxRecDepth 20000 in
theorem ggX6_isActive_X4_isWhole : GoodIn wsX6_isActive wsX4_isWhole := goodIn_r _ [16, 17, 8, 9, 10, 5, 11, 12, 29, 30, 31, 32, 33, 34, 35, 36, 37] (by decide +kernel) (by decide +kernel)
set_option maxRecDepth 20000 in
theorem gX6_isActive_X4_isWhole : GoodIn wsX6_isActive (wsV RX6 57 RX4 yX4_isWhole wsX4_isWhole) := goodIn_app (goodIn_of _ (by decide +kernel)) ggX6_isActive_X4_isWhole
set_option maxRecDepth 20000 in
theorem ggX6_isActive_X6_currentChild : GoodIn wsX6_isActive wsX6_currentChild := goodIn_r _ [22, 23, 24, 25, 26, 27, 28] (by decide +kernel) (by decide +kernel)
set_option maxRecDepth 20000 in
theorem gX6_isActive_X6_currentChild : GoodIn wsX6_isActive (wsV RX6 61 RX6 yX6_currentChild wsX6_currentChild) := goodIn_app (goodIn_of _ (by decide +kernel)) ggX6_isActive_X6_currentChild
theorem dX6_isActive_0 : decode cX6_isActive 0 = .ok (.iload_n 1, 1) := by decide +kernel
theorem dX6_isActive_1 : decode cX6_isActive 1 = .ok (.istore_n 2, 1) := by decide +kernel
theorem dX6_isActive_2 : decode cX6_isActive 2 = .ok (.iconst 0, 1) := by decide +kernel
theorem dX6_isActive_3 : decode cX6_isActive 3 = .ok (.istore_n 3, 1) := by decide +kernel
theorem dX6_isActive_4 : decode cX6_isActive 4 = .ok (.iload_n 3, 1) := by decide +kernel
theorem dX6_isActive_5 : decode cX6_isActive 5 = .ok (.bipush 6, 2) := by decide +kernel
theorem dX6_isActive_7 : decode cX6_isActive 7 = .ok (.if_icmp .gt 50, 3) := by decide +kernel
theorem dX6_isActive_10 : decode cX6_isActive 10 = .ok (.iload_n 2, 1) := by decide +kernel
theorem dX6_isActive_11 : decode cX6_isActive 11 = .ok (.ifCond .le 46, 3) := by decide +kernel
theorem dX6_isActive_14 : decode cX6_isActive 14 = .ok (.aload_n 0, 1) := by decide +kernel
theorem dX6_isActive_15 : decode cX6_isActive 15 = .ok (.getfield 15, 3) := by decide +kernel
theorem dX6_isActive_18 : decode cX6_isActive 18 = .ok (.iload_n 2, 1) := by decide +kernel
theorem dX6_isActive_19 : decode cX6_isActive 19 = .ok (.invokevirtual 54, 3) := by decide +kernel
theorem dX6_isActive_22 : decode cX6_isActive 22 = .ok (.istore 4, 2) := by decide +kernel
theorem dX6_isActive_24 : decode cX6_isActive 24 = .ok (.aload_n 0, 1) := by decide +kernel
theorem dX6_isActive_25 : decode cX6_isActive 25 = .ok (.getfield 15, 3) := by decide +kernel
theorem dX6_isActive_28 : decode cX6_isActive 28 = .ok (.iload 4, 2) := by decide +kernel
theorem dX6_isActive_30 : decode cX6_isActive 30 = .ok (.invokevirtual 57, 3) := by decide +kernel
theorem dX6_isActive_33 : decode cX6_isActive 33 = .ok (.ifCond .ne 15, 3) := by decide +kernel
theorem dX6_isActive_36 : decode cX6_isActive 36 = .ok (.aload_n 0, 1) := by decide +kernel
theorem dX6_isActive_37 : decode cX6_isActive 37 = .ok (.iload 4, 2) := by decide +kernel
theorem dX6_isActive_39 : decode cX6_isActive 39 = .ok (.invokevirtual 61, 3) := by decide +kernel
theorem dX6_isActive_42 : decode cX6_isActive 42 = .ok (.iload_n 2, 1) := by decide +kernel
theorem dX6_isActive_43 : decode cX6_isActive 43 = .ok (.if_icmp .eq 5, 3) := by decide +kernel
theorem dX6_isActive_46 : decode cX6_isActive 46 = .ok (.iconst 0, 1) := by decide +kernel
theorem dX6_isActive_47 : decode cX6_isActive 47 = .ok (.ireturn, 1) := by decide +kernel
theorem dX6_isActive_48 : decode cX6_isActive 48 = .ok (.iload 4, 2) := by decide +kernel
theorem dX6_isActive_50 : decode cX6_isActive 50 = .ok (.istore_n 2, 1) := by decide +kernel
theorem dX6_isActive_51 : decode cX6_isActive 51 = .ok (.iinc 3 1, 3) := by decide +kernel
theorem dX6_isActive_54 : decode cX6_isActive 54 = .ok (.goto (-50), 3) := by decide +kernel
theorem dX6_isActive_57 : decode cX6_isActive 57 = .ok (.iload_n 2, 1) := by decide +kernel
theorem dX6_isActive_58 : decode cX6_isActive 58 = .ok (.ifCond .ne 7, 3) := by decide +kernel
theorem dX6_isActive_61 : decode cX6_isActive 61 = .ok (.iconst 1, 1) := by decide +kernel
theorem dX6_isActive_62 : decode cX6_isActive 62 = .ok (.goto 4, 3) := by decide +kernel
theorem dX6_isActive_65 : decode cX6_isActive 65 = .ok (.iconst 0, 1) := by decide +kernel
theorem dX6_isActive_66 : decode cX6_isActive 66 = .ok (.ireturn, 1) := by decide +kernel
set_option maxRecDepth 20000 in
theorem ggX6_enter_X4_isState : GoodIn wsX6_enter wsX4_isState := goodIn_r _ [8, 9, 69, 70, 71, 72, 73, 74, 75, 76, 77] (by decide +kernel) (by decide +kernel)
set_option maxRecDepth 20000 in
theorem gX6_enter_X4_isState : GoodIn wsX6_enter (wsV RX6 64 RX4 yX4_isState wsX4_isState) := goodIn_app (goodIn_of _ (by decide +kernel)) ggX6_enter_X4_isState
set_option maxRecDepth 20000 in
theorem ggX6_enter_X4_entering : GoodIn wsX6_enter wsX4_entering := goodIn_r _ [13, 14, 69, 70, 71, 72, 73, 74, 75, 76, 77] (by decide +kernel) (by decide +kernel)
set_option maxRecDepth 20000 in
theorem gX6_enter_X4_entering : GoodIn wsX6_enter (wsV RX6 67 RX4 yX4_entering wsX4_entering) := goodIn_app (goodIn_of _ (by decide +kernel)) ggX6_enter_X4_entering
set_option maxRecDepth 20000 in
theorem ggX6_enter_X1_addRow : GoodIn wsX6_enter wsX1_addRow := goodIn_r _ [19, 20, 21, 22, 23, 24, 25, 26, 27, 28, 29, 18, 30, 31, 78, 79, 80, 81] (by decide +kernel) (by decide +kernel)
set_option maxRecDepth 20000 in
theorem gX6_enter_X1_addRow : GoodIn wsX6_enter (wsV RX6 71 RX1 yX1_addRow wsX1_addRow) := goodIn_app (goodIn_of _ (by decide +kernel)) ggX6_enter_X1_addRow
set_option maxRecDepth 20000 in
theorem ggX6_enter_X4_isWhole : GoodIn wsX6_enter wsX4_isWhole := goodIn_r _ [35, 36, 37, 5, 6, 7, 8, 9, 69, 70, 71, 72, 73, 74, 75, 76, 77] (by decide +kernel) (by decide +kernel)
set_option maxRecDepth 20000 in
theorem gX6_enter_X4_isWhole : GoodIn wsX6_enter (wsV RX6 57 RX4 yX4_isWhole wsX4_isWhole) := goodIn_app (goodIn_of _ (by decide +kernel)) ggX6_enter_X4_isWhole
set_option maxRecDepth 20000 in
theorem ggX6_enter_X4_made : GoodIn wsX6_enter wsX4_made := goodIn_r _ [41, 9, 69, 70, 71, 72, 73, 74, 75, 76, 77] (by decide +kernel) (by decide +kernel)
set_option maxRecDepth 20000 in
theorem gX6_enter_X4_made : GoodIn wsX6_enter (wsV RX6 75 RX4 yX4_made wsX4_made) := goodIn_app (goodIn_of _ (by decide +kernel)) ggX6_enter_X4_made
set_option maxRecDepth 20000 in
theorem ggX6_enter_X4_parentOf : GoodIn wsX6_enter wsX4_parentOf := goodIn_r _ [45, 46, 37, 5, 6, 7, 8, 9, 69, 70, 71, 72, 73, 74, 75, 76, 77] (by decide +kernel) (by decide +kernel)
set_option maxRecDepth 20000 in
theorem gX6_enter_X4_parentOf : GoodIn wsX6_enter (wsV RX6 54 RX4 yX4_parentOf wsX4_parentOf) := goodIn_app (goodIn_of _ (by decide +kernel)) ggX6_enter_X4_parentOf
set_option maxRecDepth 20000 in
theorem ggX6_enter_X6_enter : GoodIn wsX6_enter wsX6_enter := goodIn_r _ [0, 1, 2, 3, 4, 5, 6, 7, 8, 9, 10, 11, 12, 13, 14, 15, 16, 17, 18, 19, 20, 21, 22, 23, 24, 25, 26, 27, 28, 29, 30, 31, 32, 33, 34, 35, 36, 37, 38, 39, 40, 41, 42, 43, 44, 45, 46, 47, 48, 49, 50, 51, 52, 53, 54, 55, 56, 57, 58, 59, 60, 61, 62, 63, 64, 65, 66, 67, 68, 69, 70, 71, 72, 73, 74, 75, 76, 77, 78, 79, 80, 81] (by decide +kernel) (by decide +kernel)
set_option maxRecDepth 20000 in
theorem gX6_enter_X6_enter : GoodIn wsX6_enter (wsV RX6 37 RX6 yX6_enter wsX6_enter) := goodIn_app (goodIn_of _ (by decide +kernel)) ggX6_enter_X6_enter
set_option maxRecDepth 20000 in
theorem ggX6_enter_X4_childToward : GoodIn wsX6_enter wsX4_childToward := goodIn_r _ [54, 46, 37, 5, 6, 7, 8, 9, 69, 70, 71, 72, 73, 74, 75, 76, 77] (by decide +kernel) (by decide +kernel)
set_option maxRecDepth 20000 in
theorem gX6_enter_X4_childToward : GoodIn wsX6_enter (wsV RX6 79 RX4 yX4_childToward wsX4_childToward) := goodIn_app (goodIn_of _ (by decide +kernel)) ggX6_enter_X4_childToward
set_option maxRecDepth 20000 in
theorem ggX6_enter_X6_makeCurrent : GoodIn wsX6_enter wsX6_makeCurrent := goodIn_r _ [58, 59, 64, 65, 66, 67, 68] (by decide +kernel) (by decide +kernel)
set_option maxRecDepth 20000 in
theorem gX6_enter_X6_makeCurrent : GoodIn wsX6_enter (wsV RX6 83 RX6 yX6_makeCurrent wsX6_makeCurrent) := goodIn_app (goodIn_of _ (by decide +kernel)) ggX6_enter_X6_makeCurrent
set_option maxRecDepth 20000 in
theorem ggX6_enter_X6_currentChild : GoodIn wsX6_enter wsX6_currentChild := goodIn_r _ [63, 59, 64, 65, 66, 67, 68] (by decide +kernel) (by decide +kernel)
set_option maxRecDepth 20000 in
theorem gX6_enter_X6_currentChild : GoodIn wsX6_enter (wsV RX6 61 RX6 yX6_currentChild wsX6_currentChild) := goodIn_app (goodIn_of _ (by decide +kernel)) ggX6_enter_X6_currentChild
theorem dX6_enter_0 : decode cX6_enter 0 = .ok (.aload_n 0, 1) := by decide +kernel
theorem dX6_enter_1 : decode cX6_enter 1 = .ok (.getfield 15, 3) := by decide +kernel
theorem dX6_enter_4 : decode cX6_enter 4 = .ok (.iload_n 1, 1) := by decide +kernel
theorem dX6_enter_5 : decode cX6_enter 5 = .ok (.invokevirtual 64, 3) := by decide +kernel
theorem dX6_enter_8 : decode cX6_enter 8 = .ok (.ifCond .eq 9, 3) := by decide +kernel
theorem dX6_enter_11 : decode cX6_enter 11 = .ok (.iload_n 3, 1) := by decide +kernel
theorem dX6_enter_12 : decode cX6_enter 12 = .ok (.bipush 6, 2) := by decide +kernel
theorem dX6_enter_14 : decode cX6_enter 14 = .ok (.if_icmp .le 4, 3) := by decide +kernel
theorem dX6_enter_17 : decode cX6_enter 17 = .ok (.return_, 1) := by decide +kernel
theorem dX6_enter_18 : decode cX6_enter 18 = .ok (.aload_n 0, 1) := by decide +kernel
theorem dX6_enter_19 : decode cX6_enter 19 = .ok (.getfield 23, 3) := by decide +kernel
theorem dX6_enter_22 : decode cX6_enter 22 = .ok (.aload_n 0, 1) := by decide +kernel
theorem dX6_enter_23 : decode cX6_enter 23 = .ok (.getfield 45, 3) := by decide +kernel
theorem dX6_enter_26 : decode cX6_enter 26 = .ok (.aload_n 0, 1) := by decide +kernel
theorem dX6_enter_27 : decode cX6_enter 27 = .ok (.getfield 15, 3) := by decide +kernel
theorem dX6_enter_30 : decode cX6_enter 30 = .ok (.invokevirtual 67, 3) := by decide +kernel
theorem dX6_enter_33 : decode cX6_enter 33 = .ok (.iload_n 1, 1) := by decide +kernel
theorem dX6_enter_34 : decode cX6_enter 34 = .ok (.invokevirtual 71, 3) := by decide +kernel
theorem dX6_enter_37 : decode cX6_enter 37 = .ok (.aload_n 0, 1) := by decide +kernel
theorem dX6_enter_38 : decode cX6_enter 38 = .ok (.getfield 15, 3) := by decide +kernel
theorem dX6_enter_41 : decode cX6_enter 41 = .ok (.iload_n 1, 1) := by decide +kernel
theorem dX6_enter_42 : decode cX6_enter 42 = .ok (.invokevirtual 57, 3) := by decide +kernel
theorem dX6_enter_45 : decode cX6_enter 45 = .ok (.ifCond .eq 50, 3) := by decide +kernel
theorem dX6_enter_48 : decode cX6_enter 48 = .ok (.iload_n 1, 1) := by decide +kernel
theorem dX6_enter_49 : decode cX6_enter 49 = .ok (.iconst 1, 1) := by decide +kernel
theorem dX6_enter_50 : decode cX6_enter 50 = .ok (.iadd, 1) := by decide +kernel
theorem dX6_enter_51 : decode cX6_enter 51 = .ok (.istore 4, 2) := by decide +kernel
theorem dX6_enter_53 : decode cX6_enter 53 = .ok (.iload 4, 2) := by decide +kernel
theorem dX6_enter_55 : decode cX6_enter 55 = .ok (.aload_n 0, 1) := by decide +kernel
theorem dX6_enter_56 : decode cX6_enter 56 = .ok (.getfield 15, 3) := by decide +kernel
theorem dX6_enter_59 : decode cX6_enter 59 = .ok (.invokevirtual 75, 3) := by decide +kernel
theorem dX6_enter_62 : decode cX6_enter 62 = .ok (.if_icmp .ge 32, 3) := by decide +kernel
theorem dX6_enter_65 : decode cX6_enter 65 = .ok (.aload_n 0, 1) := by decide +kernel
theorem dX6_enter_66 : decode cX6_enter 66 = .ok (.getfield 15, 3) := by decide +kernel
theorem dX6_enter_69 : decode cX6_enter 69 = .ok (.iload 4, 2) := by decide +kernel
theorem dX6_enter_71 : decode cX6_enter 71 = .ok (.invokevirtual 54, 3) := by decide +kernel
theorem dX6_enter_74 : decode cX6_enter 74 = .ok (.iload_n 1, 1) := by decide +kernel
theorem dX6_enter_75 : decode cX6_enter 75 = .ok (.if_icmp .ne 13, 3) := by decide +kernel
theorem dX6_enter_78 : decode cX6_enter 78 = .ok (.aload_n 0, 1) := by decide +kernel
theorem dX6_enter_79 : decode cX6_enter 79 = .ok (.iload 4, 2) := by decide +kernel
theorem dX6_enter_81 : decode cX6_enter 81 = .ok (.iload_n 2, 1) := by decide +kernel
theorem dX6_enter_82 : decode cX6_enter 82 = .ok (.iload_n 3, 1) := by decide +kernel
theorem dX6_enter_83 : decode cX6_enter 83 = .ok (.iconst 1, 1) := by decide +kernel
theorem dX6_enter_84 : decode cX6_enter 84 = .ok (.iadd, 1) := by decide +kernel
theorem dX6_enter_85 : decode cX6_enter 85 = .ok (.invokevirtual 37, 3) := by decide +kernel
theorem dX6_enter_88 : decode cX6_enter 88 = .ok (.iinc 4 1, 3) := by decide +kernel
theorem dX6_enter_91 : decode cX6_enter 91 = .ok (.goto (-38), 3) := by decide +kernel
theorem dX6_enter_94 : decode cX6_enter 94 = .ok (.return_, 1) := by decide +kernel
theorem dX6_enter_95 : decode cX6_enter 95 = .ok (.aload_n 0, 1) := by decide +kernel
theorem dX6_enter_96 : decode cX6_enter 96 = .ok (.getfield 15, 3) := by decide +kernel
theorem dX6_enter_99 : decode cX6_enter 99 = .ok (.iload_n 1, 1) := by decide +kernel
theorem dX6_enter_100 : decode cX6_enter 100 = .ok (.iload_n 2, 1) := by decide +kernel
theorem dX6_enter_101 : decode cX6_enter 101 = .ok (.invokevirtual 79, 3) := by decide +kernel
theorem dX6_enter_104 : decode cX6_enter 104 = .ok (.istore 4, 2) := by decide +kernel
theorem dX6_enter_106 : decode cX6_enter 106 = .ok (.iload 4, 2) := by decide +kernel
theorem dX6_enter_108 : decode cX6_enter 108 = .ok (.iconst (-1), 1) := by decide +kernel
theorem dX6_enter_109 : decode cX6_enter 109 = .ok (.if_icmp .eq 10, 3) := by decide +kernel
theorem dX6_enter_112 : decode cX6_enter 112 = .ok (.aload_n 0, 1) := by decide +kernel
theorem dX6_enter_113 : decode cX6_enter 113 = .ok (.iload_n 1, 1) := by decide +kernel
theorem dX6_enter_114 : decode cX6_enter 114 = .ok (.iload 4, 2) := by decide +kernel
theorem dX6_enter_116 : decode cX6_enter 116 = .ok (.invokevirtual 83, 3) := by decide +kernel
theorem dX6_enter_119 : decode cX6_enter 119 = .ok (.aload_n 0, 1) := by decide +kernel
theorem dX6_enter_120 : decode cX6_enter 120 = .ok (.aload_n 0, 1) := by decide +kernel
theorem dX6_enter_121 : decode cX6_enter 121 = .ok (.iload_n 1, 1) := by decide +kernel
theorem dX6_enter_122 : decode cX6_enter 122 = .ok (.invokevirtual 61, 3) := by decide +kernel
theorem dX6_enter_125 : decode cX6_enter 125 = .ok (.iload_n 2, 1) := by decide +kernel
theorem dX6_enter_126 : decode cX6_enter 126 = .ok (.iload_n 3, 1) := by decide +kernel
theorem dX6_enter_127 : decode cX6_enter 127 = .ok (.iconst 1, 1) := by decide +kernel
theorem dX6_enter_128 : decode cX6_enter 128 = .ok (.iadd, 1) := by decide +kernel
theorem dX6_enter_129 : decode cX6_enter 129 = .ok (.invokevirtual 37, 3) := by decide +kernel
theorem dX6_enter_132 : decode cX6_enter 132 = .ok (.return_, 1) := by decide +kernel
set_option maxRecDepth 20000 in
theorem ggX6_leave_X4_isState : GoodIn wsX6_leave wsX4_isState := goodIn_r _ [8, 9, 75, 76, 77, 78, 79, 80, 81, 82, 83] (by decide +kernel) (by decide +kernel)
set_option maxRecDepth 20000 in
theorem gX6_leave_X4_isState : GoodIn wsX6_leave (wsV RX6 64 RX4 yX4_isState wsX4_isState) := goodIn_app (goodIn_of _ (by decide +kernel)) ggX6_leave_X4_isState
set_option maxRecDepth 20000 in
theorem ggX6_leave_X4_isWhole : GoodIn wsX6_leave wsX4_isWhole := goodIn_r _ [13, 14, 15, 5, 6, 7, 8, 9, 75, 76, 77, 78, 79, 80, 81, 82, 83] (by decide +kernel) (by decide +kernel)
set_option maxRecDepth 20000 in
theorem gX6_leave_X4_isWhole : GoodIn wsX6_leave (wsV RX6 57 RX4 yX4_isWhole wsX4_isWhole) := goodIn_app (goodIn_of _ (by decide +kernel)) ggX6_leave_X4_isWhole
set_option maxRecDepth 20000 in
theorem ggX6_leave_X4_made : GoodIn wsX6_leave wsX4_made := goodIn_r _ [19, 9, 75, 76, 77, 78, 79, 80, 81, 82, 83] (by decide +kernel) (by decide +kernel)
set_option maxRecDepth 20000 in
theorem gX6_leave_X4_made : GoodIn wsX6_leave (wsV RX6 75 RX4 yX4_made wsX4_made) := goodIn_app (goodIn_of _ (by decide +kernel)) ggX6_leave_X4_made
set_option maxRecDepth 20000 in
theorem ggX6_leave_X4_parentOf : GoodIn wsX6_leave wsX4_parentOf := goodIn_r _ [23, 24, 15, 5, 6, 7, 8, 9, 75, 76, 77, 78, 79, 80, 81, 82, 83] (by decide +kernel) (by decide +kernel)
set_option maxRecDepth 20000 in
theorem gX6_leave_X4_parentOf : GoodIn wsX6_leave (wsV RX6 54 RX4 yX4_parentOf wsX4_parentOf) := goodIn_app (goodIn_of _ (by decide +kernel)) ggX6_leave_X4_parentOf
set_option maxRecDepth 20000 in
theorem ggX6_leave_X6_leave : GoodIn wsX6_leave wsX6_leave := goodIn_r _ [0, 1, 2, 3, 4, 5, 6, 7, 8, 9, 10, 11, 12, 13, 14, 15, 16, 17, 18, 19, 20, 21, 22, 23, 24, 25, 26, 27, 28, 29, 30, 31, 32, 33, 34, 35, 36, 37, 38, 39, 40, 41, 42, 43, 44, 45, 46, 47, 48, 49, 50, 51, 52, 53, 54, 55, 56, 57, 58, 59, 60, 61, 62, 63, 64, 65, 66, 67, 68, 69, 70, 71, 72, 73, 74, 75, 76, 77, 78, 79, 80, 81, 82, 83, 84, 85, 86, 87] (by decide +kernel) (by decide +kernel)
set_option maxRecDepth 20000 in
theorem gX6_leave_X6_leave : GoodIn wsX6_leave (wsV RX6 87 RX6 yX6_leave wsX6_leave) := goodIn_app (goodIn_of _ (by decide +kernel)) ggX6_leave_X6_leave
set_option maxRecDepth 20000 in
theorem ggX6_leave_X6_currentChild : GoodIn wsX6_leave wsX6_currentChild := goodIn_r _ [32, 33, 70, 71, 72, 73, 74] (by decide +kernel) (by decide +kernel)
set_option maxRecDepth 20000 in
theorem gX6_leave_X6_currentChild : GoodIn wsX6_leave (wsV RX6 61 RX6 yX6_currentChild wsX6_currentChild) := goodIn_app (goodIn_of _ (by decide +kernel)) ggX6_leave_X6_currentChild
set_option maxRecDepth 20000 in
theorem ggX6_leave_X4_leaving : GoodIn wsX6_leave wsX4_leaving := goodIn_r _ [37, 38, 75, 76, 77, 78, 79, 80, 81, 82, 83] (by decide +kernel) (by decide +kernel)
set_option maxRecDepth 20000 in
theorem gX6_leave_X4_leaving : GoodIn wsX6_leave (wsV RX6 90 RX4 yX4_leaving wsX4_leaving) := goodIn_app (goodIn_of _ (by decide +kernel)) ggX6_leave_X4_leaving
set_option maxRecDepth 20000 in
theorem ggX6_leave_X1_addRow : GoodIn wsX6_leave wsX1_addRow := goodIn_r _ [43, 44, 45, 46, 47, 48, 49, 50, 51, 52, 53, 42, 54, 55, 84, 85, 86, 87] (by decide +kernel) (by decide +kernel)
set_option maxRecDepth 20000 in
theorem gX6_leave_X1_addRow : GoodIn wsX6_leave (wsV RX6 71 RX1 yX1_addRow wsX1_addRow) := goodIn_app (goodIn_of _ (by decide +kernel)) ggX6_leave_X1_addRow
set_option maxRecDepth 20000 in
theorem ggX6_leave_X4_isRemembering : GoodIn wsX6_leave wsX4_isRemembering := goodIn_r _ [59, 60, 15, 5, 6, 7, 8, 9, 75, 76, 77, 78, 79, 80, 81, 82, 83] (by decide +kernel) (by decide +kernel)
set_option maxRecDepth 20000 in
theorem gX6_leave_X4_isRemembering : GoodIn wsX6_leave (wsV RX6 93 RX4 yX4_isRemembering wsX4_isRemembering) := goodIn_app (goodIn_of _ (by decide +kernel)) ggX6_leave_X4_isRemembering
set_option maxRecDepth 20000 in
theorem ggX6_leave_X4_currentAtFirst : GoodIn wsX6_leave wsX4_currentAtFirst := goodIn_r _ [64, 14, 65, 15, 5, 6, 7, 8, 9, 75, 76, 77, 78, 79, 80, 81, 82, 83] (by decide +kernel) (by decide +kernel)
set_option maxRecDepth 20000 in
theorem gX6_leave_X4_currentAtFirst : GoodIn wsX6_leave (wsV RX6 27 RX4 yX4_currentAtFirst wsX4_currentAtFirst) := goodIn_app (goodIn_of _ (by decide +kernel)) ggX6_leave_X4_currentAtFirst
set_option maxRecDepth 20000 in
theorem ggX6_leave_X6_makeCurrent : GoodIn wsX6_leave wsX6_makeCurrent := goodIn_r _ [69, 33, 70, 71, 72, 73, 74] (by decide +kernel) (by decide +kernel)
set_option maxRecDepth 20000 in
theorem gX6_leave_X6_makeCurrent : GoodIn wsX6_leave (wsV RX6 83 RX6 yX6_makeCurrent wsX6_makeCurrent) := goodIn_app (goodIn_of _ (by decide +kernel)) ggX6_leave_X6_makeCurrent
theorem dX6_leave_0 : decode cX6_leave 0 = .ok (.aload_n 0, 1) := by decide +kernel
theorem dX6_leave_1 : decode cX6_leave 1 = .ok (.getfield 15, 3) := by decide +kernel
theorem dX6_leave_4 : decode cX6_leave 4 = .ok (.iload_n 1, 1) := by decide +kernel
theorem dX6_leave_5 : decode cX6_leave 5 = .ok (.invokevirtual 64, 3) := by decide +kernel
theorem dX6_leave_8 : decode cX6_leave 8 = .ok (.ifCond .eq 9, 3) := by decide +kernel
theorem dX6_leave_11 : decode cX6_leave 11 = .ok (.iload_n 2, 1) := by decide +kernel
theorem dX6_leave_12 : decode cX6_leave 12 = .ok (.bipush 6, 2) := by decide +kernel
theorem dX6_leave_14 : decode cX6_leave 14 = .ok (.if_icmp .le 4, 3) := by decide +kernel
theorem dX6_leave_17 : decode cX6_leave 17 = .ok (.return_, 1) := by decide +kernel
theorem dX6_leave_18 : decode cX6_leave 18 = .ok (.aload_n 0, 1) := by decide +kernel
theorem dX6_leave_19 : decode cX6_leave 19 = .ok (.getfield 15, 3) := by decide +kernel
theorem dX6_leave_22 : decode cX6_leave 22 = .ok (.iload_n 1, 1) := by decide +kernel
theorem dX6_leave_23 : decode cX6_leave 23 = .ok (.invokevirtual 57, 3) := by decide +kernel
theorem dX6_leave_26 : decode cX6_leave 26 = .ok (.ifCond .eq 47, 3) := by decide +kernel
theorem dX6_leave_29 : decode cX6_leave 29 = .ok (.aload_n 0, 1) := by decide +kernel
theorem dX6_leave_30 : decode cX6_leave 30 = .ok (.getfield 15, 3) := by decide +kernel
theorem dX6_leave_33 : decode cX6_leave 33 = .ok (.invokevirtual 75, 3) := by decide +kernel
theorem dX6_leave_36 : decode cX6_leave 36 = .ok (.iconst 1, 1) := by decide +kernel
theorem dX6_leave_37 : decode cX6_leave 37 = .ok (.isub, 1) := by decide +kernel
theorem dX6_leave_38 : decode cX6_leave 38 = .ok (.istore_n 3, 1) := by decide +kernel
theorem dX6_leave_39 : decode cX6_leave 39 = .ok (.iload_n 3, 1) := by decide +kernel
theorem dX6_leave_40 : decode cX6_leave 40 = .ok (.iload_n 1, 1) := by decide +kernel
theorem dX6_leave_41 : decode cX6_leave 41 = .ok (.if_icmp .le 29, 3) := by decide +kernel
theorem dX6_leave_44 : decode cX6_leave 44 = .ok (.aload_n 0, 1) := by decide +kernel
theorem dX6_leave_45 : decode cX6_leave 45 = .ok (.getfield 15, 3) := by decide +kernel
theorem dX6_leave_48 : decode cX6_leave 48 = .ok (.iload_n 3, 1) := by decide +kernel
theorem dX6_leave_49 : decode cX6_leave 49 = .ok (.invokevirtual 54, 3) := by decide +kernel
theorem dX6_leave_52 : decode cX6_leave 52 = .ok (.iload_n 1, 1) := by decide +kernel
theorem dX6_leave_53 : decode cX6_leave 53 = .ok (.if_icmp .ne 11, 3) := by decide +kernel
theorem dX6_leave_56 : decode cX6_leave 56 = .ok (.aload_n 0, 1) := by decide +kernel
theorem dX6_leave_57 : decode cX6_leave 57 = .ok (.iload_n 3, 1) := by decide +kernel
theorem dX6_leave_58 : decode cX6_leave 58 = .ok (.iload_n 2, 1) := by decide +kernel
theorem dX6_leave_59 : decode cX6_leave 59 = .ok (.iconst 1, 1) := by decide +kernel
theorem dX6_leave_60 : decode cX6_leave 60 = .ok (.iadd, 1) := by decide +kernel
theorem dX6_leave_61 : decode cX6_leave 61 = .ok (.invokevirtual 87, 3) := by decide +kernel
theorem dX6_leave_64 : decode cX6_leave 64 = .ok (.iinc 3 (-1), 3) := by decide +kernel
theorem dX6_leave_67 : decode cX6_leave 67 = .ok (.goto (-28), 3) := by decide +kernel
theorem dX6_leave_70 : decode cX6_leave 70 = .ok (.goto 15, 3) := by decide +kernel
theorem dX6_leave_73 : decode cX6_leave 73 = .ok (.aload_n 0, 1) := by decide +kernel
theorem dX6_leave_74 : decode cX6_leave 74 = .ok (.aload_n 0, 1) := by decide +kernel
theorem dX6_leave_75 : decode cX6_leave 75 = .ok (.iload_n 1, 1) := by decide +kernel
theorem dX6_leave_76 : decode cX6_leave 76 = .ok (.invokevirtual 61, 3) := by decide +kernel
theorem dX6_leave_79 : decode cX6_leave 79 = .ok (.iload_n 2, 1) := by decide +kernel
theorem dX6_leave_80 : decode cX6_leave 80 = .ok (.iconst 1, 1) := by decide +kernel
theorem dX6_leave_81 : decode cX6_leave 81 = .ok (.iadd, 1) := by decide +kernel
theorem dX6_leave_82 : decode cX6_leave 82 = .ok (.invokevirtual 87, 3) := by decide +kernel
theorem dX6_leave_85 : decode cX6_leave 85 = .ok (.aload_n 0, 1) := by decide +kernel
theorem dX6_leave_86 : decode cX6_leave 86 = .ok (.getfield 23, 3) := by decide +kernel
theorem dX6_leave_89 : decode cX6_leave 89 = .ok (.aload_n 0, 1) := by decide +kernel
theorem dX6_leave_90 : decode cX6_leave 90 = .ok (.getfield 45, 3) := by decide +kernel
theorem dX6_leave_93 : decode cX6_leave 93 = .ok (.aload_n 0, 1) := by decide +kernel
theorem dX6_leave_94 : decode cX6_leave 94 = .ok (.getfield 15, 3) := by decide +kernel
theorem dX6_leave_97 : decode cX6_leave 97 = .ok (.invokevirtual 90, 3) := by decide +kernel
theorem dX6_leave_100 : decode cX6_leave 100 = .ok (.iload_n 1, 1) := by decide +kernel
theorem dX6_leave_101 : decode cX6_leave 101 = .ok (.invokevirtual 71, 3) := by decide +kernel
theorem dX6_leave_104 : decode cX6_leave 104 = .ok (.aload_n 0, 1) := by decide +kernel
theorem dX6_leave_105 : decode cX6_leave 105 = .ok (.getfield 15, 3) := by decide +kernel
theorem dX6_leave_108 : decode cX6_leave 108 = .ok (.iload_n 1, 1) := by decide +kernel
theorem dX6_leave_109 : decode cX6_leave 109 = .ok (.invokevirtual 93, 3) := by decide +kernel
theorem dX6_leave_112 : decode cX6_leave 112 = .ok (.ifCond .ne 16, 3) := by decide +kernel
theorem dX6_leave_115 : decode cX6_leave 115 = .ok (.aload_n 0, 1) := by decide +kernel
theorem dX6_leave_116 : decode cX6_leave 116 = .ok (.iload_n 1, 1) := by decide +kernel
theorem dX6_leave_117 : decode cX6_leave 117 = .ok (.aload_n 0, 1) := by decide +kernel
theorem dX6_leave_118 : decode cX6_leave 118 = .ok (.getfield 15, 3) := by decide +kernel
theorem dX6_leave_121 : decode cX6_leave 121 = .ok (.iload_n 1, 1) := by decide +kernel
theorem dX6_leave_122 : decode cX6_leave 122 = .ok (.invokevirtual 27, 3) := by decide +kernel
theorem dX6_leave_125 : decode cX6_leave 125 = .ok (.invokevirtual 83, 3) := by decide +kernel
theorem dX6_leave_128 : decode cX6_leave 128 = .ok (.return_, 1) := by decide +kernel
set_option maxRecDepth 20000 in
theorem ggX6_offer_X4_isState : GoodIn wsX6_offer wsX4_isState := goodIn_r _ [10, 11, 153, 154, 155, 156, 157, 158, 159, 160, 161] (by decide +kernel) (by decide +kernel)
set_option maxRecDepth 20000 in
theorem gX6_offer_X4_isState : GoodIn wsX6_offer (wsV RX6 64 RX4 yX4_isState wsX4_isState) := goodIn_app (goodIn_of _ (by decide +kernel)) ggX6_offer_X4_isState
set_option maxRecDepth 20000 in
theorem ggX6_offer_X4_isWhole : GoodIn wsX6_offer wsX4_isWhole := goodIn_r _ [15, 16, 17, 7, 8, 9, 10, 11, 153, 154, 155, 156, 157, 158, 159, 160, 161] (by decide +kernel) (by decide +kernel)
set_option maxRecDepth 20000 in
theorem gX6_offer_X4_isWhole : GoodIn wsX6_offer (wsV RX6 57 RX4 yX4_isWhole wsX4_isWhole) := goodIn_app (goodIn_of _ (by decide +kernel)) ggX6_offer_X4_isWhole
set_option maxRecDepth 20000 in
theorem ggX6_offer_X4_made : GoodIn wsX6_offer wsX4_made := goodIn_r _ [21, 11, 153, 154, 155, 156, 157, 158, 159, 160, 161] (by decide +kernel) (by decide +kernel)
set_option maxRecDepth 20000 in
theorem gX6_offer_X4_made : GoodIn wsX6_offer (wsV RX6 75 RX4 yX4_made wsX4_made) := goodIn_app (goodIn_of _ (by decide +kernel)) ggX6_offer_X4_made
set_option maxRecDepth 20000 in
theorem ggX6_offer_X4_parentOf : GoodIn wsX6_offer wsX4_parentOf := goodIn_r _ [25, 26, 17, 7, 8, 9, 10, 11, 153, 154, 155, 156, 157, 158, 159, 160, 161] (by decide +kernel) (by decide +kernel)
set_option maxRecDepth 20000 in
theorem gX6_offer_X4_parentOf : GoodIn wsX6_offer (wsV RX6 54 RX4 yX4_parentOf wsX4_parentOf) := goodIn_app (goodIn_of _ (by decide +kernel)) ggX6_offer_X4_parentOf
set_option maxRecDepth 20000 in
theorem ggX6_offer_X6_offer : GoodIn wsX6_offer wsX6_offer := goodIn_r _ [0, 1, 2, 3, 4, 5, 6, 7, 8, 9, 10, 11, 12, 13, 14, 15, 16, 17, 18, 19, 20, 21, 22, 23, 24, 25, 26, 27, 28, 29, 30, 31, 32, 33, 34, 35, 36, 37, 38, 39, 40, 41, 42, 43, 44, 45, 46, 47, 48, 49, 50, 51, 52, 53, 54, 55, 56, 57, 58, 59, 60, 61, 62, 63, 64, 65, 66, 67, 68, 69, 70, 71, 72, 73, 74, 75, 76, 77, 78, 79, 80, 81, 82, 83, 84, 85, 86, 87, 88, 89, 90, 91, 92, 93, 94, 95, 96, 97, 98, 99, 100, 101, 102, 103, 104, 105, 106, 107, 108, 109, 110, 111, 112, 113, 114, 115, 116, 117, 118, 119, 120, 121, 122, 123, 124, 125, 126, 127, 128, 129, 130, 131, 132, 133, 134, 135, 136, 137, 138, 139, 140, 141, 142, 143, 144, 145, 146, 147, 148, 149, 150, 151, 152, 153, 154, 155, 156, 157, 158, 159, 160, 161, 162, 163, 164, 165, 166, 167, 168, 169, 170, 171, 172, 173, 174, 175] (by decide +kernel) (by decide +kernel)
set_option maxRecDepth 20000 in
theorem gX6_offer_X6_offer : GoodIn wsX6_offer (wsV RX6 41 RX6 yX6_offer wsX6_offer) := goodIn_app (goodIn_of _ (by decide +kernel)) ggX6_offer_X6_offer
set_option maxRecDepth 20000 in
theorem ggX6_offer_X6_currentChild : GoodIn wsX6_offer wsX6_currentChild := goodIn_r _ [34, 35, 148, 149, 150, 151, 152] (by decide +kernel) (by decide +kernel)
set_option maxRecDepth 20000 in
theorem gX6_offer_X6_currentChild : GoodIn wsX6_offer (wsV RX6 61 RX6 yX6_currentChild wsX6_currentChild) := goodIn_app (goodIn_of _ (by decide +kernel)) ggX6_offer_X6_currentChild
set_option maxRecDepth 20000 in
theorem ggX6_offer_X6_ownRule : GoodIn wsX6_offer wsX6_ownRule := goodIn_r _ [39, 40, 41, 42, 43, 44, 45, 46, 47, 48, 49, 50, 51, 52, 53, 54, 55, 56, 57, 58, 59, 60, 61, 62, 63, 64, 30, 65, 1, 22, 23, 24, 9, 25, 26, 17, 7, 8, 10, 11, 12, 13, 14, 15, 16, 31, 32, 33, 34, 35, 66, 67, 68, 69, 70, 148, 149, 150, 151, 152, 162, 163, 164, 165, 166, 167, 168, 169, 170, 171, 153, 154, 155, 156, 157, 158, 159, 160, 161] (by decide +kernel) (by decide +kernel)
set_option maxRecDepth 20000 in
theorem gX6_offer_X6_ownRule : GoodIn wsX6_offer (wsV RX6 101 RX6 yX6_ownRule wsX6_ownRule) := goodIn_app (goodIn_of _ (by decide +kernel)) ggX6_offer_X6_ownRule
set_option maxRecDepth 20000 in
theorem ggX6_offer_X6_take : GoodIn wsX6_offer wsX6_take := goodIn_r _ [74, 40, 1, 75, 76, 77, 54, 55, 44, 56, 46, 78, 79, 80, 81, 82, 53, 83, 84, 85, 86, 87, 88, 89, 90, 9, 91, 92, 17, 7, 8, 10, 11, 31, 32, 33, 30, 34, 35, 93, 94, 95, 96, 6, 12, 13, 14, 15, 16, 18, 19, 20, 21, 22, 23, 24, 25, 26, 97, 98, 99, 100, 101, 102, 103, 104, 105, 106, 107, 108, 109, 3, 4, 5, 110, 111, 112, 113, 114, 115, 116, 117, 118, 119, 120, 121, 122, 123, 124, 125, 126, 127, 128, 129, 130, 131, 132, 133, 134, 135, 136, 137, 138, 139, 140, 141, 142, 143, 144, 145, 146, 147, 148, 149, 150, 151, 152, 162, 163, 164, 165, 166, 167, 168, 169, 170, 171, 153, 154, 155, 156, 157, 158, 159, 160, 161, 172, 173, 174, 175] (by decide +kernel) (by decide +kernel)
set_option maxRecDepth 20000 in
theorem gX6_offer_X6_take : GoodIn wsX6_offer (wsV RX6 104 RX6 yX6_take wsX6_take) := goodIn_app (goodIn_of _ (by decide +kernel)) ggX6_offer_X6_take
theorem dX6_offer_0 : decode cX6_offer 0 = .ok (.aload_n 0, 1) := by decide +kernel
theorem dX6_offer_1 : decode cX6_offer 1 = .ok (.getfield 15, 3) := by decide +kernel
theorem dX6_offer_4 : decode cX6_offer 4 = .ok (.iload_n 1, 1) := by decide +kernel
theorem dX6_offer_5 : decode cX6_offer 5 = .ok (.invokevirtual 64, 3) := by decide +kernel
theorem dX6_offer_8 : decode cX6_offer 8 = .ok (.ifCond .eq 9, 3) := by decide +kernel
theorem dX6_offer_11 : decode cX6_offer 11 = .ok (.iload_n 3, 1) := by decide +kernel
theorem dX6_offer_12 : decode cX6_offer 12 = .ok (.bipush 6, 2) := by decide +kernel
theorem dX6_offer_14 : decode cX6_offer 14 = .ok (.if_icmp .le 6, 3) := by decide +kernel
theorem dX6_offer_17 : decode cX6_offer 17 = .ok (.bipush 7, 2) := by decide +kernel
theorem dX6_offer_19 : decode cX6_offer 19 = .ok (.ireturn, 1) := by decide +kernel
theorem dX6_offer_20 : decode cX6_offer 20 = .ok (.bipush 7, 2) := by decide +kernel
theorem dX6_offer_22 : decode cX6_offer 22 = .ok (.istore 4, 2) := by decide +kernel
theorem dX6_offer_24 : decode cX6_offer 24 = .ok (.aload_n 0, 1) := by decide +kernel
theorem dX6_offer_25 : decode cX6_offer 25 = .ok (.getfield 15, 3) := by decide +kernel
theorem dX6_offer_28 : decode cX6_offer 28 = .ok (.iload_n 1, 1) := by decide +kernel
theorem dX6_offer_29 : decode cX6_offer 29 = .ok (.invokevirtual 57, 3) := by decide +kernel
theorem dX6_offer_32 : decode cX6_offer 32 = .ok (.ifCond .eq 65, 3) := by decide +kernel
theorem dX6_offer_35 : decode cX6_offer 35 = .ok (.iload_n 1, 1) := by decide +kernel
theorem dX6_offer_36 : decode cX6_offer 36 = .ok (.iconst 1, 1) := by decide +kernel
theorem dX6_offer_37 : decode cX6_offer 37 = .ok (.iadd, 1) := by decide +kernel
theorem dX6_offer_38 : decode cX6_offer 38 = .ok (.istore 5, 2) := by decide +kernel
theorem dX6_offer_40 : decode cX6_offer 40 = .ok (.iload 5, 2) := by decide +kernel
theorem dX6_offer_42 : decode cX6_offer 42 = .ok (.aload_n 0, 1) := by decide +kernel
theorem dX6_offer_43 : decode cX6_offer 43 = .ok (.getfield 15, 3) := by decide +kernel
theorem dX6_offer_46 : decode cX6_offer 46 = .ok (.invokevirtual 75, 3) := by decide +kernel
theorem dX6_offer_49 : decode cX6_offer 49 = .ok (.if_icmp .ge 45, 3) := by decide +kernel
theorem dX6_offer_52 : decode cX6_offer 52 = .ok (.iload 4, 2) := by decide +kernel
theorem dX6_offer_54 : decode cX6_offer 54 = .ok (.iload_n 3, 1) := by decide +kernel
theorem dX6_offer_55 : decode cX6_offer 55 = .ok (.if_icmp .le 39, 3) := by decide +kernel
theorem dX6_offer_58 : decode cX6_offer 58 = .ok (.aload_n 0, 1) := by decide +kernel
theorem dX6_offer_59 : decode cX6_offer 59 = .ok (.getfield 15, 3) := by decide +kernel
theorem dX6_offer_62 : decode cX6_offer 62 = .ok (.iload 5, 2) := by decide +kernel
theorem dX6_offer_64 : decode cX6_offer 64 = .ok (.invokevirtual 54, 3) := by decide +kernel
theorem dX6_offer_67 : decode cX6_offer 67 = .ok (.iload_n 1, 1) := by decide +kernel
theorem dX6_offer_68 : decode cX6_offer 68 = .ok (.if_icmp .ne 20, 3) := by decide +kernel
theorem dX6_offer_71 : decode cX6_offer 71 = .ok (.iload 4, 2) := by decide +kernel
theorem dX6_offer_73 : decode cX6_offer 73 = .ok (.aload_n 0, 1) := by decide +kernel
theorem dX6_offer_74 : decode cX6_offer 74 = .ok (.iload 5, 2) := by decide +kernel
theorem dX6_offer_76 : decode cX6_offer 76 = .ok (.iload_n 2, 1) := by decide +kernel
theorem dX6_offer_77 : decode cX6_offer 77 = .ok (.iload_n 3, 1) := by decide +kernel
theorem dX6_offer_78 : decode cX6_offer 78 = .ok (.iconst 1, 1) := by decide +kernel
theorem dX6_offer_79 : decode cX6_offer 79 = .ok (.iadd, 1) := by decide +kernel
theorem dX6_offer_80 : decode cX6_offer 80 = .ok (.invokevirtual 41, 3) := by decide +kernel
theorem dX6_offer_83 : decode cX6_offer 83 = .ok (.invokestatic 96, 3) := by decide +kernel
theorem dX6_offer_86 : decode cX6_offer 86 = .ok (.istore 4, 2) := by decide +kernel
theorem dX6_offer_88 : decode cX6_offer 88 = .ok (.iinc 5 1, 3) := by decide +kernel
theorem dX6_offer_91 : decode cX6_offer 91 = .ok (.goto (-51), 3) := by decide +kernel
theorem dX6_offer_94 : decode cX6_offer 94 = .ok (.goto 18, 3) := by decide +kernel
theorem dX6_offer_97 : decode cX6_offer 97 = .ok (.aload_n 0, 1) := by decide +kernel
theorem dX6_offer_98 : decode cX6_offer 98 = .ok (.aload_n 0, 1) := by decide +kernel
theorem dX6_offer_99 : decode cX6_offer 99 = .ok (.iload_n 1, 1) := by decide +kernel
theorem dX6_offer_100 : decode cX6_offer 100 = .ok (.invokevirtual 61, 3) := by decide +kernel
theorem dX6_offer_103 : decode cX6_offer 103 = .ok (.iload_n 2, 1) := by decide +kernel
theorem dX6_offer_104 : decode cX6_offer 104 = .ok (.iload_n 3, 1) := by decide +kernel
theorem dX6_offer_105 : decode cX6_offer 105 = .ok (.iconst 1, 1) := by decide +kernel
theorem dX6_offer_106 : decode cX6_offer 106 = .ok (.iadd, 1) := by decide +kernel
theorem dX6_offer_107 : decode cX6_offer 107 = .ok (.invokevirtual 41, 3) := by decide +kernel
theorem dX6_offer_110 : decode cX6_offer 110 = .ok (.istore 4, 2) := by decide +kernel
theorem dX6_offer_112 : decode cX6_offer 112 = .ok (.iload 4, 2) := by decide +kernel
theorem dX6_offer_114 : decode cX6_offer 114 = .ok (.bipush 7, 2) := by decide +kernel
theorem dX6_offer_116 : decode cX6_offer 116 = .ok (.if_icmp .ne 16, 3) := by decide +kernel
theorem dX6_offer_119 : decode cX6_offer 119 = .ok (.aload_n 0, 1) := by decide +kernel
theorem dX6_offer_120 : decode cX6_offer 120 = .ok (.aload_n 0, 1) := by decide +kernel
theorem dX6_offer_121 : decode cX6_offer 121 = .ok (.iload_n 1, 1) := by decide +kernel
theorem dX6_offer_122 : decode cX6_offer 122 = .ok (.iload_n 2, 1) := by decide +kernel
theorem dX6_offer_123 : decode cX6_offer 123 = .ok (.invokevirtual 101, 3) := by decide +kernel
theorem dX6_offer_126 : decode cX6_offer 126 = .ok (.invokevirtual 104, 3) := by decide +kernel
theorem dX6_offer_129 : decode cX6_offer 129 = .ok (.goto 5, 3) := by decide +kernel
theorem dX6_offer_132 : decode cX6_offer 132 = .ok (.iload 4, 2) := by decide +kernel
theorem dX6_offer_134 : decode cX6_offer 134 = .ok (.ireturn, 1) := by decide +kernel
set_option maxRecDepth 20000 in
theorem ggX6_ownRule_X3_made : GoodIn wsX6_ownRule wsX3_made := goodIn_r _ [6, 7, 60, 61, 62, 63, 64, 65, 66, 67, 68, 69] (by decide +kernel) (by decide +kernel)
set_option maxRecDepth 20000 in
theorem gX6_ownRule_X3_made : GoodIn wsX6_ownRule (wsV RX6 107 RX3 yX3_made wsX3_made) := goodIn_app (goodIn_of _ (by decide +kernel)) ggX6_ownRule_X3_made
set_option maxRecDepth 20000 in
theorem ggX6_ownRule_X3_isFor : GoodIn wsX6_ownRule wsX3_isFor := goodIn_r _ [11, 12, 13, 14, 15, 16, 5, 17, 7, 60, 61, 62, 63, 64, 65, 66, 67, 68, 69] (by decide +kernel) (by decide +kernel)
set_option maxRecDepth 20000 in
theorem gX6_ownRule_X3_isFor : GoodIn wsX6_ownRule (wsV RX6 110 RX3 yX3_isFor wsX3_isFor) := goodIn_app (goodIn_of _ (by decide +kernel)) ggX6_ownRule_X3_isFor
set_option maxRecDepth 20000 in
theorem ggX6_ownRule_X3_askedOf : GoodIn wsX6_ownRule wsX3_askedOf := goodIn_r _ [21, 22, 14, 15, 16, 5, 17, 7, 60, 61, 62, 63, 64, 65, 66, 67, 68, 69] (by decide +kernel) (by decide +kernel)
set_option maxRecDepth 20000 in
theorem gX6_ownRule_X3_askedOf : GoodIn wsX6_ownRule (wsV RX6 114 RX3 yX3_askedOf wsX3_askedOf) := goodIn_app (goodIn_of _ (by decide +kernel)) ggX6_ownRule_X3_askedOf
set_option maxRecDepth 20000 in
theorem ggX6_ownRule_X6_isActive : GoodIn wsX6_ownRule wsX6_isActive := goodIn_r _ [27, 28, 29, 30, 31, 32, 33, 34, 35, 36, 37, 38, 39, 40, 41, 42, 43, 44, 45, 46, 47, 26, 48, 49, 55, 56, 57, 58, 59, 70, 71, 72, 73, 74, 75, 76, 77, 78] (by decide +kernel) (by decide +kernel)
set_option maxRecDepth 20000 in
theorem gX6_ownRule_X6_isActive : GoodIn wsX6_ownRule (wsV RX6 117 RX6 yX6_isActive wsX6_isActive) := goodIn_app (goodIn_of _ (by decide +kernel)) ggX6_ownRule_X6_isActive
set_option maxRecDepth 20000 in
theorem ggX6_ownRule_X3_isWantedActive : GoodIn wsX6_ownRule wsX3_isWantedActive := goodIn_r _ [53, 54, 14, 15, 16, 5, 17, 7, 60, 61, 62, 63, 64, 65, 66, 67, 68, 69] (by decide +kernel) (by decide +kernel)
set_option maxRecDepth 20000 in
theorem gX6_ownRule_X3_isWantedActive : GoodIn wsX6_ownRule (wsV RX6 120 RX3 yX3_isWantedActive wsX3_isWantedActive) := goodIn_app (goodIn_of _ (by decide +kernel)) ggX6_ownRule_X3_isWantedActive
theorem dX6_ownRule_0 : decode cX6_ownRule 0 = .ok (.iconst 0, 1) := by decide +kernel
theorem dX6_ownRule_1 : decode cX6_ownRule 1 = .ok (.istore_n 3, 1) := by decide +kernel
theorem dX6_ownRule_2 : decode cX6_ownRule 2 = .ok (.iload_n 3, 1) := by decide +kernel
theorem dX6_ownRule_3 : decode cX6_ownRule 3 = .ok (.aload_n 0, 1) := by decide +kernel
theorem dX6_ownRule_4 : decode cX6_ownRule 4 = .ok (.getfield 19, 3) := by decide +kernel
theorem dX6_ownRule_7 : decode cX6_ownRule 7 = .ok (.invokevirtual 107, 3) := by decide +kernel
theorem dX6_ownRule_10 : decode cX6_ownRule 10 = .ok (.if_icmp .ge 47, 3) := by decide +kernel
theorem dX6_ownRule_13 : decode cX6_ownRule 13 = .ok (.aload_n 0, 1) := by decide +kernel
theorem dX6_ownRule_14 : decode cX6_ownRule 14 = .ok (.getfield 19, 3) := by decide +kernel
theorem dX6_ownRule_17 : decode cX6_ownRule 17 = .ok (.iload_n 3, 1) := by decide +kernel
theorem dX6_ownRule_18 : decode cX6_ownRule 18 = .ok (.iload_n 2, 1) := by decide +kernel
theorem dX6_ownRule_19 : decode cX6_ownRule 19 = .ok (.iload_n 1, 1) := by decide +kernel
theorem dX6_ownRule_20 : decode cX6_ownRule 20 = .ok (.invokevirtual 110, 3) := by decide +kernel
theorem dX6_ownRule_23 : decode cX6_ownRule 23 = .ok (.ifCond .eq 28, 3) := by decide +kernel
theorem dX6_ownRule_26 : decode cX6_ownRule 26 = .ok (.aload_n 0, 1) := by decide +kernel
theorem dX6_ownRule_27 : decode cX6_ownRule 27 = .ok (.aload_n 0, 1) := by decide +kernel
theorem dX6_ownRule_28 : decode cX6_ownRule 28 = .ok (.getfield 19, 3) := by decide +kernel
theorem dX6_ownRule_31 : decode cX6_ownRule 31 = .ok (.iload_n 3, 1) := by decide +kernel
theorem dX6_ownRule_32 : decode cX6_ownRule 32 = .ok (.invokevirtual 114, 3) := by decide +kernel
theorem dX6_ownRule_35 : decode cX6_ownRule 35 = .ok (.invokevirtual 117, 3) := by decide +kernel
theorem dX6_ownRule_38 : decode cX6_ownRule 38 = .ok (.aload_n 0, 1) := by decide +kernel
theorem dX6_ownRule_39 : decode cX6_ownRule 39 = .ok (.getfield 19, 3) := by decide +kernel
theorem dX6_ownRule_42 : decode cX6_ownRule 42 = .ok (.iload_n 3, 1) := by decide +kernel
theorem dX6_ownRule_43 : decode cX6_ownRule 43 = .ok (.invokevirtual 120, 3) := by decide +kernel
theorem dX6_ownRule_46 : decode cX6_ownRule 46 = .ok (.if_icmp .ne 5, 3) := by decide +kernel
theorem dX6_ownRule_49 : decode cX6_ownRule 49 = .ok (.iload_n 3, 1) := by decide +kernel
theorem dX6_ownRule_50 : decode cX6_ownRule 50 = .ok (.ireturn, 1) := by decide +kernel
theorem dX6_ownRule_51 : decode cX6_ownRule 51 = .ok (.iinc 3 1, 3) := by decide +kernel
theorem dX6_ownRule_54 : decode cX6_ownRule 54 = .ok (.goto (-52), 3) := by decide +kernel
theorem dX6_ownRule_57 : decode cX6_ownRule 57 = .ok (.iconst (-1), 1) := by decide +kernel
theorem dX6_ownRule_58 : decode cX6_ownRule 58 = .ok (.ireturn, 1) := by decide +kernel
set_option maxRecDepth 20000 in
theorem ggX6_take_X3_isRule : GoodIn wsX6_take wsX3_isRule := goodIn_r _ [9, 10, 117, 118, 119, 120, 121, 122, 123, 124, 125, 126] (by decide +kernel) (by decide +kernel)
set_option maxRecDepth 20000 in
theorem gX6_take_X3_isRule : GoodIn wsX6_take (wsV RX6 123 RX3 yX3_isRule wsX3_isRule) := goodIn_app (goodIn_of _ (by decide +kernel)) ggX6_take_X3_isRule
set_option maxRecDepth 20000 in
theorem ggX6_take_X3_scopeOf : GoodIn wsX6_take wsX3_scopeOf := goodIn_r _ [14, 15, 16, 6, 7, 8, 9, 10, 117, 118, 119, 120, 121, 122, 123, 124, 125, 126] (by decide +kernel) (by decide +kernel)
set_option maxRecDepth 20000 in
theorem gX6_take_X3_scopeOf : GoodIn wsX6_take (wsV RX6 126 RX3 yX3_scopeOf wsX3_scopeOf) := goodIn_app (goodIn_of _ (by decide +kernel)) ggX6_take_X3_scopeOf
set_option maxRecDepth 20000 in
theorem ggX6_take_X3_targetOf : GoodIn wsX6_take wsX3_targetOf := goodIn_r _ [20, 21, 16, 6, 7, 8, 9, 10, 117, 118, 119, 120, 121, 122, 123, 124, 125, 126] (by decide +kernel) (by decide +kernel)
set_option maxRecDepth 20000 in
theorem gX6_take_X3_targetOf : GoodIn wsX6_take (wsV RX6 129 RX3 yX3_targetOf wsX3_targetOf) := goodIn_app (goodIn_of _ (by decide +kernel)) ggX6_take_X3_targetOf
set_option maxRecDepth 20000 in
theorem ggX6_take_X4_depthOf : GoodIn wsX6_take wsX4_depthOf := goodIn_r _ [26, 27, 28, 29, 30, 25, 31, 32, 127, 128, 129, 130, 131, 132, 133, 134, 135] (by decide +kernel) (by decide +kernel)
set_option maxRecDepth 20000 in
theorem gX6_take_X4_depthOf : GoodIn wsX6_take (wsV RX6 132 RX4 yX4_depthOf wsX4_depthOf) := goodIn_app (goodIn_of _ (by decide +kernel)) ggX6_take_X4_depthOf
set_option maxRecDepth 20000 in
theorem ggX6_take_X6_currentChild : GoodIn wsX6_take wsX6_currentChild := goodIn_r _ [37, 38, 112, 113, 114, 115, 116] (by decide +kernel) (by decide +kernel)
set_option maxRecDepth 20000 in
theorem gX6_take_X6_currentChild : GoodIn wsX6_take (wsV RX6 61 RX6 yX6_currentChild wsX6_currentChild) := goodIn_app (goodIn_of _ (by decide +kernel)) ggX6_take_X6_currentChild
set_option maxRecDepth 20000 in
theorem ggX6_take_X6_leave : GoodIn wsX6_take wsX6_leave := goodIn_r _ [42, 2, 3, 4, 43, 29, 30, 25, 31, 32, 44, 45, 46, 47, 48, 28, 49, 50, 51, 52, 53, 54, 55, 56, 57, 39, 40, 41, 36, 33, 34, 35, 37, 38, 58, 59, 60, 61, 62, 63, 64, 65, 66, 67, 68, 69, 70, 71, 72, 73, 74, 75, 76, 77, 78, 79, 80, 81, 82, 83, 84, 85, 86, 87, 88, 89, 90, 91, 92, 93, 112, 113, 114, 115, 116, 127, 128, 129, 130, 131, 132, 133, 134, 135, 136, 137, 138, 139] (by decide +kernel) (by decide +kernel)
set_option maxRecDepth 20000 in
theorem gX6_take_X6_leave : GoodIn wsX6_take (wsV RX6 87 RX6 yX6_leave wsX6_leave) := goodIn_app (goodIn_of _ (by decide +kernel)) ggX6_take_X6_leave
set_option maxRecDepth 20000 in
theorem ggX6_take_X3_marks : GoodIn wsX6_take wsX3_marks := goodIn_r _ [97, 98, 117, 118, 119, 120, 121, 122, 123, 124, 125, 126] (by decide +kernel) (by decide +kernel)
set_option maxRecDepth 20000 in
theorem gX6_take_X3_marks : GoodIn wsX6_take (wsV RX6 135 RX3 yX3_marks wsX3_marks) := goodIn_app (goodIn_of _ (by decide +kernel)) ggX6_take_X3_marks
set_option maxRecDepth 20000 in
theorem ggX6_take_X1_addRow : GoodIn wsX6_take wsX1_addRow := goodIn_r _ [67, 68, 69, 70, 71, 72, 73, 74, 75, 76, 77, 66, 78, 79, 136, 137, 138, 139] (by decide +kernel) (by decide +kernel)
set_option maxRecDepth 20000 in
theorem gX6_take_X1_addRow : GoodIn wsX6_take (wsV RX6 71 RX1 yX1_addRow wsX1_addRow) := goodIn_app (goodIn_of _ (by decide +kernel)) ggX6_take_X1_addRow
set_option maxRecDepth 20000 in
theorem ggX6_take_X4_childToward : GoodIn wsX6_take wsX4_childToward := goodIn_r _ [102, 57, 28, 29, 30, 25, 31, 32, 127, 128, 129, 130, 131, 132, 133, 134, 135] (by decide +kernel) (by decide +kernel)
set_option maxRecDepth 20000 in
theorem gX6_take_X4_childToward : GoodIn wsX6_take (wsV RX6 79 RX4 yX4_childToward wsX4_childToward) := goodIn_app (goodIn_of _ (by decide +kernel)) ggX6_take_X4_childToward
set_option maxRecDepth 20000 in
theorem ggX6_take_X6_makeCurrent : GoodIn wsX6_take wsX6_makeCurrent := goodIn_r _ [93, 38, 112, 113, 114, 115, 116] (by decide +kernel) (by decide +kernel)
set_option maxRecDepth 20000 in
theorem gX6_take_X6_makeCurrent : GoodIn wsX6_take (wsV RX6 83 RX6 yX6_makeCurrent wsX6_makeCurrent) := goodIn_app (goodIn_of _ (by decide +kernel)) ggX6_take_X6_makeCurrent
set_option maxRecDepth 20000 in
theorem ggX6_take_X6_enter : GoodIn wsX6_take wsX6_enter := goodIn_r _ [106, 2, 3, 4, 43, 29, 30, 25, 31, 32, 107, 108, 109, 110, 111, 63, 64, 65, 66, 67, 68, 69, 70, 71, 72, 73, 74, 75, 76, 77, 78, 79, 44, 45, 46, 47, 48, 28, 49, 50, 51, 52, 53, 54, 55, 56, 57, 103, 104, 105, 36, 99, 100, 101, 102, 90, 91, 92, 93, 38, 33, 34, 35, 37, 112, 113, 114, 115, 116, 127, 128, 129, 130, 131, 132, 133, 134, 135, 136, 137, 138, 139] (by decide +kernel) (by decide +kernel)
set_option maxRecDepth 20000 in
theorem gX6_take_X6_enter : GoodIn wsX6_take (wsV RX6 37 RX6 yX6_enter wsX6_enter) := goodIn_app (goodIn_of _ (by decide +kernel)) ggX6_take_X6_enter
theorem dX6_take_0 : decode cX6_take 0 = .ok (.aload_n 0, 1) := by decide +kernel
theorem dX6_take_1 : decode cX6_take 1 = .ok (.getfield 19, 3) := by decide +kernel
theorem dX6_take_4 : decode cX6_take 4 = .ok (.iload_n 1, 1) := by decide +kernel
theorem dX6_take_5 : decode cX6_take 5 = .ok (.invokevirtual 123, 3) := by decide +kernel
theorem dX6_take_8 : decode cX6_take 8 = .ok (.ifCond .ne 6, 3) := by decide +kernel
theorem dX6_take_11 : decode cX6_take 11 = .ok (.bipush 7, 2) := by decide +kernel
theorem dX6_take_13 : decode cX6_take 13 = .ok (.ireturn, 1) := by decide +kernel
theorem dX6_take_14 : decode cX6_take 14 = .ok (.aload_n 0, 1) := by decide +kernel
theorem dX6_take_15 : decode cX6_take 15 = .ok (.getfield 19, 3) := by decide +kernel
theorem dX6_take_18 : decode cX6_take 18 = .ok (.iload_n 1, 1) := by decide +kernel
theorem dX6_take_19 : decode cX6_take 19 = .ok (.invokevirtual 126, 3) := by decide +kernel
theorem dX6_take_22 : decode cX6_take 22 = .ok (.istore_n 2, 1) := by decide +kernel
theorem dX6_take_23 : decode cX6_take 23 = .ok (.aload_n 0, 1) := by decide +kernel
theorem dX6_take_24 : decode cX6_take 24 = .ok (.getfield 19, 3) := by decide +kernel
theorem dX6_take_27 : decode cX6_take 27 = .ok (.iload_n 1, 1) := by decide +kernel
theorem dX6_take_28 : decode cX6_take 28 = .ok (.invokevirtual 129, 3) := by decide +kernel
theorem dX6_take_31 : decode cX6_take 31 = .ok (.istore_n 3, 1) := by decide +kernel
theorem dX6_take_32 : decode cX6_take 32 = .ok (.aload_n 0, 1) := by decide +kernel
theorem dX6_take_33 : decode cX6_take 33 = .ok (.getfield 15, 3) := by decide +kernel
theorem dX6_take_36 : decode cX6_take 36 = .ok (.iload_n 2, 1) := by decide +kernel
theorem dX6_take_37 : decode cX6_take 37 = .ok (.invokevirtual 132, 3) := by decide +kernel
theorem dX6_take_40 : decode cX6_take 40 = .ok (.istore 4, 2) := by decide +kernel
theorem dX6_take_42 : decode cX6_take 42 = .ok (.aload_n 0, 1) := by decide +kernel
theorem dX6_take_43 : decode cX6_take 43 = .ok (.aload_n 0, 1) := by decide +kernel
theorem dX6_take_44 : decode cX6_take 44 = .ok (.iload_n 2, 1) := by decide +kernel
theorem dX6_take_45 : decode cX6_take 45 = .ok (.invokevirtual 61, 3) := by decide +kernel
theorem dX6_take_48 : decode cX6_take 48 = .ok (.iload 4, 2) := by decide +kernel
theorem dX6_take_50 : decode cX6_take 50 = .ok (.iconst 1, 1) := by decide +kernel
theorem dX6_take_51 : decode cX6_take 51 = .ok (.iadd, 1) := by decide +kernel
theorem dX6_take_52 : decode cX6_take 52 = .ok (.invokevirtual 87, 3) := by decide +kernel
theorem dX6_take_55 : decode cX6_take 55 = .ok (.aload_n 0, 1) := by decide +kernel
theorem dX6_take_56 : decode cX6_take 56 = .ok (.getfield 23, 3) := by decide +kernel
theorem dX6_take_59 : decode cX6_take 59 = .ok (.aload_n 0, 1) := by decide +kernel
theorem dX6_take_60 : decode cX6_take 60 = .ok (.getfield 45, 3) := by decide +kernel
theorem dX6_take_63 : decode cX6_take 63 = .ok (.aload_n 0, 1) := by decide +kernel
theorem dX6_take_64 : decode cX6_take 64 = .ok (.getfield 19, 3) := by decide +kernel
theorem dX6_take_67 : decode cX6_take 67 = .ok (.invokevirtual 135, 3) := by decide +kernel
theorem dX6_take_70 : decode cX6_take 70 = .ok (.iload_n 1, 1) := by decide +kernel
theorem dX6_take_71 : decode cX6_take 71 = .ok (.invokevirtual 71, 3) := by decide +kernel
theorem dX6_take_74 : decode cX6_take 74 = .ok (.aload_n 0, 1) := by decide +kernel
theorem dX6_take_75 : decode cX6_take 75 = .ok (.iload_n 2, 1) := by decide +kernel
theorem dX6_take_76 : decode cX6_take 76 = .ok (.aload_n 0, 1) := by decide +kernel
theorem dX6_take_77 : decode cX6_take 77 = .ok (.getfield 15, 3) := by decide +kernel
theorem dX6_take_80 : decode cX6_take 80 = .ok (.iload_n 2, 1) := by decide +kernel
theorem dX6_take_81 : decode cX6_take 81 = .ok (.iload_n 3, 1) := by decide +kernel
theorem dX6_take_82 : decode cX6_take 82 = .ok (.invokevirtual 79, 3) := by decide +kernel
theorem dX6_take_85 : decode cX6_take 85 = .ok (.invokevirtual 83, 3) := by decide +kernel
theorem dX6_take_88 : decode cX6_take 88 = .ok (.aload_n 0, 1) := by decide +kernel
theorem dX6_take_89 : decode cX6_take 89 = .ok (.aload_n 0, 1) := by decide +kernel
theorem dX6_take_90 : decode cX6_take 90 = .ok (.iload_n 2, 1) := by decide +kernel
theorem dX6_take_91 : decode cX6_take 91 = .ok (.invokevirtual 61, 3) := by decide +kernel
theorem dX6_take_94 : decode cX6_take 94 = .ok (.iload_n 3, 1) := by decide +kernel
theorem dX6_take_95 : decode cX6_take 95 = .ok (.iload 4, 2) := by decide +kernel
theorem dX6_take_97 : decode cX6_take 97 = .ok (.iconst 1, 1) := by decide +kernel
theorem dX6_take_98 : decode cX6_take 98 = .ok (.iadd, 1) := by decide +kernel
theorem dX6_take_99 : decode cX6_take 99 = .ok (.invokevirtual 37, 3) := by decide +kernel
theorem dX6_take_102 : decode cX6_take 102 = .ok (.iload 4, 2) := by decide +kernel
theorem dX6_take_104 : decode cX6_take 104 = .ok (.ireturn, 1) := by decide +kernel
set_option maxRecDepth 20000 in
theorem ggX7_init_X0_init : GoodIn wsX7_init wsX0_init := goodIn_r _ [25, 26, 2, 3, 27, 28, 29, 30, 31, 104, 105, 106, 107, 108] (by decide +kernel) (by decide +kernel)
set_option maxRecDepth 20000 in
theorem gX7_init_X0_init_n11 : GoodIn wsX7_init (wsX0_init) := ggX7_init_X0_init
set_option maxRecDepth 20000 in
theorem ggX7_init_X4_init : GoodIn wsX7_init wsX4_init := goodIn_r _ [34, 35, 2, 3, 29, 36, 37, 38, 39, 40, 41, 42, 43, 44, 45, 46, 47, 48, 49, 50, 51, 52, 53, 54, 55, 56, 57, 58, 27, 59, 60, 114, 115, 116, 117, 118, 119, 120, 121, 122, 145, 146, 147, 148] (by decide +kernel) (by decide +kernel)
set_option maxRecDepth 20000 in
theorem gX7_init_X4_init : GoodIn wsX7_init (wsX4_init) := ggX7_init_X4_init
set_option maxRecDepth 20000 in
theorem ggX7_init_X3_init : GoodIn wsX7_init wsX3_init := goodIn_r _ [62, 63, 2, 3, 29, 64, 65, 66, 67, 68, 69, 40, 70, 71, 44, 45, 72, 73, 50, 51, 52, 53, 54, 55, 56, 57, 58, 27, 59, 60, 123, 124, 125, 126, 127, 128, 129, 130, 131, 132, 145, 146, 147, 148] (by decide +kernel) (by decide +kernel)
set_option maxRecDepth 20000 in
theorem gX7_init_X3_init_n25 : GoodIn wsX7_init (wsX3_init) := ggX7_init_X3_init
set_option maxRecDepth 20000 in
theorem ggX7_init_X2_init : GoodIn wsX7_init wsX2_init := goodIn_r _ [76, 77, 2, 3, 78, 79, 80, 133, 134, 135] (by decide +kernel) (by decide +kernel)
set_option maxRecDepth 20000 in
theorem gX7_init_X2_init : GoodIn wsX7_init (wsX2_init) := ggX7_init_X2_init
set_option maxRecDepth 20000 in
theorem ggX7_init_X5_init : GoodIn wsX7_init wsX5_init := goodIn_r _ [83, 84, 2, 3, 85, 44, 45, 86, 29, 87, 88, 89, 90, 91, 92, 93, 94, 95, 50, 51, 52, 53, 54, 55, 56, 57, 58, 27, 59, 60, 96, 97, 98, 99, 100, 101, 102, 103, 145, 146, 147, 148, 136, 137, 138, 139, 140, 141, 142, 143, 144, 149, 150, 151, 152, 153] (by decide +kernel) (by decide +kernel)
set_option maxRecDepth 20000 in
theorem gX7_init_X5_init : GoodIn wsX7_init (wsX5_init) := ggX7_init_X5_init
theorem dX7_init_0 : decode cX7_init 0 = .ok (.aload_n 0, 1) := by decide +kernel
theorem dX7_init_1 : decode cX7_init 1 = .ok (.invokespecial 3, 3) := by decide +kernel
theorem dX7_init_4 : decode cX7_init 4 = .ok (.aload_n 0, 1) := by decide +kernel
theorem dX7_init_5 : decode cX7_init 5 = .ok (.new 9, 3) := by decide +kernel
theorem dX7_init_8 : decode cX7_init 8 = .ok (.dup, 1) := by decide +kernel
theorem dX7_init_9 : decode cX7_init 9 = .ok (.invokespecial 11, 3) := by decide +kernel
theorem dX7_init_12 : decode cX7_init 12 = .ok (.putfield 12, 3) := by decide +kernel
theorem dX7_init_15 : decode cX7_init 15 = .ok (.aload_n 0, 1) := by decide +kernel
theorem dX7_init_16 : decode cX7_init 16 = .ok (.new 16, 3) := by decide +kernel
theorem dX7_init_19 : decode cX7_init 19 = .ok (.dup, 1) := by decide +kernel
theorem dX7_init_20 : decode cX7_init 20 = .ok (.invokespecial 18, 3) := by decide +kernel
theorem dX7_init_23 : decode cX7_init 23 = .ok (.putfield 19, 3) := by decide +kernel
theorem dX7_init_26 : decode cX7_init 26 = .ok (.aload_n 0, 1) := by decide +kernel
theorem dX7_init_27 : decode cX7_init 27 = .ok (.new 23, 3) := by decide +kernel
theorem dX7_init_30 : decode cX7_init 30 = .ok (.dup, 1) := by decide +kernel
theorem dX7_init_31 : decode cX7_init 31 = .ok (.invokespecial 25, 3) := by decide +kernel
theorem dX7_init_34 : decode cX7_init 34 = .ok (.putfield 26, 3) := by decide +kernel
theorem dX7_init_37 : decode cX7_init 37 = .ok (.aload_n 0, 1) := by decide +kernel
theorem dX7_init_38 : decode cX7_init 38 = .ok (.new 30, 3) := by decide +kernel
theorem dX7_init_41 : decode cX7_init 41 = .ok (.dup, 1) := by decide +kernel
theorem dX7_init_42 : decode cX7_init 42 = .ok (.aload_n 0, 1) := by decide +kernel
theorem dX7_init_43 : decode cX7_init 43 = .ok (.getfield 12, 3) := by decide +kernel
theorem dX7_init_46 : decode cX7_init 46 = .ok (.aload_n 0, 1) := by decide +kernel
theorem dX7_init_47 : decode cX7_init 47 = .ok (.getfield 19, 3) := by decide +kernel
theorem dX7_init_50 : decode cX7_init 50 = .ok (.aload_n 0, 1) := by decide +kernel
theorem dX7_init_51 : decode cX7_init 51 = .ok (.getfield 26, 3) := by decide +kernel
theorem dX7_init_54 : decode cX7_init 54 = .ok (.invokespecial 32, 3) := by decide +kernel
theorem dX7_init_57 : decode cX7_init 57 = .ok (.putfield 35, 3) := by decide +kernel
theorem dX7_init_60 : decode cX7_init 60 = .ok (.aload_n 0, 1) := by decide +kernel
theorem dX7_init_61 : decode cX7_init 61 = .ok (.new 39, 3) := by decide +kernel
theorem dX7_init_64 : decode cX7_init 64 = .ok (.dup, 1) := by decide +kernel
theorem dX7_init_65 : decode cX7_init 65 = .ok (.aload_n 0, 1) := by decide +kernel
theorem dX7_init_66 : decode cX7_init 66 = .ok (.getfield 19, 3) := by decide +kernel
theorem dX7_init_69 : decode cX7_init 69 = .ok (.aload_n 0, 1) := by decide +kernel
theorem dX7_init_70 : decode cX7_init 70 = .ok (.getfield 26, 3) := by decide +kernel
theorem dX7_init_73 : decode cX7_init 73 = .ok (.invokespecial 41, 3) := by decide +kernel
theorem dX7_init_76 : decode cX7_init 76 = .ok (.putfield 44, 3) := by decide +kernel
theorem dX7_init_79 : decode cX7_init 79 = .ok (.return_, 1) := by decide +kernel
set_option maxRecDepth 20000 in
theorem ggX7_write_X0_append : GoodIn wsX7_write wsX0_append := goodIn_r _ [6, 7, 8, 14, 15, 16, 17, 18] (by decide +kernel) (by decide +kernel)
set_option maxRecDepth 20000 in
theorem gX7_write_X0_append : GoodIn wsX7_write (wsV RX7 48 RX0 yX0_append wsX0_append) := goodIn_app (goodIn_of _ (by decide +kernel)) ggX7_write_X0_append
theorem dX7_write_0 : decode cX7_write 0 = .ok (.aload_n 0, 1) := by decide +kernel
theorem dX7_write_1 : decode cX7_write 1 = .ok (.getfield 12, 3) := by decide +kernel
theorem dX7_write_4 : decode cX7_write 4 = .ok (.iload_n 1, 1) := by decide +kernel
theorem dX7_write_5 : decode cX7_write 5 = .ok (.invokevirtual 48, 3) := by decide +kernel
theorem dX7_write_8 : decode cX7_write 8 = .ok (.ireturn, 1) := by decide +kernel
set_option maxRecDepth 20000 in
theorem ggX7_line_X2_read : GoodIn wsX7_line wsX2_read := goodIn_r _ [11, 12, 13, 14, 15, 16, 17, 18, 19, 20, 21, 22, 23, 24, 25, 26, 27, 28, 29, 30, 31, 32, 33, 34, 35, 36, 37, 38, 39, 40, 41, 42, 43, 44, 45, 46, 47, 48, 49, 50, 51, 52, 53, 54, 55, 56, 57, 58, 59, 60, 61, 62, 63, 64, 65, 66, 67, 68, 69, 70, 71, 72, 73, 74, 75, 76, 77, 78, 79, 80, 81, 82, 83, 84, 85, 86, 87, 88, 89, 90, 91, 10, 92, 93, 94, 95, 96, 97, 98, 99, 100, 101, 102, 103, 104, 105, 106, 107, 108, 109, 110, 111, 112, 113, 114, 115, 116, 117, 118, 119, 120, 121, 122, 123, 124, 125, 126, 127, 128, 129, 130, 131, 132, 133, 134, 135, 136, 137, 138, 139, 140, 141, 142, 143, 144, 145, 146, 147, 148, 149, 150, 151, 152, 153, 154, 155, 156, 157, 158, 159, 160, 161, 162, 163, 164, 165, 166, 167, 168, 169, 170, 171, 172, 173, 174, 175, 176, 177, 178, 179, 180, 181, 182, 183, 184, 185, 186, 187, 188, 189, 190, 191, 192, 193, 194, 195, 196, 197, 198, 199, 200, 201, 202, 203, 204, 205, 206, 207, 208, 209, 210, 211, 212, 213, 214, 215, 216, 217, 218, 219, 220, 221, 222, 223, 224, 236, 237, 238, 239, 240, 241, 242, 243, 244, 245, 246, 247, 248, 249, 250, 251, 252, 253, 254, 255, 256, 257, 258, 259, 260, 261, 262, 263, 264, 265, 266] (by decide +kernel) (by decide +kernel)
set_option maxRecDepth 20000 in
theorem gX7_line_X2_read : GoodIn wsX7_line (wsV RX7 52 RX2 yX2_read wsX2_read) := goodIn_app (goodIn_of _ (by decide +kernel)) ggX7_line_X2_read
set_option maxRecDepth 20000 in
theorem ggX7_line_X5_drop : GoodIn wsX7_line wsX5_drop := goodIn_r _ [229, 230, 267, 268, 269, 270, 271, 272, 273, 274, 275] (by decide +kernel) (by decide +kernel)
set_option maxRecDepth 20000 in
theorem gX7_line_X5_drop : GoodIn wsX7_line (wsV RX7 68 RX5 yX5_drop wsX5_drop) := goodIn_app (goodIn_of _ (by decide +kernel)) ggX7_line_X5_drop
theorem dX7_line_0 : decode cX7_line 0 = .ok (.aload_n 0, 1) := by decide +kernel
theorem dX7_line_1 : decode cX7_line 1 = .ok (.getfield 35, 3) := by decide +kernel
theorem dX7_line_4 : decode cX7_line 4 = .ok (.invokevirtual 52, 3) := by decide +kernel
theorem dX7_line_7 : decode cX7_line 7 = .ok (.istore_n 1, 1) := by decide +kernel
theorem dX7_line_8 : decode cX7_line 8 = .ok (.iload_n 1, 1) := by decide +kernel
theorem dX7_line_9 : decode cX7_line 9 = .ok (.iconst (-1), 1) := by decide +kernel
theorem dX7_line_10 : decode cX7_line 10 = .ok (.if_icmp .ne 13, 3) := by decide +kernel
theorem dX7_line_13 : decode cX7_line 13 = .ok (.new 56, 3) := by decide +kernel
theorem dX7_line_16 : decode cX7_line 16 = .ok (.dup, 1) := by decide +kernel
theorem dX7_line_17 : decode cX7_line 17 = .ok (.ldc 58, 2) := by decide +kernel
theorem dX7_line_19 : decode cX7_line 19 = .ok (.invokespecial 60, 3) := by decide +kernel
theorem dX7_line_22 : decode cX7_line 22 = .ok (.athrow, 1) := by decide +kernel
theorem dX7_line_23 : decode cX7_line 23 = .ok (.iload_n 1, 1) := by decide +kernel
theorem dX7_line_24 : decode cX7_line 24 = .ok (.bipush (-2), 2) := by decide +kernel
theorem dX7_line_26 : decode cX7_line 26 = .ok (.if_icmp .ne 13, 3) := by decide +kernel
theorem dX7_line_29 : decode cX7_line 29 = .ok (.new 63, 3) := by decide +kernel
theorem dX7_line_32 : decode cX7_line 32 = .ok (.dup, 1) := by decide +kernel
theorem dX7_line_33 : decode cX7_line 33 = .ok (.ldc 65, 2) := by decide +kernel
theorem dX7_line_35 : decode cX7_line 35 = .ok (.invokespecial 67, 3) := by decide +kernel
theorem dX7_line_38 : decode cX7_line 38 = .ok (.athrow, 1) := by decide +kernel
theorem dX7_line_39 : decode cX7_line 39 = .ok (.iload_n 1, 1) := by decide +kernel
theorem dX7_line_40 : decode cX7_line 40 = .ok (.ifCond .eq 10, 3) := by decide +kernel
theorem dX7_line_43 : decode cX7_line 43 = .ok (.aload_n 0, 1) := by decide +kernel
theorem dX7_line_44 : decode cX7_line 44 = .ok (.getfield 44, 3) := by decide +kernel
theorem dX7_line_47 : decode cX7_line 47 = .ok (.invokevirtual 68, 3) := by decide +kernel
theorem dX7_line_50 : decode cX7_line 50 = .ok (.iload_n 1, 1) := by decide +kernel
theorem dX7_line_51 : decode cX7_line 51 = .ok (.ireturn, 1) := by decide +kernel
set_option maxRecDepth 20000 in
theorem ggX7_compile_X5_build : GoodIn wsX7_compile wsX5_build := goodIn_r _ [8, 9, 10, 11, 12, 13, 14, 15, 16, 17, 18, 19, 20, 21, 22, 23, 24, 25, 26, 27, 28, 29, 30, 31, 32, 33, 34, 35, 36, 37, 38, 39, 40, 41, 42, 43, 44, 45, 46, 47, 48, 49, 50, 51, 52, 53, 54, 55, 56, 57, 58, 59, 60, 61, 62, 63, 64, 65, 66, 67, 68, 69, 70, 71, 72, 73, 74, 75, 76, 77, 78, 79, 80, 81, 82, 83, 84, 85, 86, 87, 88, 89, 90, 91, 92, 93, 94, 95, 96, 97, 98, 99, 7, 100, 101, 102, 103, 104, 105, 106, 107, 108, 109, 110, 111, 112, 113, 114, 115, 116, 117, 118, 119, 120, 121, 122, 123, 124, 125, 126, 127, 128, 129, 130, 131, 132, 133, 134, 135, 136, 137, 138, 139, 140, 141, 142, 143, 144, 145, 146, 147, 148, 149, 150, 151, 152, 153, 154, 155, 156, 157, 158, 159, 160, 161, 162, 163, 164, 165, 166, 167, 168, 169, 170, 171, 172, 173, 174, 175, 176, 177, 178, 179, 180, 181, 182, 183, 184, 185, 186, 187, 188, 189, 190, 191, 192, 193, 194, 195, 196, 197, 198, 199, 200, 201, 202, 203, 204, 205, 206, 207, 208, 209, 210, 211, 212, 213, 214, 215, 216, 217, 218, 219, 220, 221, 231, 232, 233, 234, 235, 236, 237, 238, 239, 240, 241, 242, 243, 244, 245, 246, 247, 248, 249, 250, 251, 252, 253, 254, 255, 256, 257, 258, 259, 260, 261, 262, 263, 264, 265, 266, 267] (by decide +kernel) (by decide +kernel)
set_option maxRecDepth 20000 in
theorem gX7_compile_X5_build : GoodIn wsX7_compile (wsV RX7 71 RX5 yX5_build wsX5_build) := goodIn_app (goodIn_of _ (by decide +kernel)) ggX7_compile_X5_build
set_option maxRecDepth 20000 in
theorem ggX7_compile_X5_size : GoodIn wsX7_compile wsX5_size := goodIn_r _ [225, 9, 231, 232, 233, 234, 235, 236, 237, 238, 239] (by decide +kernel) (by decide +kernel)
set_option maxRecDepth 20000 in
theorem gX7_compile_X5_size : GoodIn wsX7_compile (wsV RX7 77 RX5 yX5_size wsX5_size) := goodIn_app (goodIn_of _ (by decide +kernel)) ggX7_compile_X5_size
theorem dX7_compile_0 : decode cX7_compile 0 = .ok (.aload_n 0, 1) := by decide +kernel
theorem dX7_compile_1 : decode cX7_compile 1 = .ok (.getfield 44, 3) := by decide +kernel
theorem dX7_compile_4 : decode cX7_compile 4 = .ok (.invokevirtual 71, 3) := by decide +kernel
theorem dX7_compile_7 : decode cX7_compile 7 = .ok (.ifCond .ne 13, 3) := by decide +kernel
theorem dX7_compile_10 : decode cX7_compile 10 = .ok (.new 63, 3) := by decide +kernel
theorem dX7_compile_13 : decode cX7_compile 13 = .ok (.dup, 1) := by decide +kernel
theorem dX7_compile_14 : decode cX7_compile 14 = .ok (.ldc 75, 2) := by decide +kernel
theorem dX7_compile_16 : decode cX7_compile 16 = .ok (.invokespecial 67, 3) := by decide +kernel
theorem dX7_compile_19 : decode cX7_compile 19 = .ok (.athrow, 1) := by decide +kernel
theorem dX7_compile_20 : decode cX7_compile 20 = .ok (.aload_n 0, 1) := by decide +kernel
theorem dX7_compile_21 : decode cX7_compile 21 = .ok (.getfield 44, 3) := by decide +kernel
theorem dX7_compile_24 : decode cX7_compile 24 = .ok (.invokevirtual 77, 3) := by decide +kernel
theorem dX7_compile_27 : decode cX7_compile 27 = .ok (.ireturn, 1) := by decide +kernel
set_option maxRecDepth 20000 in
theorem ggX7_configurations_X5_size : GoodIn wsX7_configurations wsX5_size := goodIn_r _ [6, 7, 13, 14, 15, 16, 17, 18, 19, 20, 21] (by decide +kernel) (by decide +kernel)
set_option maxRecDepth 20000 in
theorem gX7_configurations_X5_size : GoodIn wsX7_configurations (wsV RX7 77 RX5 yX5_size wsX5_size) := goodIn_app (goodIn_of _ (by decide +kernel)) ggX7_configurations_X5_size
theorem dX7_configurations_0 : decode cX7_configurations 0 = .ok (.aload_n 0, 1) := by decide +kernel
theorem dX7_configurations_1 : decode cX7_configurations 1 = .ok (.getfield 44, 3) := by decide +kernel
theorem dX7_configurations_4 : decode cX7_configurations 4 = .ok (.invokevirtual 77, 3) := by decide +kernel
theorem dX7_configurations_7 : decode cX7_configurations 7 = .ok (.ireturn, 1) := by decide +kernel
set_option maxRecDepth 20000 in
theorem ggX7_count_X4_made : GoodIn wsX7_count wsX4_made := goodIn_r _ [8, 9, 33, 34, 35, 36, 37, 38, 39, 40, 41] (by decide +kernel) (by decide +kernel)
set_option maxRecDepth 20000 in
theorem gX7_count_X4_made : GoodIn wsX7_count (wsV RX7 80 RX4 yX4_made wsX4_made) := goodIn_app (goodIn_of _ (by decide +kernel)) ggX7_count_X4_made
set_option maxRecDepth 20000 in
theorem ggX7_count_X3_made : GoodIn wsX7_count wsX3_made := goodIn_r _ [14, 15, 42, 43, 44, 45, 46, 47, 48, 49, 50, 51] (by decide +kernel) (by decide +kernel)
set_option maxRecDepth 20000 in
theorem gX7_count_X3_made : GoodIn wsX7_count (wsV RX7 83 RX3 yX3_made wsX3_made) := goodIn_app (goodIn_of _ (by decide +kernel)) ggX7_count_X3_made
set_option maxRecDepth 20000 in
theorem ggX7_count_X3_events : GoodIn wsX7_count wsX3_events := goodIn_r _ [19, 20, 42, 43, 44, 45, 46, 47, 48, 49, 50, 51] (by decide +kernel) (by decide +kernel)
set_option maxRecDepth 20000 in
theorem gX7_count_X3_events : GoodIn wsX7_count (wsV RX7 84 RX3 yX3_events wsX3_events) := goodIn_app (goodIn_of _ (by decide +kernel)) ggX7_count_X3_events
set_option maxRecDepth 20000 in
theorem ggX7_count_X5_place : GoodIn wsX7_count wsX5_place := goodIn_r _ [25, 26, 27, 52, 53, 54, 55, 56, 57, 58, 59, 60] (by decide +kernel) (by decide +kernel)
set_option maxRecDepth 20000 in
theorem gX7_count_X5_place : GoodIn wsX7_count (wsV RX7 87 RX5 yX5_place wsX5_place) := goodIn_app (goodIn_of _ (by decide +kernel)) ggX7_count_X5_place
theorem dX7_count_0 : decode cX7_count 0 = .ok (.iload_n 1, 1) := by decide +kernel
theorem dX7_count_1 : decode cX7_count 1 = .ok (.tableswitch 63 0 3 #[31, 39, 47, 55], 31) := by decide +kernel
theorem dX7_count_32 : decode cX7_count 32 = .ok (.aload_n 0, 1) := by decide +kernel
theorem dX7_count_33 : decode cX7_count 33 = .ok (.getfield 19, 3) := by decide +kernel
theorem dX7_count_36 : decode cX7_count 36 = .ok (.invokevirtual 80, 3) := by decide +kernel
theorem dX7_count_39 : decode cX7_count 39 = .ok (.ireturn, 1) := by decide +kernel
theorem dX7_count_40 : decode cX7_count 40 = .ok (.aload_n 0, 1) := by decide +kernel
theorem dX7_count_41 : decode cX7_count 41 = .ok (.getfield 26, 3) := by decide +kernel
theorem dX7_count_44 : decode cX7_count 44 = .ok (.invokevirtual 83, 3) := by decide +kernel
theorem dX7_count_47 : decode cX7_count 47 = .ok (.ireturn, 1) := by decide +kernel
theorem dX7_count_48 : decode cX7_count 48 = .ok (.aload_n 0, 1) := by decide +kernel
theorem dX7_count_49 : decode cX7_count 49 = .ok (.getfield 26, 3) := by decide +kernel
theorem dX7_count_52 : decode cX7_count 52 = .ok (.invokevirtual 84, 3) := by decide +kernel
theorem dX7_count_55 : decode cX7_count 55 = .ok (.ireturn, 1) := by decide +kernel
theorem dX7_count_56 : decode cX7_count 56 = .ok (.aload_n 0, 1) := by decide +kernel
theorem dX7_count_57 : decode cX7_count 57 = .ok (.getfield 44, 3) := by decide +kernel
theorem dX7_count_60 : decode cX7_count 60 = .ok (.invokevirtual 87, 3) := by decide +kernel
theorem dX7_count_63 : decode cX7_count 63 = .ok (.ireturn, 1) := by decide +kernel
theorem dX7_count_64 : decode cX7_count 64 = .ok (.iconst (-1), 1) := by decide +kernel
theorem dX7_count_65 : decode cX7_count 65 = .ok (.ireturn, 1) := by decide +kernel
set_option maxRecDepth 20000 in
theorem ggX7_named_X0_split : GoodIn wsX7_named wsX0_split := goodIn_r _ [9, 10, 11, 12, 13, 14, 47, 48, 49, 50, 51] (by decide +kernel) (by decide +kernel)
set_option maxRecDepth 20000 in
theorem gX7_named_X0_split : GoodIn wsX7_named (wsV RX7 90 RX0 yX0_split wsX0_split) := goodIn_app (goodIn_of _ (by decide +kernel)) ggX7_named_X0_split
set_option maxRecDepth 20000 in
theorem ggX7_named_X0_words : GoodIn wsX7_named wsX0_words := goodIn_r _ [18, 10, 47, 48, 49, 50, 51] (by decide +kernel) (by decide +kernel)
set_option maxRecDepth 20000 in
theorem gX7_named_X0_words : GoodIn wsX7_named (wsV RX7 93 RX0 yX0_words wsX0_words) := goodIn_app (goodIn_of _ (by decide +kernel)) ggX7_named_X0_words
set_option maxRecDepth 20000 in
theorem ggX7_named_X0_nameAt : GoodIn wsX7_named wsX0_nameAt := goodIn_r _ [22, 23, 24, 25, 8, 26, 27, 28, 29, 30, 10, 14, 13, 31, 32, 33, 34, 12, 47, 48, 49, 50, 51] (by decide +kernel) (by decide +kernel)
set_option maxRecDepth 20000 in
theorem gX7_named_X0_nameAt : GoodIn wsX7_named (wsV RX7 96 RX0 yX0_nameAt wsX0_nameAt) := goodIn_app (goodIn_of _ (by decide +kernel)) ggX7_named_X0_nameAt
set_option maxRecDepth 20000 in
theorem ggX7_named_X4_find : GoodIn wsX7_named wsX4_find := goodIn_r _ [39, 40, 41, 52, 53, 54, 55, 56, 57, 58, 59, 60] (by decide +kernel) (by decide +kernel)
set_option maxRecDepth 20000 in
theorem gX7_named_X4_find : GoodIn wsX7_named (wsV RX7 100 RX4 yX4_find wsX4_find) := goodIn_app (goodIn_of _ (by decide +kernel)) ggX7_named_X4_find
theorem dX7_named_0 : decode cX7_named 0 = .ok (.aload_n 0, 1) := by decide +kernel
theorem dX7_named_1 : decode cX7_named 1 = .ok (.getfield 12, 3) := by decide +kernel
theorem dX7_named_4 : decode cX7_named 4 = .ok (.invokevirtual 90, 3) := by decide +kernel
theorem dX7_named_7 : decode cX7_named 7 = .ok (.aload_n 0, 1) := by decide +kernel
theorem dX7_named_8 : decode cX7_named 8 = .ok (.getfield 12, 3) := by decide +kernel
theorem dX7_named_11 : decode cX7_named 11 = .ok (.invokevirtual 93, 3) := by decide +kernel
theorem dX7_named_14 : decode cX7_named 14 = .ok (.iconst 1, 1) := by decide +kernel
theorem dX7_named_15 : decode cX7_named 15 = .ok (.if_icmp .ne 21, 3) := by decide +kernel
theorem dX7_named_18 : decode cX7_named 18 = .ok (.aload_n 0, 1) := by decide +kernel
theorem dX7_named_19 : decode cX7_named 19 = .ok (.getfield 19, 3) := by decide +kernel
theorem dX7_named_22 : decode cX7_named 22 = .ok (.aload_n 0, 1) := by decide +kernel
theorem dX7_named_23 : decode cX7_named 23 = .ok (.getfield 12, 3) := by decide +kernel
theorem dX7_named_26 : decode cX7_named 26 = .ok (.iconst 0, 1) := by decide +kernel
theorem dX7_named_27 : decode cX7_named 27 = .ok (.invokevirtual 96, 3) := by decide +kernel
theorem dX7_named_30 : decode cX7_named 30 = .ok (.invokevirtual 100, 3) := by decide +kernel
theorem dX7_named_33 : decode cX7_named 33 = .ok (.goto 4, 3) := by decide +kernel
theorem dX7_named_36 : decode cX7_named 36 = .ok (.iconst (-1), 1) := by decide +kernel
theorem dX7_named_37 : decode cX7_named 37 = .ok (.istore_n 1, 1) := by decide +kernel
theorem dX7_named_38 : decode cX7_named 38 = .ok (.iload_n 1, 1) := by decide +kernel
theorem dX7_named_39 : decode cX7_named 39 = .ok (.iconst (-1), 1) := by decide +kernel
theorem dX7_named_40 : decode cX7_named 40 = .ok (.if_icmp .ne 13, 3) := by decide +kernel
theorem dX7_named_43 : decode cX7_named 43 = .ok (.new 103, 3) := by decide +kernel
theorem dX7_named_46 : decode cX7_named 46 = .ok (.dup, 1) := by decide +kernel
theorem dX7_named_47 : decode cX7_named 47 = .ok (.ldc 105, 2) := by decide +kernel
theorem dX7_named_49 : decode cX7_named 49 = .ok (.invokespecial 107, 3) := by decide +kernel
theorem dX7_named_52 : decode cX7_named 52 = .ok (.athrow, 1) := by decide +kernel
theorem dX7_named_53 : decode cX7_named 53 = .ok (.iload_n 1, 1) := by decide +kernel
theorem dX7_named_54 : decode cX7_named 54 = .ok (.ireturn, 1) := by decide +kernel
set_option maxRecDepth 20000 in
theorem ggX7_next_X5_following : GoodIn wsX7_next wsX5_following := goodIn_r _ [8, 9, 10, 11, 12, 7, 13, 14, 15, 16, 17, 18, 19, 20, 21, 22, 23, 24, 25, 31, 32, 33, 34, 35, 36, 37, 38, 39, 40, 41, 42, 43, 44, 45, 46, 47, 48, 49] (by decide +kernel) (by decide +kernel)
set_option maxRecDepth 20000 in
theorem gX7_next_X5_following : GoodIn wsX7_next (wsV RX7 108 RX5 yX5_following wsX5_following) := goodIn_app (goodIn_of _ (by decide +kernel)) ggX7_next_X5_following
theorem dX7_next_0 : decode cX7_next 0 = .ok (.aload_n 0, 1) := by decide +kernel
theorem dX7_next_1 : decode cX7_next 1 = .ok (.getfield 44, 3) := by decide +kernel
theorem dX7_next_4 : decode cX7_next 4 = .ok (.iload_n 1, 1) := by decide +kernel
theorem dX7_next_5 : decode cX7_next 5 = .ok (.iload_n 2, 1) := by decide +kernel
theorem dX7_next_6 : decode cX7_next 6 = .ok (.invokevirtual 108, 3) := by decide +kernel
theorem dX7_next_9 : decode cX7_next 9 = .ok (.istore_n 3, 1) := by decide +kernel
theorem dX7_next_10 : decode cX7_next 10 = .ok (.iload_n 3, 1) := by decide +kernel
theorem dX7_next_11 : decode cX7_next 11 = .ok (.iconst (-1), 1) := by decide +kernel
theorem dX7_next_12 : decode cX7_next 12 = .ok (.if_icmp .ne 13, 3) := by decide +kernel
theorem dX7_next_15 : decode cX7_next 15 = .ok (.new 103, 3) := by decide +kernel
theorem dX7_next_18 : decode cX7_next 18 = .ok (.dup, 1) := by decide +kernel
theorem dX7_next_19 : decode cX7_next 19 = .ok (.ldc 112, 2) := by decide +kernel
theorem dX7_next_21 : decode cX7_next 21 = .ok (.invokespecial 107, 3) := by decide +kernel
theorem dX7_next_24 : decode cX7_next 24 = .ok (.athrow, 1) := by decide +kernel
theorem dX7_next_25 : decode cX7_next 25 = .ok (.iload_n 3, 1) := by decide +kernel
theorem dX7_next_26 : decode cX7_next 26 = .ok (.ireturn, 1) := by decide +kernel
set_option maxRecDepth 20000 in
theorem ggX7_trace_X5_traceLetter : GoodIn wsX7_trace wsX5_traceLetter := goodIn_r _ [6, 7, 8, 9, 10, 11, 5, 12, 13, 14, 15, 16, 17, 18, 19, 20, 21, 22, 23, 24, 25, 26, 27, 28, 29, 30, 31, 32, 33, 34, 35, 36, 37, 38, 39, 40, 46, 47, 48, 49, 50, 51, 52, 53, 54, 55, 56, 57, 58, 59, 60, 61, 62, 63, 64, 65, 66, 67, 68] (by decide +kernel) (by decide +kernel)
set_option maxRecDepth 20000 in
theorem gX7_trace_X5_traceLetter : GoodIn wsX7_trace (wsV RX7 114 RX5 yX5_traceLetter wsX5_traceLetter) := goodIn_app (goodIn_of _ (by decide +kernel)) ggX7_trace_X5_traceLetter
theorem dX7_trace_0 : decode cX7_trace 0 = .ok (.aload_n 0, 1) := by decide +kernel
theorem dX7_trace_1 : decode cX7_trace 1 = .ok (.getfield 44, 3) := by decide +kernel
theorem dX7_trace_4 : decode cX7_trace 4 = .ok (.iload_n 1, 1) := by decide +kernel
theorem dX7_trace_5 : decode cX7_trace 5 = .ok (.iload_n 2, 1) := by decide +kernel
theorem dX7_trace_6 : decode cX7_trace 6 = .ok (.iload_n 3, 1) := by decide +kernel
theorem dX7_trace_7 : decode cX7_trace 7 = .ok (.invokevirtual 114, 3) := by decide +kernel
theorem dX7_trace_10 : decode cX7_trace 10 = .ok (.ireturn, 1) := by decide +kernel
set_option maxRecDepth 20000 in
theorem ggX7_active_X5_isActive : GoodIn wsX7_active wsX5_isActive := goodIn_r _ [6, 7, 8, 9, 10, 11, 5, 12, 13, 14, 15, 16, 17, 18, 19, 20, 21, 22, 23, 24, 25, 26, 27, 28, 29, 30, 31, 32, 33, 34, 35, 36, 37, 38, 39, 40, 41, 42, 43, 44, 45, 46, 47, 48, 49, 50, 51, 52, 53, 54, 60, 61, 62, 63, 64, 65, 66, 67, 68, 69, 70, 71, 72, 73, 74, 75, 76, 77, 78, 79, 80, 81, 82] (by decide +kernel) (by decide +kernel)
set_option maxRecDepth 20000 in
theorem gX7_active_X5_isActive : GoodIn wsX7_active (wsV RX7 118 RX5 yX5_isActive wsX5_isActive) := goodIn_app (goodIn_of _ (by decide +kernel)) ggX7_active_X5_isActive
theorem dX7_active_0 : decode cX7_active 0 = .ok (.aload_n 0, 1) := by decide +kernel
theorem dX7_active_1 : decode cX7_active 1 = .ok (.getfield 44, 3) := by decide +kernel
theorem dX7_active_4 : decode cX7_active 4 = .ok (.iload_n 1, 1) := by decide +kernel
theorem dX7_active_5 : decode cX7_active 5 = .ok (.iload_n 2, 1) := by decide +kernel
theorem dX7_active_6 : decode cX7_active 6 = .ok (.invokevirtual 118, 3) := by decide +kernel
theorem dX7_active_9 : decode cX7_active 9 = .ok (.ireturn, 1) := by decide +kernel
set_option maxRecDepth 20000 in
theorem ggX7_current_X5_currentChild : GoodIn wsX7_current wsX5_currentChild := goodIn_r _ [6, 7, 8, 9, 10, 11, 5, 12, 13, 14, 15, 16, 17, 18, 19, 25, 26, 27, 28, 29, 30, 31, 32, 33, 34, 35, 36, 37, 38, 39, 40, 41, 42] (by decide +kernel) (by decide +kernel)
set_option maxRecDepth 20000 in
theorem gX7_current_X5_currentChild : GoodIn wsX7_current (wsV RX7 122 RX5 yX5_currentChild wsX5_currentChild) := goodIn_app (goodIn_of _ (by decide +kernel)) ggX7_current_X5_currentChild
theorem dX7_current_0 : decode cX7_current 0 = .ok (.aload_n 0, 1) := by decide +kernel
theorem dX7_current_1 : decode cX7_current 1 = .ok (.getfield 44, 3) := by decide +kernel
theorem dX7_current_4 : decode cX7_current 4 = .ok (.iload_n 1, 1) := by decide +kernel
theorem dX7_current_5 : decode cX7_current 5 = .ok (.iload_n 2, 1) := by decide +kernel
theorem dX7_current_6 : decode cX7_current 6 = .ok (.invokevirtual 122, 3) := by decide +kernel
theorem dX7_current_9 : decode cX7_current 9 = .ok (.ireturn, 1) := by decide +kernel
set_option maxRecDepth 20000 in
theorem ggX7_event_X5_size : GoodIn wsX7_event wsX5_size := goodIn_r _ [11, 12, 53, 54, 55, 56, 57, 58, 59, 60, 61] (by decide +kernel) (by decide +kernel)
set_option maxRecDepth 20000 in
theorem gX7_event_X5_size : GoodIn wsX7_event (wsV RX7 77 RX5 yX5_size wsX5_size) := goodIn_app (goodIn_of _ (by decide +kernel)) ggX7_event_X5_size
set_option maxRecDepth 20000 in
theorem ggX7_event_X3_isEvent : GoodIn wsX7_event wsX3_isEvent := goodIn_r _ [17, 18, 62, 63, 64, 65, 66, 67, 68, 69, 70, 71] (by decide +kernel) (by decide +kernel)
set_option maxRecDepth 20000 in
theorem gX7_event_X3_isEvent : GoodIn wsX7_event (wsV RX7 127 RX3 yX3_isEvent wsX3_isEvent) := goodIn_app (goodIn_of _ (by decide +kernel)) ggX7_event_X3_isEvent
set_option maxRecDepth 20000 in
theorem ggX7_event_X5_step : GoodIn wsX7_event wsX5_step := goodIn_r _ [22, 23, 24, 25, 26, 27, 28, 29, 10, 30, 31, 32, 33, 34, 35, 12, 36, 14, 15, 16, 17, 18, 37, 38, 39, 40, 41, 42, 43, 44, 45, 46, 47, 53, 54, 55, 56, 57, 58, 59, 60, 61, 62, 63, 64, 65, 66, 67, 68, 69, 70, 71, 72, 73, 74, 75] (by decide +kernel) (by decide +kernel)
set_option maxRecDepth 20000 in
theorem gX7_event_X5_step : GoodIn wsX7_event (wsV RX7 133 RX5 yX5_step wsX5_step) := goodIn_app (goodIn_of _ (by decide +kernel)) ggX7_event_X5_step
theorem dX7_event_0 : decode cX7_event 0 = .ok (.aload_n 0, 1) := by decide +kernel
theorem dX7_event_1 : decode cX7_event 1 = .ok (.getfield 44, 3) := by decide +kernel
theorem dX7_event_4 : decode cX7_event 4 = .ok (.invokevirtual 77, 3) := by decide +kernel
theorem dX7_event_7 : decode cX7_event 7 = .ok (.ifCond .ne 13, 3) := by decide +kernel
theorem dX7_event_10 : decode cX7_event 10 = .ok (.new 63, 3) := by decide +kernel
theorem dX7_event_13 : decode cX7_event 13 = .ok (.dup, 1) := by decide +kernel
theorem dX7_event_14 : decode cX7_event 14 = .ok (.ldc 125, 2) := by decide +kernel
theorem dX7_event_16 : decode cX7_event 16 = .ok (.invokespecial 67, 3) := by decide +kernel
theorem dX7_event_19 : decode cX7_event 19 = .ok (.athrow, 1) := by decide +kernel
theorem dX7_event_20 : decode cX7_event 20 = .ok (.aload_n 0, 1) := by decide +kernel
theorem dX7_event_21 : decode cX7_event 21 = .ok (.getfield 26, 3) := by decide +kernel
theorem dX7_event_24 : decode cX7_event 24 = .ok (.iload_n 1, 1) := by decide +kernel
theorem dX7_event_25 : decode cX7_event 25 = .ok (.invokevirtual 127, 3) := by decide +kernel
theorem dX7_event_28 : decode cX7_event 28 = .ok (.ifCond .ne 13, 3) := by decide +kernel
theorem dX7_event_31 : decode cX7_event 31 = .ok (.new 56, 3) := by decide +kernel
theorem dX7_event_34 : decode cX7_event 34 = .ok (.dup, 1) := by decide +kernel
theorem dX7_event_35 : decode cX7_event 35 = .ok (.ldc 131, 2) := by decide +kernel
theorem dX7_event_37 : decode cX7_event 37 = .ok (.invokespecial 60, 3) := by decide +kernel
theorem dX7_event_40 : decode cX7_event 40 = .ok (.athrow, 1) := by decide +kernel
theorem dX7_event_41 : decode cX7_event 41 = .ok (.aload_n 0, 1) := by decide +kernel
theorem dX7_event_42 : decode cX7_event 42 = .ok (.getfield 44, 3) := by decide +kernel
theorem dX7_event_45 : decode cX7_event 45 = .ok (.iload_n 1, 1) := by decide +kernel
theorem dX7_event_46 : decode cX7_event 46 = .ok (.invokevirtual 133, 3) := by decide +kernel
theorem dX7_event_49 : decode cX7_event 49 = .ok (.ireturn, 1) := by decide +kernel
set_option maxRecDepth 20000 in
theorem ggX7_noted_X5_marksNoted : GoodIn wsX7_noted wsX5_marksNoted := goodIn_r _ [6, 7, 8, 14, 15, 16, 17, 18, 19, 20, 21, 22] (by decide +kernel) (by decide +kernel)
set_option maxRecDepth 20000 in
theorem gX7_noted_X5_marksNoted : GoodIn wsX7_noted (wsV RX7 136 RX5 yX5_marksNoted wsX5_marksNoted) := goodIn_app (goodIn_of _ (by decide +kernel)) ggX7_noted_X5_marksNoted
theorem dX7_noted_0 : decode cX7_noted 0 = .ok (.aload_n 0, 1) := by decide +kernel
theorem dX7_noted_1 : decode cX7_noted 1 = .ok (.getfield 44, 3) := by decide +kernel
theorem dX7_noted_4 : decode cX7_noted 4 = .ok (.invokevirtual 136, 3) := by decide +kernel
theorem dX7_noted_7 : decode cX7_noted 7 = .ok (.ireturn, 1) := by decide +kernel
