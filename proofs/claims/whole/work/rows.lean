section
-- ===== PART A: goes FIRST, ahead of the names: the tables' words, and 'selects' of the private methods out of them =====
/-- a private method of a class that the tables say can be made, by its rows of tables_1 -/
def lw_okq (q : MethodName × Nat) : Prop := (q.1.cls ≠ "java/lang/invoke/MethodHandle" ∧ q.1.cls ≠ "java/lang/invoke/VarHandle") ∧ Cond.instantiable q.1.cls q.2 ∈ tables_1 ∧ Cond.privateMethod q.1 ∈ tables_1 ∧ Cond.instanceMethod q.1 ∈ tables_1
theorem lw_p0 : lw_okq (⟨"ChartTable$Table", "cellOf", "(II)I"⟩, 9) := ⟨⟨by decide +kernel, by decide +kernel⟩, List.mem_of_getElem? (i := 166) (by decide +kernel), List.mem_of_getElem? (i := 284) (by decide +kernel), List.mem_of_getElem? (i := 285) (by decide +kernel)⟩
theorem lw_p1 : lw_okq (⟨"ChartTable$Table", "isConfiguration", "(I)Z"⟩, 9) := ⟨⟨by decide +kernel, by decide +kernel⟩, List.mem_of_getElem? (i := 166) (by decide +kernel), List.mem_of_getElem? (i := 288) (by decide +kernel), List.mem_of_getElem? (i := 289) (by decide +kernel)⟩
theorem lw_p2 : lw_okq (⟨"ChartTable$MarkRows", "isRow", "(I)Z"⟩, 4) := ⟨⟨by decide +kernel, by decide +kernel⟩, List.mem_of_getElem? (i := 60) (by decide +kernel), List.mem_of_getElem? (i := 304) (by decide +kernel), List.mem_of_getElem? (i := 305) (by decide +kernel)⟩
theorem lw_p3 : lw_okq (⟨"ChartTable$Table", "setWalk", "(I)V"⟩, 9) := ⟨⟨by decide +kernel, by decide +kernel⟩, List.mem_of_getElem? (i := 166) (by decide +kernel), List.mem_of_getElem? (i := 320) (by decide +kernel), List.mem_of_getElem? (i := 321) (by decide +kernel)⟩
theorem lw_p4 : lw_okq (⟨"ChartTable$Reader", "readState", "()I"⟩, 3) := ⟨⟨by decide +kernel, by decide +kernel⟩, List.mem_of_getElem? (i := 150) (by decide +kernel), List.mem_of_getElem? (i := 444) (by decide +kernel), List.mem_of_getElem? (i := 445) (by decide +kernel)⟩
theorem lw_p5 : lw_okq (⟨"ChartTable$Reader", "readMarks", "(LChartTable$MarkRows;)I"⟩, 3) := ⟨⟨by decide +kernel, by decide +kernel⟩, List.mem_of_getElem? (i := 150) (by decide +kernel), List.mem_of_getElem? (i := 481) (by decide +kernel), List.mem_of_getElem? (i := 482) (by decide +kernel)⟩
theorem lw_p6 : lw_okq (⟨"ChartTable$Reader", "addMarks", "(LChartTable$MarkRows;II)V"⟩, 3) := ⟨⟨by decide +kernel, by decide +kernel⟩, List.mem_of_getElem? (i := 150) (by decide +kernel), List.mem_of_getElem? (i := 491) (by decide +kernel), List.mem_of_getElem? (i := 492) (by decide +kernel)⟩
theorem lw_p7 : lw_okq (⟨"ChartTable$Reader", "readRule", "()I"⟩, 3) := ⟨⟨by decide +kernel, by decide +kernel⟩, List.mem_of_getElem? (i := 150) (by decide +kernel), List.mem_of_getElem? (i := 506) (by decide +kernel), List.mem_of_getElem? (i := 507) (by decide +kernel)⟩
theorem lw_p8 : lw_okq (⟨"ChartTable$Reader", "isEndOfRule", "(I)Z"⟩, 3) := ⟨⟨by decide +kernel, by decide +kernel⟩, List.mem_of_getElem? (i := 150) (by decide +kernel), List.mem_of_getElem? (i := 514) (by decide +kernel), List.mem_of_getElem? (i := 515) (by decide +kernel)⟩
theorem lw_p9 : lw_okq (⟨"ChartTable$Rules", "findEvent", "(I)I"⟩, 10) := ⟨⟨by decide +kernel, by decide +kernel⟩, List.mem_of_getElem? (i := 111) (by decide +kernel), List.mem_of_getElem? (i := 523) (by decide +kernel), List.mem_of_getElem? (i := 524) (by decide +kernel)⟩
theorem lw_p10 : lw_okq (⟨"java/lang/Throwable", "fillInStackTrace", "(I)Ljava/lang/Throwable;"⟩, 6) := ⟨⟨by decide +kernel, by decide +kernel⟩, List.mem_of_getElem? (i := 585) (by decide +kernel), List.mem_of_getElem? (i := 583) (by decide +kernel), List.mem_of_getElem? (i := 584) (by decide +kernel)⟩
theorem lw_p11 : lw_okq (⟨"ChartTable$Walk", "noteIn", "(I)V"⟩, 5) := ⟨⟨by decide +kernel, by decide +kernel⟩, List.mem_of_getElem? (i := 174) (by decide +kernel), List.mem_of_getElem? (i := 654) (by decide +kernel), List.mem_of_getElem? (i := 655) (by decide +kernel)⟩
theorem lw_p12 : lw_okq (⟨"ChartTable$Walk", "enter", "(III)V"⟩, 5) := ⟨⟨by decide +kernel, by decide +kernel⟩, List.mem_of_getElem? (i := 174) (by decide +kernel), List.mem_of_getElem? (i := 662) (by decide +kernel), List.mem_of_getElem? (i := 663) (by decide +kernel)⟩
theorem lw_p13 : lw_okq (⟨"ChartTable$Table", "numberOfWalk", "()I"⟩, 9) := ⟨⟨by decide +kernel, by decide +kernel⟩, List.mem_of_getElem? (i := 166) (by decide +kernel), List.mem_of_getElem? (i := 678) (by decide +kernel), List.mem_of_getElem? (i := 679) (by decide +kernel)⟩
theorem lw_p14 : lw_okq (⟨"ChartTable$Table", "isWalk", "(I)Z"⟩, 9) := ⟨⟨by decide +kernel, by decide +kernel⟩, List.mem_of_getElem? (i := 166) (by decide +kernel), List.mem_of_getElem? (i := 682) (by decide +kernel), List.mem_of_getElem? (i := 683) (by decide +kernel)⟩
theorem lw_p15 : lw_okq (⟨"ChartTable$Walk", "offer", "(III)I"⟩, 5) := ⟨⟨by decide +kernel, by decide +kernel⟩, List.mem_of_getElem? (i := 174) (by decide +kernel), List.mem_of_getElem? (i := 692) (by decide +kernel), List.mem_of_getElem? (i := 693) (by decide +kernel)⟩
def lw_privs_1 : List (MethodName × Nat) := [(⟨"ChartTable$Table", "cellOf", "(II)I"⟩, 9), (⟨"ChartTable$Table", "isConfiguration", "(I)Z"⟩, 9), (⟨"ChartTable$MarkRows", "isRow", "(I)Z"⟩, 4), (⟨"ChartTable$Table", "setWalk", "(I)V"⟩, 9), (⟨"ChartTable$Reader", "readState", "()I"⟩, 3), (⟨"ChartTable$Reader", "readMarks", "(LChartTable$MarkRows;)I"⟩, 3), (⟨"ChartTable$Reader", "addMarks", "(LChartTable$MarkRows;II)V"⟩, 3), (⟨"ChartTable$Reader", "readRule", "()I"⟩, 3), (⟨"ChartTable$Reader", "isEndOfRule", "(I)Z"⟩, 3), (⟨"ChartTable$Rules", "findEvent", "(I)I"⟩, 10), (⟨"java/lang/Throwable", "fillInStackTrace", "(I)Ljava/lang/Throwable;"⟩, 6), (⟨"ChartTable$Walk", "noteIn", "(I)V"⟩, 5), (⟨"ChartTable$Walk", "enter", "(III)V"⟩, 5), (⟨"ChartTable$Table", "numberOfWalk", "()I"⟩, 9), (⟨"ChartTable$Table", "isWalk", "(I)Z"⟩, 9), (⟨"ChartTable$Walk", "offer", "(III)I"⟩, 5)]
theorem lw_r1 : ∀ q ∈ lw_privs_1, lw_okq q := List.forall_mem_cons.mpr ⟨lw_p0, List.forall_mem_cons.mpr ⟨lw_p1, List.forall_mem_cons.mpr ⟨lw_p2, List.forall_mem_cons.mpr ⟨lw_p3, List.forall_mem_cons.mpr ⟨lw_p4, List.forall_mem_cons.mpr ⟨lw_p5, List.forall_mem_cons.mpr ⟨lw_p6, List.forall_mem_cons.mpr ⟨lw_p7, List.forall_mem_cons.mpr ⟨lw_p8, List.forall_mem_cons.mpr ⟨lw_p9, List.forall_mem_cons.mpr ⟨lw_p10, List.forall_mem_cons.mpr ⟨lw_p11, List.forall_mem_cons.mpr ⟨lw_p12, List.forall_mem_cons.mpr ⟨lw_p13, List.forall_mem_cons.mpr ⟨lw_p14, List.forall_mem_cons.mpr ⟨lw_p15, fun _ h => absurd h List.not_mem_nil⟩⟩⟩⟩⟩⟩⟩⟩⟩⟩⟩⟩⟩⟩⟩⟩
theorem lw_p16 : lw_okq (⟨"ChartTable$Walk", "ownRule", "(II)I"⟩, 5) := ⟨⟨by decide +kernel, by decide +kernel⟩, List.mem_of_getElem? (i := 174) (by decide +kernel), List.mem_of_getElem? (i := 697) (by decide +kernel), List.mem_of_getElem? (i := 698) (by decide +kernel)⟩
theorem lw_p17 : lw_okq (⟨"ChartTable$Walk", "take", "(I)I"⟩, 5) := ⟨⟨by decide +kernel, by decide +kernel⟩, List.mem_of_getElem? (i := 174) (by decide +kernel), List.mem_of_getElem? (i := 719) (by decide +kernel), List.mem_of_getElem? (i := 720) (by decide +kernel)⟩
theorem lw_p18 : lw_okq (⟨"ChartTable$Walk", "leave", "(II)V"⟩, 5) := ⟨⟨by decide +kernel, by decide +kernel⟩, List.mem_of_getElem? (i := 174) (by decide +kernel), List.mem_of_getElem? (i := 733) (by decide +kernel), List.mem_of_getElem? (i := 734) (by decide +kernel)⟩
theorem lw_p19 : lw_okq (⟨"ChartTableModel", "split", "()V"⟩, 39) := ⟨⟨by decide +kernel, by decide +kernel⟩, List.mem_of_getElem? (i := 799) (by decide +kernel), List.mem_of_getElem? (i := 935) (by decide +kernel), List.mem_of_getElem? (i := 936) (by decide +kernel)⟩
theorem lw_p20 : lw_okq (⟨"ChartTableModel", "says", "(ICCCCCC)Z"⟩, 39) := ⟨⟨by decide +kernel, by decide +kernel⟩, List.mem_of_getElem? (i := 799) (by decide +kernel), List.mem_of_getElem? (i := 939) (by decide +kernel), List.mem_of_getElem? (i := 940) (by decide +kernel)⟩
theorem lw_p21 : lw_okq (⟨"ChartTableModel", "letter", "(II)C"⟩, 39) := ⟨⟨by decide +kernel, by decide +kernel⟩, List.mem_of_getElem? (i := 799) (by decide +kernel), List.mem_of_getElem? (i := 943) (by decide +kernel), List.mem_of_getElem? (i := 944) (by decide +kernel)⟩
theorem lw_p22 : lw_okq (⟨"ChartTableModel", "length", "(I)I"⟩, 39) := ⟨⟨by decide +kernel, by decide +kernel⟩, List.mem_of_getElem? (i := 799) (by decide +kernel), List.mem_of_getElem? (i := 947) (by decide +kernel), List.mem_of_getElem? (i := 948) (by decide +kernel)⟩
theorem lw_p23 : lw_okq (⟨"ChartTableModel", "newState", "()I"⟩, 39) := ⟨⟨by decide +kernel, by decide +kernel⟩, List.mem_of_getElem? (i := 799) (by decide +kernel), List.mem_of_getElem? (i := 951) (by decide +kernel), List.mem_of_getElem? (i := 952) (by decide +kernel)⟩
theorem lw_p24 : lw_okq (⟨"ChartTableModel", "isWord", "(II)Z"⟩, 39) := ⟨⟨by decide +kernel, by decide +kernel⟩, List.mem_of_getElem? (i := 799) (by decide +kernel), List.mem_of_getElem? (i := 955) (by decide +kernel), List.mem_of_getElem? (i := 956) (by decide +kernel)⟩
theorem lw_p25 : lw_okq (⟨"ChartTableModel", "stateOf", "(I)I"⟩, 39) := ⟨⟨by decide +kernel, by decide +kernel⟩, List.mem_of_getElem? (i := 799) (by decide +kernel), List.mem_of_getElem? (i := 959) (by decide +kernel), List.mem_of_getElem? (i := 960) (by decide +kernel)⟩
theorem lw_p26 : lw_okq (⟨"ChartTableModel", "newMarks", "(I)I"⟩, 39) := ⟨⟨by decide +kernel, by decide +kernel⟩, List.mem_of_getElem? (i := 799) (by decide +kernel), List.mem_of_getElem? (i := 963) (by decide +kernel), List.mem_of_getElem? (i := 964) (by decide +kernel)⟩
theorem lw_p27 : lw_okq (⟨"ChartTableModel", "newRule", "()I"⟩, 39) := ⟨⟨by decide +kernel, by decide +kernel⟩, List.mem_of_getElem? (i := 799) (by decide +kernel), List.mem_of_getElem? (i := 967) (by decide +kernel), List.mem_of_getElem? (i := 968) (by decide +kernel)⟩
theorem lw_p28 : lw_okq (⟨"ChartTableModel", "eventOf", "(I)I"⟩, 39) := ⟨⟨by decide +kernel, by decide +kernel⟩, List.mem_of_getElem? (i := 799) (by decide +kernel), List.mem_of_getElem? (i := 971) (by decide +kernel), List.mem_of_getElem? (i := 972) (by decide +kernel)⟩
theorem lw_p29 : lw_okq (⟨"ChartTableModel", "fails", "(I)I"⟩, 39) := ⟨⟨by decide +kernel, by decide +kernel⟩, List.mem_of_getElem? (i := 799) (by decide +kernel), List.mem_of_getElem? (i := 975) (by decide +kernel), List.mem_of_getElem? (i := 976) (by decide +kernel)⟩
theorem lw_p30 : lw_okq (⟨"ChartTableModel", "firstOf", "(I)I"⟩, 39) := ⟨⟨by decide +kernel, by decide +kernel⟩, List.mem_of_getElem? (i := 799) (by decide +kernel), List.mem_of_getElem? (i := 987) (by decide +kernel), List.mem_of_getElem? (i := 988) (by decide +kernel)⟩
theorem lw_p31 : lw_okq (⟨"ChartTableModel", "firstChild", "(I)I"⟩, 39) := ⟨⟨by decide +kernel, by decide +kernel⟩, List.mem_of_getElem? (i := 799) (by decide +kernel), List.mem_of_getElem? (i := 991) (by decide +kernel), List.mem_of_getElem? (i := 992) (by decide +kernel)⟩
def lw_privs_2 : List (MethodName × Nat) := [(⟨"ChartTable$Walk", "ownRule", "(II)I"⟩, 5), (⟨"ChartTable$Walk", "take", "(I)I"⟩, 5), (⟨"ChartTable$Walk", "leave", "(II)V"⟩, 5), (⟨"ChartTableModel", "split", "()V"⟩, 39), (⟨"ChartTableModel", "says", "(ICCCCCC)Z"⟩, 39), (⟨"ChartTableModel", "letter", "(II)C"⟩, 39), (⟨"ChartTableModel", "length", "(I)I"⟩, 39), (⟨"ChartTableModel", "newState", "()I"⟩, 39), (⟨"ChartTableModel", "isWord", "(II)Z"⟩, 39), (⟨"ChartTableModel", "stateOf", "(I)I"⟩, 39), (⟨"ChartTableModel", "newMarks", "(I)I"⟩, 39), (⟨"ChartTableModel", "newRule", "()I"⟩, 39), (⟨"ChartTableModel", "eventOf", "(I)I"⟩, 39), (⟨"ChartTableModel", "fails", "(I)I"⟩, 39), (⟨"ChartTableModel", "firstOf", "(I)I"⟩, 39), (⟨"ChartTableModel", "firstChild", "(I)I"⟩, 39)]
theorem lw_r2 : ∀ q ∈ lw_privs_2, lw_okq q := List.forall_mem_cons.mpr ⟨lw_p16, List.forall_mem_cons.mpr ⟨lw_p17, List.forall_mem_cons.mpr ⟨lw_p18, List.forall_mem_cons.mpr ⟨lw_p19, List.forall_mem_cons.mpr ⟨lw_p20, List.forall_mem_cons.mpr ⟨lw_p21, List.forall_mem_cons.mpr ⟨lw_p22, List.forall_mem_cons.mpr ⟨lw_p23, List.forall_mem_cons.mpr ⟨lw_p24, List.forall_mem_cons.mpr ⟨lw_p25, List.forall_mem_cons.mpr ⟨lw_p26, List.forall_mem_cons.mpr ⟨lw_p27, List.forall_mem_cons.mpr ⟨lw_p28, List.forall_mem_cons.mpr ⟨lw_p29, List.forall_mem_cons.mpr ⟨lw_p30, List.forall_mem_cons.mpr ⟨lw_p31, fun _ h => absurd h List.not_mem_nil⟩⟩⟩⟩⟩⟩⟩⟩⟩⟩⟩⟩⟩⟩⟩⟩
theorem lw_p32 : lw_okq (⟨"ChartTableModel", "enter", "(II)V"⟩, 39) := ⟨⟨by decide +kernel, by decide +kernel⟩, List.mem_of_getElem? (i := 799) (by decide +kernel), List.mem_of_getElem? (i := 995) (by decide +kernel), List.mem_of_getElem? (i := 996) (by decide +kernel)⟩
theorem lw_p33 : lw_okq (⟨"ChartTableModel", "notes", "(I)V"⟩, 39) := ⟨⟨by decide +kernel, by decide +kernel⟩, List.mem_of_getElem? (i := 799) (by decide +kernel), List.mem_of_getElem? (i := 999) (by decide +kernel), List.mem_of_getElem? (i := 1000) (by decide +kernel)⟩
theorem lw_p34 : lw_okq (⟨"ChartTableModel", "put", "(C)V"⟩, 39) := ⟨⟨by decide +kernel, by decide +kernel⟩, List.mem_of_getElem? (i := 799) (by decide +kernel), List.mem_of_getElem? (i := 1003) (by decide +kernel), List.mem_of_getElem? (i := 1004) (by decide +kernel)⟩
theorem lw_p35 : lw_okq (⟨"ChartTableModel", "within", "(II)Z"⟩, 39) := ⟨⟨by decide +kernel, by decide +kernel⟩, List.mem_of_getElem? (i := 799) (by decide +kernel), List.mem_of_getElem? (i := 1007) (by decide +kernel), List.mem_of_getElem? (i := 1008) (by decide +kernel)⟩
theorem lw_p36 : lw_okq (⟨"ChartTableModel", "keep", "(I)V"⟩, 39) := ⟨⟨by decide +kernel, by decide +kernel⟩, List.mem_of_getElem? (i := 799) (by decide +kernel), List.mem_of_getElem? (i := 1011) (by decide +kernel), List.mem_of_getElem? (i := 1012) (by decide +kernel)⟩
theorem lw_p37 : lw_okq (⟨"ChartTableModel", "configuration", "()I"⟩, 39) := ⟨⟨by decide +kernel, by decide +kernel⟩, List.mem_of_getElem? (i := 799) (by decide +kernel), List.mem_of_getElem? (i := 1015) (by decide +kernel), List.mem_of_getElem? (i := 1016) (by decide +kernel)⟩
theorem lw_p38 : lw_okq (⟨"ChartTableModel", "offered", "(II)V"⟩, 39) := ⟨⟨by decide +kernel, by decide +kernel⟩, List.mem_of_getElem? (i := 799) (by decide +kernel), List.mem_of_getElem? (i := 1019) (by decide +kernel), List.mem_of_getElem? (i := 1020) (by decide +kernel)⟩
theorem lw_p39 : lw_okq (⟨"ChartTableModel", "offer", "(I)V"⟩, 39) := ⟨⟨by decide +kernel, by decide +kernel⟩, List.mem_of_getElem? (i := 799) (by decide +kernel), List.mem_of_getElem? (i := 1023) (by decide +kernel), List.mem_of_getElem? (i := 1024) (by decide +kernel)⟩
theorem lw_p40 : lw_okq (⟨"ChartTableModel", "following", "(II)I"⟩, 39) := ⟨⟨by decide +kernel, by decide +kernel⟩, List.mem_of_getElem? (i := 799) (by decide +kernel), List.mem_of_getElem? (i := 1027) (by decide +kernel), List.mem_of_getElem? (i := 1028) (by decide +kernel)⟩
theorem lw_p41 : lw_okq (⟨"ChartTableModel", "own", "(II)I"⟩, 39) := ⟨⟨by decide +kernel, by decide +kernel⟩, List.mem_of_getElem? (i := 799) (by decide +kernel), List.mem_of_getElem? (i := 1031) (by decide +kernel), List.mem_of_getElem? (i := 1032) (by decide +kernel)⟩
theorem lw_p42 : lw_okq (⟨"ChartTableModel", "isActive", "(I)Z"⟩, 39) := ⟨⟨by decide +kernel, by decide +kernel⟩, List.mem_of_getElem? (i := 799) (by decide +kernel), List.mem_of_getElem? (i := 1035) (by decide +kernel), List.mem_of_getElem? (i := 1036) (by decide +kernel)⟩
theorem lw_p43 : lw_okq (⟨"ChartTableModel", "take", "(I)I"⟩, 39) := ⟨⟨by decide +kernel, by decide +kernel⟩, List.mem_of_getElem? (i := 799) (by decide +kernel), List.mem_of_getElem? (i := 1039) (by decide +kernel), List.mem_of_getElem? (i := 1040) (by decide +kernel)⟩
theorem lw_p44 : lw_okq (⟨"ChartTableModel", "leave", "(I)V"⟩, 39) := ⟨⟨by decide +kernel, by decide +kernel⟩, List.mem_of_getElem? (i := 799) (by decide +kernel), List.mem_of_getElem? (i := 1043) (by decide +kernel), List.mem_of_getElem? (i := 1044) (by decide +kernel)⟩
theorem lw_p45 : lw_okq (⟨"ChartTableModel", "isIn", "(II)Z"⟩, 39) := ⟨⟨by decide +kernel, by decide +kernel⟩, List.mem_of_getElem? (i := 799) (by decide +kernel), List.mem_of_getElem? (i := 1059) (by decide +kernel), List.mem_of_getElem? (i := 1060) (by decide +kernel)⟩
def lw_privs_3 : List (MethodName × Nat) := [(⟨"ChartTableModel", "enter", "(II)V"⟩, 39), (⟨"ChartTableModel", "notes", "(I)V"⟩, 39), (⟨"ChartTableModel", "put", "(C)V"⟩, 39), (⟨"ChartTableModel", "within", "(II)Z"⟩, 39), (⟨"ChartTableModel", "keep", "(I)V"⟩, 39), (⟨"ChartTableModel", "configuration", "()I"⟩, 39), (⟨"ChartTableModel", "offered", "(II)V"⟩, 39), (⟨"ChartTableModel", "offer", "(I)V"⟩, 39), (⟨"ChartTableModel", "following", "(II)I"⟩, 39), (⟨"ChartTableModel", "own", "(II)I"⟩, 39), (⟨"ChartTableModel", "isActive", "(I)Z"⟩, 39), (⟨"ChartTableModel", "take", "(I)I"⟩, 39), (⟨"ChartTableModel", "leave", "(I)V"⟩, 39), (⟨"ChartTableModel", "isIn", "(II)Z"⟩, 39)]
theorem lw_r3 : ∀ q ∈ lw_privs_3, lw_okq q := List.forall_mem_cons.mpr ⟨lw_p32, List.forall_mem_cons.mpr ⟨lw_p33, List.forall_mem_cons.mpr ⟨lw_p34, List.forall_mem_cons.mpr ⟨lw_p35, List.forall_mem_cons.mpr ⟨lw_p36, List.forall_mem_cons.mpr ⟨lw_p37, List.forall_mem_cons.mpr ⟨lw_p38, List.forall_mem_cons.mpr ⟨lw_p39, List.forall_mem_cons.mpr ⟨lw_p40, List.forall_mem_cons.mpr ⟨lw_p41, List.forall_mem_cons.mpr ⟨lw_p42, List.forall_mem_cons.mpr ⟨lw_p43, List.forall_mem_cons.mpr ⟨lw_p44, List.forall_mem_cons.mpr ⟨lw_p45, fun _ h => absurd h List.not_mem_nil⟩⟩⟩⟩⟩⟩⟩⟩⟩⟩⟩⟩⟩⟩
def lw_privs : List (MethodName × Nat) := lw_privs_1 ++ (lw_privs_2 ++ (lw_privs_3))
def lw_tbl : List Cond := k2_sels lw_privs ++ tables_1
theorem lw_privs_ok : ∀ q ∈ lw_privs, lw_okq q := by
  show ∀ q ∈ lw_privs_1 ++ (lw_privs_2 ++ (lw_privs_3)), lw_okq q
  exact List.forall_mem_append.mpr ⟨lw_r1, List.forall_mem_append.mpr ⟨lw_r2, lw_r3⟩⟩
-- ===== end of PART A; then your names; then what follows =====
end
section
/-! ===== BEGIN words of one list among another's, by their places ===== -/
theorem goodIn_r {big : List Cond} (ws : List Cond) (ps : List Nat) (hp : ws = ps.filterMap (fun i => big[i]?)) (h : ws.all goodWord = true) : GoodIn big ws := by
  intro w hw
  have h1 := List.all_eq_true.mp h w hw
  rw [hp] at hw
  obtain ⟨i, -, hi⟩ := List.mem_filterMap.mp hw
  have hm : w ∈ big := by first | exact List.mem_of_getElem? hi | exact List.getElem?_mem hi
  exact ⟨hm, good_of_word h1⟩
theorem goodIn_app {big a b : List Cond} (ha : GoodIn big a) (hb : GoodIn big b) : GoodIn big (a ++ b) := fun w h => (List.mem_append.mp h).elim (ha w) (hb w)
theorem goodIn_ca {big a b : List Cond} {c : Cond} (ha : GoodIn big (c :: a)) (hb : GoodIn big b) : GoodIn big (c :: (a ++ b)) := fun w h => (List.mem_cons.mp h).elim (fun e => ha w (List.mem_cons.mpr (Or.inl e))) (fun h => (List.mem_append.mp h).elim (fun h => ha w (List.mem_cons.mpr (Or.inr h))) (hb w))
theorem goodIn_sub {big ws : List Cond} (hm : ∀ w ∈ ws, w ∈ big) (h : ws.all goodWord = true) : GoodIn big ws := fun w hw => ⟨hm w hw, good_of_word (List.all_eq_true.mp h w hw)⟩
/-! ===== END ===== -/
def vx_no (w : Cond) : Bool := decide (w ≠ .isRef (.static Bundle.tN "UNASSIGNED_STACK" Bundle.steD)) && decide (w ≠ .isRef (.static Bundle.tN "SUPPRESSED_SENTINEL" Bundle.listD)) && decide (w ≠ .laysStatic Bundle.tN "UNASSIGNED_STACK" Bundle.steD) && decide (w ≠ .laysStatic Bundle.tN "SUPPRESSED_SENTINEL" Bundle.listD)
def vx_at0 (own : String) (ic : Nat) (X : String) (names : List String) : List Cond := (Bundle.ownAtoms0 own ic X names).filter vx_no
def vx_atS (own : String) (ic : Nat) (X : String) (names : List String) : List Cond := (Bundle.ownAtoms own ic X names).filter vx_no
end
section
/-! ===== BEGIN printed: names, fields, word lists, decode rows ===== -/
def RX0 : String := "ChartTable$Line"
def TX0 : u_T := fun k => match k with
  | 0 => ("ChartTable$Line", "characters", "[C", true)
  | 1 => ("ChartTable$Line", "starts", "[I", true)
  | 2 => ("ChartTable$Line", "ends", "[I", true)
  | 3 => ("ChartTable$Line", "length", "I", false)
  | _ => ("ChartTable$Line", "words", "I", false)
def tyX0 : Nat → FieldType := fun k => match k with
  | 0 => .array .char
  | 1 => .array .int
  | 2 => .array .int
  | 3 => .int
  | _ => .int
abbrev wsX00 : List Cond := u_ws RX0 TX0 5
theorem nmX0 : ∀ a, a < 5 → ∀ b, b < 5 → a ≠ b → (TX0 a).2.1 ≠ (TX0 b).2.1 := by decide +kernel
theorem tyX0_ok : ∀ k, k < 5 → parseFieldDescriptor (TX0 k).2.2.1 = some (tyX0 k) := by decide +kernel
abbrev cX0_init : ByteArray := prog_2_method_1_code
def yX0_init : MethodName := ⟨RX0, "<init>", "()V"⟩
abbrev cX0_append : ByteArray := prog_2_method_2_code
def yX0_append : MethodName := ⟨RX0, "append", "(C)Z"⟩
abbrev cX0_split : ByteArray := prog_2_method_3_code
def yX0_split : MethodName := ⟨RX0, "split", "()V"⟩
abbrev cX0_words : ByteArray := prog_2_method_4_code
def yX0_words : MethodName := ⟨RX0, "words", "()I"⟩
abbrev cX0_says : ByteArray := prog_2_method_5_code
def yX0_says : MethodName := ⟨RX0, "says", "(ILjava/lang/String;)Z"⟩
abbrev cX0_sizeOf : ByteArray := prog_2_method_6_code
def yX0_sizeOf : MethodName := ⟨RX0, "sizeOf", "(I)I"⟩
abbrev cX0_letterAt : ByteArray := prog_2_method_7_code
def yX0_letterAt : MethodName := ⟨RX0, "letterAt", "(II)C"⟩
abbrev cX0_isLetters : ByteArray := prog_2_method_8_code
def yX0_isLetters : MethodName := ⟨RX0, "isLetters", "(II)Z"⟩
abbrev cX0_nameAt : ByteArray := prog_2_method_9_code
def yX0_nameAt : MethodName := ⟨RX0, "nameAt", "(I)I"⟩
def RX1 : String := "ChartTable$MarkRows"
def TX1 : u_T := fun k => match k with
  | 0 => ("ChartTable$MarkRows", "rows", "I", true)
  | 1 => ("ChartTable$MarkRows", "most", "I", true)
  | 2 => ("ChartTable$MarkRows", "letters", "[C", true)
  | _ => ("ChartTable$MarkRows", "sizes", "[I", true)
def tyX1 : Nat → FieldType := fun k => match k with
  | 0 => .int
  | 1 => .int
  | 2 => .array .char
  | _ => .array .int
abbrev wsX10 : List Cond := u_ws RX1 TX1 4
theorem nmX1 : ∀ a, a < 4 → ∀ b, b < 4 → a ≠ b → (TX1 a).2.1 ≠ (TX1 b).2.1 := by decide +kernel
theorem tyX1_ok : ∀ k, k < 4 → parseFieldDescriptor (TX1 k).2.2.1 = some (tyX1 k) := by decide +kernel
abbrev cX1_init : ByteArray := prog_3_method_1_code
def yX1_init : MethodName := ⟨RX1, "<init>", "(II)V"⟩
abbrev cX1_isRow : ByteArray := prog_3_method_2_code
def yX1_isRow : MethodName := ⟨RX1, "isRow", "(I)Z"⟩
abbrev cX1_sizeOf : ByteArray := prog_3_method_3_code
def yX1_sizeOf : MethodName := ⟨RX1, "sizeOf", "(I)I"⟩
abbrev cX1_letterAt : ByteArray := prog_3_method_4_code
def yX1_letterAt : MethodName := ⟨RX1, "letterAt", "(II)I"⟩
abbrev cX1_hasRoom : ByteArray := prog_3_method_5_code
def yX1_hasRoom : MethodName := ⟨RX1, "hasRoom", "(II)Z"⟩
abbrev cX1_empty : ByteArray := prog_3_method_6_code
def yX1_empty : MethodName := ⟨RX1, "empty", "(I)V"⟩
abbrev cX1_add : ByteArray := prog_3_method_7_code
def yX1_add : MethodName := ⟨RX1, "add", "(IC)V"⟩
abbrev cX1_addRow : ByteArray := prog_3_method_8_code
def yX1_addRow : MethodName := ⟨RX1, "addRow", "(ILChartTable$MarkRows;I)V"⟩
def RX2 : String := "ChartTable$Reader"
def TX2 : u_T := fun k => match k with
  | 0 => ("ChartTable$Reader", "text", "LChartTable$Line;", true)
  | 1 => ("ChartTable$Reader", "states", "LChartTable$States;", true)
  | _ => ("ChartTable$Reader", "rules", "LChartTable$Rules;", true)
def tyX2 : Nat → FieldType := fun k => match k with
  | 0 => .object "ChartTable$Line"
  | 1 => .object "ChartTable$States"
  | _ => .object "ChartTable$Rules"
abbrev wsX20 : List Cond := u_ws RX2 TX2 3
theorem nmX2 : ∀ a, a < 3 → ∀ b, b < 3 → a ≠ b → (TX2 a).2.1 ≠ (TX2 b).2.1 := by decide +kernel
theorem tyX2_ok : ∀ k, k < 3 → parseFieldDescriptor (TX2 k).2.2.1 = some (tyX2 k) := by decide +kernel
abbrev cX2_init : ByteArray := prog_4_method_1_code
def yX2_init : MethodName := ⟨RX2, "<init>", "(LChartTable$Line;LChartTable$States;LChartTable$Rules;)V"⟩
abbrev cX2_read : ByteArray := prog_4_method_2_code
def yX2_read : MethodName := ⟨RX2, "read", "()I"⟩
abbrev cX2_readState : ByteArray := prog_4_method_3_code
def yX2_readState : MethodName := ⟨RX2, "readState", "()I"⟩
abbrev cX2_readMarks : ByteArray := prog_4_method_4_code
def yX2_readMarks : MethodName := ⟨RX2, "readMarks", "(LChartTable$MarkRows;)I"⟩
abbrev cX2_readRule : ByteArray := prog_4_method_5_code
def yX2_readRule : MethodName := ⟨RX2, "readRule", "()I"⟩
abbrev cX2_isEndOfRule : ByteArray := prog_4_method_6_code
def yX2_isEndOfRule : MethodName := ⟨RX2, "isEndOfRule", "(I)Z"⟩
abbrev cX2_addMarks : ByteArray := prog_4_method_7_code
def yX2_addMarks : MethodName := ⟨RX2, "addMarks", "(LChartTable$MarkRows;II)V"⟩
def RX3 : String := "ChartTable$Rules"
def TX3 : u_T := fun k => match k with
  | 0 => ("ChartTable$Rules", "eventNames", "[I", true)
  | 1 => ("ChartTable$Rules", "ruleEvents", "[I", true)
  | 2 => ("ChartTable$Rules", "froms", "[I", true)
  | 3 => ("ChartTable$Rules", "targets", "[I", true)
  | 4 => ("ChartTable$Rules", "scopes", "[I", true)
  | 5 => ("ChartTable$Rules", "askedStates", "[I", true)
  | 6 => ("ChartTable$Rules", "wanted", "[Z", true)
  | 7 => ("ChartTable$Rules", "marks", "LChartTable$MarkRows;", true)
  | 8 => ("ChartTable$Rules", "made", "I", false)
  | _ => ("ChartTable$Rules", "events", "I", false)
def tyX3 : Nat → FieldType := fun k => match k with
  | 0 => .array .int
  | 1 => .array .int
  | 2 => .array .int
  | 3 => .array .int
  | 4 => .array .int
  | 5 => .array .int
  | 6 => .array .boolean
  | 7 => .object "ChartTable$MarkRows"
  | 8 => .int
  | _ => .int
abbrev wsX30 : List Cond := u_ws RX3 TX3 10
theorem nmX3 : ∀ a, a < 10 → ∀ b, b < 10 → a ≠ b → (TX3 a).2.1 ≠ (TX3 b).2.1 := by decide +kernel
theorem tyX3_ok : ∀ k, k < 10 → parseFieldDescriptor (TX3 k).2.2.1 = some (tyX3 k) := by decide +kernel
abbrev cX3_init : ByteArray := prog_5_method_1_code
def yX3_init : MethodName := ⟨RX3, "<init>", "()V"⟩
abbrev cX3_made : ByteArray := prog_5_method_2_code
def yX3_made : MethodName := ⟨RX3, "made", "()I"⟩
abbrev cX3_events : ByteArray := prog_5_method_3_code
def yX3_events : MethodName := ⟨RX3, "events", "()I"⟩
abbrev cX3_marks : ByteArray := prog_5_method_4_code
def yX3_marks : MethodName := ⟨RX3, "marks", "()LChartTable$MarkRows;"⟩
abbrev cX3_isRule : ByteArray := prog_5_method_5_code
def yX3_isRule : MethodName := ⟨RX3, "isRule", "(I)Z"⟩
abbrev cX3_isEvent : ByteArray := prog_5_method_6_code
def yX3_isEvent : MethodName := ⟨RX3, "isEvent", "(I)Z"⟩
abbrev cX3_findEvent : ByteArray := prog_5_method_7_code
def yX3_findEvent : MethodName := ⟨RX3, "findEvent", "(I)I"⟩
abbrev cX3_hasRoom : ByteArray := prog_5_method_8_code
def yX3_hasRoom : MethodName := ⟨RX3, "hasRoom", "(I)Z"⟩
abbrev cX3_make : ByteArray := prog_5_method_9_code
def yX3_make : MethodName := ⟨RX3, "make", "(IIIIIZ)V"⟩
abbrev cX3_isFor : ByteArray := prog_5_method_10_code
def yX3_isFor : MethodName := ⟨RX3, "isFor", "(III)Z"⟩
abbrev cX3_targetOf : ByteArray := prog_5_method_11_code
def yX3_targetOf : MethodName := ⟨RX3, "targetOf", "(I)I"⟩
abbrev cX3_scopeOf : ByteArray := prog_5_method_12_code
def yX3_scopeOf : MethodName := ⟨RX3, "scopeOf", "(I)I"⟩
abbrev cX3_askedOf : ByteArray := prog_5_method_13_code
def yX3_askedOf : MethodName := ⟨RX3, "askedOf", "(I)I"⟩
abbrev cX3_isWantedActive : ByteArray := prog_5_method_14_code
def yX3_isWantedActive : MethodName := ⟨RX3, "isWantedActive", "(I)Z"⟩
def RX4 : String := "ChartTable$States"
def TX4 : u_T := fun k => match k with
  | 0 => ("ChartTable$States", "names", "[I", true)
  | 1 => ("ChartTable$States", "parents", "[I", true)
  | 2 => ("ChartTable$States", "depths", "[I", true)
  | 3 => ("ChartTable$States", "firstChildren", "[I", true)
  | 4 => ("ChartTable$States", "wholes", "[Z", true)
  | 5 => ("ChartTable$States", "remembering", "[Z", true)
  | 6 => ("ChartTable$States", "entering", "LChartTable$MarkRows;", true)
  | 7 => ("ChartTable$States", "leaving", "LChartTable$MarkRows;", true)
  | _ => ("ChartTable$States", "made", "I", false)
def tyX4 : Nat → FieldType := fun k => match k with
  | 0 => .array .int
  | 1 => .array .int
  | 2 => .array .int
  | 3 => .array .int
  | 4 => .array .boolean
  | 5 => .array .boolean
  | 6 => .object "ChartTable$MarkRows"
  | 7 => .object "ChartTable$MarkRows"
  | _ => .int
abbrev wsX40 : List Cond := u_ws RX4 TX4 9
theorem nmX4 : ∀ a, a < 9 → ∀ b, b < 9 → a ≠ b → (TX4 a).2.1 ≠ (TX4 b).2.1 := by decide +kernel
theorem tyX4_ok : ∀ k, k < 9 → parseFieldDescriptor (TX4 k).2.2.1 = some (tyX4 k) := by decide +kernel
abbrev cX4_init : ByteArray := prog_6_method_1_code
def yX4_init : MethodName := ⟨RX4, "<init>", "()V"⟩
abbrev cX4_made : ByteArray := prog_6_method_2_code
def yX4_made : MethodName := ⟨RX4, "made", "()I"⟩
abbrev cX4_isFull : ByteArray := prog_6_method_3_code
def yX4_isFull : MethodName := ⟨RX4, "isFull", "()Z"⟩
abbrev cX4_isState : ByteArray := prog_6_method_4_code
def yX4_isState : MethodName := ⟨RX4, "isState", "(I)Z"⟩
abbrev cX4_entering : ByteArray := prog_6_method_5_code
def yX4_entering : MethodName := ⟨RX4, "entering", "()LChartTable$MarkRows;"⟩
abbrev cX4_leaving : ByteArray := prog_6_method_6_code
def yX4_leaving : MethodName := ⟨RX4, "leaving", "()LChartTable$MarkRows;"⟩
abbrev cX4_find : ByteArray := prog_6_method_7_code
def yX4_find : MethodName := ⟨RX4, "find", "(I)I"⟩
abbrev cX4_make : ByteArray := prog_6_method_8_code
def yX4_make : MethodName := ⟨RX4, "make", "(IIZZ)V"⟩
abbrev cX4_parentOf : ByteArray := prog_6_method_9_code
def yX4_parentOf : MethodName := ⟨RX4, "parentOf", "(I)I"⟩
abbrev cX4_depthOf : ByteArray := prog_6_method_10_code
def yX4_depthOf : MethodName := ⟨RX4, "depthOf", "(I)I"⟩
abbrev cX4_isWhole : ByteArray := prog_6_method_11_code
def yX4_isWhole : MethodName := ⟨RX4, "isWhole", "(I)Z"⟩
abbrev cX4_isRemembering : ByteArray := prog_6_method_12_code
def yX4_isRemembering : MethodName := ⟨RX4, "isRemembering", "(I)Z"⟩
abbrev cX4_currentAtFirst : ByteArray := prog_6_method_13_code
def yX4_currentAtFirst : MethodName := ⟨RX4, "currentAtFirst", "(I)I"⟩
abbrev cX4_childToward : ByteArray := prog_6_method_14_code
def yX4_childToward : MethodName := ⟨RX4, "childToward", "(II)I"⟩
abbrev cX4_scopeOf : ByteArray := prog_6_method_15_code
def yX4_scopeOf : MethodName := ⟨RX4, "scopeOf", "(II)I"⟩
def RX5 : String := "ChartTable$Table"
def TX5 : u_T := fun k => match k with
  | 0 => ("ChartTable$Table", "states", "LChartTable$States;", true)
  | 1 => ("ChartTable$Table", "rules", "LChartTable$Rules;", true)
  | 2 => ("ChartTable$Table", "traces", "LChartTable$MarkRows;", true)
  | 3 => ("ChartTable$Table", "walk", "LChartTable$Walk;", true)
  | 4 => ("ChartTable$Table", "currents", "[I", true)
  | 5 => ("ChartTable$Table", "followers", "[I", true)
  | 6 => ("ChartTable$Table", "size", "I", false)
  | 7 => ("ChartTable$Table", "place", "I", false)
  | _ => ("ChartTable$Table", "marksNoted", "I", false)
def tyX5 : Nat → FieldType := fun k => match k with
  | 0 => .object "ChartTable$States"
  | 1 => .object "ChartTable$Rules"
  | 2 => .object "ChartTable$MarkRows"
  | 3 => .object "ChartTable$Walk"
  | 4 => .array .int
  | 5 => .array .int
  | 6 => .int
  | 7 => .int
  | _ => .int
abbrev wsX50 : List Cond := u_ws RX5 TX5 9
theorem nmX5 : ∀ a, a < 9 → ∀ b, b < 9 → a ≠ b → (TX5 a).2.1 ≠ (TX5 b).2.1 := by decide +kernel
theorem tyX5_ok : ∀ k, k < 9 → parseFieldDescriptor (TX5 k).2.2.1 = some (tyX5 k) := by decide +kernel
abbrev cX5_init : ByteArray := prog_7_method_1_code
def yX5_init : MethodName := ⟨RX5, "<init>", "(LChartTable$States;LChartTable$Rules;)V"⟩
abbrev cX5_drop : ByteArray := prog_7_method_2_code
def yX5_drop : MethodName := ⟨RX5, "drop", "()V"⟩
abbrev cX5_size : ByteArray := prog_7_method_3_code
def yX5_size : MethodName := ⟨RX5, "size", "()I"⟩
abbrev cX5_place : ByteArray := prog_7_method_4_code
def yX5_place : MethodName := ⟨RX5, "place", "()I"⟩
abbrev cX5_marksNoted : ByteArray := prog_7_method_5_code
def yX5_marksNoted : MethodName := ⟨RX5, "marksNoted", "()I"⟩
abbrev cX5_build : ByteArray := prog_7_method_6_code
def yX5_build : MethodName := ⟨RX5, "build", "()Z"⟩
abbrev cX5_isConfiguration : ByteArray := prog_7_method_7_code
def yX5_isConfiguration : MethodName := ⟨RX5, "isConfiguration", "(I)Z"⟩
abbrev cX5_cellOf : ByteArray := prog_7_method_8_code
def yX5_cellOf : MethodName := ⟨RX5, "cellOf", "(II)I"⟩
abbrev cX5_setWalk : ByteArray := prog_7_method_9_code
def yX5_setWalk : MethodName := ⟨RX5, "setWalk", "(I)V"⟩
abbrev cX5_isWalk : ByteArray := prog_7_method_10_code
def yX5_isWalk : MethodName := ⟨RX5, "isWalk", "(I)Z"⟩
abbrev cX5_numberOfWalk : ByteArray := prog_7_method_11_code
def yX5_numberOfWalk : MethodName := ⟨RX5, "numberOfWalk", "()I"⟩
abbrev cX5_following : ByteArray := prog_7_method_12_code
def yX5_following : MethodName := ⟨RX5, "following", "(II)I"⟩
abbrev cX5_traceLetter : ByteArray := prog_7_method_13_code
def yX5_traceLetter : MethodName := ⟨RX5, "traceLetter", "(III)I"⟩
abbrev cX5_isActive : ByteArray := prog_7_method_14_code
def yX5_isActive : MethodName := ⟨RX5, "isActive", "(II)Z"⟩
abbrev cX5_currentChild : ByteArray := prog_7_method_15_code
def yX5_currentChild : MethodName := ⟨RX5, "currentChild", "(II)I"⟩
abbrev cX5_step : ByteArray := prog_7_method_16_code
def yX5_step : MethodName := ⟨RX5, "step", "(I)I"⟩
def RX6 : String := "ChartTable$Walk"
def TX6 : u_T := fun k => match k with
  | 0 => ("ChartTable$Walk", "states", "LChartTable$States;", true)
  | 1 => ("ChartTable$Walk", "rules", "LChartTable$Rules;", true)
  | 2 => ("ChartTable$Walk", "traces", "LChartTable$MarkRows;", true)
  | 3 => ("ChartTable$Walk", "currents", "[I", true)
  | _ => ("ChartTable$Walk", "row", "I", false)
def tyX6 : Nat → FieldType := fun k => match k with
  | 0 => .object "ChartTable$States"
  | 1 => .object "ChartTable$Rules"
  | 2 => .object "ChartTable$MarkRows"
  | 3 => .array .int
  | _ => .int
abbrev wsX60 : List Cond := u_ws RX6 TX6 5
theorem nmX6 : ∀ a, a < 5 → ∀ b, b < 5 → a ≠ b → (TX6 a).2.1 ≠ (TX6 b).2.1 := by decide +kernel
theorem tyX6_ok : ∀ k, k < 5 → parseFieldDescriptor (TX6 k).2.2.1 = some (tyX6 k) := by decide +kernel
abbrev cX6_init : ByteArray := prog_8_method_1_code
def yX6_init : MethodName := ⟨RX6, "<init>", "(LChartTable$States;LChartTable$Rules;LChartTable$MarkRows;)V"⟩
abbrev cX6_currentChild : ByteArray := prog_8_method_2_code
def yX6_currentChild : MethodName := ⟨RX6, "currentChild", "(I)I"⟩
abbrev cX6_makeCurrent : ByteArray := prog_8_method_3_code
def yX6_makeCurrent : MethodName := ⟨RX6, "makeCurrent", "(II)V"⟩
abbrev cX6_start : ByteArray := prog_8_method_4_code
def yX6_start : MethodName := ⟨RX6, "start", "(I)V"⟩
abbrev cX6_receive : ByteArray := prog_8_method_5_code
def yX6_receive : MethodName := ⟨RX6, "receive", "(II)V"⟩
abbrev cX6_noteIn : ByteArray := prog_8_method_6_code
def yX6_noteIn : MethodName := ⟨RX6, "noteIn", "(I)V"⟩
abbrev cX6_isActive : ByteArray := prog_8_method_7_code
def yX6_isActive : MethodName := ⟨RX6, "isActive", "(I)Z"⟩
abbrev cX6_enter : ByteArray := prog_8_method_8_code
def yX6_enter : MethodName := ⟨RX6, "enter", "(III)V"⟩
abbrev cX6_leave : ByteArray := prog_8_method_9_code
def yX6_leave : MethodName := ⟨RX6, "leave", "(II)V"⟩
abbrev cX6_offer : ByteArray := prog_8_method_10_code
def yX6_offer : MethodName := ⟨RX6, "offer", "(III)I"⟩
abbrev cX6_ownRule : ByteArray := prog_8_method_11_code
def yX6_ownRule : MethodName := ⟨RX6, "ownRule", "(II)I"⟩
abbrev cX6_take : ByteArray := prog_8_method_12_code
def yX6_take : MethodName := ⟨RX6, "take", "(I)I"⟩
def RX7 : String := "ChartTable"
def TX7 : u_T := fun k => match k with
  | 0 => ("ChartTable", "text", "LChartTable$Line;", true)
  | 1 => ("ChartTable", "states", "LChartTable$States;", true)
  | 2 => ("ChartTable", "rules", "LChartTable$Rules;", true)
  | 3 => ("ChartTable", "reader", "LChartTable$Reader;", true)
  | _ => ("ChartTable", "table", "LChartTable$Table;", true)
def tyX7 : Nat → FieldType := fun k => match k with
  | 0 => .object "ChartTable$Line"
  | 1 => .object "ChartTable$States"
  | 2 => .object "ChartTable$Rules"
  | 3 => .object "ChartTable$Reader"
  | _ => .object "ChartTable$Table"
abbrev wsX70 : List Cond := u_ws RX7 TX7 5
theorem nmX7 : ∀ a, a < 5 → ∀ b, b < 5 → a ≠ b → (TX7 a).2.1 ≠ (TX7 b).2.1 := by decide +kernel
theorem tyX7_ok : ∀ k, k < 5 → parseFieldDescriptor (TX7 k).2.2.1 = some (tyX7 k) := by decide +kernel
abbrev cX7_init : ByteArray := prog_1_method_1_code
def yX7_init : MethodName := ⟨RX7, "<init>", "()V"⟩
abbrev cX7_write : ByteArray := prog_1_method_2_code
def yX7_write : MethodName := ⟨RX7, "write", "(C)Z"⟩
abbrev cX7_line : ByteArray := prog_1_method_3_code
def yX7_line : MethodName := ⟨RX7, "line", "()I"⟩
abbrev cX7_compile : ByteArray := prog_1_method_4_code
def yX7_compile : MethodName := ⟨RX7, "compile", "()I"⟩
abbrev cX7_configurations : ByteArray := prog_1_method_5_code
def yX7_configurations : MethodName := ⟨RX7, "configurations", "()I"⟩
abbrev cX7_count : ByteArray := prog_1_method_6_code
def yX7_count : MethodName := ⟨RX7, "count", "(I)I"⟩
abbrev cX7_named : ByteArray := prog_1_method_7_code
def yX7_named : MethodName := ⟨RX7, "named", "()I"⟩
abbrev cX7_next : ByteArray := prog_1_method_8_code
def yX7_next : MethodName := ⟨RX7, "next", "(II)I"⟩
abbrev cX7_trace : ByteArray := prog_1_method_9_code
def yX7_trace : MethodName := ⟨RX7, "trace", "(III)I"⟩
abbrev cX7_active : ByteArray := prog_1_method_10_code
def yX7_active : MethodName := ⟨RX7, "active", "(II)Z"⟩
abbrev cX7_current : ByteArray := prog_1_method_11_code
def yX7_current : MethodName := ⟨RX7, "current", "(II)I"⟩
abbrev cX7_event : ByteArray := prog_1_method_12_code
def yX7_event : MethodName := ⟨RX7, "event", "(I)I"⟩
abbrev cX7_noted : ByteArray := prog_1_method_13_code
def yX7_noted : MethodName := ⟨RX7, "noted", "()I"⟩
def RX8 : String := "ChartTableModel"
def TX8 : u_T := fun k => match k with
  | 0 => ("ChartTableModel", "fault", "I", false)
  | 1 => ("ChartTableModel", "text", "[C", true)
  | 2 => ("ChartTableModel", "written", "I", false)
  | 3 => ("ChartTableModel", "words", "I", false)
  | 4 => ("ChartTableModel", "begin", "[I", true)
  | 5 => ("ChartTableModel", "end", "[I", true)
  | 6 => ("ChartTableModel", "states", "I", false)
  | 7 => ("ChartTableModel", "name", "[C", true)
  | 8 => ("ChartTableModel", "mark", "[C", true)
  | 9 => ("ChartTableModel", "parent", "[I", true)
  | 10 => ("ChartTableModel", "depth", "[I", true)
  | 11 => ("ChartTableModel", "marks", "[I", true)
  | 12 => ("ChartTableModel", "whole", "[Z", true)
  | 13 => ("ChartTableModel", "remembers", "[Z", true)
  | 14 => ("ChartTableModel", "events", "I", false)
  | 15 => ("ChartTableModel", "rules", "I", false)
  | 16 => ("ChartTableModel", "eventName", "[C", true)
  | 17 => ("ChartTableModel", "ruleMark", "[C", true)
  | 18 => ("ChartTableModel", "ruleEvent", "[I", true)
  | 19 => ("ChartTableModel", "ruleFrom", "[I", true)
  | 20 => ("ChartTableModel", "ruleTo", "[I", true)
  | 21 => ("ChartTableModel", "ruleWhen", "[I", true)
  | 22 => ("ChartTableModel", "ruleState", "[I", true)
  | 23 => ("ChartTableModel", "ruleMarks", "[I", true)
  | 24 => ("ChartTableModel", "now", "[I", true)
  | 25 => ("ChartTableModel", "note", "[C", true)
  | 26 => ("ChartTableModel", "notes", "I", false)
  | 27 => ("ChartTableModel", "made", "I", false)
  | 28 => ("ChartTableModel", "at", "I", false)
  | 29 => ("ChartTableModel", "noted", "I", false)
  | 30 => ("ChartTableModel", "current", "[I", true)
  | 31 => ("ChartTableModel", "next", "[I", true)
  | 32 => ("ChartTableModel", "traced", "[I", true)
  | 33 => ("ChartTableModel", "trace", "[C", true)
  | 34 => ("ChartTableModel", "stack", "[I", true)
  | 35 => ("ChartTableModel", "row", "[I", true)
  | 36 => ("ChartTableModel", "open", "[I", true)
  | 37 => ("ChartTableModel", "reached", "[I", true)
  | _ => ("ChartTableModel", "taken", "[I", true)
def tyX8 : Nat → FieldType := fun k => match k with
  | 0 => .int
  | 1 => .array .char
  | 2 => .int
  | 3 => .int
  | 4 => .array .int
  | 5 => .array .int
  | 6 => .int
  | 7 => .array .char
  | 8 => .array .char
  | 9 => .array .int
  | 10 => .array .int
  | 11 => .array .int
  | 12 => .array .boolean
  | 13 => .array .boolean
  | 14 => .int
  | 15 => .int
  | 16 => .array .char
  | 17 => .array .char
  | 18 => .array .int
  | 19 => .array .int
  | 20 => .array .int
  | 21 => .array .int
  | 22 => .array .int
  | 23 => .array .int
  | 24 => .array .int
  | 25 => .array .char
  | 26 => .int
  | 27 => .int
  | 28 => .int
  | 29 => .int
  | 30 => .array .int
  | 31 => .array .int
  | 32 => .array .int
  | 33 => .array .char
  | 34 => .array .int
  | 35 => .array .int
  | 36 => .array .int
  | 37 => .array .int
  | _ => .array .int
abbrev wsX80 : List Cond := u_ws RX8 TX8 39
theorem nmX8 : ∀ a, a < 39 → ∀ b, b < 39 → a ≠ b → (TX8 a).2.1 ≠ (TX8 b).2.1 := by decide +kernel
theorem tyX8_ok : ∀ k, k < 39 → parseFieldDescriptor (TX8 k).2.2.1 = some (tyX8 k) := by decide +kernel
abbrev cX8_init : ByteArray := prog_10_method_1_code
def yX8_init : MethodName := ⟨RX8, "<init>", "()V"⟩
abbrev cX8_thrown : ByteArray := prog_10_method_2_code
def yX8_thrown : MethodName := ⟨RX8, "thrown", "()I"⟩
abbrev cX8_fails : ByteArray := prog_10_method_3_code
def yX8_fails : MethodName := ⟨RX8, "fails", "(I)I"⟩
abbrev cX8_write : ByteArray := prog_10_method_4_code
def yX8_write : MethodName := ⟨RX8, "write", "(C)Z"⟩
abbrev cX8_split : ByteArray := prog_10_method_5_code
def yX8_split : MethodName := ⟨RX8, "split", "()V"⟩
abbrev cX8_letter : ByteArray := prog_10_method_6_code
def yX8_letter : MethodName := ⟨RX8, "letter", "(II)C"⟩
abbrev cX8_length : ByteArray := prog_10_method_7_code
def yX8_length : MethodName := ⟨RX8, "length", "(I)I"⟩
abbrev cX8_isWord : ByteArray := prog_10_method_8_code
def yX8_isWord : MethodName := ⟨RX8, "isWord", "(II)Z"⟩
abbrev cX8_says : ByteArray := prog_10_method_9_code
def yX8_says : MethodName := ⟨RX8, "says", "(ICCCCCC)Z"⟩
abbrev cX8_stateOf : ByteArray := prog_10_method_10_code
def yX8_stateOf : MethodName := ⟨RX8, "stateOf", "(I)I"⟩
abbrev cX8_eventOf : ByteArray := prog_10_method_11_code
def yX8_eventOf : MethodName := ⟨RX8, "eventOf", "(I)I"⟩
abbrev cX8_line : ByteArray := prog_10_method_12_code
def yX8_line : MethodName := ⟨RX8, "line", "()I"⟩
abbrev cX8_newState : ByteArray := prog_10_method_13_code
def yX8_newState : MethodName := ⟨RX8, "newState", "()I"⟩
abbrev cX8_newMarks : ByteArray := prog_10_method_14_code
def yX8_newMarks : MethodName := ⟨RX8, "newMarks", "(I)I"⟩
abbrev cX8_newRule : ByteArray := prog_10_method_15_code
def yX8_newRule : MethodName := ⟨RX8, "newRule", "()I"⟩
abbrev cX8_named : ByteArray := prog_10_method_16_code
def yX8_named : MethodName := ⟨RX8, "named", "()I"⟩
abbrev cX8_firstChild : ByteArray := prog_10_method_17_code
def yX8_firstChild : MethodName := ⟨RX8, "firstChild", "(I)I"⟩
abbrev cX8_within : ByteArray := prog_10_method_18_code
def yX8_within : MethodName := ⟨RX8, "within", "(II)Z"⟩
abbrev cX8_isActive : ByteArray := prog_10_method_19_code
def yX8_isActive : MethodName := ⟨RX8, "isActive", "(I)Z"⟩
abbrev cX8_notes : ByteArray := prog_10_method_20_code
def yX8_notes : MethodName := ⟨RX8, "notes", "(I)V"⟩
abbrev cX8_put : ByteArray := prog_10_method_21_code
def yX8_put : MethodName := ⟨RX8, "put", "(C)V"⟩
abbrev cX8_enter : ByteArray := prog_10_method_22_code
def yX8_enter : MethodName := ⟨RX8, "enter", "(II)V"⟩
abbrev cX8_leave : ByteArray := prog_10_method_23_code
def yX8_leave : MethodName := ⟨RX8, "leave", "(I)V"⟩
abbrev cX8_firstOf : ByteArray := prog_10_method_24_code
def yX8_firstOf : MethodName := ⟨RX8, "firstOf", "(I)I"⟩
abbrev cX8_own : ByteArray := prog_10_method_25_code
def yX8_own : MethodName := ⟨RX8, "own", "(II)I"⟩
abbrev cX8_take : ByteArray := prog_10_method_26_code
def yX8_take : MethodName := ⟨RX8, "take", "(I)I"⟩
abbrev cX8_following : ByteArray := prog_10_method_27_code
def yX8_following : MethodName := ⟨RX8, "following", "(II)I"⟩
abbrev cX8_offer : ByteArray := prog_10_method_28_code
def yX8_offer : MethodName := ⟨RX8, "offer", "(I)V"⟩
abbrev cX8_configuration : ByteArray := prog_10_method_29_code
def yX8_configuration : MethodName := ⟨RX8, "configuration", "()I"⟩
abbrev cX8_keep : ByteArray := prog_10_method_30_code
def yX8_keep : MethodName := ⟨RX8, "keep", "(I)V"⟩
abbrev cX8_offered : ByteArray := prog_10_method_31_code
def yX8_offered : MethodName := ⟨RX8, "offered", "(II)V"⟩
abbrev cX8_compile : ByteArray := prog_10_method_32_code
def yX8_compile : MethodName := ⟨RX8, "compile", "()I"⟩
abbrev cX8_configurations : ByteArray := prog_10_method_33_code
def yX8_configurations : MethodName := ⟨RX8, "configurations", "()I"⟩
abbrev cX8_count : ByteArray := prog_10_method_34_code
def yX8_count : MethodName := ⟨RX8, "count", "(I)I"⟩
abbrev cX8_isIn : ByteArray := prog_10_method_35_code
def yX8_isIn : MethodName := ⟨RX8, "isIn", "(II)Z"⟩
abbrev cX8_next : ByteArray := prog_10_method_36_code
def yX8_next : MethodName := ⟨RX8, "next", "(II)I"⟩
abbrev cX8_trace : ByteArray := prog_10_method_37_code
def yX8_trace : MethodName := ⟨RX8, "trace", "(III)I"⟩
abbrev cX8_active : ByteArray := prog_10_method_38_code
def yX8_active : MethodName := ⟨RX8, "active", "(II)Z"⟩
abbrev cX8_current : ByteArray := prog_10_method_39_code
def yX8_current : MethodName := ⟨RX8, "current", "(II)I"⟩
abbrev cX8_event : ByteArray := prog_10_method_40_code
def yX8_event : MethodName := ⟨RX8, "event", "(I)I"⟩
abbrev cX8_noted : ByteArray := prog_10_method_41_code
def yX8_noted : MethodName := ⟨RX8, "noted", "()I"⟩
def RJ9 : String := "java/lang/Math"
def TJ9 : u_T := fun k => match k with
  | _ => ("", "", "", false)
def tyJ9 : Nat → FieldType := fun k => match k with
  | _ => .int
abbrev wsJ90 : List Cond := u_ws RJ9 TJ9 0
theorem nmJ9 : ∀ a, a < 0 → ∀ b, b < 0 → a ≠ b → (TJ9 a).2.1 ≠ (TJ9 b).2.1 := by decide +kernel
theorem tyJ9_ok : ∀ k, k < 0 → parseFieldDescriptor (TJ9 k).2.2.1 = some (tyJ9 k) := by decide +kernel
abbrev cJ9_max_7cf53 : ByteArray := prog_14_method_65_code
def yJ9_max_7cf53 : MethodName := ⟨RJ9, "max", "(II)I"⟩
abbrev cJ9_min_7cf53 : ByteArray := prog_14_method_69_code
def yJ9_min_7cf53 : MethodName := ⟨RJ9, "min", "(II)I"⟩
def RJ0 : String := "java/lang/String"
def TJ0 : u_T := fun k => match k with
  | _ => ("", "", "", false)
def tyJ0 : Nat → FieldType := fun k => match k with
  | _ => .int
abbrev wsJ00 : List Cond := u_ws RJ0 TJ0 0
theorem nmJ0 : ∀ a, a < 0 → ∀ b, b < 0 → a ≠ b → (TJ0 a).2.1 ≠ (TJ0 b).2.1 := by decide +kernel
theorem tyJ0_ok : ∀ k, k < 0 → parseFieldDescriptor (TJ0 k).2.2.1 = some (tyJ0 k) := by decide +kernel
abbrev cJ0_length_8abf5 : ByteArray := prog_16_method_54_code
def yJ0_length_8abf5 : MethodName := ⟨RJ0, "length", "()I"⟩
abbrev cJ0_charAt_5068e : ByteArray := prog_16_method_56_code
def yJ0_charAt_5068e : MethodName := ⟨RJ0, "charAt", "(I)C"⟩
abbrev cJ0_coder_7d493 : ByteArray := prog_16_method_152_code
def yJ0_coder_7d493 : MethodName := ⟨RJ0, "coder", "()B"⟩
abbrev cJ0_isLatin1_aae02 : ByteArray := prog_16_method_154_code
def yJ0_isLatin1_aae02 : MethodName := ⟨RJ0, "isLatin1", "()Z"⟩
abbrev cJ0_checkIndex_df160 : ByteArray := prog_16_method_155_code
def yJ0_checkIndex_df160 : MethodName := ⟨RJ0, "checkIndex", "(II)V"⟩
def RJ1 : String := "java/lang/StringLatin1"
def TJ1 : u_T := fun k => match k with
  | _ => ("", "", "", false)
def tyJ1 : Nat → FieldType := fun k => match k with
  | _ => .int
abbrev wsJ10 : List Cond := u_ws RJ1 TJ1 0
theorem nmJ1 : ∀ a, a < 0 → ∀ b, b < 0 → a ≠ b → (TJ1 a).2.1 ≠ (TJ1 b).2.1 := by decide +kernel
theorem tyJ1_ok : ∀ k, k < 0 → parseFieldDescriptor (TJ1 k).2.2.1 = some (tyJ1 k) := by decide +kernel
abbrev cJ1_charAt_3b067 : ByteArray := prog_17_method_2_code
def yJ1_charAt_3b067 : MethodName := ⟨RJ1, "charAt", "([BI)C"⟩
def RJ2 : String := "java/lang/StringUTF16"
def TJ2 : u_T := fun k => match k with
  | _ => ("", "", "", false)
def tyJ2 : Nat → FieldType := fun k => match k with
  | _ => .int
abbrev wsJ20 : List Cond := u_ws RJ2 TJ2 0
theorem nmJ2 : ∀ a, a < 0 → ∀ b, b < 0 → a ≠ b → (TJ2 a).2.1 ≠ (TJ2 b).2.1 := by decide +kernel
theorem tyJ2_ok : ∀ k, k < 0 → parseFieldDescriptor (TJ2 k).2.2.1 = some (tyJ2 k) := by decide +kernel
abbrev cJ2_getChar_3b067 : ByteArray := prog_18_method_5_code
def yJ2_getChar_3b067 : MethodName := ⟨RJ2, "getChar", "([BI)C"⟩
abbrev cJ2_length_9d52b : ByteArray := prog_18_method_6_code
def yJ2_length_9d52b : MethodName := ⟨RJ2, "length", "([B)I"⟩
abbrev cJ2_charAt_3b067 : ByteArray := prog_18_method_83_code
def yJ2_charAt_3b067 : MethodName := ⟨RJ2, "charAt", "([BI)C"⟩
abbrev cJ2_checkIndex_2214a : ByteArray := prog_18_method_91_code
def yJ2_checkIndex_2214a : MethodName := ⟨RJ2, "checkIndex", "(I[B)V"⟩
def RJ3 : String := "jdk/internal/util/Preconditions"
def TJ3 : u_T := fun k => match k with
  | _ => ("", "", "", false)
def tyJ3 : Nat → FieldType := fun k => match k with
  | _ => .int
abbrev wsJ30 : List Cond := u_ws RJ3 TJ3 0
theorem nmJ3 : ∀ a, a < 0 → ∀ b, b < 0 → a ≠ b → (TJ3 a).2.1 ≠ (TJ3 b).2.1 := by decide +kernel
theorem tyJ3_ok : ∀ k, k < 0 → parseFieldDescriptor (TJ3 k).2.2.1 = some (tyJ3 k) := by decide +kernel
abbrev cJ3_checkIndex_8e157 : ByteArray := prog_21_method_11_code
def yJ3_checkIndex_8e157 : MethodName := ⟨RJ3, "checkIndex", "(IILjava/util/function/BiFunction;)I"⟩
def RL : String := "ChartTableLaw"
abbrev cL_line : ByteArray := method_3_code
def yL_line : MethodName := ⟨RL, "line", "(LChartTable;[J)I"⟩
abbrev cL_compile : ByteArray := method_4_code
def yL_compile : MethodName := ⟨RL, "compile", "(LChartTable;[J)I"⟩
abbrev cL_named : ByteArray := method_5_code
def yL_named : MethodName := ⟨RL, "named", "(LChartTable;[J)I"⟩
abbrev cL_next : ByteArray := method_6_code
def yL_next : MethodName := ⟨RL, "next", "(LChartTable;II[J)I"⟩
abbrev cL_event : ByteArray := method_7_code
def yL_event : MethodName := ⟨RL, "event", "(LChartTable;I[J)I"⟩
abbrev cL_law : ByteArray := code
def yL_law : MethodName := ⟨RL, "law", "([I)Z"⟩
def wsX0_init : List Cond := .code yX0_init cX0_init 1 none :: ([.methodLink RX0 3 objectInit, .instanceMethod objectInit, .code objectInit ⟨#[0xb1]⟩ 1 none, .arrayClass .char, .fieldLink RX0 9 "ChartTable$Line" "characters" "[C", .arrayClass .int, .fieldLink RX0 15 "ChartTable$Line" "starts" "[I", .fieldLink RX0 19 "ChartTable$Line" "ends" "[I"] ++ wsX00)
def wsX0_append : List Cond := .code yX0_append cX0_append 2 (some .boolean) :: ([.fieldLink RX0 22 "ChartTable$Line" "length" "I", .fieldLink RX0 9 "ChartTable$Line" "characters" "[C"] ++ wsX00)
def wsX0_split : List Cond := .code yX0_split cX0_split 4 none :: ([.fieldLink RX0 26 "ChartTable$Line" "words" "I", .fieldLink RX0 22 "ChartTable$Line" "length" "I", .fieldLink RX0 9 "ChartTable$Line" "characters" "[C", .fieldLink RX0 15 "ChartTable$Line" "starts" "[I", .fieldLink RX0 19 "ChartTable$Line" "ends" "[I"] ++ wsX00)
def wsX0_words : List Cond := .code yX0_words cX0_words 1 (some .int) :: ([.fieldLink RX0 26 "ChartTable$Line" "words" "I"] ++ wsX00)
def wsX0_sizeOf : List Cond := .code yX0_sizeOf cX0_sizeOf 2 (some .int) :: ([.fieldLink RX0 26 "ChartTable$Line" "words" "I", .fieldLink RX0 19 "ChartTable$Line" "ends" "[I", .fieldLink RX0 15 "ChartTable$Line" "starts" "[I"] ++ wsX00)
def wsJ0_coder_7d493 : List Cond := .code yJ0_coder_7d493 cJ0_coder_7d493 1 (some .byte) :: ([.fieldLink RJ0 38 "java/lang/String" "COMPACT_STRINGS" "Z", .fieldLink RJ0 15 "java/lang/String" "coder" "B"])
def wsJ0_length_8abf5 : List Cond := .code yJ0_length_8abf5 cJ0_length_8abf5 1 (some .int) :: ([.fieldLink RJ0 9 "java/lang/String" "value" "[B", .methodLink RJ0 335 yJ0_coder_7d493, .instanceMethod yJ0_coder_7d493, .selects RJ0 yJ0_coder_7d493 yJ0_coder_7d493, .initialized RJ0, .code yJ0_coder_7d493 cJ0_coder_7d493 1 (some .byte), .fieldLink RJ0 38 "java/lang/String" "COMPACT_STRINGS" "Z", .fieldLink RJ0 15 "java/lang/String" "coder" "B"])
def wsX0_letterAt : List Cond := .code yX0_letterAt cX0_letterAt 3 (some .char) :: ([.fieldLink RX0 9 "ChartTable$Line" "characters" "[C", .fieldLink RX0 15 "ChartTable$Line" "starts" "[I", .methodLink RX0 29 yX0_sizeOf, .instanceMethod yX0_sizeOf, .selects RX0 yX0_sizeOf yX0_sizeOf, .initialized RX0, .code yX0_sizeOf cX0_sizeOf 2 (some .int), .fieldLink RX0 26 "ChartTable$Line" "words" "I", .fieldLink RX0 19 "ChartTable$Line" "ends" "[I"] ++ wsX00)
def wsJ0_isLatin1_aae02 : List Cond := .code yJ0_isLatin1_aae02 cJ0_isLatin1_aae02 1 (some .boolean) :: ([.fieldLink RJ0 38 "java/lang/String" "COMPACT_STRINGS" "Z", .fieldLink RJ0 15 "java/lang/String" "coder" "B"])
def wsJ3_checkIndex_8e157 : List Cond := .code yJ3_checkIndex_8e157 cJ3_checkIndex_8e157 3 (some .int) :: ([])
def wsJ0_checkIndex_df160 : List Cond := .code yJ0_checkIndex_df160 cJ0_checkIndex_df160 2 none :: ([.fieldLink RJ0 1053 "jdk/internal/util/Preconditions" "SIOOBE_FORMATTER" "Ljava/util/function/BiFunction;", .methodLink RJ0 1059 yJ3_checkIndex_8e157, .static yJ3_checkIndex_8e157, .initialized RJ3, .code yJ3_checkIndex_8e157 cJ3_checkIndex_8e157 3 (some .int)])
def wsJ1_charAt_3b067 : List Cond := .code yJ1_charAt_3b067 cJ1_charAt_3b067 2 (some .char) :: ([.methodLink RJ1 9 yJ0_checkIndex_df160, .static yJ0_checkIndex_df160, .initialized RJ0, .code yJ0_checkIndex_df160 cJ0_checkIndex_df160 2 none, .fieldLink RJ0 1053 "jdk/internal/util/Preconditions" "SIOOBE_FORMATTER" "Ljava/util/function/BiFunction;", .methodLink RJ0 1059 yJ3_checkIndex_8e157, .static yJ3_checkIndex_8e157, .initialized RJ3, .code yJ3_checkIndex_8e157 cJ3_checkIndex_8e157 3 (some .int)])
def wsJ2_length_9d52b : List Cond := .code yJ2_length_9d52b cJ2_length_9d52b 1 (some .int) :: ([])
def wsJ2_checkIndex_2214a : List Cond := .code yJ2_checkIndex_2214a cJ2_checkIndex_2214a 2 none :: ([.methodLink RJ2 48 yJ2_length_9d52b, .static yJ2_length_9d52b, .initialized RJ2, .code yJ2_length_9d52b cJ2_length_9d52b 1 (some .int), .methodLink RJ2 414 yJ0_checkIndex_df160, .static yJ0_checkIndex_df160, .initialized RJ0, .code yJ0_checkIndex_df160 cJ0_checkIndex_df160 2 none, .fieldLink RJ0 1053 "jdk/internal/util/Preconditions" "SIOOBE_FORMATTER" "Ljava/util/function/BiFunction;", .methodLink RJ0 1059 yJ3_checkIndex_8e157, .static yJ3_checkIndex_8e157, .initialized RJ3, .code yJ3_checkIndex_8e157 cJ3_checkIndex_8e157 3 (some .int)])
def wsJ2_getChar_3b067 : List Cond := .code yJ2_getChar_3b067 cJ2_getChar_3b067 2 (some .char) :: ([.fieldLink RJ2 44 "java/lang/StringUTF16" "$assertionsDisabled" "Z", .fieldLink RJ2 59 "java/lang/StringUTF16" "HI_BYTE_SHIFT" "I", .fieldLink RJ2 63 "java/lang/StringUTF16" "LO_BYTE_SHIFT" "I", .methodLink RJ2 48 yJ2_length_9d52b, .static yJ2_length_9d52b, .initialized RJ2, .code yJ2_length_9d52b cJ2_length_9d52b 1 (some .int)])
def wsJ2_charAt_3b067 : List Cond := .code yJ2_charAt_3b067 cJ2_charAt_3b067 2 (some .char) :: ([.methodLink RJ2 67 yJ2_checkIndex_2214a, .static yJ2_checkIndex_2214a, .initialized RJ2, .code yJ2_checkIndex_2214a cJ2_checkIndex_2214a 2 none, .methodLink RJ2 48 yJ2_length_9d52b, .static yJ2_length_9d52b, .code yJ2_length_9d52b cJ2_length_9d52b 1 (some .int), .methodLink RJ2 414 yJ0_checkIndex_df160, .static yJ0_checkIndex_df160, .initialized RJ0, .code yJ0_checkIndex_df160 cJ0_checkIndex_df160 2 none, .fieldLink RJ0 1053 "jdk/internal/util/Preconditions" "SIOOBE_FORMATTER" "Ljava/util/function/BiFunction;", .methodLink RJ0 1059 yJ3_checkIndex_8e157, .static yJ3_checkIndex_8e157, .initialized RJ3, .code yJ3_checkIndex_8e157 cJ3_checkIndex_8e157 3 (some .int), .methodLink RJ2 71 yJ2_getChar_3b067, .static yJ2_getChar_3b067, .code yJ2_getChar_3b067 cJ2_getChar_3b067 2 (some .char), .fieldLink RJ2 44 "java/lang/StringUTF16" "$assertionsDisabled" "Z", .fieldLink RJ2 59 "java/lang/StringUTF16" "HI_BYTE_SHIFT" "I", .fieldLink RJ2 63 "java/lang/StringUTF16" "LO_BYTE_SHIFT" "I"])
def wsJ0_charAt_5068e_r1 : List Cond := [Cond.fieldLink RJ0 9 "java/lang/String" "value" "[B", Cond.methodLink RJ0 492 yJ0_isLatin1_aae02, Cond.instanceMethod yJ0_isLatin1_aae02, Cond.selects RJ0 yJ0_isLatin1_aae02 yJ0_isLatin1_aae02, Cond.initialized RJ0, Cond.code yJ0_isLatin1_aae02 cJ0_isLatin1_aae02 1 (some .boolean), Cond.fieldLink RJ0 38 "java/lang/String" "COMPACT_STRINGS" "Z", Cond.fieldLink RJ0 15 "java/lang/String" "coder" "B", Cond.methodLink RJ0 495 yJ1_charAt_3b067, Cond.static yJ1_charAt_3b067, Cond.initialized RJ1, Cond.code yJ1_charAt_3b067 cJ1_charAt_3b067 2 (some .char), Cond.methodLink RJ1 9 yJ0_checkIndex_df160, Cond.static yJ0_checkIndex_df160, Cond.code yJ0_checkIndex_df160 cJ0_checkIndex_df160 2 none, Cond.fieldLink RJ0 1053 "jdk/internal/util/Preconditions" "SIOOBE_FORMATTER" "Ljava/util/function/BiFunction;", Cond.methodLink RJ0 1059 yJ3_checkIndex_8e157, Cond.static yJ3_checkIndex_8e157, Cond.initialized RJ3, Cond.code yJ3_checkIndex_8e157 cJ3_checkIndex_8e157 3 (some .int), Cond.methodLink RJ0 498 yJ2_charAt_3b067, Cond.static yJ2_charAt_3b067, Cond.initialized RJ2, Cond.code yJ2_charAt_3b067 cJ2_charAt_3b067 2 (some .char)]
def wsJ0_charAt_5068e_r2 : List Cond := [Cond.methodLink RJ2 67 yJ2_checkIndex_2214a, Cond.static yJ2_checkIndex_2214a, Cond.code yJ2_checkIndex_2214a cJ2_checkIndex_2214a 2 none, Cond.methodLink RJ2 48 yJ2_length_9d52b, Cond.static yJ2_length_9d52b, Cond.code yJ2_length_9d52b cJ2_length_9d52b 1 (some .int), Cond.methodLink RJ2 414 yJ0_checkIndex_df160, Cond.methodLink RJ2 71 yJ2_getChar_3b067, Cond.static yJ2_getChar_3b067, Cond.code yJ2_getChar_3b067 cJ2_getChar_3b067 2 (some .char), Cond.fieldLink RJ2 44 "java/lang/StringUTF16" "$assertionsDisabled" "Z", Cond.fieldLink RJ2 59 "java/lang/StringUTF16" "HI_BYTE_SHIFT" "I", Cond.fieldLink RJ2 63 "java/lang/StringUTF16" "LO_BYTE_SHIFT" "I"]
def wsJ0_charAt_5068e : List Cond := .code yJ0_charAt_5068e cJ0_charAt_5068e 2 (some .char) :: ((wsJ0_charAt_5068e_r1 ++ wsJ0_charAt_5068e_r2))
def wsX0_says_r1 : List Cond := [Cond.methodLink RX0 29 yX0_sizeOf, Cond.instanceMethod yX0_sizeOf, Cond.selects RX0 yX0_sizeOf yX0_sizeOf, Cond.initialized RX0, Cond.code yX0_sizeOf cX0_sizeOf 2 (some .int), Cond.fieldLink RX0 26 "ChartTable$Line" "words" "I", Cond.fieldLink RX0 19 "ChartTable$Line" "ends" "[I", Cond.fieldLink RX0 15 "ChartTable$Line" "starts" "[I", Cond.methodLink RX0 33 yJ0_length_8abf5, Cond.instanceMethod yJ0_length_8abf5, Cond.selects RJ0 yJ0_length_8abf5 yJ0_length_8abf5, Cond.initialized RJ0, Cond.code yJ0_length_8abf5 cJ0_length_8abf5 1 (some .int), Cond.fieldLink RJ0 9 "java/lang/String" "value" "[B", Cond.methodLink RJ0 335 yJ0_coder_7d493, Cond.instanceMethod yJ0_coder_7d493, Cond.selects RJ0 yJ0_coder_7d493 yJ0_coder_7d493, Cond.code yJ0_coder_7d493 cJ0_coder_7d493 1 (some .byte), Cond.fieldLink RJ0 38 "java/lang/String" "COMPACT_STRINGS" "Z", Cond.fieldLink RJ0 15 "java/lang/String" "coder" "B", Cond.methodLink RX0 38 yX0_letterAt, Cond.instanceMethod yX0_letterAt, Cond.selects RX0 yX0_letterAt yX0_letterAt, Cond.code yX0_letterAt cX0_letterAt 3 (some .char)]
def wsX0_says_r2 : List Cond := [Cond.fieldLink RX0 9 "ChartTable$Line" "characters" "[C", Cond.methodLink RX0 42 yJ0_charAt_5068e, Cond.instanceMethod yJ0_charAt_5068e, Cond.selects RJ0 yJ0_charAt_5068e yJ0_charAt_5068e, Cond.code yJ0_charAt_5068e cJ0_charAt_5068e 2 (some .char), Cond.methodLink RJ0 492 yJ0_isLatin1_aae02, Cond.instanceMethod yJ0_isLatin1_aae02, Cond.selects RJ0 yJ0_isLatin1_aae02 yJ0_isLatin1_aae02, Cond.code yJ0_isLatin1_aae02 cJ0_isLatin1_aae02 1 (some .boolean), Cond.methodLink RJ0 495 yJ1_charAt_3b067, Cond.static yJ1_charAt_3b067, Cond.initialized RJ1, Cond.code yJ1_charAt_3b067 cJ1_charAt_3b067 2 (some .char), Cond.methodLink RJ1 9 yJ0_checkIndex_df160, Cond.static yJ0_checkIndex_df160, Cond.code yJ0_checkIndex_df160 cJ0_checkIndex_df160 2 none, Cond.fieldLink RJ0 1053 "jdk/internal/util/Preconditions" "SIOOBE_FORMATTER" "Ljava/util/function/BiFunction;", Cond.methodLink RJ0 1059 yJ3_checkIndex_8e157, Cond.static yJ3_checkIndex_8e157, Cond.initialized RJ3, Cond.code yJ3_checkIndex_8e157 cJ3_checkIndex_8e157 3 (some .int), Cond.methodLink RJ0 498 yJ2_charAt_3b067, Cond.static yJ2_charAt_3b067, Cond.initialized RJ2]
def wsX0_says_r3 : List Cond := [Cond.code yJ2_charAt_3b067 cJ2_charAt_3b067 2 (some .char), Cond.methodLink RJ2 67 yJ2_checkIndex_2214a, Cond.static yJ2_checkIndex_2214a, Cond.code yJ2_checkIndex_2214a cJ2_checkIndex_2214a 2 none, Cond.methodLink RJ2 48 yJ2_length_9d52b, Cond.static yJ2_length_9d52b, Cond.code yJ2_length_9d52b cJ2_length_9d52b 1 (some .int), Cond.methodLink RJ2 414 yJ0_checkIndex_df160, Cond.methodLink RJ2 71 yJ2_getChar_3b067, Cond.static yJ2_getChar_3b067, Cond.code yJ2_getChar_3b067 cJ2_getChar_3b067 2 (some .char), Cond.fieldLink RJ2 44 "java/lang/StringUTF16" "$assertionsDisabled" "Z", Cond.fieldLink RJ2 59 "java/lang/StringUTF16" "HI_BYTE_SHIFT" "I", Cond.fieldLink RJ2 63 "java/lang/StringUTF16" "LO_BYTE_SHIFT" "I"]
def wsX0_says : List Cond := .code yX0_says cX0_says 4 (some .boolean) :: ((wsX0_says_r1 ++ (wsX0_says_r2 ++ wsX0_says_r3)) ++ wsX00)
def wsX0_isLetters : List Cond := .code yX0_isLetters cX0_isLetters 6 (some .boolean) :: ([.methodLink RX0 29 yX0_sizeOf, .instanceMethod yX0_sizeOf, .selects RX0 yX0_sizeOf yX0_sizeOf, .initialized RX0, .code yX0_sizeOf cX0_sizeOf 2 (some .int), .fieldLink RX0 26 "ChartTable$Line" "words" "I", .fieldLink RX0 19 "ChartTable$Line" "ends" "[I", .fieldLink RX0 15 "ChartTable$Line" "starts" "[I", .methodLink RX0 38 yX0_letterAt, .instanceMethod yX0_letterAt, .selects RX0 yX0_letterAt yX0_letterAt, .code yX0_letterAt cX0_letterAt 3 (some .char), .fieldLink RX0 9 "ChartTable$Line" "characters" "[C"] ++ wsX00)
def wsX0_nameAt : List Cond := .code yX0_nameAt cX0_nameAt 5 (some .int) :: ([.methodLink RX0 46 yX0_isLetters, .instanceMethod yX0_isLetters, .selects RX0 yX0_isLetters yX0_isLetters, .initialized RX0, .code yX0_isLetters cX0_isLetters 6 (some .boolean), .methodLink RX0 29 yX0_sizeOf, .instanceMethod yX0_sizeOf, .selects RX0 yX0_sizeOf yX0_sizeOf, .code yX0_sizeOf cX0_sizeOf 2 (some .int), .fieldLink RX0 26 "ChartTable$Line" "words" "I", .fieldLink RX0 19 "ChartTable$Line" "ends" "[I", .fieldLink RX0 15 "ChartTable$Line" "starts" "[I", .methodLink RX0 38 yX0_letterAt, .instanceMethod yX0_letterAt, .selects RX0 yX0_letterAt yX0_letterAt, .code yX0_letterAt cX0_letterAt 3 (some .char), .fieldLink RX0 9 "ChartTable$Line" "characters" "[C"] ++ wsX00)
def wsX1_init : List Cond := .code yX1_init cX1_init 3 none :: ([.methodLink RX1 3 objectInit, .instanceMethod objectInit, .code objectInit ⟨#[0xb1]⟩ 1 none, .methodLink RX1 9 Lib.Math.max.name, .static Lib.Math.max.name, .initialized "java/lang/Math", .code Lib.Math.max.name Lib.Math.max.code 2 (some .int), .fieldLink RX1 15 "ChartTable$MarkRows" "rows" "I", .fieldLink RX1 21 "ChartTable$MarkRows" "most" "I", .arrayClass .char, .fieldLink RX1 24 "ChartTable$MarkRows" "letters" "[C", .arrayClass .int, .fieldLink RX1 28 "ChartTable$MarkRows" "sizes" "[I"] ++ wsX10)
def wsX1_isRow : List Cond := .code yX1_isRow cX1_isRow 2 (some .boolean) :: ([.fieldLink RX1 15 "ChartTable$MarkRows" "rows" "I"] ++ wsX10)
def wsX1_sizeOf : List Cond := .code yX1_sizeOf cX1_sizeOf 2 (some .int) :: ([.fieldLink RX1 28 "ChartTable$MarkRows" "sizes" "[I", .methodLink RX1 32 yX1_isRow, .instanceMethod yX1_isRow, .selects RX1 yX1_isRow yX1_isRow, .initialized RX1, .code yX1_isRow cX1_isRow 2 (some .boolean), .fieldLink RX1 15 "ChartTable$MarkRows" "rows" "I"] ++ wsX10)
def wsX1_letterAt : List Cond := .code yX1_letterAt cX1_letterAt 3 (some .int) :: ([.fieldLink RX1 24 "ChartTable$MarkRows" "letters" "[C", .fieldLink RX1 21 "ChartTable$MarkRows" "most" "I", .methodLink RX1 36 yX1_sizeOf, .instanceMethod yX1_sizeOf, .selects RX1 yX1_sizeOf yX1_sizeOf, .initialized RX1, .code yX1_sizeOf cX1_sizeOf 2 (some .int), .fieldLink RX1 28 "ChartTable$MarkRows" "sizes" "[I", .methodLink RX1 32 yX1_isRow, .instanceMethod yX1_isRow, .selects RX1 yX1_isRow yX1_isRow, .code yX1_isRow cX1_isRow 2 (some .boolean), .fieldLink RX1 15 "ChartTable$MarkRows" "rows" "I"] ++ wsX10)
def wsX1_hasRoom : List Cond := .code yX1_hasRoom cX1_hasRoom 3 (some .boolean) :: ([.fieldLink RX1 21 "ChartTable$MarkRows" "most" "I", .fieldLink RX1 28 "ChartTable$MarkRows" "sizes" "[I", .methodLink RX1 32 yX1_isRow, .instanceMethod yX1_isRow, .selects RX1 yX1_isRow yX1_isRow, .initialized RX1, .code yX1_isRow cX1_isRow 2 (some .boolean), .fieldLink RX1 15 "ChartTable$MarkRows" "rows" "I"] ++ wsX10)
def wsX1_empty : List Cond := .code yX1_empty cX1_empty 2 none :: ([.fieldLink RX1 28 "ChartTable$MarkRows" "sizes" "[I", .methodLink RX1 32 yX1_isRow, .instanceMethod yX1_isRow, .selects RX1 yX1_isRow yX1_isRow, .initialized RX1, .code yX1_isRow cX1_isRow 2 (some .boolean), .fieldLink RX1 15 "ChartTable$MarkRows" "rows" "I"] ++ wsX10)
def wsX1_add : List Cond := .code yX1_add cX1_add 3 none :: ([.fieldLink RX1 28 "ChartTable$MarkRows" "sizes" "[I", .fieldLink RX1 21 "ChartTable$MarkRows" "most" "I", .fieldLink RX1 24 "ChartTable$MarkRows" "letters" "[C", .methodLink RX1 32 yX1_isRow, .instanceMethod yX1_isRow, .selects RX1 yX1_isRow yX1_isRow, .initialized RX1, .code yX1_isRow cX1_isRow 2 (some .boolean), .fieldLink RX1 15 "ChartTable$MarkRows" "rows" "I"] ++ wsX10)
def wsX1_addRow : List Cond := .code yX1_addRow cX1_addRow 7 none :: ([.fieldLink RX1 28 "ChartTable$MarkRows" "sizes" "[I", .fieldLink RX1 21 "ChartTable$MarkRows" "most" "I", .methodLink RX1 40 Lib.Math.min.name, .static Lib.Math.min.name, .initialized "java/lang/Math", .code Lib.Math.min.name Lib.Math.min.code 2 (some .int), .fieldLink RX1 24 "ChartTable$MarkRows" "letters" "[C", .methodLink RX1 32 yX1_isRow, .instanceMethod yX1_isRow, .selects RX1 yX1_isRow yX1_isRow, .initialized RX1, .code yX1_isRow cX1_isRow 2 (some .boolean), .fieldLink RX1 15 "ChartTable$MarkRows" "rows" "I"] ++ wsX10)
def wsX2_init : List Cond := .code yX2_init cX2_init 4 none :: ([.methodLink RX2 3 objectInit, .instanceMethod objectInit, .code objectInit ⟨#[0xb1]⟩ 1 none, .fieldLink RX2 9 "ChartTable$Reader" "text" "LChartTable$Line;", .fieldLink RX2 15 "ChartTable$Reader" "states" "LChartTable$States;", .fieldLink RX2 19 "ChartTable$Reader" "rules" "LChartTable$Rules;"] ++ wsX20)
def wsX4_find : List Cond := .code yX4_find cX4_find 3 (some .int) :: ([.fieldLink RX4 43 "ChartTable$States" "made" "I", .fieldLink RX4 9 "ChartTable$States" "names" "[I"] ++ wsX40)
def wsX4_isState : List Cond := .code yX4_isState cX4_isState 2 (some .boolean) :: ([.fieldLink RX4 43 "ChartTable$States" "made" "I"] ++ wsX40)
def wsX4_depthOf : List Cond := .code yX4_depthOf cX4_depthOf 2 (some .int) :: ([.fieldLink RX4 18 "ChartTable$States" "depths" "[I", .methodLink RX4 51 yX4_isState, .instanceMethod yX4_isState, .selects RX4 yX4_isState yX4_isState, .initialized RX4, .code yX4_isState cX4_isState 2 (some .boolean), .fieldLink RX4 43 "ChartTable$States" "made" "I"] ++ wsX40)
def wsX4_isFull : List Cond := .code yX4_isFull cX4_isFull 1 (some .boolean) :: ([.fieldLink RX4 43 "ChartTable$States" "made" "I"] ++ wsX40)
def wsX4_make : List Cond := .code yX4_make cX4_make 5 none :: ([.fieldLink RX4 9 "ChartTable$States" "names" "[I", .fieldLink RX4 43 "ChartTable$States" "made" "I", .fieldLink RX4 15 "ChartTable$States" "parents" "[I", .fieldLink RX4 18 "ChartTable$States" "depths" "[I", .fieldLink RX4 21 "ChartTable$States" "firstChildren" "[I", .fieldLink RX4 24 "ChartTable$States" "wholes" "[Z", .fieldLink RX4 28 "ChartTable$States" "remembering" "[Z", .methodLink RX4 47 yX4_isFull, .instanceMethod yX4_isFull, .selects RX4 yX4_isFull yX4_isFull, .initialized RX4, .code yX4_isFull cX4_isFull 1 (some .boolean), .methodLink RX4 51 yX4_isState, .instanceMethod yX4_isState, .selects RX4 yX4_isState yX4_isState, .code yX4_isState cX4_isState 2 (some .boolean)] ++ wsX40)
def wsX2_readState_r1 : List Cond := [Cond.fieldLink RX2 9 "ChartTable$Reader" "text" "LChartTable$Line;", Cond.fieldLink RX2 15 "ChartTable$Reader" "states" "LChartTable$States;", Cond.methodLink RX2 34 yX0_says, Cond.instanceMethod yX0_says, Cond.selects RX0 yX0_says yX0_says, Cond.initialized RX0, Cond.code yX0_says cX0_says 4 (some .boolean), Cond.methodLink RX0 29 yX0_sizeOf, Cond.instanceMethod yX0_sizeOf, Cond.selects RX0 yX0_sizeOf yX0_sizeOf, Cond.code yX0_sizeOf cX0_sizeOf 2 (some .int), Cond.fieldLink RX0 26 "ChartTable$Line" "words" "I", Cond.fieldLink RX0 19 "ChartTable$Line" "ends" "[I", Cond.fieldLink RX0 15 "ChartTable$Line" "starts" "[I", Cond.methodLink RX0 33 yJ0_length_8abf5, Cond.instanceMethod yJ0_length_8abf5, Cond.selects RJ0 yJ0_length_8abf5 yJ0_length_8abf5, Cond.initialized RJ0, Cond.code yJ0_length_8abf5 cJ0_length_8abf5 1 (some .int), Cond.fieldLink RJ0 9 "java/lang/String" "value" "[B", Cond.methodLink RJ0 335 yJ0_coder_7d493, Cond.instanceMethod yJ0_coder_7d493, Cond.selects RJ0 yJ0_coder_7d493 yJ0_coder_7d493, Cond.code yJ0_coder_7d493 cJ0_coder_7d493 1 (some .byte)]
def wsX2_readState_r2 : List Cond := [Cond.fieldLink RJ0 38 "java/lang/String" "COMPACT_STRINGS" "Z", Cond.fieldLink RJ0 15 "java/lang/String" "coder" "B", Cond.methodLink RX0 38 yX0_letterAt, Cond.instanceMethod yX0_letterAt, Cond.selects RX0 yX0_letterAt yX0_letterAt, Cond.code yX0_letterAt cX0_letterAt 3 (some .char), Cond.fieldLink RX0 9 "ChartTable$Line" "characters" "[C", Cond.methodLink RX0 42 yJ0_charAt_5068e, Cond.instanceMethod yJ0_charAt_5068e, Cond.selects RJ0 yJ0_charAt_5068e yJ0_charAt_5068e, Cond.code yJ0_charAt_5068e cJ0_charAt_5068e 2 (some .char), Cond.methodLink RJ0 492 yJ0_isLatin1_aae02, Cond.instanceMethod yJ0_isLatin1_aae02, Cond.selects RJ0 yJ0_isLatin1_aae02 yJ0_isLatin1_aae02, Cond.code yJ0_isLatin1_aae02 cJ0_isLatin1_aae02 1 (some .boolean), Cond.methodLink RJ0 495 yJ1_charAt_3b067, Cond.static yJ1_charAt_3b067, Cond.initialized RJ1, Cond.code yJ1_charAt_3b067 cJ1_charAt_3b067 2 (some .char), Cond.methodLink RJ1 9 yJ0_checkIndex_df160, Cond.static yJ0_checkIndex_df160, Cond.code yJ0_checkIndex_df160 cJ0_checkIndex_df160 2 none, Cond.fieldLink RJ0 1053 "jdk/internal/util/Preconditions" "SIOOBE_FORMATTER" "Ljava/util/function/BiFunction;", Cond.methodLink RJ0 1059 yJ3_checkIndex_8e157]
def wsX2_readState_r3 : List Cond := [Cond.static yJ3_checkIndex_8e157, Cond.initialized RJ3, Cond.code yJ3_checkIndex_8e157 cJ3_checkIndex_8e157 3 (some .int), Cond.methodLink RJ0 498 yJ2_charAt_3b067, Cond.static yJ2_charAt_3b067, Cond.initialized RJ2, Cond.code yJ2_charAt_3b067 cJ2_charAt_3b067 2 (some .char), Cond.methodLink RJ2 67 yJ2_checkIndex_2214a, Cond.static yJ2_checkIndex_2214a, Cond.code yJ2_checkIndex_2214a cJ2_checkIndex_2214a 2 none, Cond.methodLink RJ2 48 yJ2_length_9d52b, Cond.static yJ2_length_9d52b, Cond.code yJ2_length_9d52b cJ2_length_9d52b 1 (some .int), Cond.methodLink RJ2 414 yJ0_checkIndex_df160, Cond.methodLink RJ2 71 yJ2_getChar_3b067, Cond.static yJ2_getChar_3b067, Cond.code yJ2_getChar_3b067 cJ2_getChar_3b067 2 (some .char), Cond.fieldLink RJ2 44 "java/lang/StringUTF16" "$assertionsDisabled" "Z", Cond.fieldLink RJ2 59 "java/lang/StringUTF16" "HI_BYTE_SHIFT" "I", Cond.fieldLink RJ2 63 "java/lang/StringUTF16" "LO_BYTE_SHIFT" "I", Cond.methodLink RX2 28 yX0_words, Cond.instanceMethod yX0_words, Cond.selects RX0 yX0_words yX0_words, Cond.code yX0_words cX0_words 1 (some .int)]
def wsX2_readState_r4 : List Cond := [Cond.methodLink RX2 69 yX0_nameAt, Cond.instanceMethod yX0_nameAt, Cond.selects RX0 yX0_nameAt yX0_nameAt, Cond.code yX0_nameAt cX0_nameAt 5 (some .int), Cond.methodLink RX0 46 yX0_isLetters, Cond.instanceMethod yX0_isLetters, Cond.selects RX0 yX0_isLetters yX0_isLetters, Cond.code yX0_isLetters cX0_isLetters 6 (some .boolean), Cond.methodLink RX2 73 yX4_find, Cond.instanceMethod yX4_find, Cond.selects RX4 yX4_find yX4_find, Cond.initialized RX4, Cond.code yX4_find cX4_find 3 (some .int), Cond.fieldLink RX4 43 "ChartTable$States" "made" "I", Cond.fieldLink RX4 9 "ChartTable$States" "names" "[I", Cond.methodLink RX2 76 yX4_depthOf, Cond.instanceMethod yX4_depthOf, Cond.selects RX4 yX4_depthOf yX4_depthOf, Cond.code yX4_depthOf cX4_depthOf 2 (some .int), Cond.fieldLink RX4 18 "ChartTable$States" "depths" "[I", Cond.methodLink RX4 51 yX4_isState, Cond.instanceMethod yX4_isState, Cond.selects RX4 yX4_isState yX4_isState, Cond.code yX4_isState cX4_isState 2 (some .boolean)]
def wsX2_readState_r5 : List Cond := [Cond.methodLink RX2 79 yX4_isFull, Cond.instanceMethod yX4_isFull, Cond.selects RX4 yX4_isFull yX4_isFull, Cond.code yX4_isFull cX4_isFull 1 (some .boolean), Cond.methodLink RX2 83 yX4_make, Cond.instanceMethod yX4_make, Cond.selects RX4 yX4_make yX4_make, Cond.code yX4_make cX4_make 5 none, Cond.fieldLink RX4 15 "ChartTable$States" "parents" "[I", Cond.fieldLink RX4 21 "ChartTable$States" "firstChildren" "[I", Cond.fieldLink RX4 24 "ChartTable$States" "wholes" "[Z", Cond.fieldLink RX4 28 "ChartTable$States" "remembering" "[Z", Cond.methodLink RX4 47 yX4_isFull]
def wsX2_readState : List Cond := .code yX2_readState cX2_readState 5 (some .int) :: ((wsX2_readState_r1 ++ (wsX2_readState_r2 ++ (wsX2_readState_r3 ++ (wsX2_readState_r4 ++ wsX2_readState_r5)))) ++ wsX20 ++ wsX00 ++ wsX40)
def wsX4_entering : List Cond := .code yX4_entering cX4_entering 1 (some (.object "ChartTable$MarkRows")) :: ([.fieldLink RX4 36 "ChartTable$States" "entering" "LChartTable$MarkRows;"] ++ wsX40)
def wsX2_addMarks_r1 : List Cond := [Cond.fieldLink RX2 9 "ChartTable$Reader" "text" "LChartTable$Line;", Cond.methodLink RX2 91 yX0_sizeOf, Cond.instanceMethod yX0_sizeOf, Cond.selects RX0 yX0_sizeOf yX0_sizeOf, Cond.initialized RX0, Cond.code yX0_sizeOf cX0_sizeOf 2 (some .int), Cond.fieldLink RX0 26 "ChartTable$Line" "words" "I", Cond.fieldLink RX0 19 "ChartTable$Line" "ends" "[I", Cond.fieldLink RX0 15 "ChartTable$Line" "starts" "[I", Cond.methodLink RX2 134 yX0_letterAt, Cond.instanceMethod yX0_letterAt, Cond.selects RX0 yX0_letterAt yX0_letterAt, Cond.code yX0_letterAt cX0_letterAt 3 (some .char), Cond.fieldLink RX0 9 "ChartTable$Line" "characters" "[C", Cond.methodLink RX0 29 yX0_sizeOf, Cond.methodLink RX2 138 yX1_add, Cond.instanceMethod yX1_add, Cond.selects RX1 yX1_add yX1_add, Cond.initialized RX1, Cond.code yX1_add cX1_add 3 none, Cond.fieldLink RX1 28 "ChartTable$MarkRows" "sizes" "[I", Cond.fieldLink RX1 21 "ChartTable$MarkRows" "most" "I", Cond.fieldLink RX1 24 "ChartTable$MarkRows" "letters" "[C", Cond.methodLink RX1 32 yX1_isRow]
def wsX2_addMarks_r2 : List Cond := [Cond.instanceMethod yX1_isRow, Cond.selects RX1 yX1_isRow yX1_isRow, Cond.code yX1_isRow cX1_isRow 2 (some .boolean), Cond.fieldLink RX1 15 "ChartTable$MarkRows" "rows" "I"]
def wsX2_addMarks : List Cond := .code yX2_addMarks cX2_addMarks 6 none :: ((wsX2_addMarks_r1 ++ wsX2_addMarks_r2) ++ wsX20 ++ wsX00 ++ wsX10)
def wsX2_readMarks_r1 : List Cond := [Cond.fieldLink RX2 15 "ChartTable$Reader" "states" "LChartTable$States;", Cond.fieldLink RX2 9 "ChartTable$Reader" "text" "LChartTable$Line;", Cond.methodLink RX2 69 yX0_nameAt, Cond.instanceMethod yX0_nameAt, Cond.selects RX0 yX0_nameAt yX0_nameAt, Cond.initialized RX0, Cond.code yX0_nameAt cX0_nameAt 5 (some .int), Cond.methodLink RX0 46 yX0_isLetters, Cond.instanceMethod yX0_isLetters, Cond.selects RX0 yX0_isLetters yX0_isLetters, Cond.code yX0_isLetters cX0_isLetters 6 (some .boolean), Cond.methodLink RX0 29 yX0_sizeOf, Cond.instanceMethod yX0_sizeOf, Cond.selects RX0 yX0_sizeOf yX0_sizeOf, Cond.code yX0_sizeOf cX0_sizeOf 2 (some .int), Cond.fieldLink RX0 26 "ChartTable$Line" "words" "I", Cond.fieldLink RX0 19 "ChartTable$Line" "ends" "[I", Cond.fieldLink RX0 15 "ChartTable$Line" "starts" "[I", Cond.methodLink RX0 38 yX0_letterAt, Cond.instanceMethod yX0_letterAt, Cond.selects RX0 yX0_letterAt yX0_letterAt, Cond.code yX0_letterAt cX0_letterAt 3 (some .char), Cond.fieldLink RX0 9 "ChartTable$Line" "characters" "[C", Cond.methodLink RX2 73 yX4_find]
def wsX2_readMarks_r2 : List Cond := [Cond.instanceMethod yX4_find, Cond.selects RX4 yX4_find yX4_find, Cond.initialized RX4, Cond.code yX4_find cX4_find 3 (some .int), Cond.fieldLink RX4 43 "ChartTable$States" "made" "I", Cond.fieldLink RX4 9 "ChartTable$States" "names" "[I", Cond.methodLink RX2 28 yX0_words, Cond.instanceMethod yX0_words, Cond.selects RX0 yX0_words yX0_words, Cond.code yX0_words cX0_words 1 (some .int), Cond.methodLink RX2 87 yX0_isLetters, Cond.methodLink RX2 91 yX0_sizeOf, Cond.methodLink RX2 94 yX1_hasRoom, Cond.instanceMethod yX1_hasRoom, Cond.selects RX1 yX1_hasRoom yX1_hasRoom, Cond.initialized RX1, Cond.code yX1_hasRoom cX1_hasRoom 3 (some .boolean), Cond.fieldLink RX1 21 "ChartTable$MarkRows" "most" "I", Cond.fieldLink RX1 28 "ChartTable$MarkRows" "sizes" "[I", Cond.methodLink RX1 32 yX1_isRow, Cond.instanceMethod yX1_isRow, Cond.selects RX1 yX1_isRow yX1_isRow, Cond.code yX1_isRow cX1_isRow 2 (some .boolean), Cond.fieldLink RX1 15 "ChartTable$MarkRows" "rows" "I"]
def wsX2_readMarks_r3 : List Cond := [Cond.methodLink RX2 99 yX2_addMarks, Cond.instanceMethod yX2_addMarks, Cond.selects RX2 yX2_addMarks yX2_addMarks, Cond.initialized RX2, Cond.code yX2_addMarks cX2_addMarks 6 none, Cond.methodLink RX2 134 yX0_letterAt, Cond.methodLink RX2 138 yX1_add, Cond.instanceMethod yX1_add, Cond.selects RX1 yX1_add yX1_add, Cond.code yX1_add cX1_add 3 none, Cond.fieldLink RX1 24 "ChartTable$MarkRows" "letters" "[C"]
def wsX2_readMarks : List Cond := .code yX2_readMarks cX2_readMarks 3 (some .int) :: ((wsX2_readMarks_r1 ++ (wsX2_readMarks_r2 ++ wsX2_readMarks_r3)) ++ wsX20 ++ wsX00 ++ wsX40 ++ wsX10)
def wsX4_leaving : List Cond := .code yX4_leaving cX4_leaving 1 (some (.object "ChartTable$MarkRows")) :: ([.fieldLink RX4 40 "ChartTable$States" "leaving" "LChartTable$MarkRows;"] ++ wsX40)
def wsX2_isEndOfRule_r1 : List Cond := [Cond.fieldLink RX2 9 "ChartTable$Reader" "text" "LChartTable$Line;", Cond.methodLink RX2 34 yX0_says, Cond.instanceMethod yX0_says, Cond.selects RX0 yX0_says yX0_says, Cond.initialized RX0, Cond.code yX0_says cX0_says 4 (some .boolean), Cond.methodLink RX0 29 yX0_sizeOf, Cond.instanceMethod yX0_sizeOf, Cond.selects RX0 yX0_sizeOf yX0_sizeOf, Cond.code yX0_sizeOf cX0_sizeOf 2 (some .int), Cond.fieldLink RX0 26 "ChartTable$Line" "words" "I", Cond.fieldLink RX0 19 "ChartTable$Line" "ends" "[I", Cond.fieldLink RX0 15 "ChartTable$Line" "starts" "[I", Cond.methodLink RX0 33 yJ0_length_8abf5, Cond.instanceMethod yJ0_length_8abf5, Cond.selects RJ0 yJ0_length_8abf5 yJ0_length_8abf5, Cond.initialized RJ0, Cond.code yJ0_length_8abf5 cJ0_length_8abf5 1 (some .int), Cond.fieldLink RJ0 9 "java/lang/String" "value" "[B", Cond.methodLink RJ0 335 yJ0_coder_7d493, Cond.instanceMethod yJ0_coder_7d493, Cond.selects RJ0 yJ0_coder_7d493 yJ0_coder_7d493, Cond.code yJ0_coder_7d493 cJ0_coder_7d493 1 (some .byte), Cond.fieldLink RJ0 38 "java/lang/String" "COMPACT_STRINGS" "Z"]
def wsX2_isEndOfRule_r2 : List Cond := [Cond.fieldLink RJ0 15 "java/lang/String" "coder" "B", Cond.methodLink RX0 38 yX0_letterAt, Cond.instanceMethod yX0_letterAt, Cond.selects RX0 yX0_letterAt yX0_letterAt, Cond.code yX0_letterAt cX0_letterAt 3 (some .char), Cond.fieldLink RX0 9 "ChartTable$Line" "characters" "[C", Cond.methodLink RX0 42 yJ0_charAt_5068e, Cond.instanceMethod yJ0_charAt_5068e, Cond.selects RJ0 yJ0_charAt_5068e yJ0_charAt_5068e, Cond.code yJ0_charAt_5068e cJ0_charAt_5068e 2 (some .char), Cond.methodLink RJ0 492 yJ0_isLatin1_aae02, Cond.instanceMethod yJ0_isLatin1_aae02, Cond.selects RJ0 yJ0_isLatin1_aae02 yJ0_isLatin1_aae02, Cond.code yJ0_isLatin1_aae02 cJ0_isLatin1_aae02 1 (some .boolean), Cond.methodLink RJ0 495 yJ1_charAt_3b067, Cond.static yJ1_charAt_3b067, Cond.initialized RJ1, Cond.code yJ1_charAt_3b067 cJ1_charAt_3b067 2 (some .char), Cond.methodLink RJ1 9 yJ0_checkIndex_df160, Cond.static yJ0_checkIndex_df160, Cond.code yJ0_checkIndex_df160 cJ0_checkIndex_df160 2 none, Cond.fieldLink RJ0 1053 "jdk/internal/util/Preconditions" "SIOOBE_FORMATTER" "Ljava/util/function/BiFunction;", Cond.methodLink RJ0 1059 yJ3_checkIndex_8e157, Cond.static yJ3_checkIndex_8e157]
def wsX2_isEndOfRule_r3 : List Cond := [Cond.initialized RJ3, Cond.code yJ3_checkIndex_8e157 cJ3_checkIndex_8e157 3 (some .int), Cond.methodLink RJ0 498 yJ2_charAt_3b067, Cond.static yJ2_charAt_3b067, Cond.initialized RJ2, Cond.code yJ2_charAt_3b067 cJ2_charAt_3b067 2 (some .char), Cond.methodLink RJ2 67 yJ2_checkIndex_2214a, Cond.static yJ2_checkIndex_2214a, Cond.code yJ2_checkIndex_2214a cJ2_checkIndex_2214a 2 none, Cond.methodLink RJ2 48 yJ2_length_9d52b, Cond.static yJ2_length_9d52b, Cond.code yJ2_length_9d52b cJ2_length_9d52b 1 (some .int), Cond.methodLink RJ2 414 yJ0_checkIndex_df160, Cond.methodLink RJ2 71 yJ2_getChar_3b067, Cond.static yJ2_getChar_3b067, Cond.code yJ2_getChar_3b067 cJ2_getChar_3b067 2 (some .char), Cond.fieldLink RJ2 44 "java/lang/StringUTF16" "$assertionsDisabled" "Z", Cond.fieldLink RJ2 59 "java/lang/StringUTF16" "HI_BYTE_SHIFT" "I", Cond.fieldLink RJ2 63 "java/lang/StringUTF16" "LO_BYTE_SHIFT" "I", Cond.methodLink RX2 28 yX0_words, Cond.instanceMethod yX0_words, Cond.selects RX0 yX0_words yX0_words, Cond.code yX0_words cX0_words 1 (some .int), Cond.methodLink RX2 87 yX0_isLetters]
def wsX2_isEndOfRule_r4 : List Cond := [Cond.instanceMethod yX0_isLetters, Cond.selects RX0 yX0_isLetters yX0_isLetters, Cond.code yX0_isLetters cX0_isLetters 6 (some .boolean)]
def wsX2_isEndOfRule : List Cond := .code yX2_isEndOfRule cX2_isEndOfRule 2 (some .boolean) :: ((wsX2_isEndOfRule_r1 ++ (wsX2_isEndOfRule_r2 ++ (wsX2_isEndOfRule_r3 ++ wsX2_isEndOfRule_r4))) ++ wsX20 ++ wsX00)
def wsX3_findEvent : List Cond := .code yX3_findEvent cX3_findEvent 3 (some .int) :: ([.fieldLink RX3 47 "ChartTable$Rules" "events" "I", .fieldLink RX3 9 "ChartTable$Rules" "eventNames" "[I"] ++ wsX30)
def wsX3_hasRoom : List Cond := .code yX3_hasRoom cX3_hasRoom 2 (some .boolean) :: ([.fieldLink RX3 43 "ChartTable$Rules" "made" "I", .fieldLink RX3 47 "ChartTable$Rules" "events" "I", .methodLink RX3 50 yX3_findEvent, .instanceMethod yX3_findEvent, .selects RX3 yX3_findEvent yX3_findEvent, .initialized RX3, .code yX3_findEvent cX3_findEvent 3 (some .int), .fieldLink RX3 9 "ChartTable$Rules" "eventNames" "[I"] ++ wsX30)
def wsX4_parentOf : List Cond := .code yX4_parentOf cX4_parentOf 2 (some .int) :: ([.fieldLink RX4 15 "ChartTable$States" "parents" "[I", .methodLink RX4 51 yX4_isState, .instanceMethod yX4_isState, .selects RX4 yX4_isState yX4_isState, .initialized RX4, .code yX4_isState cX4_isState 2 (some .boolean), .fieldLink RX4 43 "ChartTable$States" "made" "I"] ++ wsX40)
def wsX4_isWhole : List Cond := .code yX4_isWhole cX4_isWhole 2 (some .boolean) :: ([.fieldLink RX4 24 "ChartTable$States" "wholes" "[Z", .methodLink RX4 51 yX4_isState, .instanceMethod yX4_isState, .selects RX4 yX4_isState yX4_isState, .initialized RX4, .code yX4_isState cX4_isState 2 (some .boolean), .fieldLink RX4 43 "ChartTable$States" "made" "I"] ++ wsX40)
def wsX4_childToward : List Cond := .code yX4_childToward cX4_childToward 5 (some .int) :: ([.fieldLink RX4 15 "ChartTable$States" "parents" "[I", .methodLink RX4 51 yX4_isState, .instanceMethod yX4_isState, .selects RX4 yX4_isState yX4_isState, .initialized RX4, .code yX4_isState cX4_isState 2 (some .boolean), .fieldLink RX4 43 "ChartTable$States" "made" "I"] ++ wsX40)
def wsX4_scopeOf : List Cond := .code yX4_scopeOf cX4_scopeOf 5 (some .int) :: ([.methodLink RX4 55 yX4_parentOf, .instanceMethod yX4_parentOf, .selects RX4 yX4_parentOf yX4_parentOf, .initialized RX4, .code yX4_parentOf cX4_parentOf 2 (some .int), .fieldLink RX4 15 "ChartTable$States" "parents" "[I", .methodLink RX4 51 yX4_isState, .instanceMethod yX4_isState, .selects RX4 yX4_isState yX4_isState, .code yX4_isState cX4_isState 2 (some .boolean), .fieldLink RX4 43 "ChartTable$States" "made" "I", .methodLink RX4 59 yX4_isWhole, .instanceMethod yX4_isWhole, .selects RX4 yX4_isWhole yX4_isWhole, .code yX4_isWhole cX4_isWhole 2 (some .boolean), .fieldLink RX4 24 "ChartTable$States" "wholes" "[Z", .methodLink RX4 62 yX4_childToward, .instanceMethod yX4_childToward, .selects RX4 yX4_childToward yX4_childToward, .code yX4_childToward cX4_childToward 5 (some .int)] ++ wsX40)
def wsX3_make : List Cond := .code yX3_make cX3_make 8 none :: ([.fieldLink RX3 47 "ChartTable$Rules" "events" "I", .fieldLink RX3 9 "ChartTable$Rules" "eventNames" "[I", .fieldLink RX3 15 "ChartTable$Rules" "ruleEvents" "[I", .fieldLink RX3 43 "ChartTable$Rules" "made" "I", .fieldLink RX3 18 "ChartTable$Rules" "froms" "[I", .fieldLink RX3 21 "ChartTable$Rules" "targets" "[I", .fieldLink RX3 24 "ChartTable$Rules" "scopes" "[I", .fieldLink RX3 27 "ChartTable$Rules" "askedStates" "[I", .fieldLink RX3 30 "ChartTable$Rules" "wanted" "[Z", .methodLink RX3 54 yX3_hasRoom, .instanceMethod yX3_hasRoom, .selects RX3 yX3_hasRoom yX3_hasRoom, .initialized RX3, .code yX3_hasRoom cX3_hasRoom 2 (some .boolean), .methodLink RX3 50 yX3_findEvent, .instanceMethod yX3_findEvent, .selects RX3 yX3_findEvent yX3_findEvent, .code yX3_findEvent cX3_findEvent 3 (some .int)] ++ wsX30)
def wsX3_marks : List Cond := .code yX3_marks cX3_marks 1 (some (.object "ChartTable$MarkRows")) :: ([.fieldLink RX3 39 "ChartTable$Rules" "marks" "LChartTable$MarkRows;"] ++ wsX30)
def wsX3_made : List Cond := .code yX3_made cX3_made 1 (some .int) :: ([.fieldLink RX3 43 "ChartTable$Rules" "made" "I"] ++ wsX30)
def wsX2_readRule_r1 : List Cond := [Cond.fieldLink RX2 15 "ChartTable$Reader" "states" "LChartTable$States;", Cond.fieldLink RX2 9 "ChartTable$Reader" "text" "LChartTable$Line;", Cond.fieldLink RX2 19 "ChartTable$Reader" "rules" "LChartTable$Rules;", Cond.methodLink RX2 69 yX0_nameAt, Cond.instanceMethod yX0_nameAt, Cond.selects RX0 yX0_nameAt yX0_nameAt, Cond.initialized RX0, Cond.code yX0_nameAt cX0_nameAt 5 (some .int), Cond.methodLink RX0 46 yX0_isLetters, Cond.instanceMethod yX0_isLetters, Cond.selects RX0 yX0_isLetters yX0_isLetters, Cond.code yX0_isLetters cX0_isLetters 6 (some .boolean), Cond.methodLink RX0 29 yX0_sizeOf, Cond.instanceMethod yX0_sizeOf, Cond.selects RX0 yX0_sizeOf yX0_sizeOf, Cond.code yX0_sizeOf cX0_sizeOf 2 (some .int), Cond.fieldLink RX0 26 "ChartTable$Line" "words" "I", Cond.fieldLink RX0 19 "ChartTable$Line" "ends" "[I", Cond.fieldLink RX0 15 "ChartTable$Line" "starts" "[I", Cond.methodLink RX0 38 yX0_letterAt, Cond.instanceMethod yX0_letterAt, Cond.selects RX0 yX0_letterAt yX0_letterAt, Cond.code yX0_letterAt cX0_letterAt 3 (some .char), Cond.fieldLink RX0 9 "ChartTable$Line" "characters" "[C"]
def wsX2_readRule_r2 : List Cond := [Cond.methodLink RX2 73 yX4_find, Cond.instanceMethod yX4_find, Cond.selects RX4 yX4_find yX4_find, Cond.initialized RX4, Cond.code yX4_find cX4_find 3 (some .int), Cond.fieldLink RX4 43 "ChartTable$States" "made" "I", Cond.fieldLink RX4 9 "ChartTable$States" "names" "[I", Cond.methodLink RX2 34 yX0_says, Cond.instanceMethod yX0_says, Cond.selects RX0 yX0_says yX0_says, Cond.code yX0_says cX0_says 4 (some .boolean), Cond.methodLink RX0 33 yJ0_length_8abf5, Cond.instanceMethod yJ0_length_8abf5, Cond.selects RJ0 yJ0_length_8abf5 yJ0_length_8abf5, Cond.initialized RJ0, Cond.code yJ0_length_8abf5 cJ0_length_8abf5 1 (some .int), Cond.fieldLink RJ0 9 "java/lang/String" "value" "[B", Cond.methodLink RJ0 335 yJ0_coder_7d493, Cond.instanceMethod yJ0_coder_7d493, Cond.selects RJ0 yJ0_coder_7d493 yJ0_coder_7d493, Cond.code yJ0_coder_7d493 cJ0_coder_7d493 1 (some .byte), Cond.fieldLink RJ0 38 "java/lang/String" "COMPACT_STRINGS" "Z", Cond.fieldLink RJ0 15 "java/lang/String" "coder" "B", Cond.methodLink RX0 42 yJ0_charAt_5068e]
def wsX2_readRule_r3 : List Cond := [Cond.instanceMethod yJ0_charAt_5068e, Cond.selects RJ0 yJ0_charAt_5068e yJ0_charAt_5068e, Cond.code yJ0_charAt_5068e cJ0_charAt_5068e 2 (some .char), Cond.methodLink RJ0 492 yJ0_isLatin1_aae02, Cond.instanceMethod yJ0_isLatin1_aae02, Cond.selects RJ0 yJ0_isLatin1_aae02 yJ0_isLatin1_aae02, Cond.code yJ0_isLatin1_aae02 cJ0_isLatin1_aae02 1 (some .boolean), Cond.methodLink RJ0 495 yJ1_charAt_3b067, Cond.static yJ1_charAt_3b067, Cond.initialized RJ1, Cond.code yJ1_charAt_3b067 cJ1_charAt_3b067 2 (some .char), Cond.methodLink RJ1 9 yJ0_checkIndex_df160, Cond.static yJ0_checkIndex_df160, Cond.code yJ0_checkIndex_df160 cJ0_checkIndex_df160 2 none, Cond.fieldLink RJ0 1053 "jdk/internal/util/Preconditions" "SIOOBE_FORMATTER" "Ljava/util/function/BiFunction;", Cond.methodLink RJ0 1059 yJ3_checkIndex_8e157, Cond.static yJ3_checkIndex_8e157, Cond.initialized RJ3, Cond.code yJ3_checkIndex_8e157 cJ3_checkIndex_8e157 3 (some .int), Cond.methodLink RJ0 498 yJ2_charAt_3b067, Cond.static yJ2_charAt_3b067, Cond.initialized RJ2, Cond.code yJ2_charAt_3b067 cJ2_charAt_3b067 2 (some .char), Cond.methodLink RJ2 67 yJ2_checkIndex_2214a]
def wsX2_readRule_r4 : List Cond := [Cond.static yJ2_checkIndex_2214a, Cond.code yJ2_checkIndex_2214a cJ2_checkIndex_2214a 2 none, Cond.methodLink RJ2 48 yJ2_length_9d52b, Cond.static yJ2_length_9d52b, Cond.code yJ2_length_9d52b cJ2_length_9d52b 1 (some .int), Cond.methodLink RJ2 414 yJ0_checkIndex_df160, Cond.methodLink RJ2 71 yJ2_getChar_3b067, Cond.static yJ2_getChar_3b067, Cond.code yJ2_getChar_3b067 cJ2_getChar_3b067 2 (some .char), Cond.fieldLink RJ2 44 "java/lang/StringUTF16" "$assertionsDisabled" "Z", Cond.fieldLink RJ2 59 "java/lang/StringUTF16" "HI_BYTE_SHIFT" "I", Cond.fieldLink RJ2 63 "java/lang/StringUTF16" "LO_BYTE_SHIFT" "I", Cond.methodLink RX2 111 yX2_isEndOfRule, Cond.instanceMethod yX2_isEndOfRule, Cond.selects RX2 yX2_isEndOfRule yX2_isEndOfRule, Cond.initialized RX2, Cond.code yX2_isEndOfRule cX2_isEndOfRule 2 (some .boolean), Cond.methodLink RX2 28 yX0_words, Cond.instanceMethod yX0_words, Cond.selects RX0 yX0_words yX0_words, Cond.code yX0_words cX0_words 1 (some .int), Cond.methodLink RX2 87 yX0_isLetters, Cond.methodLink RX2 115 yX3_hasRoom, Cond.instanceMethod yX3_hasRoom]
def wsX2_readRule_r5 : List Cond := [Cond.selects RX3 yX3_hasRoom yX3_hasRoom, Cond.initialized RX3, Cond.code yX3_hasRoom cX3_hasRoom 2 (some .boolean), Cond.fieldLink RX3 43 "ChartTable$Rules" "made" "I", Cond.fieldLink RX3 47 "ChartTable$Rules" "events" "I", Cond.methodLink RX3 50 yX3_findEvent, Cond.instanceMethod yX3_findEvent, Cond.selects RX3 yX3_findEvent yX3_findEvent, Cond.code yX3_findEvent cX3_findEvent 3 (some .int), Cond.fieldLink RX3 9 "ChartTable$Rules" "eventNames" "[I", Cond.methodLink RX2 119 yX4_scopeOf, Cond.instanceMethod yX4_scopeOf, Cond.selects RX4 yX4_scopeOf yX4_scopeOf, Cond.code yX4_scopeOf cX4_scopeOf 5 (some .int), Cond.methodLink RX4 55 yX4_parentOf, Cond.instanceMethod yX4_parentOf, Cond.selects RX4 yX4_parentOf yX4_parentOf, Cond.code yX4_parentOf cX4_parentOf 2 (some .int), Cond.fieldLink RX4 15 "ChartTable$States" "parents" "[I", Cond.methodLink RX4 51 yX4_isState, Cond.instanceMethod yX4_isState, Cond.selects RX4 yX4_isState yX4_isState, Cond.code yX4_isState cX4_isState 2 (some .boolean), Cond.methodLink RX4 59 yX4_isWhole]
def wsX2_readRule_r6 : List Cond := [Cond.instanceMethod yX4_isWhole, Cond.selects RX4 yX4_isWhole yX4_isWhole, Cond.code yX4_isWhole cX4_isWhole 2 (some .boolean), Cond.fieldLink RX4 24 "ChartTable$States" "wholes" "[Z", Cond.methodLink RX4 62 yX4_childToward, Cond.instanceMethod yX4_childToward, Cond.selects RX4 yX4_childToward yX4_childToward, Cond.code yX4_childToward cX4_childToward 5 (some .int), Cond.methodLink RX2 123 yX3_make, Cond.instanceMethod yX3_make, Cond.selects RX3 yX3_make yX3_make, Cond.code yX3_make cX3_make 8 none, Cond.fieldLink RX3 15 "ChartTable$Rules" "ruleEvents" "[I", Cond.fieldLink RX3 18 "ChartTable$Rules" "froms" "[I", Cond.fieldLink RX3 21 "ChartTable$Rules" "targets" "[I", Cond.fieldLink RX3 24 "ChartTable$Rules" "scopes" "[I", Cond.fieldLink RX3 27 "ChartTable$Rules" "askedStates" "[I", Cond.fieldLink RX3 30 "ChartTable$Rules" "wanted" "[Z", Cond.methodLink RX3 54 yX3_hasRoom, Cond.methodLink RX2 126 yX3_marks, Cond.instanceMethod yX3_marks, Cond.selects RX3 yX3_marks yX3_marks, Cond.code yX3_marks cX3_marks 1 (some (.object "ChartTable$MarkRows")), Cond.fieldLink RX3 39 "ChartTable$Rules" "marks" "LChartTable$MarkRows;"]
def wsX2_readRule_r7 : List Cond := [Cond.methodLink RX2 129 yX3_made, Cond.instanceMethod yX3_made, Cond.selects RX3 yX3_made yX3_made, Cond.code yX3_made cX3_made 1 (some .int), Cond.methodLink RX2 99 yX2_addMarks, Cond.instanceMethod yX2_addMarks, Cond.selects RX2 yX2_addMarks yX2_addMarks, Cond.code yX2_addMarks cX2_addMarks 6 none, Cond.methodLink RX2 91 yX0_sizeOf, Cond.methodLink RX2 134 yX0_letterAt, Cond.methodLink RX2 138 yX1_add, Cond.instanceMethod yX1_add, Cond.selects RX1 yX1_add yX1_add, Cond.initialized RX1, Cond.code yX1_add cX1_add 3 none, Cond.fieldLink RX1 28 "ChartTable$MarkRows" "sizes" "[I", Cond.fieldLink RX1 21 "ChartTable$MarkRows" "most" "I", Cond.fieldLink RX1 24 "ChartTable$MarkRows" "letters" "[C", Cond.methodLink RX1 32 yX1_isRow, Cond.instanceMethod yX1_isRow, Cond.selects RX1 yX1_isRow yX1_isRow, Cond.code yX1_isRow cX1_isRow 2 (some .boolean), Cond.fieldLink RX1 15 "ChartTable$MarkRows" "rows" "I"]
def wsX2_readRule : List Cond := .code yX2_readRule cX2_readRule 8 (some .int) :: ((wsX2_readRule_r1 ++ (wsX2_readRule_r2 ++ (wsX2_readRule_r3 ++ (wsX2_readRule_r4 ++ (wsX2_readRule_r5 ++ (wsX2_readRule_r6 ++ wsX2_readRule_r7)))))) ++ wsX20 ++ wsX00 ++ wsX40 ++ wsX30 ++ wsX10)
def wsX2_read_r1 : List Cond := [Cond.fieldLink RX2 9 "ChartTable$Reader" "text" "LChartTable$Line;", Cond.fieldLink RX2 15 "ChartTable$Reader" "states" "LChartTable$States;", Cond.methodLink RX2 23 yX0_split, Cond.instanceMethod yX0_split, Cond.selects RX0 yX0_split yX0_split, Cond.initialized RX0, Cond.code yX0_split cX0_split 4 none, Cond.fieldLink RX0 26 "ChartTable$Line" "words" "I", Cond.fieldLink RX0 22 "ChartTable$Line" "length" "I", Cond.fieldLink RX0 9 "ChartTable$Line" "characters" "[C", Cond.fieldLink RX0 15 "ChartTable$Line" "starts" "[I", Cond.fieldLink RX0 19 "ChartTable$Line" "ends" "[I", Cond.methodLink RX2 28 yX0_words, Cond.instanceMethod yX0_words, Cond.selects RX0 yX0_words yX0_words, Cond.code yX0_words cX0_words 1 (some .int), Cond.methodLink RX2 34 yX0_says, Cond.instanceMethod yX0_says, Cond.selects RX0 yX0_says yX0_says, Cond.code yX0_says cX0_says 4 (some .boolean), Cond.methodLink RX0 29 yX0_sizeOf, Cond.instanceMethod yX0_sizeOf, Cond.selects RX0 yX0_sizeOf yX0_sizeOf, Cond.code yX0_sizeOf cX0_sizeOf 2 (some .int)]
def wsX2_read_r2 : List Cond := [Cond.methodLink RX0 33 yJ0_length_8abf5, Cond.instanceMethod yJ0_length_8abf5, Cond.selects RJ0 yJ0_length_8abf5 yJ0_length_8abf5, Cond.initialized RJ0, Cond.code yJ0_length_8abf5 cJ0_length_8abf5 1 (some .int), Cond.fieldLink RJ0 9 "java/lang/String" "value" "[B", Cond.methodLink RJ0 335 yJ0_coder_7d493, Cond.instanceMethod yJ0_coder_7d493, Cond.selects RJ0 yJ0_coder_7d493 yJ0_coder_7d493, Cond.code yJ0_coder_7d493 cJ0_coder_7d493 1 (some .byte), Cond.fieldLink RJ0 38 "java/lang/String" "COMPACT_STRINGS" "Z", Cond.fieldLink RJ0 15 "java/lang/String" "coder" "B", Cond.methodLink RX0 38 yX0_letterAt, Cond.instanceMethod yX0_letterAt, Cond.selects RX0 yX0_letterAt yX0_letterAt, Cond.code yX0_letterAt cX0_letterAt 3 (some .char), Cond.methodLink RX0 42 yJ0_charAt_5068e, Cond.instanceMethod yJ0_charAt_5068e, Cond.selects RJ0 yJ0_charAt_5068e yJ0_charAt_5068e, Cond.code yJ0_charAt_5068e cJ0_charAt_5068e 2 (some .char), Cond.methodLink RJ0 492 yJ0_isLatin1_aae02, Cond.instanceMethod yJ0_isLatin1_aae02, Cond.selects RJ0 yJ0_isLatin1_aae02 yJ0_isLatin1_aae02, Cond.code yJ0_isLatin1_aae02 cJ0_isLatin1_aae02 1 (some .boolean)]
def wsX2_read_r3 : List Cond := [Cond.methodLink RJ0 495 yJ1_charAt_3b067, Cond.static yJ1_charAt_3b067, Cond.initialized RJ1, Cond.code yJ1_charAt_3b067 cJ1_charAt_3b067 2 (some .char), Cond.methodLink RJ1 9 yJ0_checkIndex_df160, Cond.static yJ0_checkIndex_df160, Cond.code yJ0_checkIndex_df160 cJ0_checkIndex_df160 2 none, Cond.fieldLink RJ0 1053 "jdk/internal/util/Preconditions" "SIOOBE_FORMATTER" "Ljava/util/function/BiFunction;", Cond.methodLink RJ0 1059 yJ3_checkIndex_8e157, Cond.static yJ3_checkIndex_8e157, Cond.initialized RJ3, Cond.code yJ3_checkIndex_8e157 cJ3_checkIndex_8e157 3 (some .int), Cond.methodLink RJ0 498 yJ2_charAt_3b067, Cond.static yJ2_charAt_3b067, Cond.initialized RJ2, Cond.code yJ2_charAt_3b067 cJ2_charAt_3b067 2 (some .char), Cond.methodLink RJ2 67 yJ2_checkIndex_2214a, Cond.static yJ2_checkIndex_2214a, Cond.code yJ2_checkIndex_2214a cJ2_checkIndex_2214a 2 none, Cond.methodLink RJ2 48 yJ2_length_9d52b, Cond.static yJ2_length_9d52b, Cond.code yJ2_length_9d52b cJ2_length_9d52b 1 (some .int), Cond.methodLink RJ2 414 yJ0_checkIndex_df160, Cond.methodLink RJ2 71 yJ2_getChar_3b067]
def wsX2_read_r4 : List Cond := [Cond.static yJ2_getChar_3b067, Cond.code yJ2_getChar_3b067 cJ2_getChar_3b067 2 (some .char), Cond.fieldLink RJ2 44 "java/lang/StringUTF16" "$assertionsDisabled" "Z", Cond.fieldLink RJ2 59 "java/lang/StringUTF16" "HI_BYTE_SHIFT" "I", Cond.fieldLink RJ2 63 "java/lang/StringUTF16" "LO_BYTE_SHIFT" "I", Cond.methodLink RX2 38 yX2_readState, Cond.instanceMethod yX2_readState, Cond.selects RX2 yX2_readState yX2_readState, Cond.initialized RX2, Cond.code yX2_readState cX2_readState 5 (some .int), Cond.methodLink RX2 69 yX0_nameAt, Cond.instanceMethod yX0_nameAt, Cond.selects RX0 yX0_nameAt yX0_nameAt, Cond.code yX0_nameAt cX0_nameAt 5 (some .int), Cond.methodLink RX0 46 yX0_isLetters, Cond.instanceMethod yX0_isLetters, Cond.selects RX0 yX0_isLetters yX0_isLetters, Cond.code yX0_isLetters cX0_isLetters 6 (some .boolean), Cond.methodLink RX2 73 yX4_find, Cond.instanceMethod yX4_find, Cond.selects RX4 yX4_find yX4_find, Cond.initialized RX4, Cond.code yX4_find cX4_find 3 (some .int), Cond.fieldLink RX4 43 "ChartTable$States" "made" "I"]
def wsX2_read_r5 : List Cond := [Cond.fieldLink RX4 9 "ChartTable$States" "names" "[I", Cond.methodLink RX2 76 yX4_depthOf, Cond.instanceMethod yX4_depthOf, Cond.selects RX4 yX4_depthOf yX4_depthOf, Cond.code yX4_depthOf cX4_depthOf 2 (some .int), Cond.fieldLink RX4 18 "ChartTable$States" "depths" "[I", Cond.methodLink RX4 51 yX4_isState, Cond.instanceMethod yX4_isState, Cond.selects RX4 yX4_isState yX4_isState, Cond.code yX4_isState cX4_isState 2 (some .boolean), Cond.methodLink RX2 79 yX4_isFull, Cond.instanceMethod yX4_isFull, Cond.selects RX4 yX4_isFull yX4_isFull, Cond.code yX4_isFull cX4_isFull 1 (some .boolean), Cond.methodLink RX2 83 yX4_make, Cond.instanceMethod yX4_make, Cond.selects RX4 yX4_make yX4_make, Cond.code yX4_make cX4_make 5 none, Cond.fieldLink RX4 15 "ChartTable$States" "parents" "[I", Cond.fieldLink RX4 21 "ChartTable$States" "firstChildren" "[I", Cond.fieldLink RX4 24 "ChartTable$States" "wholes" "[Z", Cond.fieldLink RX4 28 "ChartTable$States" "remembering" "[Z", Cond.methodLink RX4 47 yX4_isFull, Cond.methodLink RX2 43 yX4_entering]
def wsX2_read_r6 : List Cond := [Cond.instanceMethod yX4_entering, Cond.selects RX4 yX4_entering yX4_entering, Cond.code yX4_entering cX4_entering 1 (some (.object "ChartTable$MarkRows")), Cond.fieldLink RX4 36 "ChartTable$States" "entering" "LChartTable$MarkRows;", Cond.methodLink RX2 49 yX2_readMarks, Cond.instanceMethod yX2_readMarks, Cond.selects RX2 yX2_readMarks yX2_readMarks, Cond.code yX2_readMarks cX2_readMarks 3 (some .int), Cond.methodLink RX2 87 yX0_isLetters, Cond.methodLink RX2 91 yX0_sizeOf, Cond.methodLink RX2 94 yX1_hasRoom, Cond.instanceMethod yX1_hasRoom, Cond.selects RX1 yX1_hasRoom yX1_hasRoom, Cond.initialized RX1, Cond.code yX1_hasRoom cX1_hasRoom 3 (some .boolean), Cond.fieldLink RX1 21 "ChartTable$MarkRows" "most" "I", Cond.fieldLink RX1 28 "ChartTable$MarkRows" "sizes" "[I", Cond.methodLink RX1 32 yX1_isRow, Cond.instanceMethod yX1_isRow, Cond.selects RX1 yX1_isRow yX1_isRow, Cond.code yX1_isRow cX1_isRow 2 (some .boolean), Cond.fieldLink RX1 15 "ChartTable$MarkRows" "rows" "I", Cond.methodLink RX2 99 yX2_addMarks, Cond.instanceMethod yX2_addMarks]
def wsX2_read_r7 : List Cond := [Cond.selects RX2 yX2_addMarks yX2_addMarks, Cond.code yX2_addMarks cX2_addMarks 6 none, Cond.methodLink RX2 134 yX0_letterAt, Cond.methodLink RX2 138 yX1_add, Cond.instanceMethod yX1_add, Cond.selects RX1 yX1_add yX1_add, Cond.code yX1_add cX1_add 3 none, Cond.fieldLink RX1 24 "ChartTable$MarkRows" "letters" "[C", Cond.methodLink RX2 55 yX4_leaving, Cond.instanceMethod yX4_leaving, Cond.selects RX4 yX4_leaving yX4_leaving, Cond.code yX4_leaving cX4_leaving 1 (some (.object "ChartTable$MarkRows")), Cond.fieldLink RX4 40 "ChartTable$States" "leaving" "LChartTable$MarkRows;", Cond.methodLink RX2 60 yX2_readRule, Cond.instanceMethod yX2_readRule, Cond.selects RX2 yX2_readRule yX2_readRule, Cond.code yX2_readRule cX2_readRule 8 (some .int), Cond.fieldLink RX2 19 "ChartTable$Reader" "rules" "LChartTable$Rules;", Cond.methodLink RX2 111 yX2_isEndOfRule, Cond.instanceMethod yX2_isEndOfRule, Cond.selects RX2 yX2_isEndOfRule yX2_isEndOfRule, Cond.code yX2_isEndOfRule cX2_isEndOfRule 2 (some .boolean), Cond.methodLink RX2 115 yX3_hasRoom, Cond.instanceMethod yX3_hasRoom]
def wsX2_read_r8 : List Cond := [Cond.selects RX3 yX3_hasRoom yX3_hasRoom, Cond.initialized RX3, Cond.code yX3_hasRoom cX3_hasRoom 2 (some .boolean), Cond.fieldLink RX3 43 "ChartTable$Rules" "made" "I", Cond.fieldLink RX3 47 "ChartTable$Rules" "events" "I", Cond.methodLink RX3 50 yX3_findEvent, Cond.instanceMethod yX3_findEvent, Cond.selects RX3 yX3_findEvent yX3_findEvent, Cond.code yX3_findEvent cX3_findEvent 3 (some .int), Cond.fieldLink RX3 9 "ChartTable$Rules" "eventNames" "[I", Cond.methodLink RX2 119 yX4_scopeOf, Cond.instanceMethod yX4_scopeOf, Cond.selects RX4 yX4_scopeOf yX4_scopeOf, Cond.code yX4_scopeOf cX4_scopeOf 5 (some .int), Cond.methodLink RX4 55 yX4_parentOf, Cond.instanceMethod yX4_parentOf, Cond.selects RX4 yX4_parentOf yX4_parentOf, Cond.code yX4_parentOf cX4_parentOf 2 (some .int), Cond.methodLink RX4 59 yX4_isWhole, Cond.instanceMethod yX4_isWhole, Cond.selects RX4 yX4_isWhole yX4_isWhole, Cond.code yX4_isWhole cX4_isWhole 2 (some .boolean), Cond.methodLink RX4 62 yX4_childToward, Cond.instanceMethod yX4_childToward]
def wsX2_read_r9 : List Cond := [Cond.selects RX4 yX4_childToward yX4_childToward, Cond.code yX4_childToward cX4_childToward 5 (some .int), Cond.methodLink RX2 123 yX3_make, Cond.instanceMethod yX3_make, Cond.selects RX3 yX3_make yX3_make, Cond.code yX3_make cX3_make 8 none, Cond.fieldLink RX3 15 "ChartTable$Rules" "ruleEvents" "[I", Cond.fieldLink RX3 18 "ChartTable$Rules" "froms" "[I", Cond.fieldLink RX3 21 "ChartTable$Rules" "targets" "[I", Cond.fieldLink RX3 24 "ChartTable$Rules" "scopes" "[I", Cond.fieldLink RX3 27 "ChartTable$Rules" "askedStates" "[I", Cond.fieldLink RX3 30 "ChartTable$Rules" "wanted" "[Z", Cond.methodLink RX3 54 yX3_hasRoom, Cond.methodLink RX2 126 yX3_marks, Cond.instanceMethod yX3_marks, Cond.selects RX3 yX3_marks yX3_marks, Cond.code yX3_marks cX3_marks 1 (some (.object "ChartTable$MarkRows")), Cond.fieldLink RX3 39 "ChartTable$Rules" "marks" "LChartTable$MarkRows;", Cond.methodLink RX2 129 yX3_made, Cond.instanceMethod yX3_made, Cond.selects RX3 yX3_made yX3_made, Cond.code yX3_made cX3_made 1 (some .int)]
def wsX2_read : List Cond := .code yX2_read cX2_read 1 (some .int) :: ((wsX2_read_r1 ++ (wsX2_read_r2 ++ (wsX2_read_r3 ++ (wsX2_read_r4 ++ (wsX2_read_r5 ++ (wsX2_read_r6 ++ (wsX2_read_r7 ++ (wsX2_read_r8 ++ wsX2_read_r9)))))))) ++ wsX20 ++ wsX00 ++ wsX40 ++ wsX10 ++ wsX30)
def wsX3_init_r1 : List Cond := [Cond.methodLink RX3 3 objectInit, Cond.instanceMethod objectInit, Cond.code objectInit ⟨#[0xb1]⟩ 1 none, Cond.arrayClass .int, Cond.fieldLink RX3 9 "ChartTable$Rules" "eventNames" "[I", Cond.fieldLink RX3 15 "ChartTable$Rules" "ruleEvents" "[I", Cond.fieldLink RX3 18 "ChartTable$Rules" "froms" "[I", Cond.fieldLink RX3 21 "ChartTable$Rules" "targets" "[I", Cond.fieldLink RX3 24 "ChartTable$Rules" "scopes" "[I", Cond.fieldLink RX3 27 "ChartTable$Rules" "askedStates" "[I", Cond.arrayClass .boolean, Cond.fieldLink RX3 30 "ChartTable$Rules" "wanted" "[Z", Cond.classLink RX3 34 RX1, Cond.instantiable RX1 4, Cond.initialized RX1, Cond.fieldLink RX3 39 "ChartTable$Rules" "marks" "LChartTable$MarkRows;", Cond.methodLink RX3 36 yX1_init, Cond.instanceMethod yX1_init, Cond.code yX1_init cX1_init 3 none, Cond.methodLink RX1 3 objectInit, Cond.methodLink RX1 9 Lib.Math.max.name, Cond.static Lib.Math.max.name, Cond.initialized "java/lang/Math", Cond.code Lib.Math.max.name Lib.Math.max.code 2 (some .int)]
def wsX3_init_r2 : List Cond := [Cond.fieldLink RX1 15 "ChartTable$MarkRows" "rows" "I", Cond.fieldLink RX1 21 "ChartTable$MarkRows" "most" "I", Cond.arrayClass .char, Cond.fieldLink RX1 24 "ChartTable$MarkRows" "letters" "[C", Cond.fieldLink RX1 28 "ChartTable$MarkRows" "sizes" "[I"]
def wsX3_init : List Cond := .code yX3_init cX3_init 1 none :: ((wsX3_init_r1 ++ wsX3_init_r2) ++ wsX30 ++ wsX10)
def wsX3_events : List Cond := .code yX3_events cX3_events 1 (some .int) :: ([.fieldLink RX3 47 "ChartTable$Rules" "events" "I"] ++ wsX30)
def wsX3_isRule : List Cond := .code yX3_isRule cX3_isRule 2 (some .boolean) :: ([.fieldLink RX3 43 "ChartTable$Rules" "made" "I"] ++ wsX30)
def wsX3_isEvent : List Cond := .code yX3_isEvent cX3_isEvent 2 (some .boolean) :: ([.fieldLink RX3 47 "ChartTable$Rules" "events" "I"] ++ wsX30)
def wsX3_isFor : List Cond := .code yX3_isFor cX3_isFor 4 (some .boolean) :: ([.fieldLink RX3 15 "ChartTable$Rules" "ruleEvents" "[I", .fieldLink RX3 18 "ChartTable$Rules" "froms" "[I", .methodLink RX3 58 yX3_isRule, .instanceMethod yX3_isRule, .selects RX3 yX3_isRule yX3_isRule, .initialized RX3, .code yX3_isRule cX3_isRule 2 (some .boolean), .fieldLink RX3 43 "ChartTable$Rules" "made" "I"] ++ wsX30)
def wsX3_targetOf : List Cond := .code yX3_targetOf cX3_targetOf 2 (some .int) :: ([.fieldLink RX3 21 "ChartTable$Rules" "targets" "[I", .methodLink RX3 58 yX3_isRule, .instanceMethod yX3_isRule, .selects RX3 yX3_isRule yX3_isRule, .initialized RX3, .code yX3_isRule cX3_isRule 2 (some .boolean), .fieldLink RX3 43 "ChartTable$Rules" "made" "I"] ++ wsX30)
def wsX3_scopeOf : List Cond := .code yX3_scopeOf cX3_scopeOf 2 (some .int) :: ([.fieldLink RX3 24 "ChartTable$Rules" "scopes" "[I", .methodLink RX3 58 yX3_isRule, .instanceMethod yX3_isRule, .selects RX3 yX3_isRule yX3_isRule, .initialized RX3, .code yX3_isRule cX3_isRule 2 (some .boolean), .fieldLink RX3 43 "ChartTable$Rules" "made" "I"] ++ wsX30)
def wsX3_askedOf : List Cond := .code yX3_askedOf cX3_askedOf 2 (some .int) :: ([.fieldLink RX3 27 "ChartTable$Rules" "askedStates" "[I", .methodLink RX3 58 yX3_isRule, .instanceMethod yX3_isRule, .selects RX3 yX3_isRule yX3_isRule, .initialized RX3, .code yX3_isRule cX3_isRule 2 (some .boolean), .fieldLink RX3 43 "ChartTable$Rules" "made" "I"] ++ wsX30)
def wsX3_isWantedActive : List Cond := .code yX3_isWantedActive cX3_isWantedActive 2 (some .boolean) :: ([.fieldLink RX3 30 "ChartTable$Rules" "wanted" "[Z", .methodLink RX3 58 yX3_isRule, .instanceMethod yX3_isRule, .selects RX3 yX3_isRule yX3_isRule, .initialized RX3, .code yX3_isRule cX3_isRule 2 (some .boolean), .fieldLink RX3 43 "ChartTable$Rules" "made" "I"] ++ wsX30)
def wsX4_init_r1 : List Cond := [Cond.methodLink RX4 3 objectInit, Cond.instanceMethod objectInit, Cond.code objectInit ⟨#[0xb1]⟩ 1 none, Cond.arrayClass .int, Cond.fieldLink RX4 9 "ChartTable$States" "names" "[I", Cond.fieldLink RX4 15 "ChartTable$States" "parents" "[I", Cond.fieldLink RX4 18 "ChartTable$States" "depths" "[I", Cond.fieldLink RX4 21 "ChartTable$States" "firstChildren" "[I", Cond.arrayClass .boolean, Cond.fieldLink RX4 24 "ChartTable$States" "wholes" "[Z", Cond.fieldLink RX4 28 "ChartTable$States" "remembering" "[Z", Cond.classLink RX4 31 RX1, Cond.instantiable RX1 4, Cond.initialized RX1, Cond.fieldLink RX4 36 "ChartTable$States" "entering" "LChartTable$MarkRows;", Cond.fieldLink RX4 40 "ChartTable$States" "leaving" "LChartTable$MarkRows;", Cond.fieldLink RX4 43 "ChartTable$States" "made" "I", Cond.methodLink RX4 33 yX1_init, Cond.instanceMethod yX1_init, Cond.code yX1_init cX1_init 3 none, Cond.methodLink RX1 3 objectInit, Cond.methodLink RX1 9 Lib.Math.max.name, Cond.static Lib.Math.max.name, Cond.initialized "java/lang/Math"]
def wsX4_init_r2 : List Cond := [Cond.code Lib.Math.max.name Lib.Math.max.code 2 (some .int), Cond.fieldLink RX1 15 "ChartTable$MarkRows" "rows" "I", Cond.fieldLink RX1 21 "ChartTable$MarkRows" "most" "I", Cond.arrayClass .char, Cond.fieldLink RX1 24 "ChartTable$MarkRows" "letters" "[C", Cond.fieldLink RX1 28 "ChartTable$MarkRows" "sizes" "[I"]
def wsX4_init : List Cond := .code yX4_init cX4_init 1 none :: ((wsX4_init_r1 ++ wsX4_init_r2) ++ wsX40 ++ wsX10)
def wsX4_made : List Cond := .code yX4_made cX4_made 1 (some .int) :: ([.fieldLink RX4 43 "ChartTable$States" "made" "I"] ++ wsX40)
def wsX4_isRemembering : List Cond := .code yX4_isRemembering cX4_isRemembering 2 (some .boolean) :: ([.fieldLink RX4 28 "ChartTable$States" "remembering" "[Z", .methodLink RX4 51 yX4_isState, .instanceMethod yX4_isState, .selects RX4 yX4_isState yX4_isState, .initialized RX4, .code yX4_isState cX4_isState 2 (some .boolean), .fieldLink RX4 43 "ChartTable$States" "made" "I"] ++ wsX40)
def wsX4_currentAtFirst : List Cond := .code yX4_currentAtFirst cX4_currentAtFirst 2 (some .int) :: ([.fieldLink RX4 24 "ChartTable$States" "wholes" "[Z", .fieldLink RX4 21 "ChartTable$States" "firstChildren" "[I", .methodLink RX4 51 yX4_isState, .instanceMethod yX4_isState, .selects RX4 yX4_isState yX4_isState, .initialized RX4, .code yX4_isState cX4_isState 2 (some .boolean), .fieldLink RX4 43 "ChartTable$States" "made" "I"] ++ wsX40)
def wsX6_init : List Cond := .code yX6_init cX6_init 4 none :: ([.methodLink RX6 3 objectInit, .instanceMethod objectInit, .code objectInit ⟨#[0xb1]⟩ 1 none, .arrayClass .int, .fieldLink RX6 9 "ChartTable$Walk" "currents" "[I", .fieldLink RX6 15 "ChartTable$Walk" "states" "LChartTable$States;", .fieldLink RX6 19 "ChartTable$Walk" "rules" "LChartTable$Rules;", .fieldLink RX6 23 "ChartTable$Walk" "traces" "LChartTable$MarkRows;"] ++ wsX60)
def wsX5_init_r1 : List Cond := [Cond.methodLink RX5 3 objectInit, Cond.instanceMethod objectInit, Cond.code objectInit ⟨#[0xb1]⟩ 1 none, Cond.classLink RX5 9 RX1, Cond.instantiable RX1 4, Cond.initialized RX1, Cond.fieldLink RX5 14 "ChartTable$Table" "traces" "LChartTable$MarkRows;", Cond.arrayClass .int, Cond.fieldLink RX5 20 "ChartTable$Table" "currents" "[I", Cond.fieldLink RX5 24 "ChartTable$Table" "followers" "[I", Cond.fieldLink RX5 27 "ChartTable$Table" "states" "LChartTable$States;", Cond.fieldLink RX5 31 "ChartTable$Table" "rules" "LChartTable$Rules;", Cond.classLink RX5 35 RX6, Cond.instantiable RX6 5, Cond.initialized RX6, Cond.fieldLink RX5 40 "ChartTable$Table" "walk" "LChartTable$Walk;", Cond.methodLink RX5 11 yX1_init, Cond.instanceMethod yX1_init, Cond.code yX1_init cX1_init 3 none, Cond.methodLink RX1 3 objectInit, Cond.methodLink RX1 9 Lib.Math.max.name, Cond.static Lib.Math.max.name, Cond.initialized "java/lang/Math", Cond.code Lib.Math.max.name Lib.Math.max.code 2 (some .int)]
def wsX5_init_r2 : List Cond := [Cond.fieldLink RX1 15 "ChartTable$MarkRows" "rows" "I", Cond.fieldLink RX1 21 "ChartTable$MarkRows" "most" "I", Cond.arrayClass .char, Cond.fieldLink RX1 24 "ChartTable$MarkRows" "letters" "[C", Cond.fieldLink RX1 28 "ChartTable$MarkRows" "sizes" "[I", Cond.methodLink RX5 37 yX6_init, Cond.instanceMethod yX6_init, Cond.code yX6_init cX6_init 4 none, Cond.methodLink RX6 3 objectInit, Cond.fieldLink RX6 9 "ChartTable$Walk" "currents" "[I", Cond.fieldLink RX6 15 "ChartTable$Walk" "states" "LChartTable$States;", Cond.fieldLink RX6 19 "ChartTable$Walk" "rules" "LChartTable$Rules;", Cond.fieldLink RX6 23 "ChartTable$Walk" "traces" "LChartTable$MarkRows;"]
def wsX5_init : List Cond := .code yX5_init cX5_init 3 none :: ((wsX5_init_r1 ++ wsX5_init_r2) ++ wsX10 ++ wsX50 ++ wsX60)
def wsX5_drop : List Cond := .code yX5_drop cX5_drop 1 none :: ([.fieldLink RX5 44 "ChartTable$Table" "size" "I"] ++ wsX50)
def wsX5_size : List Cond := .code yX5_size cX5_size 1 (some .int) :: ([.fieldLink RX5 44 "ChartTable$Table" "size" "I"] ++ wsX50)
def wsX5_place : List Cond := .code yX5_place cX5_place 1 (some .int) :: ([.fieldLink RX5 44 "ChartTable$Table" "size" "I", .fieldLink RX5 48 "ChartTable$Table" "place" "I"] ++ wsX50)
def wsX5_marksNoted : List Cond := .code yX5_marksNoted cX5_marksNoted 1 (some .int) :: ([.fieldLink RX5 44 "ChartTable$Table" "size" "I", .fieldLink RX5 51 "ChartTable$Table" "marksNoted" "I"] ++ wsX50)
def wsX6_noteIn : List Cond := .code yX6_noteIn cX6_noteIn 2 none :: ([.fieldLink RX6 45 "ChartTable$Walk" "row" "I", .fieldLink RX6 23 "ChartTable$Walk" "traces" "LChartTable$MarkRows;", .methodLink RX6 49 yX1_empty, .instanceMethod yX1_empty, .selects RX1 yX1_empty yX1_empty, .initialized RX1, .code yX1_empty cX1_empty 2 none, .fieldLink RX1 28 "ChartTable$MarkRows" "sizes" "[I", .methodLink RX1 32 yX1_isRow, .instanceMethod yX1_isRow, .selects RX1 yX1_isRow yX1_isRow, .code yX1_isRow cX1_isRow 2 (some .boolean), .fieldLink RX1 15 "ChartTable$MarkRows" "rows" "I"] ++ wsX60 ++ wsX10)
def wsX6_makeCurrent : List Cond := .code yX6_makeCurrent cX6_makeCurrent 3 none :: ([.fieldLink RX6 9 "ChartTable$Walk" "currents" "[I"] ++ wsX60)
def wsX6_currentChild : List Cond := .code yX6_currentChild cX6_currentChild 2 (some .int) :: ([.fieldLink RX6 9 "ChartTable$Walk" "currents" "[I"] ++ wsX60)
def wsX6_enter_r1 : List Cond := [Cond.fieldLink RX6 15 "ChartTable$Walk" "states" "LChartTable$States;", Cond.fieldLink RX6 23 "ChartTable$Walk" "traces" "LChartTable$MarkRows;", Cond.fieldLink RX6 45 "ChartTable$Walk" "row" "I", Cond.methodLink RX6 64 yX4_isState, Cond.instanceMethod yX4_isState, Cond.selects RX4 yX4_isState yX4_isState, Cond.initialized RX4, Cond.code yX4_isState cX4_isState 2 (some .boolean), Cond.fieldLink RX4 43 "ChartTable$States" "made" "I", Cond.methodLink RX6 67 yX4_entering, Cond.instanceMethod yX4_entering, Cond.selects RX4 yX4_entering yX4_entering, Cond.code yX4_entering cX4_entering 1 (some (.object "ChartTable$MarkRows")), Cond.fieldLink RX4 36 "ChartTable$States" "entering" "LChartTable$MarkRows;", Cond.methodLink RX6 71 yX1_addRow, Cond.instanceMethod yX1_addRow, Cond.selects RX1 yX1_addRow yX1_addRow, Cond.initialized RX1, Cond.code yX1_addRow cX1_addRow 7 none, Cond.fieldLink RX1 28 "ChartTable$MarkRows" "sizes" "[I", Cond.fieldLink RX1 21 "ChartTable$MarkRows" "most" "I", Cond.methodLink RX1 40 Lib.Math.min.name, Cond.static Lib.Math.min.name, Cond.initialized "java/lang/Math"]
def wsX6_enter_r2 : List Cond := [Cond.code Lib.Math.min.name Lib.Math.min.code 2 (some .int), Cond.fieldLink RX1 24 "ChartTable$MarkRows" "letters" "[C", Cond.methodLink RX1 32 yX1_isRow, Cond.instanceMethod yX1_isRow, Cond.selects RX1 yX1_isRow yX1_isRow, Cond.code yX1_isRow cX1_isRow 2 (some .boolean), Cond.fieldLink RX1 15 "ChartTable$MarkRows" "rows" "I", Cond.methodLink RX6 57 yX4_isWhole, Cond.instanceMethod yX4_isWhole, Cond.selects RX4 yX4_isWhole yX4_isWhole, Cond.code yX4_isWhole cX4_isWhole 2 (some .boolean), Cond.fieldLink RX4 24 "ChartTable$States" "wholes" "[Z", Cond.methodLink RX4 51 yX4_isState, Cond.methodLink RX6 75 yX4_made, Cond.instanceMethod yX4_made, Cond.selects RX4 yX4_made yX4_made, Cond.code yX4_made cX4_made 1 (some .int), Cond.methodLink RX6 54 yX4_parentOf, Cond.instanceMethod yX4_parentOf, Cond.selects RX4 yX4_parentOf yX4_parentOf, Cond.code yX4_parentOf cX4_parentOf 2 (some .int), Cond.fieldLink RX4 15 "ChartTable$States" "parents" "[I", Cond.methodLink RX6 37 yX6_enter, Cond.instanceMethod yX6_enter]
def wsX6_enter_r3 : List Cond := [Cond.selects RX6 yX6_enter yX6_enter, Cond.initialized RX6, Cond.methodLink RX6 79 yX4_childToward, Cond.instanceMethod yX4_childToward, Cond.selects RX4 yX4_childToward yX4_childToward, Cond.code yX4_childToward cX4_childToward 5 (some .int), Cond.methodLink RX6 83 yX6_makeCurrent, Cond.instanceMethod yX6_makeCurrent, Cond.selects RX6 yX6_makeCurrent yX6_makeCurrent, Cond.code yX6_makeCurrent cX6_makeCurrent 3 none, Cond.fieldLink RX6 9 "ChartTable$Walk" "currents" "[I", Cond.methodLink RX6 61 yX6_currentChild, Cond.instanceMethod yX6_currentChild, Cond.selects RX6 yX6_currentChild yX6_currentChild, Cond.code yX6_currentChild cX6_currentChild 2 (some .int)]
def wsX6_enter : List Cond := .code yX6_enter cX6_enter 5 none :: ((wsX6_enter_r1 ++ (wsX6_enter_r2 ++ wsX6_enter_r3)) ++ wsX60 ++ wsX40 ++ wsX10)
def wsX6_start_r1 : List Cond := [Cond.fieldLink RX6 9 "ChartTable$Walk" "currents" "[I", Cond.fieldLink RX6 15 "ChartTable$Walk" "states" "LChartTable$States;", Cond.methodLink RX6 27 yX4_currentAtFirst, Cond.instanceMethod yX4_currentAtFirst, Cond.selects RX4 yX4_currentAtFirst yX4_currentAtFirst, Cond.initialized RX4, Cond.code yX4_currentAtFirst cX4_currentAtFirst 2 (some .int), Cond.fieldLink RX4 24 "ChartTable$States" "wholes" "[Z", Cond.fieldLink RX4 21 "ChartTable$States" "firstChildren" "[I", Cond.methodLink RX4 51 yX4_isState, Cond.instanceMethod yX4_isState, Cond.selects RX4 yX4_isState yX4_isState, Cond.code yX4_isState cX4_isState 2 (some .boolean), Cond.fieldLink RX4 43 "ChartTable$States" "made" "I", Cond.methodLink RX6 33 yX6_noteIn, Cond.instanceMethod yX6_noteIn, Cond.selects RX6 yX6_noteIn yX6_noteIn, Cond.initialized RX6, Cond.code yX6_noteIn cX6_noteIn 2 none, Cond.fieldLink RX6 45 "ChartTable$Walk" "row" "I", Cond.fieldLink RX6 23 "ChartTable$Walk" "traces" "LChartTable$MarkRows;", Cond.methodLink RX6 49 yX1_empty, Cond.instanceMethod yX1_empty, Cond.selects RX1 yX1_empty yX1_empty]
def wsX6_start_r2 : List Cond := [Cond.initialized RX1, Cond.code yX1_empty cX1_empty 2 none, Cond.fieldLink RX1 28 "ChartTable$MarkRows" "sizes" "[I", Cond.methodLink RX1 32 yX1_isRow, Cond.instanceMethod yX1_isRow, Cond.selects RX1 yX1_isRow yX1_isRow, Cond.code yX1_isRow cX1_isRow 2 (some .boolean), Cond.fieldLink RX1 15 "ChartTable$MarkRows" "rows" "I", Cond.methodLink RX6 37 yX6_enter, Cond.instanceMethod yX6_enter, Cond.selects RX6 yX6_enter yX6_enter, Cond.code yX6_enter cX6_enter 5 none, Cond.methodLink RX6 64 yX4_isState, Cond.methodLink RX6 67 yX4_entering, Cond.instanceMethod yX4_entering, Cond.selects RX4 yX4_entering yX4_entering, Cond.code yX4_entering cX4_entering 1 (some (.object "ChartTable$MarkRows")), Cond.fieldLink RX4 36 "ChartTable$States" "entering" "LChartTable$MarkRows;", Cond.methodLink RX6 71 yX1_addRow, Cond.instanceMethod yX1_addRow, Cond.selects RX1 yX1_addRow yX1_addRow, Cond.code yX1_addRow cX1_addRow 7 none, Cond.fieldLink RX1 21 "ChartTable$MarkRows" "most" "I", Cond.methodLink RX1 40 Lib.Math.min.name]
def wsX6_start_r3 : List Cond := [Cond.static Lib.Math.min.name, Cond.initialized "java/lang/Math", Cond.code Lib.Math.min.name Lib.Math.min.code 2 (some .int), Cond.fieldLink RX1 24 "ChartTable$MarkRows" "letters" "[C", Cond.methodLink RX6 57 yX4_isWhole, Cond.instanceMethod yX4_isWhole, Cond.selects RX4 yX4_isWhole yX4_isWhole, Cond.code yX4_isWhole cX4_isWhole 2 (some .boolean), Cond.methodLink RX6 75 yX4_made, Cond.instanceMethod yX4_made, Cond.selects RX4 yX4_made yX4_made, Cond.code yX4_made cX4_made 1 (some .int), Cond.methodLink RX6 54 yX4_parentOf, Cond.instanceMethod yX4_parentOf, Cond.selects RX4 yX4_parentOf yX4_parentOf, Cond.code yX4_parentOf cX4_parentOf 2 (some .int), Cond.fieldLink RX4 15 "ChartTable$States" "parents" "[I", Cond.methodLink RX6 79 yX4_childToward, Cond.instanceMethod yX4_childToward, Cond.selects RX4 yX4_childToward yX4_childToward, Cond.code yX4_childToward cX4_childToward 5 (some .int), Cond.methodLink RX6 83 yX6_makeCurrent, Cond.instanceMethod yX6_makeCurrent, Cond.selects RX6 yX6_makeCurrent yX6_makeCurrent]
def wsX6_start_r4 : List Cond := [Cond.code yX6_makeCurrent cX6_makeCurrent 3 none, Cond.methodLink RX6 61 yX6_currentChild, Cond.instanceMethod yX6_currentChild, Cond.selects RX6 yX6_currentChild yX6_currentChild, Cond.code yX6_currentChild cX6_currentChild 2 (some .int)]
def wsX6_start : List Cond := .code yX6_start cX6_start 3 none :: ((wsX6_start_r1 ++ (wsX6_start_r2 ++ (wsX6_start_r3 ++ wsX6_start_r4))) ++ wsX60 ++ wsX40 ++ wsX10)
def wsX5_isConfiguration : List Cond := .code yX5_isConfiguration cX5_isConfiguration 2 (some .boolean) :: ([.fieldLink RX5 44 "ChartTable$Table" "size" "I"] ++ wsX50)
def wsX5_currentChild : List Cond := .code yX5_currentChild cX5_currentChild 3 (some .int) :: ([.fieldLink RX5 27 "ChartTable$Table" "states" "LChartTable$States;", .fieldLink RX5 20 "ChartTable$Table" "currents" "[I", .methodLink RX5 81 yX5_isConfiguration, .instanceMethod yX5_isConfiguration, .selects RX5 yX5_isConfiguration yX5_isConfiguration, .initialized RX5, .code yX5_isConfiguration cX5_isConfiguration 2 (some .boolean), .fieldLink RX5 44 "ChartTable$Table" "size" "I", .methodLink RX5 102 yX4_isState, .instanceMethod yX4_isState, .selects RX4 yX4_isState yX4_isState, .initialized RX4, .code yX4_isState cX4_isState 2 (some .boolean), .fieldLink RX4 43 "ChartTable$States" "made" "I"] ++ wsX50 ++ wsX40)
def wsX5_isWalk_r1 : List Cond := [Cond.fieldLink RX5 40 "ChartTable$Table" "walk" "LChartTable$Walk;", Cond.methodLink RX5 88 yX5_currentChild, Cond.instanceMethod yX5_currentChild, Cond.selects RX5 yX5_currentChild yX5_currentChild, Cond.initialized RX5, Cond.code yX5_currentChild cX5_currentChild 3 (some .int), Cond.fieldLink RX5 27 "ChartTable$Table" "states" "LChartTable$States;", Cond.fieldLink RX5 20 "ChartTable$Table" "currents" "[I", Cond.methodLink RX5 81 yX5_isConfiguration, Cond.instanceMethod yX5_isConfiguration, Cond.selects RX5 yX5_isConfiguration yX5_isConfiguration, Cond.code yX5_isConfiguration cX5_isConfiguration 2 (some .boolean), Cond.fieldLink RX5 44 "ChartTable$Table" "size" "I", Cond.methodLink RX5 102 yX4_isState, Cond.instanceMethod yX4_isState, Cond.selects RX4 yX4_isState yX4_isState, Cond.initialized RX4, Cond.code yX4_isState cX4_isState 2 (some .boolean), Cond.fieldLink RX4 43 "ChartTable$States" "made" "I", Cond.methodLink RX5 94 yX6_currentChild, Cond.instanceMethod yX6_currentChild, Cond.selects RX6 yX6_currentChild yX6_currentChild, Cond.initialized RX6, Cond.code yX6_currentChild cX6_currentChild 2 (some .int)]
def wsX5_isWalk_r2 : List Cond := [Cond.fieldLink RX6 9 "ChartTable$Walk" "currents" "[I"]
def wsX5_isWalk : List Cond := .code yX5_isWalk cX5_isWalk 3 (some .boolean) :: ((wsX5_isWalk_r1 ++ wsX5_isWalk_r2) ++ wsX50 ++ wsX40 ++ wsX60)
def wsX5_numberOfWalk_r1 : List Cond := [Cond.fieldLink RX5 44 "ChartTable$Table" "size" "I", Cond.fieldLink RX5 20 "ChartTable$Table" "currents" "[I", Cond.fieldLink RX5 40 "ChartTable$Table" "walk" "LChartTable$Walk;", Cond.methodLink RX5 96 yX5_isWalk, Cond.instanceMethod yX5_isWalk, Cond.selects RX5 yX5_isWalk yX5_isWalk, Cond.initialized RX5, Cond.code yX5_isWalk cX5_isWalk 3 (some .boolean), Cond.methodLink RX5 88 yX5_currentChild, Cond.instanceMethod yX5_currentChild, Cond.selects RX5 yX5_currentChild yX5_currentChild, Cond.code yX5_currentChild cX5_currentChild 3 (some .int), Cond.fieldLink RX5 27 "ChartTable$Table" "states" "LChartTable$States;", Cond.methodLink RX5 81 yX5_isConfiguration, Cond.instanceMethod yX5_isConfiguration, Cond.selects RX5 yX5_isConfiguration yX5_isConfiguration, Cond.code yX5_isConfiguration cX5_isConfiguration 2 (some .boolean), Cond.methodLink RX5 102 yX4_isState, Cond.instanceMethod yX4_isState, Cond.selects RX4 yX4_isState yX4_isState, Cond.initialized RX4, Cond.code yX4_isState cX4_isState 2 (some .boolean), Cond.fieldLink RX4 43 "ChartTable$States" "made" "I", Cond.methodLink RX5 94 yX6_currentChild]
def wsX5_numberOfWalk_r2 : List Cond := [Cond.instanceMethod yX6_currentChild, Cond.selects RX6 yX6_currentChild yX6_currentChild, Cond.initialized RX6, Cond.code yX6_currentChild cX6_currentChild 2 (some .int), Cond.fieldLink RX6 9 "ChartTable$Walk" "currents" "[I"]
def wsX5_numberOfWalk : List Cond := .code yX5_numberOfWalk cX5_numberOfWalk 2 (some .int) :: ((wsX5_numberOfWalk_r1 ++ wsX5_numberOfWalk_r2) ++ wsX50 ++ wsX40 ++ wsX60)
def wsX5_cellOf : List Cond := .code yX5_cellOf cX5_cellOf 3 (some .int) :: ([.fieldLink RX5 31 "ChartTable$Table" "rules" "LChartTable$Rules;", .methodLink RX5 81 yX5_isConfiguration, .instanceMethod yX5_isConfiguration, .selects RX5 yX5_isConfiguration yX5_isConfiguration, .initialized RX5, .code yX5_isConfiguration cX5_isConfiguration 2 (some .boolean), .fieldLink RX5 44 "ChartTable$Table" "size" "I", .methodLink RX5 85 yX3_isEvent, .instanceMethod yX3_isEvent, .selects RX3 yX3_isEvent yX3_isEvent, .initialized RX3, .code yX3_isEvent cX3_isEvent 2 (some .boolean), .fieldLink RX3 47 "ChartTable$Rules" "events" "I"] ++ wsX50 ++ wsX30)
def wsX5_setWalk_r1 : List Cond := [Cond.fieldLink RX5 40 "ChartTable$Table" "walk" "LChartTable$Walk;", Cond.methodLink RX5 88 yX5_currentChild, Cond.instanceMethod yX5_currentChild, Cond.selects RX5 yX5_currentChild yX5_currentChild, Cond.initialized RX5, Cond.code yX5_currentChild cX5_currentChild 3 (some .int), Cond.fieldLink RX5 27 "ChartTable$Table" "states" "LChartTable$States;", Cond.fieldLink RX5 20 "ChartTable$Table" "currents" "[I", Cond.methodLink RX5 81 yX5_isConfiguration, Cond.instanceMethod yX5_isConfiguration, Cond.selects RX5 yX5_isConfiguration yX5_isConfiguration, Cond.code yX5_isConfiguration cX5_isConfiguration 2 (some .boolean), Cond.fieldLink RX5 44 "ChartTable$Table" "size" "I", Cond.methodLink RX5 102 yX4_isState, Cond.instanceMethod yX4_isState, Cond.selects RX4 yX4_isState yX4_isState, Cond.initialized RX4, Cond.code yX4_isState cX4_isState 2 (some .boolean), Cond.fieldLink RX4 43 "ChartTable$States" "made" "I", Cond.methodLink RX5 91 yX6_makeCurrent, Cond.instanceMethod yX6_makeCurrent, Cond.selects RX6 yX6_makeCurrent yX6_makeCurrent, Cond.initialized RX6, Cond.code yX6_makeCurrent cX6_makeCurrent 3 none]
def wsX5_setWalk_r2 : List Cond := [Cond.fieldLink RX6 9 "ChartTable$Walk" "currents" "[I"]
def wsX5_setWalk : List Cond := .code yX5_setWalk cX5_setWalk 3 none :: ((wsX5_setWalk_r1 ++ wsX5_setWalk_r2) ++ wsX50 ++ wsX40 ++ wsX60)
def wsX6_isActive : List Cond := .code yX6_isActive cX6_isActive 5 (some .boolean) :: ([.fieldLink RX6 15 "ChartTable$Walk" "states" "LChartTable$States;", .methodLink RX6 54 yX4_parentOf, .instanceMethod yX4_parentOf, .selects RX4 yX4_parentOf yX4_parentOf, .initialized RX4, .code yX4_parentOf cX4_parentOf 2 (some .int), .fieldLink RX4 15 "ChartTable$States" "parents" "[I", .methodLink RX4 51 yX4_isState, .instanceMethod yX4_isState, .selects RX4 yX4_isState yX4_isState, .code yX4_isState cX4_isState 2 (some .boolean), .fieldLink RX4 43 "ChartTable$States" "made" "I", .methodLink RX6 57 yX4_isWhole, .instanceMethod yX4_isWhole, .selects RX4 yX4_isWhole yX4_isWhole, .code yX4_isWhole cX4_isWhole 2 (some .boolean), .fieldLink RX4 24 "ChartTable$States" "wholes" "[Z", .methodLink RX6 61 yX6_currentChild, .instanceMethod yX6_currentChild, .selects RX6 yX6_currentChild yX6_currentChild, .initialized RX6, .code yX6_currentChild cX6_currentChild 2 (some .int), .fieldLink RX6 9 "ChartTable$Walk" "currents" "[I"] ++ wsX60 ++ wsX40)
def wsX6_ownRule_r1 : List Cond := [Cond.fieldLink RX6 19 "ChartTable$Walk" "rules" "LChartTable$Rules;", Cond.methodLink RX6 107 yX3_made, Cond.instanceMethod yX3_made, Cond.selects RX3 yX3_made yX3_made, Cond.initialized RX3, Cond.code yX3_made cX3_made 1 (some .int), Cond.fieldLink RX3 43 "ChartTable$Rules" "made" "I", Cond.methodLink RX6 110 yX3_isFor, Cond.instanceMethod yX3_isFor, Cond.selects RX3 yX3_isFor yX3_isFor, Cond.code yX3_isFor cX3_isFor 4 (some .boolean), Cond.fieldLink RX3 15 "ChartTable$Rules" "ruleEvents" "[I", Cond.fieldLink RX3 18 "ChartTable$Rules" "froms" "[I", Cond.methodLink RX3 58 yX3_isRule, Cond.instanceMethod yX3_isRule, Cond.selects RX3 yX3_isRule yX3_isRule, Cond.code yX3_isRule cX3_isRule 2 (some .boolean), Cond.methodLink RX6 114 yX3_askedOf, Cond.instanceMethod yX3_askedOf, Cond.selects RX3 yX3_askedOf yX3_askedOf, Cond.code yX3_askedOf cX3_askedOf 2 (some .int), Cond.fieldLink RX3 27 "ChartTable$Rules" "askedStates" "[I", Cond.methodLink RX6 117 yX6_isActive, Cond.instanceMethod yX6_isActive]
def wsX6_ownRule_r2 : List Cond := [Cond.selects RX6 yX6_isActive yX6_isActive, Cond.initialized RX6, Cond.code yX6_isActive cX6_isActive 5 (some .boolean), Cond.fieldLink RX6 15 "ChartTable$Walk" "states" "LChartTable$States;", Cond.methodLink RX6 54 yX4_parentOf, Cond.instanceMethod yX4_parentOf, Cond.selects RX4 yX4_parentOf yX4_parentOf, Cond.initialized RX4, Cond.code yX4_parentOf cX4_parentOf 2 (some .int), Cond.fieldLink RX4 15 "ChartTable$States" "parents" "[I", Cond.methodLink RX4 51 yX4_isState, Cond.instanceMethod yX4_isState, Cond.selects RX4 yX4_isState yX4_isState, Cond.code yX4_isState cX4_isState 2 (some .boolean), Cond.fieldLink RX4 43 "ChartTable$States" "made" "I", Cond.methodLink RX6 57 yX4_isWhole, Cond.instanceMethod yX4_isWhole, Cond.selects RX4 yX4_isWhole yX4_isWhole, Cond.code yX4_isWhole cX4_isWhole 2 (some .boolean), Cond.fieldLink RX4 24 "ChartTable$States" "wholes" "[Z", Cond.methodLink RX6 61 yX6_currentChild, Cond.instanceMethod yX6_currentChild, Cond.selects RX6 yX6_currentChild yX6_currentChild, Cond.code yX6_currentChild cX6_currentChild 2 (some .int)]
def wsX6_ownRule_r3 : List Cond := [Cond.fieldLink RX6 9 "ChartTable$Walk" "currents" "[I", Cond.methodLink RX6 120 yX3_isWantedActive, Cond.instanceMethod yX3_isWantedActive, Cond.selects RX3 yX3_isWantedActive yX3_isWantedActive, Cond.code yX3_isWantedActive cX3_isWantedActive 2 (some .boolean), Cond.fieldLink RX3 30 "ChartTable$Rules" "wanted" "[Z"]
def wsX6_ownRule : List Cond := .code yX6_ownRule cX6_ownRule 4 (some .int) :: ((wsX6_ownRule_r1 ++ (wsX6_ownRule_r2 ++ wsX6_ownRule_r3)) ++ wsX60 ++ wsX30 ++ wsX40)
def wsX6_leave_r1 : List Cond := [Cond.fieldLink RX6 15 "ChartTable$Walk" "states" "LChartTable$States;", Cond.fieldLink RX6 23 "ChartTable$Walk" "traces" "LChartTable$MarkRows;", Cond.fieldLink RX6 45 "ChartTable$Walk" "row" "I", Cond.methodLink RX6 64 yX4_isState, Cond.instanceMethod yX4_isState, Cond.selects RX4 yX4_isState yX4_isState, Cond.initialized RX4, Cond.code yX4_isState cX4_isState 2 (some .boolean), Cond.fieldLink RX4 43 "ChartTable$States" "made" "I", Cond.methodLink RX6 57 yX4_isWhole, Cond.instanceMethod yX4_isWhole, Cond.selects RX4 yX4_isWhole yX4_isWhole, Cond.code yX4_isWhole cX4_isWhole 2 (some .boolean), Cond.fieldLink RX4 24 "ChartTable$States" "wholes" "[Z", Cond.methodLink RX4 51 yX4_isState, Cond.methodLink RX6 75 yX4_made, Cond.instanceMethod yX4_made, Cond.selects RX4 yX4_made yX4_made, Cond.code yX4_made cX4_made 1 (some .int), Cond.methodLink RX6 54 yX4_parentOf, Cond.instanceMethod yX4_parentOf, Cond.selects RX4 yX4_parentOf yX4_parentOf, Cond.code yX4_parentOf cX4_parentOf 2 (some .int), Cond.fieldLink RX4 15 "ChartTable$States" "parents" "[I"]
def wsX6_leave_r2 : List Cond := [Cond.methodLink RX6 87 yX6_leave, Cond.instanceMethod yX6_leave, Cond.selects RX6 yX6_leave yX6_leave, Cond.initialized RX6, Cond.methodLink RX6 61 yX6_currentChild, Cond.instanceMethod yX6_currentChild, Cond.selects RX6 yX6_currentChild yX6_currentChild, Cond.code yX6_currentChild cX6_currentChild 2 (some .int), Cond.fieldLink RX6 9 "ChartTable$Walk" "currents" "[I", Cond.methodLink RX6 90 yX4_leaving, Cond.instanceMethod yX4_leaving, Cond.selects RX4 yX4_leaving yX4_leaving, Cond.code yX4_leaving cX4_leaving 1 (some (.object "ChartTable$MarkRows")), Cond.fieldLink RX4 40 "ChartTable$States" "leaving" "LChartTable$MarkRows;", Cond.methodLink RX6 71 yX1_addRow, Cond.instanceMethod yX1_addRow, Cond.selects RX1 yX1_addRow yX1_addRow, Cond.initialized RX1, Cond.code yX1_addRow cX1_addRow 7 none, Cond.fieldLink RX1 28 "ChartTable$MarkRows" "sizes" "[I", Cond.fieldLink RX1 21 "ChartTable$MarkRows" "most" "I", Cond.methodLink RX1 40 Lib.Math.min.name, Cond.static Lib.Math.min.name, Cond.initialized "java/lang/Math"]
def wsX6_leave_r3 : List Cond := [Cond.code Lib.Math.min.name Lib.Math.min.code 2 (some .int), Cond.fieldLink RX1 24 "ChartTable$MarkRows" "letters" "[C", Cond.methodLink RX1 32 yX1_isRow, Cond.instanceMethod yX1_isRow, Cond.selects RX1 yX1_isRow yX1_isRow, Cond.code yX1_isRow cX1_isRow 2 (some .boolean), Cond.fieldLink RX1 15 "ChartTable$MarkRows" "rows" "I", Cond.methodLink RX6 93 yX4_isRemembering, Cond.instanceMethod yX4_isRemembering, Cond.selects RX4 yX4_isRemembering yX4_isRemembering, Cond.code yX4_isRemembering cX4_isRemembering 2 (some .boolean), Cond.fieldLink RX4 28 "ChartTable$States" "remembering" "[Z", Cond.methodLink RX6 27 yX4_currentAtFirst, Cond.instanceMethod yX4_currentAtFirst, Cond.selects RX4 yX4_currentAtFirst yX4_currentAtFirst, Cond.code yX4_currentAtFirst cX4_currentAtFirst 2 (some .int), Cond.fieldLink RX4 21 "ChartTable$States" "firstChildren" "[I", Cond.methodLink RX6 83 yX6_makeCurrent, Cond.instanceMethod yX6_makeCurrent, Cond.selects RX6 yX6_makeCurrent yX6_makeCurrent, Cond.code yX6_makeCurrent cX6_makeCurrent 3 none]
def wsX6_leave : List Cond := .code yX6_leave cX6_leave 4 none :: ((wsX6_leave_r1 ++ (wsX6_leave_r2 ++ wsX6_leave_r3)) ++ wsX60 ++ wsX40 ++ wsX10)
def wsX6_take_r1 : List Cond := [Cond.fieldLink RX6 19 "ChartTable$Walk" "rules" "LChartTable$Rules;", Cond.fieldLink RX6 15 "ChartTable$Walk" "states" "LChartTable$States;", Cond.fieldLink RX6 23 "ChartTable$Walk" "traces" "LChartTable$MarkRows;", Cond.fieldLink RX6 45 "ChartTable$Walk" "row" "I", Cond.methodLink RX6 123 yX3_isRule, Cond.instanceMethod yX3_isRule, Cond.selects RX3 yX3_isRule yX3_isRule, Cond.initialized RX3, Cond.code yX3_isRule cX3_isRule 2 (some .boolean), Cond.fieldLink RX3 43 "ChartTable$Rules" "made" "I", Cond.methodLink RX6 126 yX3_scopeOf, Cond.instanceMethod yX3_scopeOf, Cond.selects RX3 yX3_scopeOf yX3_scopeOf, Cond.code yX3_scopeOf cX3_scopeOf 2 (some .int), Cond.fieldLink RX3 24 "ChartTable$Rules" "scopes" "[I", Cond.methodLink RX3 58 yX3_isRule, Cond.methodLink RX6 129 yX3_targetOf, Cond.instanceMethod yX3_targetOf, Cond.selects RX3 yX3_targetOf yX3_targetOf, Cond.code yX3_targetOf cX3_targetOf 2 (some .int), Cond.fieldLink RX3 21 "ChartTable$Rules" "targets" "[I", Cond.methodLink RX6 132 yX4_depthOf, Cond.instanceMethod yX4_depthOf, Cond.selects RX4 yX4_depthOf yX4_depthOf]
def wsX6_take_r2 : List Cond := [Cond.initialized RX4, Cond.code yX4_depthOf cX4_depthOf 2 (some .int), Cond.fieldLink RX4 18 "ChartTable$States" "depths" "[I", Cond.methodLink RX4 51 yX4_isState, Cond.instanceMethod yX4_isState, Cond.selects RX4 yX4_isState yX4_isState, Cond.code yX4_isState cX4_isState 2 (some .boolean), Cond.fieldLink RX4 43 "ChartTable$States" "made" "I", Cond.methodLink RX6 61 yX6_currentChild, Cond.instanceMethod yX6_currentChild, Cond.selects RX6 yX6_currentChild yX6_currentChild, Cond.initialized RX6, Cond.code yX6_currentChild cX6_currentChild 2 (some .int), Cond.fieldLink RX6 9 "ChartTable$Walk" "currents" "[I", Cond.methodLink RX6 87 yX6_leave, Cond.instanceMethod yX6_leave, Cond.selects RX6 yX6_leave yX6_leave, Cond.code yX6_leave cX6_leave 4 none, Cond.methodLink RX6 64 yX4_isState, Cond.methodLink RX6 57 yX4_isWhole, Cond.instanceMethod yX4_isWhole, Cond.selects RX4 yX4_isWhole yX4_isWhole, Cond.code yX4_isWhole cX4_isWhole 2 (some .boolean), Cond.fieldLink RX4 24 "ChartTable$States" "wholes" "[Z"]
def wsX6_take_r3 : List Cond := [Cond.methodLink RX6 75 yX4_made, Cond.instanceMethod yX4_made, Cond.selects RX4 yX4_made yX4_made, Cond.code yX4_made cX4_made 1 (some .int), Cond.methodLink RX6 54 yX4_parentOf, Cond.instanceMethod yX4_parentOf, Cond.selects RX4 yX4_parentOf yX4_parentOf, Cond.code yX4_parentOf cX4_parentOf 2 (some .int), Cond.fieldLink RX4 15 "ChartTable$States" "parents" "[I", Cond.methodLink RX6 90 yX4_leaving, Cond.instanceMethod yX4_leaving, Cond.selects RX4 yX4_leaving yX4_leaving, Cond.code yX4_leaving cX4_leaving 1 (some (.object "ChartTable$MarkRows")), Cond.fieldLink RX4 40 "ChartTable$States" "leaving" "LChartTable$MarkRows;", Cond.methodLink RX6 71 yX1_addRow, Cond.instanceMethod yX1_addRow, Cond.selects RX1 yX1_addRow yX1_addRow, Cond.initialized RX1, Cond.code yX1_addRow cX1_addRow 7 none, Cond.fieldLink RX1 28 "ChartTable$MarkRows" "sizes" "[I", Cond.fieldLink RX1 21 "ChartTable$MarkRows" "most" "I", Cond.methodLink RX1 40 Lib.Math.min.name, Cond.static Lib.Math.min.name, Cond.initialized "java/lang/Math"]
def wsX6_take_r4 : List Cond := [Cond.code Lib.Math.min.name Lib.Math.min.code 2 (some .int), Cond.fieldLink RX1 24 "ChartTable$MarkRows" "letters" "[C", Cond.methodLink RX1 32 yX1_isRow, Cond.instanceMethod yX1_isRow, Cond.selects RX1 yX1_isRow yX1_isRow, Cond.code yX1_isRow cX1_isRow 2 (some .boolean), Cond.fieldLink RX1 15 "ChartTable$MarkRows" "rows" "I", Cond.methodLink RX6 93 yX4_isRemembering, Cond.instanceMethod yX4_isRemembering, Cond.selects RX4 yX4_isRemembering yX4_isRemembering, Cond.code yX4_isRemembering cX4_isRemembering 2 (some .boolean), Cond.fieldLink RX4 28 "ChartTable$States" "remembering" "[Z", Cond.methodLink RX6 27 yX4_currentAtFirst, Cond.instanceMethod yX4_currentAtFirst, Cond.selects RX4 yX4_currentAtFirst yX4_currentAtFirst, Cond.code yX4_currentAtFirst cX4_currentAtFirst 2 (some .int), Cond.fieldLink RX4 21 "ChartTable$States" "firstChildren" "[I", Cond.methodLink RX6 83 yX6_makeCurrent, Cond.instanceMethod yX6_makeCurrent, Cond.selects RX6 yX6_makeCurrent yX6_makeCurrent, Cond.code yX6_makeCurrent cX6_makeCurrent 3 none, Cond.methodLink RX6 135 yX3_marks, Cond.instanceMethod yX3_marks, Cond.selects RX3 yX3_marks yX3_marks]
def wsX6_take_r5 : List Cond := [Cond.code yX3_marks cX3_marks 1 (some (.object "ChartTable$MarkRows")), Cond.fieldLink RX3 39 "ChartTable$Rules" "marks" "LChartTable$MarkRows;", Cond.methodLink RX6 79 yX4_childToward, Cond.instanceMethod yX4_childToward, Cond.selects RX4 yX4_childToward yX4_childToward, Cond.code yX4_childToward cX4_childToward 5 (some .int), Cond.methodLink RX6 37 yX6_enter, Cond.instanceMethod yX6_enter, Cond.selects RX6 yX6_enter yX6_enter, Cond.code yX6_enter cX6_enter 5 none, Cond.methodLink RX6 67 yX4_entering, Cond.instanceMethod yX4_entering, Cond.selects RX4 yX4_entering yX4_entering, Cond.code yX4_entering cX4_entering 1 (some (.object "ChartTable$MarkRows")), Cond.fieldLink RX4 36 "ChartTable$States" "entering" "LChartTable$MarkRows;"]
def wsX6_take : List Cond := .code yX6_take cX6_take 5 (some .int) :: ((wsX6_take_r1 ++ (wsX6_take_r2 ++ (wsX6_take_r3 ++ (wsX6_take_r4 ++ wsX6_take_r5)))) ++ wsX60 ++ wsX30 ++ wsX40 ++ wsX10)
def wsX6_offer_r1 : List Cond := [Cond.fieldLink RX6 15 "ChartTable$Walk" "states" "LChartTable$States;", Cond.methodLink RX6 96 Lib.Math.min.name, Cond.static Lib.Math.min.name, Cond.initialized "java/lang/Math", Cond.code Lib.Math.min.name Lib.Math.min.code 2 (some .int), Cond.methodLink RX6 64 yX4_isState, Cond.instanceMethod yX4_isState, Cond.selects RX4 yX4_isState yX4_isState, Cond.initialized RX4, Cond.code yX4_isState cX4_isState 2 (some .boolean), Cond.fieldLink RX4 43 "ChartTable$States" "made" "I", Cond.methodLink RX6 57 yX4_isWhole, Cond.instanceMethod yX4_isWhole, Cond.selects RX4 yX4_isWhole yX4_isWhole, Cond.code yX4_isWhole cX4_isWhole 2 (some .boolean), Cond.fieldLink RX4 24 "ChartTable$States" "wholes" "[Z", Cond.methodLink RX4 51 yX4_isState, Cond.methodLink RX6 75 yX4_made, Cond.instanceMethod yX4_made, Cond.selects RX4 yX4_made yX4_made, Cond.code yX4_made cX4_made 1 (some .int), Cond.methodLink RX6 54 yX4_parentOf, Cond.instanceMethod yX4_parentOf, Cond.selects RX4 yX4_parentOf yX4_parentOf]
def wsX6_offer_r2 : List Cond := [Cond.code yX4_parentOf cX4_parentOf 2 (some .int), Cond.fieldLink RX4 15 "ChartTable$States" "parents" "[I", Cond.methodLink RX6 41 yX6_offer, Cond.instanceMethod yX6_offer, Cond.selects RX6 yX6_offer yX6_offer, Cond.initialized RX6, Cond.methodLink RX6 61 yX6_currentChild, Cond.instanceMethod yX6_currentChild, Cond.selects RX6 yX6_currentChild yX6_currentChild, Cond.code yX6_currentChild cX6_currentChild 2 (some .int), Cond.fieldLink RX6 9 "ChartTable$Walk" "currents" "[I", Cond.methodLink RX6 101 yX6_ownRule, Cond.instanceMethod yX6_ownRule, Cond.selects RX6 yX6_ownRule yX6_ownRule, Cond.code yX6_ownRule cX6_ownRule 4 (some .int), Cond.fieldLink RX6 19 "ChartTable$Walk" "rules" "LChartTable$Rules;", Cond.methodLink RX6 107 yX3_made, Cond.instanceMethod yX3_made, Cond.selects RX3 yX3_made yX3_made, Cond.initialized RX3, Cond.code yX3_made cX3_made 1 (some .int), Cond.fieldLink RX3 43 "ChartTable$Rules" "made" "I", Cond.methodLink RX6 110 yX3_isFor, Cond.instanceMethod yX3_isFor]
def wsX6_offer_r3 : List Cond := [Cond.selects RX3 yX3_isFor yX3_isFor, Cond.code yX3_isFor cX3_isFor 4 (some .boolean), Cond.fieldLink RX3 15 "ChartTable$Rules" "ruleEvents" "[I", Cond.fieldLink RX3 18 "ChartTable$Rules" "froms" "[I", Cond.methodLink RX3 58 yX3_isRule, Cond.instanceMethod yX3_isRule, Cond.selects RX3 yX3_isRule yX3_isRule, Cond.code yX3_isRule cX3_isRule 2 (some .boolean), Cond.methodLink RX6 114 yX3_askedOf, Cond.instanceMethod yX3_askedOf, Cond.selects RX3 yX3_askedOf yX3_askedOf, Cond.code yX3_askedOf cX3_askedOf 2 (some .int), Cond.fieldLink RX3 27 "ChartTable$Rules" "askedStates" "[I", Cond.methodLink RX6 117 yX6_isActive, Cond.instanceMethod yX6_isActive, Cond.selects RX6 yX6_isActive yX6_isActive, Cond.code yX6_isActive cX6_isActive 5 (some .boolean), Cond.methodLink RX6 120 yX3_isWantedActive, Cond.instanceMethod yX3_isWantedActive, Cond.selects RX3 yX3_isWantedActive yX3_isWantedActive, Cond.code yX3_isWantedActive cX3_isWantedActive 2 (some .boolean), Cond.fieldLink RX3 30 "ChartTable$Rules" "wanted" "[Z", Cond.methodLink RX6 104 yX6_take, Cond.instanceMethod yX6_take]
def wsX6_offer_r4 : List Cond := [Cond.selects RX6 yX6_take yX6_take, Cond.code yX6_take cX6_take 5 (some .int), Cond.fieldLink RX6 23 "ChartTable$Walk" "traces" "LChartTable$MarkRows;", Cond.fieldLink RX6 45 "ChartTable$Walk" "row" "I", Cond.methodLink RX6 123 yX3_isRule, Cond.methodLink RX6 126 yX3_scopeOf, Cond.instanceMethod yX3_scopeOf, Cond.selects RX3 yX3_scopeOf yX3_scopeOf, Cond.code yX3_scopeOf cX3_scopeOf 2 (some .int), Cond.fieldLink RX3 24 "ChartTable$Rules" "scopes" "[I", Cond.methodLink RX6 129 yX3_targetOf, Cond.instanceMethod yX3_targetOf, Cond.selects RX3 yX3_targetOf yX3_targetOf, Cond.code yX3_targetOf cX3_targetOf 2 (some .int), Cond.fieldLink RX3 21 "ChartTable$Rules" "targets" "[I", Cond.methodLink RX6 132 yX4_depthOf, Cond.instanceMethod yX4_depthOf, Cond.selects RX4 yX4_depthOf yX4_depthOf, Cond.code yX4_depthOf cX4_depthOf 2 (some .int), Cond.fieldLink RX4 18 "ChartTable$States" "depths" "[I", Cond.methodLink RX6 87 yX6_leave, Cond.instanceMethod yX6_leave, Cond.selects RX6 yX6_leave yX6_leave, Cond.code yX6_leave cX6_leave 4 none]
def wsX6_offer_r5 : List Cond := [Cond.methodLink RX6 90 yX4_leaving, Cond.instanceMethod yX4_leaving, Cond.selects RX4 yX4_leaving yX4_leaving, Cond.code yX4_leaving cX4_leaving 1 (some (.object "ChartTable$MarkRows")), Cond.fieldLink RX4 40 "ChartTable$States" "leaving" "LChartTable$MarkRows;", Cond.methodLink RX6 71 yX1_addRow, Cond.instanceMethod yX1_addRow, Cond.selects RX1 yX1_addRow yX1_addRow, Cond.initialized RX1, Cond.code yX1_addRow cX1_addRow 7 none, Cond.fieldLink RX1 28 "ChartTable$MarkRows" "sizes" "[I", Cond.fieldLink RX1 21 "ChartTable$MarkRows" "most" "I", Cond.methodLink RX1 40 Lib.Math.min.name, Cond.fieldLink RX1 24 "ChartTable$MarkRows" "letters" "[C", Cond.methodLink RX1 32 yX1_isRow, Cond.instanceMethod yX1_isRow, Cond.selects RX1 yX1_isRow yX1_isRow, Cond.code yX1_isRow cX1_isRow 2 (some .boolean), Cond.fieldLink RX1 15 "ChartTable$MarkRows" "rows" "I", Cond.methodLink RX6 93 yX4_isRemembering, Cond.instanceMethod yX4_isRemembering, Cond.selects RX4 yX4_isRemembering yX4_isRemembering, Cond.code yX4_isRemembering cX4_isRemembering 2 (some .boolean), Cond.fieldLink RX4 28 "ChartTable$States" "remembering" "[Z"]
def wsX6_offer_r6 : List Cond := [Cond.methodLink RX6 27 yX4_currentAtFirst, Cond.instanceMethod yX4_currentAtFirst, Cond.selects RX4 yX4_currentAtFirst yX4_currentAtFirst, Cond.code yX4_currentAtFirst cX4_currentAtFirst 2 (some .int), Cond.fieldLink RX4 21 "ChartTable$States" "firstChildren" "[I", Cond.methodLink RX6 83 yX6_makeCurrent, Cond.instanceMethod yX6_makeCurrent, Cond.selects RX6 yX6_makeCurrent yX6_makeCurrent, Cond.code yX6_makeCurrent cX6_makeCurrent 3 none, Cond.methodLink RX6 135 yX3_marks, Cond.instanceMethod yX3_marks, Cond.selects RX3 yX3_marks yX3_marks, Cond.code yX3_marks cX3_marks 1 (some (.object "ChartTable$MarkRows")), Cond.fieldLink RX3 39 "ChartTable$Rules" "marks" "LChartTable$MarkRows;", Cond.methodLink RX6 79 yX4_childToward, Cond.instanceMethod yX4_childToward, Cond.selects RX4 yX4_childToward yX4_childToward, Cond.code yX4_childToward cX4_childToward 5 (some .int), Cond.methodLink RX6 37 yX6_enter, Cond.instanceMethod yX6_enter, Cond.selects RX6 yX6_enter yX6_enter, Cond.code yX6_enter cX6_enter 5 none, Cond.methodLink RX6 67 yX4_entering, Cond.instanceMethod yX4_entering]
def wsX6_offer_r7 : List Cond := [Cond.selects RX4 yX4_entering yX4_entering, Cond.code yX4_entering cX4_entering 1 (some (.object "ChartTable$MarkRows")), Cond.fieldLink RX4 36 "ChartTable$States" "entering" "LChartTable$MarkRows;"]
def wsX6_offer : List Cond := .code yX6_offer cX6_offer 6 (some .int) :: ((wsX6_offer_r1 ++ (wsX6_offer_r2 ++ (wsX6_offer_r3 ++ (wsX6_offer_r4 ++ (wsX6_offer_r5 ++ (wsX6_offer_r6 ++ wsX6_offer_r7)))))) ++ wsX60 ++ wsX40 ++ wsX30 ++ wsX10)
def wsX6_receive_r1 : List Cond := [Cond.methodLink RX6 33 yX6_noteIn, Cond.instanceMethod yX6_noteIn, Cond.selects RX6 yX6_noteIn yX6_noteIn, Cond.initialized RX6, Cond.code yX6_noteIn cX6_noteIn 2 none, Cond.fieldLink RX6 45 "ChartTable$Walk" "row" "I", Cond.fieldLink RX6 23 "ChartTable$Walk" "traces" "LChartTable$MarkRows;", Cond.methodLink RX6 49 yX1_empty, Cond.instanceMethod yX1_empty, Cond.selects RX1 yX1_empty yX1_empty, Cond.initialized RX1, Cond.code yX1_empty cX1_empty 2 none, Cond.fieldLink RX1 28 "ChartTable$MarkRows" "sizes" "[I", Cond.methodLink RX1 32 yX1_isRow, Cond.instanceMethod yX1_isRow, Cond.selects RX1 yX1_isRow yX1_isRow, Cond.code yX1_isRow cX1_isRow 2 (some .boolean), Cond.fieldLink RX1 15 "ChartTable$MarkRows" "rows" "I", Cond.methodLink RX6 41 yX6_offer, Cond.instanceMethod yX6_offer, Cond.selects RX6 yX6_offer yX6_offer, Cond.code yX6_offer cX6_offer 6 (some .int), Cond.fieldLink RX6 15 "ChartTable$Walk" "states" "LChartTable$States;", Cond.methodLink RX6 96 Lib.Math.min.name]
def wsX6_receive_r2 : List Cond := [Cond.static Lib.Math.min.name, Cond.initialized "java/lang/Math", Cond.code Lib.Math.min.name Lib.Math.min.code 2 (some .int), Cond.methodLink RX6 64 yX4_isState, Cond.instanceMethod yX4_isState, Cond.selects RX4 yX4_isState yX4_isState, Cond.initialized RX4, Cond.code yX4_isState cX4_isState 2 (some .boolean), Cond.fieldLink RX4 43 "ChartTable$States" "made" "I", Cond.methodLink RX6 57 yX4_isWhole, Cond.instanceMethod yX4_isWhole, Cond.selects RX4 yX4_isWhole yX4_isWhole, Cond.code yX4_isWhole cX4_isWhole 2 (some .boolean), Cond.fieldLink RX4 24 "ChartTable$States" "wholes" "[Z", Cond.methodLink RX4 51 yX4_isState, Cond.methodLink RX6 75 yX4_made, Cond.instanceMethod yX4_made, Cond.selects RX4 yX4_made yX4_made, Cond.code yX4_made cX4_made 1 (some .int), Cond.methodLink RX6 54 yX4_parentOf, Cond.instanceMethod yX4_parentOf, Cond.selects RX4 yX4_parentOf yX4_parentOf, Cond.code yX4_parentOf cX4_parentOf 2 (some .int), Cond.fieldLink RX4 15 "ChartTable$States" "parents" "[I"]
def wsX6_receive_r3 : List Cond := [Cond.methodLink RX6 61 yX6_currentChild, Cond.instanceMethod yX6_currentChild, Cond.selects RX6 yX6_currentChild yX6_currentChild, Cond.code yX6_currentChild cX6_currentChild 2 (some .int), Cond.fieldLink RX6 9 "ChartTable$Walk" "currents" "[I", Cond.methodLink RX6 101 yX6_ownRule, Cond.instanceMethod yX6_ownRule, Cond.selects RX6 yX6_ownRule yX6_ownRule, Cond.code yX6_ownRule cX6_ownRule 4 (some .int), Cond.fieldLink RX6 19 "ChartTable$Walk" "rules" "LChartTable$Rules;", Cond.methodLink RX6 107 yX3_made, Cond.instanceMethod yX3_made, Cond.selects RX3 yX3_made yX3_made, Cond.initialized RX3, Cond.code yX3_made cX3_made 1 (some .int), Cond.fieldLink RX3 43 "ChartTable$Rules" "made" "I", Cond.methodLink RX6 110 yX3_isFor, Cond.instanceMethod yX3_isFor, Cond.selects RX3 yX3_isFor yX3_isFor, Cond.code yX3_isFor cX3_isFor 4 (some .boolean), Cond.fieldLink RX3 15 "ChartTable$Rules" "ruleEvents" "[I", Cond.fieldLink RX3 18 "ChartTable$Rules" "froms" "[I", Cond.methodLink RX3 58 yX3_isRule, Cond.instanceMethod yX3_isRule]
def wsX6_receive_r4 : List Cond := [Cond.selects RX3 yX3_isRule yX3_isRule, Cond.code yX3_isRule cX3_isRule 2 (some .boolean), Cond.methodLink RX6 114 yX3_askedOf, Cond.instanceMethod yX3_askedOf, Cond.selects RX3 yX3_askedOf yX3_askedOf, Cond.code yX3_askedOf cX3_askedOf 2 (some .int), Cond.fieldLink RX3 27 "ChartTable$Rules" "askedStates" "[I", Cond.methodLink RX6 117 yX6_isActive, Cond.instanceMethod yX6_isActive, Cond.selects RX6 yX6_isActive yX6_isActive, Cond.code yX6_isActive cX6_isActive 5 (some .boolean), Cond.methodLink RX6 120 yX3_isWantedActive, Cond.instanceMethod yX3_isWantedActive, Cond.selects RX3 yX3_isWantedActive yX3_isWantedActive, Cond.code yX3_isWantedActive cX3_isWantedActive 2 (some .boolean), Cond.fieldLink RX3 30 "ChartTable$Rules" "wanted" "[Z", Cond.methodLink RX6 104 yX6_take, Cond.instanceMethod yX6_take, Cond.selects RX6 yX6_take yX6_take, Cond.code yX6_take cX6_take 5 (some .int), Cond.methodLink RX6 123 yX3_isRule, Cond.methodLink RX6 126 yX3_scopeOf, Cond.instanceMethod yX3_scopeOf, Cond.selects RX3 yX3_scopeOf yX3_scopeOf]
def wsX6_receive_r5 : List Cond := [Cond.code yX3_scopeOf cX3_scopeOf 2 (some .int), Cond.fieldLink RX3 24 "ChartTable$Rules" "scopes" "[I", Cond.methodLink RX6 129 yX3_targetOf, Cond.instanceMethod yX3_targetOf, Cond.selects RX3 yX3_targetOf yX3_targetOf, Cond.code yX3_targetOf cX3_targetOf 2 (some .int), Cond.fieldLink RX3 21 "ChartTable$Rules" "targets" "[I", Cond.methodLink RX6 132 yX4_depthOf, Cond.instanceMethod yX4_depthOf, Cond.selects RX4 yX4_depthOf yX4_depthOf, Cond.code yX4_depthOf cX4_depthOf 2 (some .int), Cond.fieldLink RX4 18 "ChartTable$States" "depths" "[I", Cond.methodLink RX6 87 yX6_leave, Cond.instanceMethod yX6_leave, Cond.selects RX6 yX6_leave yX6_leave, Cond.code yX6_leave cX6_leave 4 none, Cond.methodLink RX6 90 yX4_leaving, Cond.instanceMethod yX4_leaving, Cond.selects RX4 yX4_leaving yX4_leaving, Cond.code yX4_leaving cX4_leaving 1 (some (.object "ChartTable$MarkRows")), Cond.fieldLink RX4 40 "ChartTable$States" "leaving" "LChartTable$MarkRows;", Cond.methodLink RX6 71 yX1_addRow, Cond.instanceMethod yX1_addRow, Cond.selects RX1 yX1_addRow yX1_addRow]
def wsX6_receive_r6 : List Cond := [Cond.code yX1_addRow cX1_addRow 7 none, Cond.fieldLink RX1 21 "ChartTable$MarkRows" "most" "I", Cond.methodLink RX1 40 Lib.Math.min.name, Cond.fieldLink RX1 24 "ChartTable$MarkRows" "letters" "[C", Cond.methodLink RX6 93 yX4_isRemembering, Cond.instanceMethod yX4_isRemembering, Cond.selects RX4 yX4_isRemembering yX4_isRemembering, Cond.code yX4_isRemembering cX4_isRemembering 2 (some .boolean), Cond.fieldLink RX4 28 "ChartTable$States" "remembering" "[Z", Cond.methodLink RX6 27 yX4_currentAtFirst, Cond.instanceMethod yX4_currentAtFirst, Cond.selects RX4 yX4_currentAtFirst yX4_currentAtFirst, Cond.code yX4_currentAtFirst cX4_currentAtFirst 2 (some .int), Cond.fieldLink RX4 21 "ChartTable$States" "firstChildren" "[I", Cond.methodLink RX6 83 yX6_makeCurrent, Cond.instanceMethod yX6_makeCurrent, Cond.selects RX6 yX6_makeCurrent yX6_makeCurrent, Cond.code yX6_makeCurrent cX6_makeCurrent 3 none, Cond.methodLink RX6 135 yX3_marks, Cond.instanceMethod yX3_marks, Cond.selects RX3 yX3_marks yX3_marks, Cond.code yX3_marks cX3_marks 1 (some (.object "ChartTable$MarkRows")), Cond.fieldLink RX3 39 "ChartTable$Rules" "marks" "LChartTable$MarkRows;", Cond.methodLink RX6 79 yX4_childToward]
def wsX6_receive_r7 : List Cond := [Cond.instanceMethod yX4_childToward, Cond.selects RX4 yX4_childToward yX4_childToward, Cond.code yX4_childToward cX4_childToward 5 (some .int), Cond.methodLink RX6 37 yX6_enter, Cond.instanceMethod yX6_enter, Cond.selects RX6 yX6_enter yX6_enter, Cond.code yX6_enter cX6_enter 5 none, Cond.methodLink RX6 67 yX4_entering, Cond.instanceMethod yX4_entering, Cond.selects RX4 yX4_entering yX4_entering, Cond.code yX4_entering cX4_entering 1 (some (.object "ChartTable$MarkRows")), Cond.fieldLink RX4 36 "ChartTable$States" "entering" "LChartTable$MarkRows;"]
def wsX6_receive : List Cond := .code yX6_receive cX6_receive 3 none :: ((wsX6_receive_r1 ++ (wsX6_receive_r2 ++ (wsX6_receive_r3 ++ (wsX6_receive_r4 ++ (wsX6_receive_r5 ++ (wsX6_receive_r6 ++ wsX6_receive_r7)))))) ++ wsX60 ++ wsX10 ++ wsX40 ++ wsX30)
def wsX5_build_r1 : List Cond := [Cond.fieldLink RX5 44 "ChartTable$Table" "size" "I", Cond.fieldLink RX5 40 "ChartTable$Table" "walk" "LChartTable$Walk;", Cond.fieldLink RX5 31 "ChartTable$Table" "rules" "LChartTable$Rules;", Cond.fieldLink RX5 24 "ChartTable$Table" "followers" "[I", Cond.fieldLink RX5 48 "ChartTable$Table" "place" "I", Cond.fieldLink RX5 14 "ChartTable$Table" "traces" "LChartTable$MarkRows;", Cond.fieldLink RX5 51 "ChartTable$Table" "marksNoted" "I", Cond.methodLink RX5 54 yX6_start, Cond.instanceMethod yX6_start, Cond.selects RX6 yX6_start yX6_start, Cond.initialized RX6, Cond.code yX6_start cX6_start 3 none, Cond.fieldLink RX6 9 "ChartTable$Walk" "currents" "[I", Cond.fieldLink RX6 15 "ChartTable$Walk" "states" "LChartTable$States;", Cond.methodLink RX6 27 yX4_currentAtFirst, Cond.instanceMethod yX4_currentAtFirst, Cond.selects RX4 yX4_currentAtFirst yX4_currentAtFirst, Cond.initialized RX4, Cond.code yX4_currentAtFirst cX4_currentAtFirst 2 (some .int), Cond.fieldLink RX4 24 "ChartTable$States" "wholes" "[Z", Cond.fieldLink RX4 21 "ChartTable$States" "firstChildren" "[I", Cond.methodLink RX4 51 yX4_isState, Cond.instanceMethod yX4_isState, Cond.selects RX4 yX4_isState yX4_isState]
def wsX5_build_r2 : List Cond := [Cond.code yX4_isState cX4_isState 2 (some .boolean), Cond.fieldLink RX4 43 "ChartTable$States" "made" "I", Cond.methodLink RX6 33 yX6_noteIn, Cond.instanceMethod yX6_noteIn, Cond.selects RX6 yX6_noteIn yX6_noteIn, Cond.code yX6_noteIn cX6_noteIn 2 none, Cond.fieldLink RX6 45 "ChartTable$Walk" "row" "I", Cond.fieldLink RX6 23 "ChartTable$Walk" "traces" "LChartTable$MarkRows;", Cond.methodLink RX6 49 yX1_empty, Cond.instanceMethod yX1_empty, Cond.selects RX1 yX1_empty yX1_empty, Cond.initialized RX1, Cond.code yX1_empty cX1_empty 2 none, Cond.fieldLink RX1 28 "ChartTable$MarkRows" "sizes" "[I", Cond.methodLink RX1 32 yX1_isRow, Cond.instanceMethod yX1_isRow, Cond.selects RX1 yX1_isRow yX1_isRow, Cond.code yX1_isRow cX1_isRow 2 (some .boolean), Cond.fieldLink RX1 15 "ChartTable$MarkRows" "rows" "I", Cond.methodLink RX6 37 yX6_enter, Cond.instanceMethod yX6_enter, Cond.selects RX6 yX6_enter yX6_enter, Cond.code yX6_enter cX6_enter 5 none, Cond.methodLink RX6 64 yX4_isState]
def wsX5_build_r3 : List Cond := [Cond.methodLink RX6 67 yX4_entering, Cond.instanceMethod yX4_entering, Cond.selects RX4 yX4_entering yX4_entering, Cond.code yX4_entering cX4_entering 1 (some (.object "ChartTable$MarkRows")), Cond.fieldLink RX4 36 "ChartTable$States" "entering" "LChartTable$MarkRows;", Cond.methodLink RX6 71 yX1_addRow, Cond.instanceMethod yX1_addRow, Cond.selects RX1 yX1_addRow yX1_addRow, Cond.code yX1_addRow cX1_addRow 7 none, Cond.fieldLink RX1 21 "ChartTable$MarkRows" "most" "I", Cond.methodLink RX1 40 Lib.Math.min.name, Cond.static Lib.Math.min.name, Cond.initialized "java/lang/Math", Cond.code Lib.Math.min.name Lib.Math.min.code 2 (some .int), Cond.fieldLink RX1 24 "ChartTable$MarkRows" "letters" "[C", Cond.methodLink RX6 57 yX4_isWhole, Cond.instanceMethod yX4_isWhole, Cond.selects RX4 yX4_isWhole yX4_isWhole, Cond.code yX4_isWhole cX4_isWhole 2 (some .boolean), Cond.methodLink RX6 75 yX4_made, Cond.instanceMethod yX4_made, Cond.selects RX4 yX4_made yX4_made, Cond.code yX4_made cX4_made 1 (some .int), Cond.methodLink RX6 54 yX4_parentOf]
def wsX5_build_r4 : List Cond := [Cond.instanceMethod yX4_parentOf, Cond.selects RX4 yX4_parentOf yX4_parentOf, Cond.code yX4_parentOf cX4_parentOf 2 (some .int), Cond.fieldLink RX4 15 "ChartTable$States" "parents" "[I", Cond.methodLink RX6 79 yX4_childToward, Cond.instanceMethod yX4_childToward, Cond.selects RX4 yX4_childToward yX4_childToward, Cond.code yX4_childToward cX4_childToward 5 (some .int), Cond.methodLink RX6 83 yX6_makeCurrent, Cond.instanceMethod yX6_makeCurrent, Cond.selects RX6 yX6_makeCurrent yX6_makeCurrent, Cond.code yX6_makeCurrent cX6_makeCurrent 3 none, Cond.methodLink RX6 61 yX6_currentChild, Cond.instanceMethod yX6_currentChild, Cond.selects RX6 yX6_currentChild yX6_currentChild, Cond.code yX6_currentChild cX6_currentChild 2 (some .int), Cond.methodLink RX5 58 yX5_numberOfWalk, Cond.instanceMethod yX5_numberOfWalk, Cond.selects RX5 yX5_numberOfWalk yX5_numberOfWalk, Cond.initialized RX5, Cond.code yX5_numberOfWalk cX5_numberOfWalk 2 (some .int), Cond.fieldLink RX5 20 "ChartTable$Table" "currents" "[I", Cond.methodLink RX5 96 yX5_isWalk, Cond.instanceMethod yX5_isWalk]
def wsX5_build_r5 : List Cond := [Cond.selects RX5 yX5_isWalk yX5_isWalk, Cond.code yX5_isWalk cX5_isWalk 3 (some .boolean), Cond.methodLink RX5 88 yX5_currentChild, Cond.instanceMethod yX5_currentChild, Cond.selects RX5 yX5_currentChild yX5_currentChild, Cond.code yX5_currentChild cX5_currentChild 3 (some .int), Cond.fieldLink RX5 27 "ChartTable$Table" "states" "LChartTable$States;", Cond.methodLink RX5 81 yX5_isConfiguration, Cond.instanceMethod yX5_isConfiguration, Cond.selects RX5 yX5_isConfiguration yX5_isConfiguration, Cond.code yX5_isConfiguration cX5_isConfiguration 2 (some .boolean), Cond.methodLink RX5 102 yX4_isState, Cond.methodLink RX5 94 yX6_currentChild, Cond.methodLink RX5 62 yX3_events, Cond.instanceMethod yX3_events, Cond.selects RX3 yX3_events yX3_events, Cond.initialized RX3, Cond.code yX3_events cX3_events 1 (some .int), Cond.fieldLink RX3 47 "ChartTable$Rules" "events" "I", Cond.methodLink RX5 67 yX5_cellOf, Cond.instanceMethod yX5_cellOf, Cond.selects RX5 yX5_cellOf yX5_cellOf, Cond.code yX5_cellOf cX5_cellOf 3 (some .int), Cond.methodLink RX5 85 yX3_isEvent]
def wsX5_build_r6 : List Cond := [Cond.instanceMethod yX3_isEvent, Cond.selects RX3 yX3_isEvent yX3_isEvent, Cond.code yX3_isEvent cX3_isEvent 2 (some .boolean), Cond.methodLink RX5 71 yX5_setWalk, Cond.instanceMethod yX5_setWalk, Cond.selects RX5 yX5_setWalk yX5_setWalk, Cond.code yX5_setWalk cX5_setWalk 3 none, Cond.methodLink RX5 91 yX6_makeCurrent, Cond.methodLink RX5 74 yX6_receive, Cond.instanceMethod yX6_receive, Cond.selects RX6 yX6_receive yX6_receive, Cond.code yX6_receive cX6_receive 3 none, Cond.methodLink RX6 41 yX6_offer, Cond.instanceMethod yX6_offer, Cond.selects RX6 yX6_offer yX6_offer, Cond.code yX6_offer cX6_offer 6 (some .int), Cond.methodLink RX6 96 Lib.Math.min.name, Cond.methodLink RX6 101 yX6_ownRule, Cond.instanceMethod yX6_ownRule, Cond.selects RX6 yX6_ownRule yX6_ownRule, Cond.code yX6_ownRule cX6_ownRule 4 (some .int), Cond.fieldLink RX6 19 "ChartTable$Walk" "rules" "LChartTable$Rules;", Cond.methodLink RX6 107 yX3_made, Cond.instanceMethod yX3_made]
def wsX5_build_r7 : List Cond := [Cond.selects RX3 yX3_made yX3_made, Cond.code yX3_made cX3_made 1 (some .int), Cond.fieldLink RX3 43 "ChartTable$Rules" "made" "I", Cond.methodLink RX6 110 yX3_isFor, Cond.instanceMethod yX3_isFor, Cond.selects RX3 yX3_isFor yX3_isFor, Cond.code yX3_isFor cX3_isFor 4 (some .boolean), Cond.fieldLink RX3 15 "ChartTable$Rules" "ruleEvents" "[I", Cond.fieldLink RX3 18 "ChartTable$Rules" "froms" "[I", Cond.methodLink RX3 58 yX3_isRule, Cond.instanceMethod yX3_isRule, Cond.selects RX3 yX3_isRule yX3_isRule, Cond.code yX3_isRule cX3_isRule 2 (some .boolean), Cond.methodLink RX6 114 yX3_askedOf, Cond.instanceMethod yX3_askedOf, Cond.selects RX3 yX3_askedOf yX3_askedOf, Cond.code yX3_askedOf cX3_askedOf 2 (some .int), Cond.fieldLink RX3 27 "ChartTable$Rules" "askedStates" "[I", Cond.methodLink RX6 117 yX6_isActive, Cond.instanceMethod yX6_isActive, Cond.selects RX6 yX6_isActive yX6_isActive, Cond.code yX6_isActive cX6_isActive 5 (some .boolean), Cond.methodLink RX6 120 yX3_isWantedActive, Cond.instanceMethod yX3_isWantedActive]
def wsX5_build_r8 : List Cond := [Cond.selects RX3 yX3_isWantedActive yX3_isWantedActive, Cond.code yX3_isWantedActive cX3_isWantedActive 2 (some .boolean), Cond.fieldLink RX3 30 "ChartTable$Rules" "wanted" "[Z", Cond.methodLink RX6 104 yX6_take, Cond.instanceMethod yX6_take, Cond.selects RX6 yX6_take yX6_take, Cond.code yX6_take cX6_take 5 (some .int), Cond.methodLink RX6 123 yX3_isRule, Cond.methodLink RX6 126 yX3_scopeOf, Cond.instanceMethod yX3_scopeOf, Cond.selects RX3 yX3_scopeOf yX3_scopeOf, Cond.code yX3_scopeOf cX3_scopeOf 2 (some .int), Cond.fieldLink RX3 24 "ChartTable$Rules" "scopes" "[I", Cond.methodLink RX6 129 yX3_targetOf, Cond.instanceMethod yX3_targetOf, Cond.selects RX3 yX3_targetOf yX3_targetOf, Cond.code yX3_targetOf cX3_targetOf 2 (some .int), Cond.fieldLink RX3 21 "ChartTable$Rules" "targets" "[I", Cond.methodLink RX6 132 yX4_depthOf, Cond.instanceMethod yX4_depthOf, Cond.selects RX4 yX4_depthOf yX4_depthOf, Cond.code yX4_depthOf cX4_depthOf 2 (some .int), Cond.fieldLink RX4 18 "ChartTable$States" "depths" "[I", Cond.methodLink RX6 87 yX6_leave]
def wsX5_build_r9 : List Cond := [Cond.instanceMethod yX6_leave, Cond.selects RX6 yX6_leave yX6_leave, Cond.code yX6_leave cX6_leave 4 none, Cond.methodLink RX6 90 yX4_leaving, Cond.instanceMethod yX4_leaving, Cond.selects RX4 yX4_leaving yX4_leaving, Cond.code yX4_leaving cX4_leaving 1 (some (.object "ChartTable$MarkRows")), Cond.fieldLink RX4 40 "ChartTable$States" "leaving" "LChartTable$MarkRows;", Cond.methodLink RX6 93 yX4_isRemembering, Cond.instanceMethod yX4_isRemembering, Cond.selects RX4 yX4_isRemembering yX4_isRemembering, Cond.code yX4_isRemembering cX4_isRemembering 2 (some .boolean), Cond.fieldLink RX4 28 "ChartTable$States" "remembering" "[Z", Cond.methodLink RX6 135 yX3_marks, Cond.instanceMethod yX3_marks, Cond.selects RX3 yX3_marks yX3_marks, Cond.code yX3_marks cX3_marks 1 (some (.object "ChartTable$MarkRows")), Cond.fieldLink RX3 39 "ChartTable$Rules" "marks" "LChartTable$MarkRows;", Cond.methodLink RX5 77 yX1_sizeOf, Cond.instanceMethod yX1_sizeOf, Cond.selects RX1 yX1_sizeOf yX1_sizeOf, Cond.code yX1_sizeOf cX1_sizeOf 2 (some .int)]
def wsX5_build : List Cond := .code yX5_build cX5_build 5 (some .boolean) :: ((wsX5_build_r1 ++ (wsX5_build_r2 ++ (wsX5_build_r3 ++ (wsX5_build_r4 ++ (wsX5_build_r5 ++ (wsX5_build_r6 ++ (wsX5_build_r7 ++ (wsX5_build_r8 ++ wsX5_build_r9)))))))) ++ wsX50 ++ wsX60 ++ wsX40 ++ wsX10 ++ wsX30)
def wsX5_following : List Cond := .code yX5_following cX5_following 4 (some .int) :: ([.fieldLink RX5 24 "ChartTable$Table" "followers" "[I", .methodLink RX5 67 yX5_cellOf, .instanceMethod yX5_cellOf, .selects RX5 yX5_cellOf yX5_cellOf, .initialized RX5, .code yX5_cellOf cX5_cellOf 3 (some .int), .fieldLink RX5 31 "ChartTable$Table" "rules" "LChartTable$Rules;", .methodLink RX5 81 yX5_isConfiguration, .instanceMethod yX5_isConfiguration, .selects RX5 yX5_isConfiguration yX5_isConfiguration, .code yX5_isConfiguration cX5_isConfiguration 2 (some .boolean), .fieldLink RX5 44 "ChartTable$Table" "size" "I", .methodLink RX5 85 yX3_isEvent, .instanceMethod yX3_isEvent, .selects RX3 yX3_isEvent yX3_isEvent, .initialized RX3, .code yX3_isEvent cX3_isEvent 2 (some .boolean), .fieldLink RX3 47 "ChartTable$Rules" "events" "I"] ++ wsX50 ++ wsX30)
def wsX5_traceLetter_r1 : List Cond := [Cond.fieldLink RX5 44 "ChartTable$Table" "size" "I", Cond.fieldLink RX5 14 "ChartTable$Table" "traces" "LChartTable$MarkRows;", Cond.methodLink RX5 67 yX5_cellOf, Cond.instanceMethod yX5_cellOf, Cond.selects RX5 yX5_cellOf yX5_cellOf, Cond.initialized RX5, Cond.code yX5_cellOf cX5_cellOf 3 (some .int), Cond.fieldLink RX5 31 "ChartTable$Table" "rules" "LChartTable$Rules;", Cond.methodLink RX5 81 yX5_isConfiguration, Cond.instanceMethod yX5_isConfiguration, Cond.selects RX5 yX5_isConfiguration yX5_isConfiguration, Cond.code yX5_isConfiguration cX5_isConfiguration 2 (some .boolean), Cond.methodLink RX5 85 yX3_isEvent, Cond.instanceMethod yX3_isEvent, Cond.selects RX3 yX3_isEvent yX3_isEvent, Cond.initialized RX3, Cond.code yX3_isEvent cX3_isEvent 2 (some .boolean), Cond.fieldLink RX3 47 "ChartTable$Rules" "events" "I", Cond.methodLink RX5 99 yX1_letterAt, Cond.instanceMethod yX1_letterAt, Cond.selects RX1 yX1_letterAt yX1_letterAt, Cond.initialized RX1, Cond.code yX1_letterAt cX1_letterAt 3 (some .int), Cond.fieldLink RX1 24 "ChartTable$MarkRows" "letters" "[C"]
def wsX5_traceLetter_r2 : List Cond := [Cond.fieldLink RX1 21 "ChartTable$MarkRows" "most" "I", Cond.methodLink RX1 36 yX1_sizeOf, Cond.instanceMethod yX1_sizeOf, Cond.selects RX1 yX1_sizeOf yX1_sizeOf, Cond.code yX1_sizeOf cX1_sizeOf 2 (some .int), Cond.fieldLink RX1 28 "ChartTable$MarkRows" "sizes" "[I", Cond.methodLink RX1 32 yX1_isRow, Cond.instanceMethod yX1_isRow, Cond.selects RX1 yX1_isRow yX1_isRow, Cond.code yX1_isRow cX1_isRow 2 (some .boolean), Cond.fieldLink RX1 15 "ChartTable$MarkRows" "rows" "I"]
def wsX5_traceLetter : List Cond := .code yX5_traceLetter cX5_traceLetter 5 (some .int) :: ((wsX5_traceLetter_r1 ++ wsX5_traceLetter_r2) ++ wsX50 ++ wsX30 ++ wsX10)
def wsX5_isActive_r1 : List Cond := [Cond.fieldLink RX5 27 "ChartTable$Table" "states" "LChartTable$States;", Cond.fieldLink RX5 40 "ChartTable$Table" "walk" "LChartTable$Walk;", Cond.methodLink RX5 81 yX5_isConfiguration, Cond.instanceMethod yX5_isConfiguration, Cond.selects RX5 yX5_isConfiguration yX5_isConfiguration, Cond.initialized RX5, Cond.code yX5_isConfiguration cX5_isConfiguration 2 (some .boolean), Cond.fieldLink RX5 44 "ChartTable$Table" "size" "I", Cond.methodLink RX5 102 yX4_isState, Cond.instanceMethod yX4_isState, Cond.selects RX4 yX4_isState yX4_isState, Cond.initialized RX4, Cond.code yX4_isState cX4_isState 2 (some .boolean), Cond.fieldLink RX4 43 "ChartTable$States" "made" "I", Cond.methodLink RX5 71 yX5_setWalk, Cond.instanceMethod yX5_setWalk, Cond.selects RX5 yX5_setWalk yX5_setWalk, Cond.code yX5_setWalk cX5_setWalk 3 none, Cond.methodLink RX5 88 yX5_currentChild, Cond.instanceMethod yX5_currentChild, Cond.selects RX5 yX5_currentChild yX5_currentChild, Cond.code yX5_currentChild cX5_currentChild 3 (some .int), Cond.fieldLink RX5 20 "ChartTable$Table" "currents" "[I", Cond.methodLink RX5 91 yX6_makeCurrent]
def wsX5_isActive_r2 : List Cond := [Cond.instanceMethod yX6_makeCurrent, Cond.selects RX6 yX6_makeCurrent yX6_makeCurrent, Cond.initialized RX6, Cond.code yX6_makeCurrent cX6_makeCurrent 3 none, Cond.fieldLink RX6 9 "ChartTable$Walk" "currents" "[I", Cond.methodLink RX5 107 yX6_isActive, Cond.instanceMethod yX6_isActive, Cond.selects RX6 yX6_isActive yX6_isActive, Cond.code yX6_isActive cX6_isActive 5 (some .boolean), Cond.fieldLink RX6 15 "ChartTable$Walk" "states" "LChartTable$States;", Cond.methodLink RX6 54 yX4_parentOf, Cond.instanceMethod yX4_parentOf, Cond.selects RX4 yX4_parentOf yX4_parentOf, Cond.code yX4_parentOf cX4_parentOf 2 (some .int), Cond.fieldLink RX4 15 "ChartTable$States" "parents" "[I", Cond.methodLink RX4 51 yX4_isState, Cond.methodLink RX6 57 yX4_isWhole, Cond.instanceMethod yX4_isWhole, Cond.selects RX4 yX4_isWhole yX4_isWhole, Cond.code yX4_isWhole cX4_isWhole 2 (some .boolean), Cond.fieldLink RX4 24 "ChartTable$States" "wholes" "[Z", Cond.methodLink RX6 61 yX6_currentChild, Cond.instanceMethod yX6_currentChild, Cond.selects RX6 yX6_currentChild yX6_currentChild]
def wsX5_isActive_r3 : List Cond := [Cond.code yX6_currentChild cX6_currentChild 2 (some .int)]
def wsX5_isActive : List Cond := .code yX5_isActive cX5_isActive 3 (some .boolean) :: ((wsX5_isActive_r1 ++ (wsX5_isActive_r2 ++ wsX5_isActive_r3)) ++ wsX50 ++ wsX40 ++ wsX60)
def wsX5_step_r1 : List Cond := [Cond.fieldLink RX5 48 "ChartTable$Table" "place" "I", Cond.fieldLink RX5 24 "ChartTable$Table" "followers" "[I", Cond.fieldLink RX5 51 "ChartTable$Table" "marksNoted" "I", Cond.fieldLink RX5 14 "ChartTable$Table" "traces" "LChartTable$MarkRows;", Cond.methodLink RX5 67 yX5_cellOf, Cond.instanceMethod yX5_cellOf, Cond.selects RX5 yX5_cellOf yX5_cellOf, Cond.initialized RX5, Cond.code yX5_cellOf cX5_cellOf 3 (some .int), Cond.fieldLink RX5 31 "ChartTable$Table" "rules" "LChartTable$Rules;", Cond.methodLink RX5 81 yX5_isConfiguration, Cond.instanceMethod yX5_isConfiguration, Cond.selects RX5 yX5_isConfiguration yX5_isConfiguration, Cond.code yX5_isConfiguration cX5_isConfiguration 2 (some .boolean), Cond.fieldLink RX5 44 "ChartTable$Table" "size" "I", Cond.methodLink RX5 85 yX3_isEvent, Cond.instanceMethod yX3_isEvent, Cond.selects RX3 yX3_isEvent yX3_isEvent, Cond.initialized RX3, Cond.code yX3_isEvent cX3_isEvent 2 (some .boolean), Cond.fieldLink RX3 47 "ChartTable$Rules" "events" "I", Cond.methodLink RX5 77 yX1_sizeOf, Cond.instanceMethod yX1_sizeOf, Cond.selects RX1 yX1_sizeOf yX1_sizeOf]
def wsX5_step_r2 : List Cond := [Cond.initialized RX1, Cond.code yX1_sizeOf cX1_sizeOf 2 (some .int), Cond.fieldLink RX1 28 "ChartTable$MarkRows" "sizes" "[I", Cond.methodLink RX1 32 yX1_isRow, Cond.instanceMethod yX1_isRow, Cond.selects RX1 yX1_isRow yX1_isRow, Cond.code yX1_isRow cX1_isRow 2 (some .boolean), Cond.fieldLink RX1 15 "ChartTable$MarkRows" "rows" "I"]
def wsX5_step : List Cond := .code yX5_step cX5_step 3 (some .int) :: ((wsX5_step_r1 ++ wsX5_step_r2) ++ wsX50 ++ wsX30 ++ wsX10)
def wsX7_init_r1 : List Cond := [Cond.methodLink RX7 3 objectInit, Cond.instanceMethod objectInit, Cond.code objectInit ⟨#[0xb1]⟩ 1 none, Cond.classLink RX7 9 RX0, Cond.instantiable RX0 5, Cond.initialized RX0, Cond.fieldLink RX7 12 "ChartTable" "text" "LChartTable$Line;", Cond.classLink RX7 16 RX4, Cond.instantiable RX4 9, Cond.initialized RX4, Cond.fieldLink RX7 19 "ChartTable" "states" "LChartTable$States;", Cond.classLink RX7 23 RX3, Cond.instantiable RX3 10, Cond.initialized RX3, Cond.fieldLink RX7 26 "ChartTable" "rules" "LChartTable$Rules;", Cond.classLink RX7 30 RX2, Cond.instantiable RX2 3, Cond.initialized RX2, Cond.fieldLink RX7 35 "ChartTable" "reader" "LChartTable$Reader;", Cond.classLink RX7 39 RX5, Cond.instantiable RX5 9, Cond.initialized RX5, Cond.fieldLink RX7 44 "ChartTable" "table" "LChartTable$Table;", Cond.instanceMethod yX0_init]
def wsX7_init_r2 : List Cond := [Cond.code yX0_init cX0_init 1 none, Cond.methodLink RX0 3 objectInit, Cond.arrayClass .char, Cond.fieldLink RX0 9 "ChartTable$Line" "characters" "[C", Cond.arrayClass .int, Cond.fieldLink RX0 15 "ChartTable$Line" "starts" "[I", Cond.fieldLink RX0 19 "ChartTable$Line" "ends" "[I", Cond.methodLink RX7 18 yX4_init, Cond.instanceMethod yX4_init, Cond.code yX4_init cX4_init 1 none, Cond.methodLink RX4 3 objectInit, Cond.fieldLink RX4 9 "ChartTable$States" "names" "[I", Cond.fieldLink RX4 15 "ChartTable$States" "parents" "[I", Cond.fieldLink RX4 18 "ChartTable$States" "depths" "[I", Cond.fieldLink RX4 21 "ChartTable$States" "firstChildren" "[I", Cond.arrayClass .boolean, Cond.fieldLink RX4 24 "ChartTable$States" "wholes" "[Z", Cond.fieldLink RX4 28 "ChartTable$States" "remembering" "[Z", Cond.classLink RX4 31 RX1, Cond.instantiable RX1 4, Cond.initialized RX1, Cond.fieldLink RX4 36 "ChartTable$States" "entering" "LChartTable$MarkRows;", Cond.fieldLink RX4 40 "ChartTable$States" "leaving" "LChartTable$MarkRows;", Cond.fieldLink RX4 43 "ChartTable$States" "made" "I"]
def wsX7_init_r3 : List Cond := [Cond.methodLink RX4 33 yX1_init, Cond.instanceMethod yX1_init, Cond.code yX1_init cX1_init 3 none, Cond.methodLink RX1 3 objectInit, Cond.methodLink RX1 9 Lib.Math.max.name, Cond.static Lib.Math.max.name, Cond.initialized "java/lang/Math", Cond.code Lib.Math.max.name Lib.Math.max.code 2 (some .int), Cond.fieldLink RX1 15 "ChartTable$MarkRows" "rows" "I", Cond.fieldLink RX1 21 "ChartTable$MarkRows" "most" "I", Cond.fieldLink RX1 24 "ChartTable$MarkRows" "letters" "[C", Cond.fieldLink RX1 28 "ChartTable$MarkRows" "sizes" "[I", Cond.instanceMethod yX3_init, Cond.code yX3_init cX3_init 1 none, Cond.methodLink RX3 3 objectInit, Cond.fieldLink RX3 9 "ChartTable$Rules" "eventNames" "[I", Cond.fieldLink RX3 15 "ChartTable$Rules" "ruleEvents" "[I", Cond.fieldLink RX3 18 "ChartTable$Rules" "froms" "[I", Cond.fieldLink RX3 21 "ChartTable$Rules" "targets" "[I", Cond.fieldLink RX3 24 "ChartTable$Rules" "scopes" "[I", Cond.fieldLink RX3 27 "ChartTable$Rules" "askedStates" "[I", Cond.fieldLink RX3 30 "ChartTable$Rules" "wanted" "[Z", Cond.classLink RX3 34 RX1, Cond.fieldLink RX3 39 "ChartTable$Rules" "marks" "LChartTable$MarkRows;"]
def wsX7_init_r4 : List Cond := [Cond.methodLink RX3 36 yX1_init, Cond.methodLink RX7 32 yX2_init, Cond.instanceMethod yX2_init, Cond.code yX2_init cX2_init 4 none, Cond.methodLink RX2 3 objectInit, Cond.fieldLink RX2 9 "ChartTable$Reader" "text" "LChartTable$Line;", Cond.fieldLink RX2 15 "ChartTable$Reader" "states" "LChartTable$States;", Cond.fieldLink RX2 19 "ChartTable$Reader" "rules" "LChartTable$Rules;", Cond.methodLink RX7 41 yX5_init, Cond.instanceMethod yX5_init, Cond.code yX5_init cX5_init 3 none, Cond.methodLink RX5 3 objectInit, Cond.classLink RX5 9 RX1, Cond.fieldLink RX5 14 "ChartTable$Table" "traces" "LChartTable$MarkRows;", Cond.fieldLink RX5 20 "ChartTable$Table" "currents" "[I", Cond.fieldLink RX5 24 "ChartTable$Table" "followers" "[I", Cond.fieldLink RX5 27 "ChartTable$Table" "states" "LChartTable$States;", Cond.fieldLink RX5 31 "ChartTable$Table" "rules" "LChartTable$Rules;", Cond.classLink RX5 35 RX6, Cond.instantiable RX6 5, Cond.initialized RX6, Cond.fieldLink RX5 40 "ChartTable$Table" "walk" "LChartTable$Walk;", Cond.methodLink RX5 11 yX1_init, Cond.methodLink RX5 37 yX6_init]
def wsX7_init_r5 : List Cond := [Cond.instanceMethod yX6_init, Cond.code yX6_init cX6_init 4 none, Cond.methodLink RX6 3 objectInit, Cond.fieldLink RX6 9 "ChartTable$Walk" "currents" "[I", Cond.fieldLink RX6 15 "ChartTable$Walk" "states" "LChartTable$States;", Cond.fieldLink RX6 19 "ChartTable$Walk" "rules" "LChartTable$Rules;", Cond.fieldLink RX6 23 "ChartTable$Walk" "traces" "LChartTable$MarkRows;"]
def wsX7_init : List Cond := .code yX7_init cX7_init 1 none :: ((wsX7_init_r1 ++ (wsX7_init_r2 ++ (wsX7_init_r3 ++ (wsX7_init_r4 ++ wsX7_init_r5)))) ++ wsX00 ++ wsX70 ++ wsX40 ++ wsX30 ++ wsX20 ++ wsX50 ++ wsX10 ++ wsX60)
def wsX7_write : List Cond := .code yX7_write cX7_write 2 (some .boolean) :: ([.fieldLink RX7 12 "ChartTable" "text" "LChartTable$Line;", .methodLink RX7 48 yX0_append, .instanceMethod yX0_append, .selects RX0 yX0_append yX0_append, .initialized RX0, .code yX0_append cX0_append 2 (some .boolean), .fieldLink RX0 22 "ChartTable$Line" "length" "I", .fieldLink RX0 9 "ChartTable$Line" "characters" "[C"] ++ wsX70 ++ wsX00)
def wsX7_line_r1 : List Cond := [Cond.classLink RX7 56 "java/lang/IllegalArgumentException", Cond.initialized "java/lang/IllegalArgumentException", Cond.classLink RX7 63 "java/lang/IllegalStateException", Cond.initialized "java/lang/IllegalStateException", Cond.fieldLink RX7 35 "ChartTable" "reader" "LChartTable$Reader;", Cond.fieldLink RX7 44 "ChartTable" "table" "LChartTable$Table;", Cond.methodLink RX7 52 yX2_read, Cond.instanceMethod yX2_read, Cond.selects RX2 yX2_read yX2_read, Cond.initialized RX2, Cond.code yX2_read cX2_read 1 (some .int), Cond.fieldLink RX2 9 "ChartTable$Reader" "text" "LChartTable$Line;", Cond.fieldLink RX2 15 "ChartTable$Reader" "states" "LChartTable$States;", Cond.methodLink RX2 23 yX0_split, Cond.instanceMethod yX0_split, Cond.selects RX0 yX0_split yX0_split, Cond.initialized RX0, Cond.code yX0_split cX0_split 4 none, Cond.fieldLink RX0 26 "ChartTable$Line" "words" "I", Cond.fieldLink RX0 22 "ChartTable$Line" "length" "I", Cond.fieldLink RX0 9 "ChartTable$Line" "characters" "[C", Cond.fieldLink RX0 15 "ChartTable$Line" "starts" "[I", Cond.fieldLink RX0 19 "ChartTable$Line" "ends" "[I", Cond.methodLink RX2 28 yX0_words]
def wsX7_line_r2 : List Cond := [Cond.instanceMethod yX0_words, Cond.selects RX0 yX0_words yX0_words, Cond.code yX0_words cX0_words 1 (some .int), Cond.methodLink RX2 34 yX0_says, Cond.instanceMethod yX0_says, Cond.selects RX0 yX0_says yX0_says, Cond.code yX0_says cX0_says 4 (some .boolean), Cond.methodLink RX0 29 yX0_sizeOf, Cond.instanceMethod yX0_sizeOf, Cond.selects RX0 yX0_sizeOf yX0_sizeOf, Cond.code yX0_sizeOf cX0_sizeOf 2 (some .int), Cond.methodLink RX0 33 yJ0_length_8abf5, Cond.instanceMethod yJ0_length_8abf5, Cond.selects RJ0 yJ0_length_8abf5 yJ0_length_8abf5, Cond.initialized RJ0, Cond.code yJ0_length_8abf5 cJ0_length_8abf5 1 (some .int), Cond.fieldLink RJ0 9 "java/lang/String" "value" "[B", Cond.methodLink RJ0 335 yJ0_coder_7d493, Cond.instanceMethod yJ0_coder_7d493, Cond.selects RJ0 yJ0_coder_7d493 yJ0_coder_7d493, Cond.code yJ0_coder_7d493 cJ0_coder_7d493 1 (some .byte), Cond.fieldLink RJ0 38 "java/lang/String" "COMPACT_STRINGS" "Z", Cond.fieldLink RJ0 15 "java/lang/String" "coder" "B", Cond.methodLink RX0 38 yX0_letterAt]
def wsX7_line_r3 : List Cond := [Cond.instanceMethod yX0_letterAt, Cond.selects RX0 yX0_letterAt yX0_letterAt, Cond.code yX0_letterAt cX0_letterAt 3 (some .char), Cond.methodLink RX0 42 yJ0_charAt_5068e, Cond.instanceMethod yJ0_charAt_5068e, Cond.selects RJ0 yJ0_charAt_5068e yJ0_charAt_5068e, Cond.code yJ0_charAt_5068e cJ0_charAt_5068e 2 (some .char), Cond.methodLink RJ0 492 yJ0_isLatin1_aae02, Cond.instanceMethod yJ0_isLatin1_aae02, Cond.selects RJ0 yJ0_isLatin1_aae02 yJ0_isLatin1_aae02, Cond.code yJ0_isLatin1_aae02 cJ0_isLatin1_aae02 1 (some .boolean), Cond.methodLink RJ0 495 yJ1_charAt_3b067, Cond.static yJ1_charAt_3b067, Cond.initialized RJ1, Cond.code yJ1_charAt_3b067 cJ1_charAt_3b067 2 (some .char), Cond.methodLink RJ1 9 yJ0_checkIndex_df160, Cond.static yJ0_checkIndex_df160, Cond.code yJ0_checkIndex_df160 cJ0_checkIndex_df160 2 none, Cond.fieldLink RJ0 1053 "jdk/internal/util/Preconditions" "SIOOBE_FORMATTER" "Ljava/util/function/BiFunction;", Cond.methodLink RJ0 1059 yJ3_checkIndex_8e157, Cond.static yJ3_checkIndex_8e157, Cond.initialized RJ3, Cond.code yJ3_checkIndex_8e157 cJ3_checkIndex_8e157 3 (some .int), Cond.methodLink RJ0 498 yJ2_charAt_3b067]
def wsX7_line_r4 : List Cond := [Cond.static yJ2_charAt_3b067, Cond.initialized RJ2, Cond.code yJ2_charAt_3b067 cJ2_charAt_3b067 2 (some .char), Cond.methodLink RJ2 67 yJ2_checkIndex_2214a, Cond.static yJ2_checkIndex_2214a, Cond.code yJ2_checkIndex_2214a cJ2_checkIndex_2214a 2 none, Cond.methodLink RJ2 48 yJ2_length_9d52b, Cond.static yJ2_length_9d52b, Cond.code yJ2_length_9d52b cJ2_length_9d52b 1 (some .int), Cond.methodLink RJ2 414 yJ0_checkIndex_df160, Cond.methodLink RJ2 71 yJ2_getChar_3b067, Cond.static yJ2_getChar_3b067, Cond.code yJ2_getChar_3b067 cJ2_getChar_3b067 2 (some .char), Cond.fieldLink RJ2 44 "java/lang/StringUTF16" "$assertionsDisabled" "Z", Cond.fieldLink RJ2 59 "java/lang/StringUTF16" "HI_BYTE_SHIFT" "I", Cond.fieldLink RJ2 63 "java/lang/StringUTF16" "LO_BYTE_SHIFT" "I", Cond.methodLink RX2 38 yX2_readState, Cond.instanceMethod yX2_readState, Cond.selects RX2 yX2_readState yX2_readState, Cond.code yX2_readState cX2_readState 5 (some .int), Cond.methodLink RX2 69 yX0_nameAt, Cond.instanceMethod yX0_nameAt, Cond.selects RX0 yX0_nameAt yX0_nameAt, Cond.code yX0_nameAt cX0_nameAt 5 (some .int)]
def wsX7_line_r5 : List Cond := [Cond.methodLink RX0 46 yX0_isLetters, Cond.instanceMethod yX0_isLetters, Cond.selects RX0 yX0_isLetters yX0_isLetters, Cond.code yX0_isLetters cX0_isLetters 6 (some .boolean), Cond.methodLink RX2 73 yX4_find, Cond.instanceMethod yX4_find, Cond.selects RX4 yX4_find yX4_find, Cond.initialized RX4, Cond.code yX4_find cX4_find 3 (some .int), Cond.fieldLink RX4 43 "ChartTable$States" "made" "I", Cond.fieldLink RX4 9 "ChartTable$States" "names" "[I", Cond.methodLink RX2 76 yX4_depthOf, Cond.instanceMethod yX4_depthOf, Cond.selects RX4 yX4_depthOf yX4_depthOf, Cond.code yX4_depthOf cX4_depthOf 2 (some .int), Cond.fieldLink RX4 18 "ChartTable$States" "depths" "[I", Cond.methodLink RX4 51 yX4_isState, Cond.instanceMethod yX4_isState, Cond.selects RX4 yX4_isState yX4_isState, Cond.code yX4_isState cX4_isState 2 (some .boolean), Cond.methodLink RX2 79 yX4_isFull, Cond.instanceMethod yX4_isFull, Cond.selects RX4 yX4_isFull yX4_isFull, Cond.code yX4_isFull cX4_isFull 1 (some .boolean)]
def wsX7_line_r6 : List Cond := [Cond.methodLink RX2 83 yX4_make, Cond.instanceMethod yX4_make, Cond.selects RX4 yX4_make yX4_make, Cond.code yX4_make cX4_make 5 none, Cond.fieldLink RX4 15 "ChartTable$States" "parents" "[I", Cond.fieldLink RX4 21 "ChartTable$States" "firstChildren" "[I", Cond.fieldLink RX4 24 "ChartTable$States" "wholes" "[Z", Cond.fieldLink RX4 28 "ChartTable$States" "remembering" "[Z", Cond.methodLink RX4 47 yX4_isFull, Cond.methodLink RX2 43 yX4_entering, Cond.instanceMethod yX4_entering, Cond.selects RX4 yX4_entering yX4_entering, Cond.code yX4_entering cX4_entering 1 (some (.object "ChartTable$MarkRows")), Cond.fieldLink RX4 36 "ChartTable$States" "entering" "LChartTable$MarkRows;", Cond.methodLink RX2 49 yX2_readMarks, Cond.instanceMethod yX2_readMarks, Cond.selects RX2 yX2_readMarks yX2_readMarks, Cond.code yX2_readMarks cX2_readMarks 3 (some .int), Cond.methodLink RX2 87 yX0_isLetters, Cond.methodLink RX2 91 yX0_sizeOf, Cond.methodLink RX2 94 yX1_hasRoom, Cond.instanceMethod yX1_hasRoom, Cond.selects RX1 yX1_hasRoom yX1_hasRoom, Cond.initialized RX1]
def wsX7_line_r7 : List Cond := [Cond.code yX1_hasRoom cX1_hasRoom 3 (some .boolean), Cond.fieldLink RX1 21 "ChartTable$MarkRows" "most" "I", Cond.fieldLink RX1 28 "ChartTable$MarkRows" "sizes" "[I", Cond.methodLink RX1 32 yX1_isRow, Cond.instanceMethod yX1_isRow, Cond.selects RX1 yX1_isRow yX1_isRow, Cond.code yX1_isRow cX1_isRow 2 (some .boolean), Cond.fieldLink RX1 15 "ChartTable$MarkRows" "rows" "I", Cond.methodLink RX2 99 yX2_addMarks, Cond.instanceMethod yX2_addMarks, Cond.selects RX2 yX2_addMarks yX2_addMarks, Cond.code yX2_addMarks cX2_addMarks 6 none, Cond.methodLink RX2 134 yX0_letterAt, Cond.methodLink RX2 138 yX1_add, Cond.instanceMethod yX1_add, Cond.selects RX1 yX1_add yX1_add, Cond.code yX1_add cX1_add 3 none, Cond.fieldLink RX1 24 "ChartTable$MarkRows" "letters" "[C", Cond.methodLink RX2 55 yX4_leaving, Cond.instanceMethod yX4_leaving, Cond.selects RX4 yX4_leaving yX4_leaving, Cond.code yX4_leaving cX4_leaving 1 (some (.object "ChartTable$MarkRows")), Cond.fieldLink RX4 40 "ChartTable$States" "leaving" "LChartTable$MarkRows;", Cond.methodLink RX2 60 yX2_readRule]
def wsX7_line_r8 : List Cond := [Cond.instanceMethod yX2_readRule, Cond.selects RX2 yX2_readRule yX2_readRule, Cond.code yX2_readRule cX2_readRule 8 (some .int), Cond.fieldLink RX2 19 "ChartTable$Reader" "rules" "LChartTable$Rules;", Cond.methodLink RX2 111 yX2_isEndOfRule, Cond.instanceMethod yX2_isEndOfRule, Cond.selects RX2 yX2_isEndOfRule yX2_isEndOfRule, Cond.code yX2_isEndOfRule cX2_isEndOfRule 2 (some .boolean), Cond.methodLink RX2 115 yX3_hasRoom, Cond.instanceMethod yX3_hasRoom, Cond.selects RX3 yX3_hasRoom yX3_hasRoom, Cond.initialized RX3, Cond.code yX3_hasRoom cX3_hasRoom 2 (some .boolean), Cond.fieldLink RX3 43 "ChartTable$Rules" "made" "I", Cond.fieldLink RX3 47 "ChartTable$Rules" "events" "I", Cond.methodLink RX3 50 yX3_findEvent, Cond.instanceMethod yX3_findEvent, Cond.selects RX3 yX3_findEvent yX3_findEvent, Cond.code yX3_findEvent cX3_findEvent 3 (some .int), Cond.fieldLink RX3 9 "ChartTable$Rules" "eventNames" "[I", Cond.methodLink RX2 119 yX4_scopeOf, Cond.instanceMethod yX4_scopeOf, Cond.selects RX4 yX4_scopeOf yX4_scopeOf, Cond.code yX4_scopeOf cX4_scopeOf 5 (some .int)]
def wsX7_line_r9 : List Cond := [Cond.methodLink RX4 55 yX4_parentOf, Cond.instanceMethod yX4_parentOf, Cond.selects RX4 yX4_parentOf yX4_parentOf, Cond.code yX4_parentOf cX4_parentOf 2 (some .int), Cond.methodLink RX4 59 yX4_isWhole, Cond.instanceMethod yX4_isWhole, Cond.selects RX4 yX4_isWhole yX4_isWhole, Cond.code yX4_isWhole cX4_isWhole 2 (some .boolean), Cond.methodLink RX4 62 yX4_childToward, Cond.instanceMethod yX4_childToward, Cond.selects RX4 yX4_childToward yX4_childToward, Cond.code yX4_childToward cX4_childToward 5 (some .int), Cond.methodLink RX2 123 yX3_make, Cond.instanceMethod yX3_make, Cond.selects RX3 yX3_make yX3_make, Cond.code yX3_make cX3_make 8 none, Cond.fieldLink RX3 15 "ChartTable$Rules" "ruleEvents" "[I", Cond.fieldLink RX3 18 "ChartTable$Rules" "froms" "[I", Cond.fieldLink RX3 21 "ChartTable$Rules" "targets" "[I", Cond.fieldLink RX3 24 "ChartTable$Rules" "scopes" "[I", Cond.fieldLink RX3 27 "ChartTable$Rules" "askedStates" "[I", Cond.fieldLink RX3 30 "ChartTable$Rules" "wanted" "[Z", Cond.methodLink RX3 54 yX3_hasRoom, Cond.methodLink RX2 126 yX3_marks]
def wsX7_line_r10 : List Cond := [Cond.instanceMethod yX3_marks, Cond.selects RX3 yX3_marks yX3_marks, Cond.code yX3_marks cX3_marks 1 (some (.object "ChartTable$MarkRows")), Cond.fieldLink RX3 39 "ChartTable$Rules" "marks" "LChartTable$MarkRows;", Cond.methodLink RX2 129 yX3_made, Cond.instanceMethod yX3_made, Cond.selects RX3 yX3_made yX3_made, Cond.code yX3_made cX3_made 1 (some .int), Cond.methodLink RX7 68 yX5_drop, Cond.instanceMethod yX5_drop, Cond.selects RX5 yX5_drop yX5_drop, Cond.initialized RX5, Cond.code yX5_drop cX5_drop 1 none, Cond.fieldLink RX5 44 "ChartTable$Table" "size" "I"]
def wsX7_line : List Cond := .code yX7_line cX7_line 2 (some .int) :: ((wsX7_line_r1 ++ (wsX7_line_r2 ++ (wsX7_line_r3 ++ (wsX7_line_r4 ++ (wsX7_line_r5 ++ (wsX7_line_r6 ++ (wsX7_line_r7 ++ (wsX7_line_r8 ++ (wsX7_line_r9 ++ wsX7_line_r10))))))))) ++ wsX70 ++ wsX20 ++ wsX00 ++ wsX40 ++ wsX10 ++ wsX30 ++ wsX50 ++ (vx_atS RX7 60 "java/lang/IllegalArgumentException" ["java/lang/RuntimeException", "java/lang/Exception"]).filter goodWord ++ (vx_atS RX7 67 "java/lang/IllegalStateException" ["java/lang/RuntimeException", "java/lang/Exception"]).filter goodWord)
def wsX7_compile_r1 : List Cond := [Cond.classLink RX7 63 "java/lang/IllegalStateException", Cond.initialized "java/lang/IllegalStateException", Cond.fieldLink RX7 44 "ChartTable" "table" "LChartTable$Table;", Cond.methodLink RX7 71 yX5_build, Cond.instanceMethod yX5_build, Cond.selects RX5 yX5_build yX5_build, Cond.initialized RX5, Cond.code yX5_build cX5_build 5 (some .boolean), Cond.fieldLink RX5 44 "ChartTable$Table" "size" "I", Cond.fieldLink RX5 40 "ChartTable$Table" "walk" "LChartTable$Walk;", Cond.fieldLink RX5 31 "ChartTable$Table" "rules" "LChartTable$Rules;", Cond.fieldLink RX5 24 "ChartTable$Table" "followers" "[I", Cond.fieldLink RX5 48 "ChartTable$Table" "place" "I", Cond.fieldLink RX5 14 "ChartTable$Table" "traces" "LChartTable$MarkRows;", Cond.fieldLink RX5 51 "ChartTable$Table" "marksNoted" "I", Cond.methodLink RX5 54 yX6_start, Cond.instanceMethod yX6_start, Cond.selects RX6 yX6_start yX6_start, Cond.initialized RX6, Cond.code yX6_start cX6_start 3 none, Cond.fieldLink RX6 9 "ChartTable$Walk" "currents" "[I", Cond.fieldLink RX6 15 "ChartTable$Walk" "states" "LChartTable$States;", Cond.methodLink RX6 27 yX4_currentAtFirst, Cond.instanceMethod yX4_currentAtFirst]
def wsX7_compile_r2 : List Cond := [Cond.selects RX4 yX4_currentAtFirst yX4_currentAtFirst, Cond.initialized RX4, Cond.code yX4_currentAtFirst cX4_currentAtFirst 2 (some .int), Cond.fieldLink RX4 24 "ChartTable$States" "wholes" "[Z", Cond.fieldLink RX4 21 "ChartTable$States" "firstChildren" "[I", Cond.methodLink RX4 51 yX4_isState, Cond.instanceMethod yX4_isState, Cond.selects RX4 yX4_isState yX4_isState, Cond.code yX4_isState cX4_isState 2 (some .boolean), Cond.fieldLink RX4 43 "ChartTable$States" "made" "I", Cond.methodLink RX6 33 yX6_noteIn, Cond.instanceMethod yX6_noteIn, Cond.selects RX6 yX6_noteIn yX6_noteIn, Cond.code yX6_noteIn cX6_noteIn 2 none, Cond.fieldLink RX6 45 "ChartTable$Walk" "row" "I", Cond.fieldLink RX6 23 "ChartTable$Walk" "traces" "LChartTable$MarkRows;", Cond.methodLink RX6 49 yX1_empty, Cond.instanceMethod yX1_empty, Cond.selects RX1 yX1_empty yX1_empty, Cond.initialized RX1, Cond.code yX1_empty cX1_empty 2 none, Cond.fieldLink RX1 28 "ChartTable$MarkRows" "sizes" "[I", Cond.methodLink RX1 32 yX1_isRow, Cond.instanceMethod yX1_isRow]
def wsX7_compile_r3 : List Cond := [Cond.selects RX1 yX1_isRow yX1_isRow, Cond.code yX1_isRow cX1_isRow 2 (some .boolean), Cond.fieldLink RX1 15 "ChartTable$MarkRows" "rows" "I", Cond.methodLink RX6 37 yX6_enter, Cond.instanceMethod yX6_enter, Cond.selects RX6 yX6_enter yX6_enter, Cond.code yX6_enter cX6_enter 5 none, Cond.methodLink RX6 64 yX4_isState, Cond.methodLink RX6 67 yX4_entering, Cond.instanceMethod yX4_entering, Cond.selects RX4 yX4_entering yX4_entering, Cond.code yX4_entering cX4_entering 1 (some (.object "ChartTable$MarkRows")), Cond.fieldLink RX4 36 "ChartTable$States" "entering" "LChartTable$MarkRows;", Cond.methodLink RX6 71 yX1_addRow, Cond.instanceMethod yX1_addRow, Cond.selects RX1 yX1_addRow yX1_addRow, Cond.code yX1_addRow cX1_addRow 7 none, Cond.fieldLink RX1 21 "ChartTable$MarkRows" "most" "I", Cond.methodLink RX1 40 Lib.Math.min.name, Cond.static Lib.Math.min.name, Cond.initialized "java/lang/Math", Cond.code Lib.Math.min.name Lib.Math.min.code 2 (some .int), Cond.fieldLink RX1 24 "ChartTable$MarkRows" "letters" "[C", Cond.methodLink RX6 57 yX4_isWhole]
def wsX7_compile_r4 : List Cond := [Cond.instanceMethod yX4_isWhole, Cond.selects RX4 yX4_isWhole yX4_isWhole, Cond.code yX4_isWhole cX4_isWhole 2 (some .boolean), Cond.methodLink RX6 75 yX4_made, Cond.instanceMethod yX4_made, Cond.selects RX4 yX4_made yX4_made, Cond.code yX4_made cX4_made 1 (some .int), Cond.methodLink RX6 54 yX4_parentOf, Cond.instanceMethod yX4_parentOf, Cond.selects RX4 yX4_parentOf yX4_parentOf, Cond.code yX4_parentOf cX4_parentOf 2 (some .int), Cond.fieldLink RX4 15 "ChartTable$States" "parents" "[I", Cond.methodLink RX6 79 yX4_childToward, Cond.instanceMethod yX4_childToward, Cond.selects RX4 yX4_childToward yX4_childToward, Cond.code yX4_childToward cX4_childToward 5 (some .int), Cond.methodLink RX6 83 yX6_makeCurrent, Cond.instanceMethod yX6_makeCurrent, Cond.selects RX6 yX6_makeCurrent yX6_makeCurrent, Cond.code yX6_makeCurrent cX6_makeCurrent 3 none, Cond.methodLink RX6 61 yX6_currentChild, Cond.instanceMethod yX6_currentChild, Cond.selects RX6 yX6_currentChild yX6_currentChild, Cond.code yX6_currentChild cX6_currentChild 2 (some .int)]
def wsX7_compile_r5 : List Cond := [Cond.methodLink RX5 58 yX5_numberOfWalk, Cond.instanceMethod yX5_numberOfWalk, Cond.selects RX5 yX5_numberOfWalk yX5_numberOfWalk, Cond.code yX5_numberOfWalk cX5_numberOfWalk 2 (some .int), Cond.fieldLink RX5 20 "ChartTable$Table" "currents" "[I", Cond.methodLink RX5 96 yX5_isWalk, Cond.instanceMethod yX5_isWalk, Cond.selects RX5 yX5_isWalk yX5_isWalk, Cond.code yX5_isWalk cX5_isWalk 3 (some .boolean), Cond.methodLink RX5 88 yX5_currentChild, Cond.instanceMethod yX5_currentChild, Cond.selects RX5 yX5_currentChild yX5_currentChild, Cond.code yX5_currentChild cX5_currentChild 3 (some .int), Cond.fieldLink RX5 27 "ChartTable$Table" "states" "LChartTable$States;", Cond.methodLink RX5 81 yX5_isConfiguration, Cond.instanceMethod yX5_isConfiguration, Cond.selects RX5 yX5_isConfiguration yX5_isConfiguration, Cond.code yX5_isConfiguration cX5_isConfiguration 2 (some .boolean), Cond.methodLink RX5 102 yX4_isState, Cond.methodLink RX5 94 yX6_currentChild, Cond.methodLink RX5 62 yX3_events, Cond.instanceMethod yX3_events, Cond.selects RX3 yX3_events yX3_events, Cond.initialized RX3]
def wsX7_compile_r6 : List Cond := [Cond.code yX3_events cX3_events 1 (some .int), Cond.fieldLink RX3 47 "ChartTable$Rules" "events" "I", Cond.methodLink RX5 67 yX5_cellOf, Cond.instanceMethod yX5_cellOf, Cond.selects RX5 yX5_cellOf yX5_cellOf, Cond.code yX5_cellOf cX5_cellOf 3 (some .int), Cond.methodLink RX5 85 yX3_isEvent, Cond.instanceMethod yX3_isEvent, Cond.selects RX3 yX3_isEvent yX3_isEvent, Cond.code yX3_isEvent cX3_isEvent 2 (some .boolean), Cond.methodLink RX5 71 yX5_setWalk, Cond.instanceMethod yX5_setWalk, Cond.selects RX5 yX5_setWalk yX5_setWalk, Cond.code yX5_setWalk cX5_setWalk 3 none, Cond.methodLink RX5 91 yX6_makeCurrent, Cond.methodLink RX5 74 yX6_receive, Cond.instanceMethod yX6_receive, Cond.selects RX6 yX6_receive yX6_receive, Cond.code yX6_receive cX6_receive 3 none, Cond.methodLink RX6 41 yX6_offer, Cond.instanceMethod yX6_offer, Cond.selects RX6 yX6_offer yX6_offer, Cond.code yX6_offer cX6_offer 6 (some .int), Cond.methodLink RX6 96 Lib.Math.min.name]
def wsX7_compile_r7 : List Cond := [Cond.methodLink RX6 101 yX6_ownRule, Cond.instanceMethod yX6_ownRule, Cond.selects RX6 yX6_ownRule yX6_ownRule, Cond.code yX6_ownRule cX6_ownRule 4 (some .int), Cond.fieldLink RX6 19 "ChartTable$Walk" "rules" "LChartTable$Rules;", Cond.methodLink RX6 107 yX3_made, Cond.instanceMethod yX3_made, Cond.selects RX3 yX3_made yX3_made, Cond.code yX3_made cX3_made 1 (some .int), Cond.fieldLink RX3 43 "ChartTable$Rules" "made" "I", Cond.methodLink RX6 110 yX3_isFor, Cond.instanceMethod yX3_isFor, Cond.selects RX3 yX3_isFor yX3_isFor, Cond.code yX3_isFor cX3_isFor 4 (some .boolean), Cond.fieldLink RX3 15 "ChartTable$Rules" "ruleEvents" "[I", Cond.fieldLink RX3 18 "ChartTable$Rules" "froms" "[I", Cond.methodLink RX3 58 yX3_isRule, Cond.instanceMethod yX3_isRule, Cond.selects RX3 yX3_isRule yX3_isRule, Cond.code yX3_isRule cX3_isRule 2 (some .boolean), Cond.methodLink RX6 114 yX3_askedOf, Cond.instanceMethod yX3_askedOf, Cond.selects RX3 yX3_askedOf yX3_askedOf, Cond.code yX3_askedOf cX3_askedOf 2 (some .int)]
def wsX7_compile_r8 : List Cond := [Cond.fieldLink RX3 27 "ChartTable$Rules" "askedStates" "[I", Cond.methodLink RX6 117 yX6_isActive, Cond.instanceMethod yX6_isActive, Cond.selects RX6 yX6_isActive yX6_isActive, Cond.code yX6_isActive cX6_isActive 5 (some .boolean), Cond.methodLink RX6 120 yX3_isWantedActive, Cond.instanceMethod yX3_isWantedActive, Cond.selects RX3 yX3_isWantedActive yX3_isWantedActive, Cond.code yX3_isWantedActive cX3_isWantedActive 2 (some .boolean), Cond.fieldLink RX3 30 "ChartTable$Rules" "wanted" "[Z", Cond.methodLink RX6 104 yX6_take, Cond.instanceMethod yX6_take, Cond.selects RX6 yX6_take yX6_take, Cond.code yX6_take cX6_take 5 (some .int), Cond.methodLink RX6 123 yX3_isRule, Cond.methodLink RX6 126 yX3_scopeOf, Cond.instanceMethod yX3_scopeOf, Cond.selects RX3 yX3_scopeOf yX3_scopeOf, Cond.code yX3_scopeOf cX3_scopeOf 2 (some .int), Cond.fieldLink RX3 24 "ChartTable$Rules" "scopes" "[I", Cond.methodLink RX6 129 yX3_targetOf, Cond.instanceMethod yX3_targetOf, Cond.selects RX3 yX3_targetOf yX3_targetOf, Cond.code yX3_targetOf cX3_targetOf 2 (some .int)]
def wsX7_compile_r9 : List Cond := [Cond.fieldLink RX3 21 "ChartTable$Rules" "targets" "[I", Cond.methodLink RX6 132 yX4_depthOf, Cond.instanceMethod yX4_depthOf, Cond.selects RX4 yX4_depthOf yX4_depthOf, Cond.code yX4_depthOf cX4_depthOf 2 (some .int), Cond.fieldLink RX4 18 "ChartTable$States" "depths" "[I", Cond.methodLink RX6 87 yX6_leave, Cond.instanceMethod yX6_leave, Cond.selects RX6 yX6_leave yX6_leave, Cond.code yX6_leave cX6_leave 4 none, Cond.methodLink RX6 90 yX4_leaving, Cond.instanceMethod yX4_leaving, Cond.selects RX4 yX4_leaving yX4_leaving, Cond.code yX4_leaving cX4_leaving 1 (some (.object "ChartTable$MarkRows")), Cond.fieldLink RX4 40 "ChartTable$States" "leaving" "LChartTable$MarkRows;", Cond.methodLink RX6 93 yX4_isRemembering, Cond.instanceMethod yX4_isRemembering, Cond.selects RX4 yX4_isRemembering yX4_isRemembering, Cond.code yX4_isRemembering cX4_isRemembering 2 (some .boolean), Cond.fieldLink RX4 28 "ChartTable$States" "remembering" "[Z", Cond.methodLink RX6 135 yX3_marks, Cond.instanceMethod yX3_marks, Cond.selects RX3 yX3_marks yX3_marks, Cond.code yX3_marks cX3_marks 1 (some (.object "ChartTable$MarkRows"))]
def wsX7_compile_r10 : List Cond := [Cond.fieldLink RX3 39 "ChartTable$Rules" "marks" "LChartTable$MarkRows;", Cond.methodLink RX5 77 yX1_sizeOf, Cond.instanceMethod yX1_sizeOf, Cond.selects RX1 yX1_sizeOf yX1_sizeOf, Cond.code yX1_sizeOf cX1_sizeOf 2 (some .int), Cond.methodLink RX7 77 yX5_size, Cond.instanceMethod yX5_size, Cond.selects RX5 yX5_size yX5_size, Cond.code yX5_size cX5_size 1 (some .int)]
def wsX7_compile : List Cond := .code yX7_compile cX7_compile 1 (some .int) :: ((wsX7_compile_r1 ++ (wsX7_compile_r2 ++ (wsX7_compile_r3 ++ (wsX7_compile_r4 ++ (wsX7_compile_r5 ++ (wsX7_compile_r6 ++ (wsX7_compile_r7 ++ (wsX7_compile_r8 ++ (wsX7_compile_r9 ++ wsX7_compile_r10))))))))) ++ wsX70 ++ wsX50 ++ wsX60 ++ wsX40 ++ wsX10 ++ wsX30 ++ (vx_atS RX7 67 "java/lang/IllegalStateException" ["java/lang/RuntimeException", "java/lang/Exception"]).filter goodWord)
def wsX7_configurations : List Cond := .code yX7_configurations cX7_configurations 1 (some .int) :: ([.fieldLink RX7 44 "ChartTable" "table" "LChartTable$Table;", .methodLink RX7 77 yX5_size, .instanceMethod yX5_size, .selects RX5 yX5_size yX5_size, .initialized RX5, .code yX5_size cX5_size 1 (some .int), .fieldLink RX5 44 "ChartTable$Table" "size" "I"] ++ wsX70 ++ wsX50)
def wsX7_count_r1 : List Cond := [Cond.fieldLink RX7 19 "ChartTable" "states" "LChartTable$States;", Cond.fieldLink RX7 26 "ChartTable" "rules" "LChartTable$Rules;", Cond.fieldLink RX7 44 "ChartTable" "table" "LChartTable$Table;", Cond.methodLink RX7 80 yX4_made, Cond.instanceMethod yX4_made, Cond.selects RX4 yX4_made yX4_made, Cond.initialized RX4, Cond.code yX4_made cX4_made 1 (some .int), Cond.fieldLink RX4 43 "ChartTable$States" "made" "I", Cond.methodLink RX7 83 yX3_made, Cond.instanceMethod yX3_made, Cond.selects RX3 yX3_made yX3_made, Cond.initialized RX3, Cond.code yX3_made cX3_made 1 (some .int), Cond.fieldLink RX3 43 "ChartTable$Rules" "made" "I", Cond.methodLink RX7 84 yX3_events, Cond.instanceMethod yX3_events, Cond.selects RX3 yX3_events yX3_events, Cond.code yX3_events cX3_events 1 (some .int), Cond.fieldLink RX3 47 "ChartTable$Rules" "events" "I", Cond.methodLink RX7 87 yX5_place, Cond.instanceMethod yX5_place, Cond.selects RX5 yX5_place yX5_place, Cond.initialized RX5]
def wsX7_count_r2 : List Cond := [Cond.code yX5_place cX5_place 1 (some .int), Cond.fieldLink RX5 44 "ChartTable$Table" "size" "I", Cond.fieldLink RX5 48 "ChartTable$Table" "place" "I"]
def wsX7_count : List Cond := .code yX7_count cX7_count 2 (some .int) :: ((wsX7_count_r1 ++ wsX7_count_r2) ++ wsX70 ++ wsX40 ++ wsX30 ++ wsX50)
def wsX7_named_r1 : List Cond := [Cond.classLink RX7 103 "java/util/NoSuchElementException", Cond.initialized "java/util/NoSuchElementException", Cond.fieldLink RX7 12 "ChartTable" "text" "LChartTable$Line;", Cond.fieldLink RX7 19 "ChartTable" "states" "LChartTable$States;", Cond.methodLink RX7 90 yX0_split, Cond.instanceMethod yX0_split, Cond.selects RX0 yX0_split yX0_split, Cond.initialized RX0, Cond.code yX0_split cX0_split 4 none, Cond.fieldLink RX0 26 "ChartTable$Line" "words" "I", Cond.fieldLink RX0 22 "ChartTable$Line" "length" "I", Cond.fieldLink RX0 9 "ChartTable$Line" "characters" "[C", Cond.fieldLink RX0 15 "ChartTable$Line" "starts" "[I", Cond.fieldLink RX0 19 "ChartTable$Line" "ends" "[I", Cond.methodLink RX7 93 yX0_words, Cond.instanceMethod yX0_words, Cond.selects RX0 yX0_words yX0_words, Cond.code yX0_words cX0_words 1 (some .int), Cond.methodLink RX7 96 yX0_nameAt, Cond.instanceMethod yX0_nameAt, Cond.selects RX0 yX0_nameAt yX0_nameAt, Cond.code yX0_nameAt cX0_nameAt 5 (some .int), Cond.methodLink RX0 46 yX0_isLetters, Cond.instanceMethod yX0_isLetters]
def wsX7_named_r2 : List Cond := [Cond.selects RX0 yX0_isLetters yX0_isLetters, Cond.code yX0_isLetters cX0_isLetters 6 (some .boolean), Cond.methodLink RX0 29 yX0_sizeOf, Cond.instanceMethod yX0_sizeOf, Cond.selects RX0 yX0_sizeOf yX0_sizeOf, Cond.code yX0_sizeOf cX0_sizeOf 2 (some .int), Cond.methodLink RX0 38 yX0_letterAt, Cond.instanceMethod yX0_letterAt, Cond.selects RX0 yX0_letterAt yX0_letterAt, Cond.code yX0_letterAt cX0_letterAt 3 (some .char), Cond.methodLink RX7 100 yX4_find, Cond.instanceMethod yX4_find, Cond.selects RX4 yX4_find yX4_find, Cond.initialized RX4, Cond.code yX4_find cX4_find 3 (some .int), Cond.fieldLink RX4 43 "ChartTable$States" "made" "I", Cond.fieldLink RX4 9 "ChartTable$States" "names" "[I"]
def wsX7_named : List Cond := .code yX7_named cX7_named 2 (some .int) :: ((wsX7_named_r1 ++ wsX7_named_r2) ++ wsX70 ++ wsX00 ++ wsX40 ++ (vx_atS RX7 107 "java/util/NoSuchElementException" ["java/lang/RuntimeException", "java/lang/Exception"]).filter goodWord)
def wsX7_next_r1 : List Cond := [Cond.classLink RX7 103 "java/util/NoSuchElementException", Cond.initialized "java/util/NoSuchElementException", Cond.fieldLink RX7 44 "ChartTable" "table" "LChartTable$Table;", Cond.methodLink RX7 108 yX5_following, Cond.instanceMethod yX5_following, Cond.selects RX5 yX5_following yX5_following, Cond.initialized RX5, Cond.code yX5_following cX5_following 4 (some .int), Cond.fieldLink RX5 24 "ChartTable$Table" "followers" "[I", Cond.methodLink RX5 67 yX5_cellOf, Cond.instanceMethod yX5_cellOf, Cond.selects RX5 yX5_cellOf yX5_cellOf, Cond.code yX5_cellOf cX5_cellOf 3 (some .int), Cond.fieldLink RX5 31 "ChartTable$Table" "rules" "LChartTable$Rules;", Cond.methodLink RX5 81 yX5_isConfiguration, Cond.instanceMethod yX5_isConfiguration, Cond.selects RX5 yX5_isConfiguration yX5_isConfiguration, Cond.code yX5_isConfiguration cX5_isConfiguration 2 (some .boolean), Cond.fieldLink RX5 44 "ChartTable$Table" "size" "I", Cond.methodLink RX5 85 yX3_isEvent, Cond.instanceMethod yX3_isEvent, Cond.selects RX3 yX3_isEvent yX3_isEvent, Cond.initialized RX3, Cond.code yX3_isEvent cX3_isEvent 2 (some .boolean)]
def wsX7_next_r2 : List Cond := [Cond.fieldLink RX3 47 "ChartTable$Rules" "events" "I"]
def wsX7_next : List Cond := .code yX7_next cX7_next 4 (some .int) :: ((wsX7_next_r1 ++ wsX7_next_r2) ++ wsX70 ++ wsX50 ++ wsX30 ++ (vx_atS RX7 107 "java/util/NoSuchElementException" ["java/lang/RuntimeException", "java/lang/Exception"]).filter goodWord)
def wsX7_trace_r1 : List Cond := [Cond.fieldLink RX7 44 "ChartTable" "table" "LChartTable$Table;", Cond.methodLink RX7 114 yX5_traceLetter, Cond.instanceMethod yX5_traceLetter, Cond.selects RX5 yX5_traceLetter yX5_traceLetter, Cond.initialized RX5, Cond.code yX5_traceLetter cX5_traceLetter 5 (some .int), Cond.fieldLink RX5 44 "ChartTable$Table" "size" "I", Cond.fieldLink RX5 14 "ChartTable$Table" "traces" "LChartTable$MarkRows;", Cond.methodLink RX5 67 yX5_cellOf, Cond.instanceMethod yX5_cellOf, Cond.selects RX5 yX5_cellOf yX5_cellOf, Cond.code yX5_cellOf cX5_cellOf 3 (some .int), Cond.fieldLink RX5 31 "ChartTable$Table" "rules" "LChartTable$Rules;", Cond.methodLink RX5 81 yX5_isConfiguration, Cond.instanceMethod yX5_isConfiguration, Cond.selects RX5 yX5_isConfiguration yX5_isConfiguration, Cond.code yX5_isConfiguration cX5_isConfiguration 2 (some .boolean), Cond.methodLink RX5 85 yX3_isEvent, Cond.instanceMethod yX3_isEvent, Cond.selects RX3 yX3_isEvent yX3_isEvent, Cond.initialized RX3, Cond.code yX3_isEvent cX3_isEvent 2 (some .boolean), Cond.fieldLink RX3 47 "ChartTable$Rules" "events" "I", Cond.methodLink RX5 99 yX1_letterAt]
def wsX7_trace_r2 : List Cond := [Cond.instanceMethod yX1_letterAt, Cond.selects RX1 yX1_letterAt yX1_letterAt, Cond.initialized RX1, Cond.code yX1_letterAt cX1_letterAt 3 (some .int), Cond.fieldLink RX1 24 "ChartTable$MarkRows" "letters" "[C", Cond.fieldLink RX1 21 "ChartTable$MarkRows" "most" "I", Cond.methodLink RX1 36 yX1_sizeOf, Cond.instanceMethod yX1_sizeOf, Cond.selects RX1 yX1_sizeOf yX1_sizeOf, Cond.code yX1_sizeOf cX1_sizeOf 2 (some .int), Cond.fieldLink RX1 28 "ChartTable$MarkRows" "sizes" "[I", Cond.methodLink RX1 32 yX1_isRow, Cond.instanceMethod yX1_isRow, Cond.selects RX1 yX1_isRow yX1_isRow, Cond.code yX1_isRow cX1_isRow 2 (some .boolean), Cond.fieldLink RX1 15 "ChartTable$MarkRows" "rows" "I"]
def wsX7_trace : List Cond := .code yX7_trace cX7_trace 4 (some .int) :: ((wsX7_trace_r1 ++ wsX7_trace_r2) ++ wsX70 ++ wsX50 ++ wsX30 ++ wsX10)
def wsX7_active_r1 : List Cond := [Cond.fieldLink RX7 44 "ChartTable" "table" "LChartTable$Table;", Cond.methodLink RX7 118 yX5_isActive, Cond.instanceMethod yX5_isActive, Cond.selects RX5 yX5_isActive yX5_isActive, Cond.initialized RX5, Cond.code yX5_isActive cX5_isActive 3 (some .boolean), Cond.fieldLink RX5 27 "ChartTable$Table" "states" "LChartTable$States;", Cond.fieldLink RX5 40 "ChartTable$Table" "walk" "LChartTable$Walk;", Cond.methodLink RX5 81 yX5_isConfiguration, Cond.instanceMethod yX5_isConfiguration, Cond.selects RX5 yX5_isConfiguration yX5_isConfiguration, Cond.code yX5_isConfiguration cX5_isConfiguration 2 (some .boolean), Cond.fieldLink RX5 44 "ChartTable$Table" "size" "I", Cond.methodLink RX5 102 yX4_isState, Cond.instanceMethod yX4_isState, Cond.selects RX4 yX4_isState yX4_isState, Cond.initialized RX4, Cond.code yX4_isState cX4_isState 2 (some .boolean), Cond.fieldLink RX4 43 "ChartTable$States" "made" "I", Cond.methodLink RX5 71 yX5_setWalk, Cond.instanceMethod yX5_setWalk, Cond.selects RX5 yX5_setWalk yX5_setWalk, Cond.code yX5_setWalk cX5_setWalk 3 none, Cond.methodLink RX5 88 yX5_currentChild]
def wsX7_active_r2 : List Cond := [Cond.instanceMethod yX5_currentChild, Cond.selects RX5 yX5_currentChild yX5_currentChild, Cond.code yX5_currentChild cX5_currentChild 3 (some .int), Cond.fieldLink RX5 20 "ChartTable$Table" "currents" "[I", Cond.methodLink RX5 91 yX6_makeCurrent, Cond.instanceMethod yX6_makeCurrent, Cond.selects RX6 yX6_makeCurrent yX6_makeCurrent, Cond.initialized RX6, Cond.code yX6_makeCurrent cX6_makeCurrent 3 none, Cond.fieldLink RX6 9 "ChartTable$Walk" "currents" "[I", Cond.methodLink RX5 107 yX6_isActive, Cond.instanceMethod yX6_isActive, Cond.selects RX6 yX6_isActive yX6_isActive, Cond.code yX6_isActive cX6_isActive 5 (some .boolean), Cond.fieldLink RX6 15 "ChartTable$Walk" "states" "LChartTable$States;", Cond.methodLink RX6 54 yX4_parentOf, Cond.instanceMethod yX4_parentOf, Cond.selects RX4 yX4_parentOf yX4_parentOf, Cond.code yX4_parentOf cX4_parentOf 2 (some .int), Cond.fieldLink RX4 15 "ChartTable$States" "parents" "[I", Cond.methodLink RX4 51 yX4_isState, Cond.methodLink RX6 57 yX4_isWhole, Cond.instanceMethod yX4_isWhole, Cond.selects RX4 yX4_isWhole yX4_isWhole]
def wsX7_active_r3 : List Cond := [Cond.code yX4_isWhole cX4_isWhole 2 (some .boolean), Cond.fieldLink RX4 24 "ChartTable$States" "wholes" "[Z", Cond.methodLink RX6 61 yX6_currentChild, Cond.instanceMethod yX6_currentChild, Cond.selects RX6 yX6_currentChild yX6_currentChild, Cond.code yX6_currentChild cX6_currentChild 2 (some .int)]
def wsX7_active : List Cond := .code yX7_active cX7_active 3 (some .boolean) :: ((wsX7_active_r1 ++ (wsX7_active_r2 ++ wsX7_active_r3)) ++ wsX70 ++ wsX50 ++ wsX40 ++ wsX60)
def wsX7_current : List Cond := .code yX7_current cX7_current 3 (some .int) :: ([.fieldLink RX7 44 "ChartTable" "table" "LChartTable$Table;", .methodLink RX7 122 yX5_currentChild, .instanceMethod yX5_currentChild, .selects RX5 yX5_currentChild yX5_currentChild, .initialized RX5, .code yX5_currentChild cX5_currentChild 3 (some .int), .fieldLink RX5 27 "ChartTable$Table" "states" "LChartTable$States;", .fieldLink RX5 20 "ChartTable$Table" "currents" "[I", .methodLink RX5 81 yX5_isConfiguration, .instanceMethod yX5_isConfiguration, .selects RX5 yX5_isConfiguration yX5_isConfiguration, .code yX5_isConfiguration cX5_isConfiguration 2 (some .boolean), .fieldLink RX5 44 "ChartTable$Table" "size" "I", .methodLink RX5 102 yX4_isState, .instanceMethod yX4_isState, .selects RX4 yX4_isState yX4_isState, .initialized RX4, .code yX4_isState cX4_isState 2 (some .boolean), .fieldLink RX4 43 "ChartTable$States" "made" "I"] ++ wsX70 ++ wsX50 ++ wsX40)
def wsX7_event_r1 : List Cond := [Cond.classLink RX7 63 "java/lang/IllegalStateException", Cond.initialized "java/lang/IllegalStateException", Cond.classLink RX7 56 "java/lang/IllegalArgumentException", Cond.initialized "java/lang/IllegalArgumentException", Cond.fieldLink RX7 44 "ChartTable" "table" "LChartTable$Table;", Cond.fieldLink RX7 26 "ChartTable" "rules" "LChartTable$Rules;", Cond.methodLink RX7 77 yX5_size, Cond.instanceMethod yX5_size, Cond.selects RX5 yX5_size yX5_size, Cond.initialized RX5, Cond.code yX5_size cX5_size 1 (some .int), Cond.fieldLink RX5 44 "ChartTable$Table" "size" "I", Cond.methodLink RX7 127 yX3_isEvent, Cond.instanceMethod yX3_isEvent, Cond.selects RX3 yX3_isEvent yX3_isEvent, Cond.initialized RX3, Cond.code yX3_isEvent cX3_isEvent 2 (some .boolean), Cond.fieldLink RX3 47 "ChartTable$Rules" "events" "I", Cond.methodLink RX7 133 yX5_step, Cond.instanceMethod yX5_step, Cond.selects RX5 yX5_step yX5_step, Cond.code yX5_step cX5_step 3 (some .int), Cond.fieldLink RX5 48 "ChartTable$Table" "place" "I", Cond.fieldLink RX5 24 "ChartTable$Table" "followers" "[I"]
def wsX7_event_r2 : List Cond := [Cond.fieldLink RX5 51 "ChartTable$Table" "marksNoted" "I", Cond.fieldLink RX5 14 "ChartTable$Table" "traces" "LChartTable$MarkRows;", Cond.methodLink RX5 67 yX5_cellOf, Cond.instanceMethod yX5_cellOf, Cond.selects RX5 yX5_cellOf yX5_cellOf, Cond.code yX5_cellOf cX5_cellOf 3 (some .int), Cond.fieldLink RX5 31 "ChartTable$Table" "rules" "LChartTable$Rules;", Cond.methodLink RX5 81 yX5_isConfiguration, Cond.instanceMethod yX5_isConfiguration, Cond.selects RX5 yX5_isConfiguration yX5_isConfiguration, Cond.code yX5_isConfiguration cX5_isConfiguration 2 (some .boolean), Cond.methodLink RX5 85 yX3_isEvent, Cond.methodLink RX5 77 yX1_sizeOf, Cond.instanceMethod yX1_sizeOf, Cond.selects RX1 yX1_sizeOf yX1_sizeOf, Cond.initialized RX1, Cond.code yX1_sizeOf cX1_sizeOf 2 (some .int), Cond.fieldLink RX1 28 "ChartTable$MarkRows" "sizes" "[I", Cond.methodLink RX1 32 yX1_isRow, Cond.instanceMethod yX1_isRow, Cond.selects RX1 yX1_isRow yX1_isRow, Cond.code yX1_isRow cX1_isRow 2 (some .boolean), Cond.fieldLink RX1 15 "ChartTable$MarkRows" "rows" "I"]
def wsX7_event : List Cond := .code yX7_event cX7_event 2 (some .int) :: ((wsX7_event_r1 ++ wsX7_event_r2) ++ wsX70 ++ wsX50 ++ wsX30 ++ wsX10 ++ (vx_atS RX7 67 "java/lang/IllegalStateException" ["java/lang/RuntimeException", "java/lang/Exception"]).filter goodWord ++ (vx_atS RX7 60 "java/lang/IllegalArgumentException" ["java/lang/RuntimeException", "java/lang/Exception"]).filter goodWord)
def wsX7_noted : List Cond := .code yX7_noted cX7_noted 1 (some .int) :: ([.fieldLink RX7 44 "ChartTable" "table" "LChartTable$Table;", .methodLink RX7 136 yX5_marksNoted, .instanceMethod yX5_marksNoted, .selects RX5 yX5_marksNoted yX5_marksNoted, .initialized RX5, .code yX5_marksNoted cX5_marksNoted 1 (some .int), .fieldLink RX5 44 "ChartTable$Table" "size" "I", .fieldLink RX5 51 "ChartTable$Table" "marksNoted" "I"] ++ wsX70 ++ wsX50)
def wsX8_init_r1 : List Cond := [Cond.methodLink RX8 1 objectInit, Cond.instanceMethod objectInit, Cond.code objectInit ⟨#[0xb1]⟩ 1 none, Cond.arrayClass .char, Cond.fieldLink RX8 7 "ChartTableModel" "text" "[C", Cond.arrayClass .int, Cond.fieldLink RX8 13 "ChartTableModel" "begin" "[I", Cond.fieldLink RX8 17 "ChartTableModel" "end" "[I", Cond.fieldLink RX8 20 "ChartTableModel" "states" "I", Cond.fieldLink RX8 24 "ChartTableModel" "name" "[C", Cond.fieldLink RX8 27 "ChartTableModel" "mark" "[C", Cond.fieldLink RX8 30 "ChartTableModel" "parent" "[I", Cond.fieldLink RX8 33 "ChartTableModel" "depth" "[I", Cond.fieldLink RX8 36 "ChartTableModel" "marks" "[I", Cond.arrayClass .boolean, Cond.fieldLink RX8 39 "ChartTableModel" "whole" "[Z", Cond.fieldLink RX8 43 "ChartTableModel" "remembers" "[Z", Cond.fieldLink RX8 46 "ChartTableModel" "eventName" "[C", Cond.fieldLink RX8 49 "ChartTableModel" "ruleMark" "[C", Cond.fieldLink RX8 52 "ChartTableModel" "ruleEvent" "[I", Cond.fieldLink RX8 55 "ChartTableModel" "ruleFrom" "[I", Cond.fieldLink RX8 58 "ChartTableModel" "ruleTo" "[I", Cond.fieldLink RX8 61 "ChartTableModel" "ruleWhen" "[I", Cond.fieldLink RX8 64 "ChartTableModel" "ruleState" "[I"]
def wsX8_init_r2 : List Cond := [Cond.fieldLink RX8 67 "ChartTableModel" "ruleMarks" "[I", Cond.fieldLink RX8 70 "ChartTableModel" "now" "[I", Cond.fieldLink RX8 73 "ChartTableModel" "note" "[C", Cond.fieldLink RX8 76 "ChartTableModel" "current" "[I", Cond.fieldLink RX8 79 "ChartTableModel" "next" "[I", Cond.fieldLink RX8 82 "ChartTableModel" "traced" "[I", Cond.fieldLink RX8 85 "ChartTableModel" "trace" "[C", Cond.fieldLink RX8 88 "ChartTableModel" "stack" "[I", Cond.fieldLink RX8 91 "ChartTableModel" "row" "[I", Cond.fieldLink RX8 94 "ChartTableModel" "open" "[I", Cond.fieldLink RX8 97 "ChartTableModel" "reached" "[I", Cond.fieldLink RX8 100 "ChartTableModel" "taken" "[I"]
def wsX8_init : List Cond := .code yX8_init cX8_init 1 none :: ((wsX8_init_r1 ++ wsX8_init_r2) ++ wsX80)
def wsX8_thrown : List Cond := .code yX8_thrown cX8_thrown 1 (some .int) :: ([.fieldLink RX8 103 "ChartTableModel" "fault" "I"] ++ wsX80)
def wsX8_fails : List Cond := .code yX8_fails cX8_fails 2 (some .int) :: ([.fieldLink RX8 103 "ChartTableModel" "fault" "I"] ++ wsX80)
def wsX8_write : List Cond := .code yX8_write cX8_write 2 (some .boolean) :: ([.fieldLink RX8 103 "ChartTableModel" "fault" "I", .fieldLink RX8 106 "ChartTableModel" "written" "I", .fieldLink RX8 7 "ChartTableModel" "text" "[C"] ++ wsX80)
def wsX8_split : List Cond := .code yX8_split cX8_split 2 none :: ([.fieldLink RX8 109 "ChartTableModel" "words" "I", .fieldLink RX8 106 "ChartTableModel" "written" "I", .fieldLink RX8 7 "ChartTableModel" "text" "[C", .fieldLink RX8 13 "ChartTableModel" "begin" "[I", .fieldLink RX8 17 "ChartTableModel" "end" "[I"] ++ wsX80)
def wsX8_letter : List Cond := .code yX8_letter cX8_letter 3 (some .char) :: ([.fieldLink RX8 13 "ChartTableModel" "begin" "[I", .fieldLink RX8 17 "ChartTableModel" "end" "[I", .fieldLink RX8 7 "ChartTableModel" "text" "[C"] ++ wsX80)
def wsX8_length : List Cond := .code yX8_length cX8_length 2 (some .int) :: ([.fieldLink RX8 17 "ChartTableModel" "end" "[I", .fieldLink RX8 13 "ChartTableModel" "begin" "[I"] ++ wsX80)
def wsX8_isWord : List Cond := .code yX8_isWord cX8_isWord 5 (some .boolean) :: ([.methodLink RX8 112 yX8_length, .instanceMethod yX8_length, .selects RX8 yX8_length yX8_length, .initialized RX8, .code yX8_length cX8_length 2 (some .int), .fieldLink RX8 17 "ChartTableModel" "end" "[I", .fieldLink RX8 13 "ChartTableModel" "begin" "[I", .methodLink RX8 116 yX8_letter, .instanceMethod yX8_letter, .selects RX8 yX8_letter yX8_letter, .code yX8_letter cX8_letter 3 (some .char), .fieldLink RX8 7 "ChartTableModel" "text" "[C"] ++ wsX80)
def wsX8_says : List Cond := .code yX8_says cX8_says 8 (some .boolean) :: ([.methodLink RX8 116 yX8_letter, .instanceMethod yX8_letter, .selects RX8 yX8_letter yX8_letter, .initialized RX8, .code yX8_letter cX8_letter 3 (some .char), .fieldLink RX8 13 "ChartTableModel" "begin" "[I", .fieldLink RX8 17 "ChartTableModel" "end" "[I", .fieldLink RX8 7 "ChartTableModel" "text" "[C", .methodLink RX8 112 yX8_length, .instanceMethod yX8_length, .selects RX8 yX8_length yX8_length, .code yX8_length cX8_length 2 (some .int)] ++ wsX80)
def wsX8_stateOf : List Cond := .code yX8_stateOf cX8_stateOf 5 (some .int) :: ([.fieldLink RX8 20 "ChartTableModel" "states" "I", .fieldLink RX8 24 "ChartTableModel" "name" "[C", .methodLink RX8 112 yX8_length, .instanceMethod yX8_length, .selects RX8 yX8_length yX8_length, .initialized RX8, .code yX8_length cX8_length 2 (some .int), .fieldLink RX8 17 "ChartTableModel" "end" "[I", .fieldLink RX8 13 "ChartTableModel" "begin" "[I", .methodLink RX8 116 yX8_letter, .instanceMethod yX8_letter, .selects RX8 yX8_letter yX8_letter, .code yX8_letter cX8_letter 3 (some .char), .fieldLink RX8 7 "ChartTableModel" "text" "[C"] ++ wsX80)
def wsX8_eventOf : List Cond := .code yX8_eventOf cX8_eventOf 5 (some .int) :: ([.fieldLink RX8 120 "ChartTableModel" "events" "I", .fieldLink RX8 46 "ChartTableModel" "eventName" "[C", .methodLink RX8 116 yX8_letter, .instanceMethod yX8_letter, .selects RX8 yX8_letter yX8_letter, .initialized RX8, .code yX8_letter cX8_letter 3 (some .char), .fieldLink RX8 13 "ChartTableModel" "begin" "[I", .fieldLink RX8 17 "ChartTableModel" "end" "[I", .fieldLink RX8 7 "ChartTableModel" "text" "[C"] ++ wsX80)
def wsX8_newState_r1 : List Cond := [Cond.fieldLink RX8 109 "ChartTableModel" "words" "I", Cond.fieldLink RX8 33 "ChartTableModel" "depth" "[I", Cond.fieldLink RX8 20 "ChartTableModel" "states" "I", Cond.fieldLink RX8 24 "ChartTableModel" "name" "[C", Cond.fieldLink RX8 30 "ChartTableModel" "parent" "[I", Cond.fieldLink RX8 39 "ChartTableModel" "whole" "[Z", Cond.fieldLink RX8 43 "ChartTableModel" "remembers" "[Z", Cond.methodLink RX8 146 yX8_isWord, Cond.instanceMethod yX8_isWord, Cond.selects RX8 yX8_isWord yX8_isWord, Cond.initialized RX8, Cond.code yX8_isWord cX8_isWord 5 (some .boolean), Cond.methodLink RX8 112 yX8_length, Cond.instanceMethod yX8_length, Cond.selects RX8 yX8_length yX8_length, Cond.code yX8_length cX8_length 2 (some .int), Cond.fieldLink RX8 17 "ChartTableModel" "end" "[I", Cond.fieldLink RX8 13 "ChartTableModel" "begin" "[I", Cond.methodLink RX8 116 yX8_letter, Cond.instanceMethod yX8_letter, Cond.selects RX8 yX8_letter yX8_letter, Cond.code yX8_letter cX8_letter 3 (some .char), Cond.fieldLink RX8 7 "ChartTableModel" "text" "[C", Cond.methodLink RX8 150 yX8_stateOf]
def wsX8_newState_r2 : List Cond := [Cond.instanceMethod yX8_stateOf, Cond.selects RX8 yX8_stateOf yX8_stateOf, Cond.code yX8_stateOf cX8_stateOf 5 (some .int), Cond.methodLink RX8 126 yX8_says, Cond.instanceMethod yX8_says, Cond.selects RX8 yX8_says yX8_says, Cond.code yX8_says cX8_says 8 (some .boolean)]
def wsX8_newState : List Cond := .code yX8_newState cX8_newState 5 (some .int) :: ((wsX8_newState_r1 ++ wsX8_newState_r2) ++ wsX80)
def wsX8_newMarks_r1 : List Cond := [Cond.fieldLink RX8 109 "ChartTableModel" "words" "I", Cond.fieldLink RX8 36 "ChartTableModel" "marks" "[I", Cond.fieldLink RX8 27 "ChartTableModel" "mark" "[C", Cond.methodLink RX8 146 yX8_isWord, Cond.instanceMethod yX8_isWord, Cond.selects RX8 yX8_isWord yX8_isWord, Cond.initialized RX8, Cond.code yX8_isWord cX8_isWord 5 (some .boolean), Cond.methodLink RX8 112 yX8_length, Cond.instanceMethod yX8_length, Cond.selects RX8 yX8_length yX8_length, Cond.code yX8_length cX8_length 2 (some .int), Cond.fieldLink RX8 17 "ChartTableModel" "end" "[I", Cond.fieldLink RX8 13 "ChartTableModel" "begin" "[I", Cond.methodLink RX8 116 yX8_letter, Cond.instanceMethod yX8_letter, Cond.selects RX8 yX8_letter yX8_letter, Cond.code yX8_letter cX8_letter 3 (some .char), Cond.fieldLink RX8 7 "ChartTableModel" "text" "[C", Cond.methodLink RX8 150 yX8_stateOf, Cond.instanceMethod yX8_stateOf, Cond.selects RX8 yX8_stateOf yX8_stateOf, Cond.code yX8_stateOf cX8_stateOf 5 (some .int), Cond.fieldLink RX8 20 "ChartTableModel" "states" "I"]
def wsX8_newMarks_r2 : List Cond := [Cond.fieldLink RX8 24 "ChartTableModel" "name" "[C"]
def wsX8_newMarks : List Cond := .code yX8_newMarks cX8_newMarks 5 (some .int) :: ((wsX8_newMarks_r1 ++ wsX8_newMarks_r2) ++ wsX80)
def wsX8_newRule_r1 : List Cond := [Cond.fieldLink RX8 109 "ChartTableModel" "words" "I", Cond.fieldLink RX8 156 "ChartTableModel" "rules" "I", Cond.fieldLink RX8 120 "ChartTableModel" "events" "I", Cond.fieldLink RX8 46 "ChartTableModel" "eventName" "[C", Cond.fieldLink RX8 52 "ChartTableModel" "ruleEvent" "[I", Cond.fieldLink RX8 55 "ChartTableModel" "ruleFrom" "[I", Cond.fieldLink RX8 58 "ChartTableModel" "ruleTo" "[I", Cond.fieldLink RX8 61 "ChartTableModel" "ruleWhen" "[I", Cond.fieldLink RX8 64 "ChartTableModel" "ruleState" "[I", Cond.fieldLink RX8 67 "ChartTableModel" "ruleMarks" "[I", Cond.fieldLink RX8 49 "ChartTableModel" "ruleMark" "[C", Cond.methodLink RX8 146 yX8_isWord, Cond.instanceMethod yX8_isWord, Cond.selects RX8 yX8_isWord yX8_isWord, Cond.initialized RX8, Cond.code yX8_isWord cX8_isWord 5 (some .boolean), Cond.methodLink RX8 112 yX8_length, Cond.instanceMethod yX8_length, Cond.selects RX8 yX8_length yX8_length, Cond.code yX8_length cX8_length 2 (some .int), Cond.fieldLink RX8 17 "ChartTableModel" "end" "[I", Cond.fieldLink RX8 13 "ChartTableModel" "begin" "[I", Cond.methodLink RX8 116 yX8_letter, Cond.instanceMethod yX8_letter]
def wsX8_newRule_r2 : List Cond := [Cond.selects RX8 yX8_letter yX8_letter, Cond.code yX8_letter cX8_letter 3 (some .char), Cond.fieldLink RX8 7 "ChartTableModel" "text" "[C", Cond.methodLink RX8 126 yX8_says, Cond.instanceMethod yX8_says, Cond.selects RX8 yX8_says yX8_says, Cond.code yX8_says cX8_says 8 (some .boolean), Cond.methodLink RX8 150 yX8_stateOf, Cond.instanceMethod yX8_stateOf, Cond.selects RX8 yX8_stateOf yX8_stateOf, Cond.code yX8_stateOf cX8_stateOf 5 (some .int), Cond.fieldLink RX8 20 "ChartTableModel" "states" "I", Cond.fieldLink RX8 24 "ChartTableModel" "name" "[C", Cond.methodLink RX8 153 yX8_eventOf, Cond.instanceMethod yX8_eventOf, Cond.selects RX8 yX8_eventOf yX8_eventOf, Cond.code yX8_eventOf cX8_eventOf 5 (some .int)]
def wsX8_newRule : List Cond := .code yX8_newRule cX8_newRule 10 (some .int) :: ((wsX8_newRule_r1 ++ wsX8_newRule_r2) ++ wsX80)
def wsX8_line_r1 : List Cond := [Cond.fieldLink RX8 103 "ChartTableModel" "fault" "I", Cond.fieldLink RX8 106 "ChartTableModel" "written" "I", Cond.fieldLink RX8 109 "ChartTableModel" "words" "I", Cond.fieldLink RX8 143 "ChartTableModel" "made" "I", Cond.methodLink RX8 123 yX8_split, Cond.instanceMethod yX8_split, Cond.selects RX8 yX8_split yX8_split, Cond.initialized RX8, Cond.code yX8_split cX8_split 2 none, Cond.fieldLink RX8 7 "ChartTableModel" "text" "[C", Cond.fieldLink RX8 13 "ChartTableModel" "begin" "[I", Cond.fieldLink RX8 17 "ChartTableModel" "end" "[I", Cond.methodLink RX8 126 yX8_says, Cond.instanceMethod yX8_says, Cond.selects RX8 yX8_says yX8_says, Cond.code yX8_says cX8_says 8 (some .boolean), Cond.methodLink RX8 116 yX8_letter, Cond.instanceMethod yX8_letter, Cond.selects RX8 yX8_letter yX8_letter, Cond.code yX8_letter cX8_letter 3 (some .char), Cond.methodLink RX8 112 yX8_length, Cond.instanceMethod yX8_length, Cond.selects RX8 yX8_length yX8_length, Cond.code yX8_length cX8_length 2 (some .int)]
def wsX8_line_r2 : List Cond := [Cond.methodLink RX8 130 yX8_newState, Cond.instanceMethod yX8_newState, Cond.selects RX8 yX8_newState yX8_newState, Cond.code yX8_newState cX8_newState 5 (some .int), Cond.fieldLink RX8 33 "ChartTableModel" "depth" "[I", Cond.fieldLink RX8 20 "ChartTableModel" "states" "I", Cond.fieldLink RX8 24 "ChartTableModel" "name" "[C", Cond.fieldLink RX8 30 "ChartTableModel" "parent" "[I", Cond.fieldLink RX8 39 "ChartTableModel" "whole" "[Z", Cond.fieldLink RX8 43 "ChartTableModel" "remembers" "[Z", Cond.methodLink RX8 146 yX8_isWord, Cond.instanceMethod yX8_isWord, Cond.selects RX8 yX8_isWord yX8_isWord, Cond.code yX8_isWord cX8_isWord 5 (some .boolean), Cond.methodLink RX8 150 yX8_stateOf, Cond.instanceMethod yX8_stateOf, Cond.selects RX8 yX8_stateOf yX8_stateOf, Cond.code yX8_stateOf cX8_stateOf 5 (some .int), Cond.methodLink RX8 134 yX8_newMarks, Cond.instanceMethod yX8_newMarks, Cond.selects RX8 yX8_newMarks yX8_newMarks, Cond.code yX8_newMarks cX8_newMarks 5 (some .int), Cond.fieldLink RX8 36 "ChartTableModel" "marks" "[I", Cond.fieldLink RX8 27 "ChartTableModel" "mark" "[C"]
def wsX8_line_r3 : List Cond := [Cond.methodLink RX8 137 yX8_newRule, Cond.instanceMethod yX8_newRule, Cond.selects RX8 yX8_newRule yX8_newRule, Cond.code yX8_newRule cX8_newRule 10 (some .int), Cond.fieldLink RX8 156 "ChartTableModel" "rules" "I", Cond.fieldLink RX8 120 "ChartTableModel" "events" "I", Cond.fieldLink RX8 46 "ChartTableModel" "eventName" "[C", Cond.fieldLink RX8 52 "ChartTableModel" "ruleEvent" "[I", Cond.fieldLink RX8 55 "ChartTableModel" "ruleFrom" "[I", Cond.fieldLink RX8 58 "ChartTableModel" "ruleTo" "[I", Cond.fieldLink RX8 61 "ChartTableModel" "ruleWhen" "[I", Cond.fieldLink RX8 64 "ChartTableModel" "ruleState" "[I", Cond.fieldLink RX8 67 "ChartTableModel" "ruleMarks" "[I", Cond.fieldLink RX8 49 "ChartTableModel" "ruleMark" "[C", Cond.methodLink RX8 153 yX8_eventOf, Cond.instanceMethod yX8_eventOf, Cond.selects RX8 yX8_eventOf yX8_eventOf, Cond.code yX8_eventOf cX8_eventOf 5 (some .int), Cond.methodLink RX8 140 yX8_fails, Cond.instanceMethod yX8_fails, Cond.selects RX8 yX8_fails yX8_fails, Cond.code yX8_fails cX8_fails 2 (some .int)]
def wsX8_line : List Cond := .code yX8_line cX8_line 2 (some .int) :: ((wsX8_line_r1 ++ (wsX8_line_r2 ++ wsX8_line_r3)) ++ wsX80)
def wsX8_named_r1 : List Cond := [Cond.fieldLink RX8 103 "ChartTableModel" "fault" "I", Cond.fieldLink RX8 106 "ChartTableModel" "written" "I", Cond.fieldLink RX8 109 "ChartTableModel" "words" "I", Cond.methodLink RX8 123 yX8_split, Cond.instanceMethod yX8_split, Cond.selects RX8 yX8_split yX8_split, Cond.initialized RX8, Cond.code yX8_split cX8_split 2 none, Cond.fieldLink RX8 7 "ChartTableModel" "text" "[C", Cond.fieldLink RX8 13 "ChartTableModel" "begin" "[I", Cond.fieldLink RX8 17 "ChartTableModel" "end" "[I", Cond.methodLink RX8 150 yX8_stateOf, Cond.instanceMethod yX8_stateOf, Cond.selects RX8 yX8_stateOf yX8_stateOf, Cond.code yX8_stateOf cX8_stateOf 5 (some .int), Cond.fieldLink RX8 20 "ChartTableModel" "states" "I", Cond.fieldLink RX8 24 "ChartTableModel" "name" "[C", Cond.methodLink RX8 112 yX8_length, Cond.instanceMethod yX8_length, Cond.selects RX8 yX8_length yX8_length, Cond.code yX8_length cX8_length 2 (some .int), Cond.methodLink RX8 116 yX8_letter, Cond.instanceMethod yX8_letter, Cond.selects RX8 yX8_letter yX8_letter]
def wsX8_named_r2 : List Cond := [Cond.code yX8_letter cX8_letter 3 (some .char), Cond.methodLink RX8 140 yX8_fails, Cond.instanceMethod yX8_fails, Cond.selects RX8 yX8_fails yX8_fails, Cond.code yX8_fails cX8_fails 2 (some .int)]
def wsX8_named : List Cond := .code yX8_named cX8_named 2 (some .int) :: ((wsX8_named_r1 ++ wsX8_named_r2) ++ wsX80)
def wsX8_firstChild : List Cond := .code yX8_firstChild cX8_firstChild 3 (some .int) :: ([.fieldLink RX8 20 "ChartTableModel" "states" "I", .fieldLink RX8 30 "ChartTableModel" "parent" "[I"] ++ wsX80)
def wsX8_within : List Cond := .code yX8_within cX8_within 4 (some .boolean) :: ([.fieldLink RX8 30 "ChartTableModel" "parent" "[I"] ++ wsX80)
def wsX8_isActive : List Cond := .code yX8_isActive cX8_isActive 4 (some .boolean) :: ([.fieldLink RX8 39 "ChartTableModel" "whole" "[Z", .fieldLink RX8 30 "ChartTableModel" "parent" "[I", .fieldLink RX8 70 "ChartTableModel" "now" "[I"] ++ wsX80)
def wsX8_put : List Cond := .code yX8_put cX8_put 2 none :: ([.fieldLink RX8 163 "ChartTableModel" "notes" "I", .fieldLink RX8 73 "ChartTableModel" "note" "[C"] ++ wsX80)
def wsX8_notes : List Cond := .code yX8_notes cX8_notes 3 none :: ([.fieldLink RX8 36 "ChartTableModel" "marks" "[I", .fieldLink RX8 27 "ChartTableModel" "mark" "[C", .methodLink RX8 159 yX8_put, .instanceMethod yX8_put, .selects RX8 yX8_put yX8_put, .initialized RX8, .code yX8_put cX8_put 2 none, .fieldLink RX8 163 "ChartTableModel" "notes" "I", .fieldLink RX8 73 "ChartTableModel" "note" "[C"] ++ wsX80)
def wsX8_enter : List Cond := .code yX8_enter cX8_enter 8 none :: ([.fieldLink RX8 88 "ChartTableModel" "stack" "[I", .fieldLink RX8 20 "ChartTableModel" "states" "I", .fieldLink RX8 30 "ChartTableModel" "parent" "[I", .fieldLink RX8 39 "ChartTableModel" "whole" "[Z", .fieldLink RX8 70 "ChartTableModel" "now" "[I", .methodLink RX8 166 yX8_notes, .instanceMethod yX8_notes, .selects RX8 yX8_notes yX8_notes, .initialized RX8, .code yX8_notes cX8_notes 3 none, .fieldLink RX8 36 "ChartTableModel" "marks" "[I", .fieldLink RX8 27 "ChartTableModel" "mark" "[C", .methodLink RX8 159 yX8_put, .instanceMethod yX8_put, .selects RX8 yX8_put yX8_put, .code yX8_put cX8_put 2 none, .fieldLink RX8 163 "ChartTableModel" "notes" "I", .fieldLink RX8 73 "ChartTableModel" "note" "[C", .methodLink RX8 169 yX8_within, .instanceMethod yX8_within, .selects RX8 yX8_within yX8_within, .code yX8_within cX8_within 4 (some .boolean)] ++ wsX80)
def wsX8_firstOf : List Cond := .code yX8_firstOf cX8_firstOf 2 (some .int) :: ([.fieldLink RX8 39 "ChartTableModel" "whole" "[Z", .methodLink RX8 175 yX8_firstChild, .instanceMethod yX8_firstChild, .selects RX8 yX8_firstChild yX8_firstChild, .initialized RX8, .code yX8_firstChild cX8_firstChild 3 (some .int), .fieldLink RX8 20 "ChartTableModel" "states" "I", .fieldLink RX8 30 "ChartTableModel" "parent" "[I"] ++ wsX80)
def wsX8_leave_r1 : List Cond := [Cond.fieldLink RX8 88 "ChartTableModel" "stack" "[I", Cond.fieldLink RX8 91 "ChartTableModel" "row" "[I", Cond.fieldLink RX8 20 "ChartTableModel" "states" "I", Cond.fieldLink RX8 30 "ChartTableModel" "parent" "[I", Cond.fieldLink RX8 39 "ChartTableModel" "whole" "[Z", Cond.fieldLink RX8 70 "ChartTableModel" "now" "[I", Cond.fieldLink RX8 43 "ChartTableModel" "remembers" "[Z", Cond.methodLink RX8 166 yX8_notes, Cond.instanceMethod yX8_notes, Cond.selects RX8 yX8_notes yX8_notes, Cond.initialized RX8, Cond.code yX8_notes cX8_notes 3 none, Cond.fieldLink RX8 36 "ChartTableModel" "marks" "[I", Cond.fieldLink RX8 27 "ChartTableModel" "mark" "[C", Cond.methodLink RX8 159 yX8_put, Cond.instanceMethod yX8_put, Cond.selects RX8 yX8_put yX8_put, Cond.code yX8_put cX8_put 2 none, Cond.fieldLink RX8 163 "ChartTableModel" "notes" "I", Cond.fieldLink RX8 73 "ChartTableModel" "note" "[C", Cond.methodLink RX8 172 yX8_firstOf, Cond.instanceMethod yX8_firstOf, Cond.selects RX8 yX8_firstOf yX8_firstOf, Cond.code yX8_firstOf cX8_firstOf 2 (some .int)]
def wsX8_leave_r2 : List Cond := [Cond.methodLink RX8 175 yX8_firstChild, Cond.instanceMethod yX8_firstChild, Cond.selects RX8 yX8_firstChild yX8_firstChild, Cond.code yX8_firstChild cX8_firstChild 3 (some .int)]
def wsX8_leave : List Cond := .code yX8_leave cX8_leave 6 none :: ((wsX8_leave_r1 ++ wsX8_leave_r2) ++ wsX80)
def wsX8_take_r1 : List Cond := [Cond.fieldLink RX8 58 "ChartTableModel" "ruleTo" "[I", Cond.fieldLink RX8 30 "ChartTableModel" "parent" "[I", Cond.fieldLink RX8 55 "ChartTableModel" "ruleFrom" "[I", Cond.fieldLink RX8 39 "ChartTableModel" "whole" "[Z", Cond.fieldLink RX8 70 "ChartTableModel" "now" "[I", Cond.fieldLink RX8 67 "ChartTableModel" "ruleMarks" "[I", Cond.fieldLink RX8 49 "ChartTableModel" "ruleMark" "[C", Cond.fieldLink RX8 33 "ChartTableModel" "depth" "[I", Cond.methodLink RX8 169 yX8_within, Cond.instanceMethod yX8_within, Cond.selects RX8 yX8_within yX8_within, Cond.initialized RX8, Cond.code yX8_within cX8_within 4 (some .boolean), Cond.methodLink RX8 185 yX8_leave, Cond.instanceMethod yX8_leave, Cond.selects RX8 yX8_leave yX8_leave, Cond.code yX8_leave cX8_leave 6 none, Cond.fieldLink RX8 88 "ChartTableModel" "stack" "[I", Cond.fieldLink RX8 91 "ChartTableModel" "row" "[I", Cond.fieldLink RX8 20 "ChartTableModel" "states" "I", Cond.fieldLink RX8 43 "ChartTableModel" "remembers" "[Z", Cond.methodLink RX8 166 yX8_notes, Cond.instanceMethod yX8_notes, Cond.selects RX8 yX8_notes yX8_notes]
def wsX8_take_r2 : List Cond := [Cond.code yX8_notes cX8_notes 3 none, Cond.fieldLink RX8 36 "ChartTableModel" "marks" "[I", Cond.fieldLink RX8 27 "ChartTableModel" "mark" "[C", Cond.methodLink RX8 159 yX8_put, Cond.instanceMethod yX8_put, Cond.selects RX8 yX8_put yX8_put, Cond.code yX8_put cX8_put 2 none, Cond.fieldLink RX8 163 "ChartTableModel" "notes" "I", Cond.fieldLink RX8 73 "ChartTableModel" "note" "[C", Cond.methodLink RX8 172 yX8_firstOf, Cond.instanceMethod yX8_firstOf, Cond.selects RX8 yX8_firstOf yX8_firstOf, Cond.code yX8_firstOf cX8_firstOf 2 (some .int), Cond.methodLink RX8 175 yX8_firstChild, Cond.instanceMethod yX8_firstChild, Cond.selects RX8 yX8_firstChild yX8_firstChild, Cond.code yX8_firstChild cX8_firstChild 3 (some .int), Cond.methodLink RX8 188 yX8_enter, Cond.instanceMethod yX8_enter, Cond.selects RX8 yX8_enter yX8_enter, Cond.code yX8_enter cX8_enter 8 none]
def wsX8_take : List Cond := .code yX8_take cX8_take 5 (some .int) :: ((wsX8_take_r1 ++ wsX8_take_r2) ++ wsX80)
def wsX8_own_r1 : List Cond := [Cond.fieldLink RX8 156 "ChartTableModel" "rules" "I", Cond.fieldLink RX8 61 "ChartTableModel" "ruleWhen" "[I", Cond.fieldLink RX8 64 "ChartTableModel" "ruleState" "[I", Cond.fieldLink RX8 55 "ChartTableModel" "ruleFrom" "[I", Cond.fieldLink RX8 52 "ChartTableModel" "ruleEvent" "[I", Cond.methodLink RX8 178 yX8_isActive, Cond.instanceMethod yX8_isActive, Cond.selects RX8 yX8_isActive yX8_isActive, Cond.initialized RX8, Cond.code yX8_isActive cX8_isActive 4 (some .boolean), Cond.fieldLink RX8 39 "ChartTableModel" "whole" "[Z", Cond.fieldLink RX8 30 "ChartTableModel" "parent" "[I", Cond.fieldLink RX8 70 "ChartTableModel" "now" "[I", Cond.methodLink RX8 182 yX8_take, Cond.instanceMethod yX8_take, Cond.selects RX8 yX8_take yX8_take, Cond.code yX8_take cX8_take 5 (some .int), Cond.fieldLink RX8 58 "ChartTableModel" "ruleTo" "[I", Cond.fieldLink RX8 67 "ChartTableModel" "ruleMarks" "[I", Cond.fieldLink RX8 49 "ChartTableModel" "ruleMark" "[C", Cond.fieldLink RX8 33 "ChartTableModel" "depth" "[I", Cond.methodLink RX8 169 yX8_within, Cond.instanceMethod yX8_within, Cond.selects RX8 yX8_within yX8_within]
def wsX8_own_r2 : List Cond := [Cond.code yX8_within cX8_within 4 (some .boolean), Cond.methodLink RX8 185 yX8_leave, Cond.instanceMethod yX8_leave, Cond.selects RX8 yX8_leave yX8_leave, Cond.code yX8_leave cX8_leave 6 none, Cond.fieldLink RX8 88 "ChartTableModel" "stack" "[I", Cond.fieldLink RX8 91 "ChartTableModel" "row" "[I", Cond.fieldLink RX8 20 "ChartTableModel" "states" "I", Cond.fieldLink RX8 43 "ChartTableModel" "remembers" "[Z", Cond.methodLink RX8 166 yX8_notes, Cond.instanceMethod yX8_notes, Cond.selects RX8 yX8_notes yX8_notes, Cond.code yX8_notes cX8_notes 3 none, Cond.fieldLink RX8 36 "ChartTableModel" "marks" "[I", Cond.fieldLink RX8 27 "ChartTableModel" "mark" "[C", Cond.methodLink RX8 159 yX8_put, Cond.instanceMethod yX8_put, Cond.selects RX8 yX8_put yX8_put, Cond.code yX8_put cX8_put 2 none, Cond.fieldLink RX8 163 "ChartTableModel" "notes" "I", Cond.fieldLink RX8 73 "ChartTableModel" "note" "[C", Cond.methodLink RX8 172 yX8_firstOf, Cond.instanceMethod yX8_firstOf, Cond.selects RX8 yX8_firstOf yX8_firstOf]
def wsX8_own_r3 : List Cond := [Cond.code yX8_firstOf cX8_firstOf 2 (some .int), Cond.methodLink RX8 175 yX8_firstChild, Cond.instanceMethod yX8_firstChild, Cond.selects RX8 yX8_firstChild yX8_firstChild, Cond.code yX8_firstChild cX8_firstChild 3 (some .int), Cond.methodLink RX8 188 yX8_enter, Cond.instanceMethod yX8_enter, Cond.selects RX8 yX8_enter yX8_enter, Cond.code yX8_enter cX8_enter 8 none]
def wsX8_own : List Cond := .code yX8_own cX8_own 5 (some .int) :: ((wsX8_own_r1 ++ (wsX8_own_r2 ++ wsX8_own_r3)) ++ wsX80)
def wsX8_following : List Cond := .code yX8_following cX8_following 4 (some .int) :: ([.fieldLink RX8 39 "ChartTableModel" "whole" "[Z", .fieldLink RX8 70 "ChartTableModel" "now" "[I", .fieldLink RX8 20 "ChartTableModel" "states" "I", .fieldLink RX8 30 "ChartTableModel" "parent" "[I"] ++ wsX80)
def wsX8_offer_r1 : List Cond := [Cond.fieldLink RX8 94 "ChartTableModel" "open" "[I", Cond.fieldLink RX8 97 "ChartTableModel" "reached" "[I", Cond.fieldLink RX8 100 "ChartTableModel" "taken" "[I", Cond.fieldLink RX8 33 "ChartTableModel" "depth" "[I", Cond.methodLink RX8 192 yX8_following, Cond.instanceMethod yX8_following, Cond.selects RX8 yX8_following yX8_following, Cond.initialized RX8, Cond.code yX8_following cX8_following 4 (some .int), Cond.fieldLink RX8 39 "ChartTableModel" "whole" "[Z", Cond.fieldLink RX8 70 "ChartTableModel" "now" "[I", Cond.fieldLink RX8 20 "ChartTableModel" "states" "I", Cond.fieldLink RX8 30 "ChartTableModel" "parent" "[I", Cond.methodLink RX8 196 yX8_own, Cond.instanceMethod yX8_own, Cond.selects RX8 yX8_own yX8_own, Cond.code yX8_own cX8_own 5 (some .int), Cond.fieldLink RX8 156 "ChartTableModel" "rules" "I", Cond.fieldLink RX8 61 "ChartTableModel" "ruleWhen" "[I", Cond.fieldLink RX8 64 "ChartTableModel" "ruleState" "[I", Cond.fieldLink RX8 55 "ChartTableModel" "ruleFrom" "[I", Cond.fieldLink RX8 52 "ChartTableModel" "ruleEvent" "[I", Cond.methodLink RX8 178 yX8_isActive, Cond.instanceMethod yX8_isActive]
def wsX8_offer_r2 : List Cond := [Cond.selects RX8 yX8_isActive yX8_isActive, Cond.code yX8_isActive cX8_isActive 4 (some .boolean), Cond.methodLink RX8 182 yX8_take, Cond.instanceMethod yX8_take, Cond.selects RX8 yX8_take yX8_take, Cond.code yX8_take cX8_take 5 (some .int), Cond.fieldLink RX8 58 "ChartTableModel" "ruleTo" "[I", Cond.fieldLink RX8 67 "ChartTableModel" "ruleMarks" "[I", Cond.fieldLink RX8 49 "ChartTableModel" "ruleMark" "[C", Cond.methodLink RX8 169 yX8_within, Cond.instanceMethod yX8_within, Cond.selects RX8 yX8_within yX8_within, Cond.code yX8_within cX8_within 4 (some .boolean), Cond.methodLink RX8 185 yX8_leave, Cond.instanceMethod yX8_leave, Cond.selects RX8 yX8_leave yX8_leave, Cond.code yX8_leave cX8_leave 6 none, Cond.fieldLink RX8 88 "ChartTableModel" "stack" "[I", Cond.fieldLink RX8 91 "ChartTableModel" "row" "[I", Cond.fieldLink RX8 43 "ChartTableModel" "remembers" "[Z", Cond.methodLink RX8 166 yX8_notes, Cond.instanceMethod yX8_notes, Cond.selects RX8 yX8_notes yX8_notes, Cond.code yX8_notes cX8_notes 3 none]
def wsX8_offer_r3 : List Cond := [Cond.fieldLink RX8 36 "ChartTableModel" "marks" "[I", Cond.fieldLink RX8 27 "ChartTableModel" "mark" "[C", Cond.methodLink RX8 159 yX8_put, Cond.instanceMethod yX8_put, Cond.selects RX8 yX8_put yX8_put, Cond.code yX8_put cX8_put 2 none, Cond.fieldLink RX8 163 "ChartTableModel" "notes" "I", Cond.fieldLink RX8 73 "ChartTableModel" "note" "[C", Cond.methodLink RX8 172 yX8_firstOf, Cond.instanceMethod yX8_firstOf, Cond.selects RX8 yX8_firstOf yX8_firstOf, Cond.code yX8_firstOf cX8_firstOf 2 (some .int), Cond.methodLink RX8 175 yX8_firstChild, Cond.instanceMethod yX8_firstChild, Cond.selects RX8 yX8_firstChild yX8_firstChild, Cond.code yX8_firstChild cX8_firstChild 3 (some .int), Cond.methodLink RX8 188 yX8_enter, Cond.instanceMethod yX8_enter, Cond.selects RX8 yX8_enter yX8_enter, Cond.code yX8_enter cX8_enter 8 none]
def wsX8_offer : List Cond := .code yX8_offer cX8_offer 7 none :: ((wsX8_offer_r1 ++ (wsX8_offer_r2 ++ wsX8_offer_r3)) ++ wsX80)
def wsX8_configuration : List Cond := .code yX8_configuration cX8_configuration 4 (some .int) :: ([.fieldLink RX8 143 "ChartTableModel" "made" "I", .fieldLink RX8 20 "ChartTableModel" "states" "I", .fieldLink RX8 76 "ChartTableModel" "current" "[I", .fieldLink RX8 70 "ChartTableModel" "now" "[I"] ++ wsX80)
def wsX8_keep : List Cond := .code yX8_keep cX8_keep 3 none :: ([.fieldLink RX8 82 "ChartTableModel" "traced" "[I", .fieldLink RX8 163 "ChartTableModel" "notes" "I", .fieldLink RX8 85 "ChartTableModel" "trace" "[C", .fieldLink RX8 73 "ChartTableModel" "note" "[C"] ++ wsX80)
def wsX8_offered_r1 : List Cond := [Cond.fieldLink RX8 20 "ChartTableModel" "states" "I", Cond.fieldLink RX8 70 "ChartTableModel" "now" "[I", Cond.fieldLink RX8 76 "ChartTableModel" "current" "[I", Cond.fieldLink RX8 163 "ChartTableModel" "notes" "I", Cond.methodLink RX8 199 yX8_offer, Cond.instanceMethod yX8_offer, Cond.selects RX8 yX8_offer yX8_offer, Cond.initialized RX8, Cond.code yX8_offer cX8_offer 7 none, Cond.fieldLink RX8 94 "ChartTableModel" "open" "[I", Cond.fieldLink RX8 97 "ChartTableModel" "reached" "[I", Cond.fieldLink RX8 100 "ChartTableModel" "taken" "[I", Cond.fieldLink RX8 33 "ChartTableModel" "depth" "[I", Cond.methodLink RX8 192 yX8_following, Cond.instanceMethod yX8_following, Cond.selects RX8 yX8_following yX8_following, Cond.code yX8_following cX8_following 4 (some .int), Cond.fieldLink RX8 39 "ChartTableModel" "whole" "[Z", Cond.fieldLink RX8 30 "ChartTableModel" "parent" "[I", Cond.methodLink RX8 196 yX8_own, Cond.instanceMethod yX8_own, Cond.selects RX8 yX8_own yX8_own, Cond.code yX8_own cX8_own 5 (some .int), Cond.fieldLink RX8 156 "ChartTableModel" "rules" "I"]
def wsX8_offered_r2 : List Cond := [Cond.fieldLink RX8 61 "ChartTableModel" "ruleWhen" "[I", Cond.fieldLink RX8 64 "ChartTableModel" "ruleState" "[I", Cond.fieldLink RX8 55 "ChartTableModel" "ruleFrom" "[I", Cond.fieldLink RX8 52 "ChartTableModel" "ruleEvent" "[I", Cond.methodLink RX8 178 yX8_isActive, Cond.instanceMethod yX8_isActive, Cond.selects RX8 yX8_isActive yX8_isActive, Cond.code yX8_isActive cX8_isActive 4 (some .boolean), Cond.methodLink RX8 182 yX8_take, Cond.instanceMethod yX8_take, Cond.selects RX8 yX8_take yX8_take, Cond.code yX8_take cX8_take 5 (some .int), Cond.fieldLink RX8 58 "ChartTableModel" "ruleTo" "[I", Cond.fieldLink RX8 67 "ChartTableModel" "ruleMarks" "[I", Cond.fieldLink RX8 49 "ChartTableModel" "ruleMark" "[C", Cond.methodLink RX8 169 yX8_within, Cond.instanceMethod yX8_within, Cond.selects RX8 yX8_within yX8_within, Cond.code yX8_within cX8_within 4 (some .boolean), Cond.methodLink RX8 185 yX8_leave, Cond.instanceMethod yX8_leave, Cond.selects RX8 yX8_leave yX8_leave, Cond.code yX8_leave cX8_leave 6 none, Cond.fieldLink RX8 88 "ChartTableModel" "stack" "[I"]
def wsX8_offered_r3 : List Cond := [Cond.fieldLink RX8 91 "ChartTableModel" "row" "[I", Cond.fieldLink RX8 43 "ChartTableModel" "remembers" "[Z", Cond.methodLink RX8 166 yX8_notes, Cond.instanceMethod yX8_notes, Cond.selects RX8 yX8_notes yX8_notes, Cond.code yX8_notes cX8_notes 3 none, Cond.fieldLink RX8 36 "ChartTableModel" "marks" "[I", Cond.fieldLink RX8 27 "ChartTableModel" "mark" "[C", Cond.methodLink RX8 159 yX8_put, Cond.instanceMethod yX8_put, Cond.selects RX8 yX8_put yX8_put, Cond.code yX8_put cX8_put 2 none, Cond.fieldLink RX8 73 "ChartTableModel" "note" "[C", Cond.methodLink RX8 172 yX8_firstOf, Cond.instanceMethod yX8_firstOf, Cond.selects RX8 yX8_firstOf yX8_firstOf, Cond.code yX8_firstOf cX8_firstOf 2 (some .int), Cond.methodLink RX8 175 yX8_firstChild, Cond.instanceMethod yX8_firstChild, Cond.selects RX8 yX8_firstChild yX8_firstChild, Cond.code yX8_firstChild cX8_firstChild 3 (some .int), Cond.methodLink RX8 188 yX8_enter, Cond.instanceMethod yX8_enter, Cond.selects RX8 yX8_enter yX8_enter]
def wsX8_offered_r4 : List Cond := [Cond.code yX8_enter cX8_enter 8 none]
def wsX8_offered : List Cond := .code yX8_offered cX8_offered 4 none :: ((wsX8_offered_r1 ++ (wsX8_offered_r2 ++ (wsX8_offered_r3 ++ wsX8_offered_r4))) ++ wsX80)
def wsX8_compile_r1 : List Cond := [Cond.fieldLink RX8 103 "ChartTableModel" "fault" "I", Cond.fieldLink RX8 143 "ChartTableModel" "made" "I", Cond.fieldLink RX8 163 "ChartTableModel" "notes" "I", Cond.fieldLink RX8 20 "ChartTableModel" "states" "I", Cond.fieldLink RX8 70 "ChartTableModel" "now" "[I", Cond.fieldLink RX8 120 "ChartTableModel" "events" "I", Cond.fieldLink RX8 79 "ChartTableModel" "next" "[I", Cond.fieldLink RX8 211 "ChartTableModel" "at" "I", Cond.fieldLink RX8 82 "ChartTableModel" "traced" "[I", Cond.fieldLink RX8 214 "ChartTableModel" "noted" "I", Cond.methodLink RX8 172 yX8_firstOf, Cond.instanceMethod yX8_firstOf, Cond.selects RX8 yX8_firstOf yX8_firstOf, Cond.initialized RX8, Cond.code yX8_firstOf cX8_firstOf 2 (some .int), Cond.fieldLink RX8 39 "ChartTableModel" "whole" "[Z", Cond.methodLink RX8 175 yX8_firstChild, Cond.instanceMethod yX8_firstChild, Cond.selects RX8 yX8_firstChild yX8_firstChild, Cond.code yX8_firstChild cX8_firstChild 3 (some .int), Cond.fieldLink RX8 30 "ChartTableModel" "parent" "[I", Cond.methodLink RX8 188 yX8_enter, Cond.instanceMethod yX8_enter, Cond.selects RX8 yX8_enter yX8_enter]
def wsX8_compile_r2 : List Cond := [Cond.code yX8_enter cX8_enter 8 none, Cond.fieldLink RX8 88 "ChartTableModel" "stack" "[I", Cond.methodLink RX8 166 yX8_notes, Cond.instanceMethod yX8_notes, Cond.selects RX8 yX8_notes yX8_notes, Cond.code yX8_notes cX8_notes 3 none, Cond.fieldLink RX8 36 "ChartTableModel" "marks" "[I", Cond.fieldLink RX8 27 "ChartTableModel" "mark" "[C", Cond.methodLink RX8 159 yX8_put, Cond.instanceMethod yX8_put, Cond.selects RX8 yX8_put yX8_put, Cond.code yX8_put cX8_put 2 none, Cond.fieldLink RX8 73 "ChartTableModel" "note" "[C", Cond.methodLink RX8 169 yX8_within, Cond.instanceMethod yX8_within, Cond.selects RX8 yX8_within yX8_within, Cond.code yX8_within cX8_within 4 (some .boolean), Cond.methodLink RX8 202 yX8_keep, Cond.instanceMethod yX8_keep, Cond.selects RX8 yX8_keep yX8_keep, Cond.code yX8_keep cX8_keep 3 none, Cond.fieldLink RX8 85 "ChartTableModel" "trace" "[C", Cond.methodLink RX8 205 yX8_configuration, Cond.instanceMethod yX8_configuration]
def wsX8_compile_r3 : List Cond := [Cond.selects RX8 yX8_configuration yX8_configuration, Cond.code yX8_configuration cX8_configuration 4 (some .int), Cond.fieldLink RX8 76 "ChartTableModel" "current" "[I", Cond.methodLink RX8 208 yX8_offered, Cond.instanceMethod yX8_offered, Cond.selects RX8 yX8_offered yX8_offered, Cond.code yX8_offered cX8_offered 4 none, Cond.methodLink RX8 199 yX8_offer, Cond.instanceMethod yX8_offer, Cond.selects RX8 yX8_offer yX8_offer, Cond.code yX8_offer cX8_offer 7 none, Cond.fieldLink RX8 94 "ChartTableModel" "open" "[I", Cond.fieldLink RX8 97 "ChartTableModel" "reached" "[I", Cond.fieldLink RX8 100 "ChartTableModel" "taken" "[I", Cond.fieldLink RX8 33 "ChartTableModel" "depth" "[I", Cond.methodLink RX8 192 yX8_following, Cond.instanceMethod yX8_following, Cond.selects RX8 yX8_following yX8_following, Cond.code yX8_following cX8_following 4 (some .int), Cond.methodLink RX8 196 yX8_own, Cond.instanceMethod yX8_own, Cond.selects RX8 yX8_own yX8_own, Cond.code yX8_own cX8_own 5 (some .int), Cond.fieldLink RX8 156 "ChartTableModel" "rules" "I"]
def wsX8_compile_r4 : List Cond := [Cond.fieldLink RX8 61 "ChartTableModel" "ruleWhen" "[I", Cond.fieldLink RX8 64 "ChartTableModel" "ruleState" "[I", Cond.fieldLink RX8 55 "ChartTableModel" "ruleFrom" "[I", Cond.fieldLink RX8 52 "ChartTableModel" "ruleEvent" "[I", Cond.methodLink RX8 178 yX8_isActive, Cond.instanceMethod yX8_isActive, Cond.selects RX8 yX8_isActive yX8_isActive, Cond.code yX8_isActive cX8_isActive 4 (some .boolean), Cond.methodLink RX8 182 yX8_take, Cond.instanceMethod yX8_take, Cond.selects RX8 yX8_take yX8_take, Cond.code yX8_take cX8_take 5 (some .int), Cond.fieldLink RX8 58 "ChartTableModel" "ruleTo" "[I", Cond.fieldLink RX8 67 "ChartTableModel" "ruleMarks" "[I", Cond.fieldLink RX8 49 "ChartTableModel" "ruleMark" "[C", Cond.methodLink RX8 185 yX8_leave, Cond.instanceMethod yX8_leave, Cond.selects RX8 yX8_leave yX8_leave, Cond.code yX8_leave cX8_leave 6 none, Cond.fieldLink RX8 91 "ChartTableModel" "row" "[I", Cond.fieldLink RX8 43 "ChartTableModel" "remembers" "[Z", Cond.methodLink RX8 140 yX8_fails, Cond.instanceMethod yX8_fails, Cond.selects RX8 yX8_fails yX8_fails]
def wsX8_compile_r5 : List Cond := [Cond.code yX8_fails cX8_fails 2 (some .int)]
def wsX8_compile : List Cond := .code yX8_compile cX8_compile 4 (some .int) :: ((wsX8_compile_r1 ++ (wsX8_compile_r2 ++ (wsX8_compile_r3 ++ (wsX8_compile_r4 ++ wsX8_compile_r5)))) ++ wsX80)
def wsX8_configurations : List Cond := .code yX8_configurations cX8_configurations 1 (some .int) :: ([.fieldLink RX8 103 "ChartTableModel" "fault" "I", .fieldLink RX8 143 "ChartTableModel" "made" "I"] ++ wsX80)
def wsX8_count : List Cond := .code yX8_count cX8_count 2 (some .int) :: ([.fieldLink RX8 103 "ChartTableModel" "fault" "I", .fieldLink RX8 143 "ChartTableModel" "made" "I", .fieldLink RX8 211 "ChartTableModel" "at" "I", .fieldLink RX8 20 "ChartTableModel" "states" "I", .fieldLink RX8 156 "ChartTableModel" "rules" "I", .fieldLink RX8 120 "ChartTableModel" "events" "I"] ++ wsX80)
def wsX8_isIn : List Cond := .code yX8_isIn cX8_isIn 3 (some .boolean) :: ([.fieldLink RX8 143 "ChartTableModel" "made" "I", .fieldLink RX8 120 "ChartTableModel" "events" "I"] ++ wsX80)
def wsX8_next : List Cond := .code yX8_next cX8_next 3 (some .int) :: ([.fieldLink RX8 103 "ChartTableModel" "fault" "I", .fieldLink RX8 79 "ChartTableModel" "next" "[I", .methodLink RX8 217 yX8_isIn, .instanceMethod yX8_isIn, .selects RX8 yX8_isIn yX8_isIn, .initialized RX8, .code yX8_isIn cX8_isIn 3 (some .boolean), .fieldLink RX8 143 "ChartTableModel" "made" "I", .fieldLink RX8 120 "ChartTableModel" "events" "I", .methodLink RX8 140 yX8_fails, .instanceMethod yX8_fails, .selects RX8 yX8_fails yX8_fails, .code yX8_fails cX8_fails 2 (some .int)] ++ wsX80)
def wsX8_trace : List Cond := .code yX8_trace cX8_trace 6 (some .int) :: ([.fieldLink RX8 103 "ChartTableModel" "fault" "I", .fieldLink RX8 143 "ChartTableModel" "made" "I", .fieldLink RX8 82 "ChartTableModel" "traced" "[I", .fieldLink RX8 85 "ChartTableModel" "trace" "[C", .methodLink RX8 217 yX8_isIn, .instanceMethod yX8_isIn, .selects RX8 yX8_isIn yX8_isIn, .initialized RX8, .code yX8_isIn cX8_isIn 3 (some .boolean), .fieldLink RX8 120 "ChartTableModel" "events" "I"] ++ wsX80)
def wsX8_active : List Cond := .code yX8_active cX8_active 4 (some .boolean) :: ([.fieldLink RX8 103 "ChartTableModel" "fault" "I", .fieldLink RX8 143 "ChartTableModel" "made" "I", .fieldLink RX8 20 "ChartTableModel" "states" "I", .fieldLink RX8 70 "ChartTableModel" "now" "[I", .fieldLink RX8 76 "ChartTableModel" "current" "[I", .methodLink RX8 178 yX8_isActive, .instanceMethod yX8_isActive, .selects RX8 yX8_isActive yX8_isActive, .initialized RX8, .code yX8_isActive cX8_isActive 4 (some .boolean), .fieldLink RX8 39 "ChartTableModel" "whole" "[Z", .fieldLink RX8 30 "ChartTableModel" "parent" "[I"] ++ wsX80)
def wsX8_current : List Cond := .code yX8_current cX8_current 3 (some .int) :: ([.fieldLink RX8 103 "ChartTableModel" "fault" "I", .fieldLink RX8 143 "ChartTableModel" "made" "I", .fieldLink RX8 20 "ChartTableModel" "states" "I", .fieldLink RX8 76 "ChartTableModel" "current" "[I"] ++ wsX80)
def wsX8_event : List Cond := .code yX8_event cX8_event 2 (some .int) :: ([.fieldLink RX8 103 "ChartTableModel" "fault" "I", .fieldLink RX8 143 "ChartTableModel" "made" "I", .fieldLink RX8 120 "ChartTableModel" "events" "I", .fieldLink RX8 214 "ChartTableModel" "noted" "I", .fieldLink RX8 82 "ChartTableModel" "traced" "[I", .fieldLink RX8 211 "ChartTableModel" "at" "I", .fieldLink RX8 79 "ChartTableModel" "next" "[I", .methodLink RX8 140 yX8_fails, .instanceMethod yX8_fails, .selects RX8 yX8_fails yX8_fails, .initialized RX8, .code yX8_fails cX8_fails 2 (some .int)] ++ wsX80)
def wsX8_noted : List Cond := .code yX8_noted cX8_noted 1 (some .int) :: ([.fieldLink RX8 103 "ChartTableModel" "fault" "I", .fieldLink RX8 143 "ChartTableModel" "made" "I", .fieldLink RX8 214 "ChartTableModel" "noted" "I"] ++ wsX80)
def wsJ9_max_7cf53 : List Cond := .code yJ9_max_7cf53 cJ9_max_7cf53 2 (some .int) :: ([])
def wsJ9_min_7cf53 : List Cond := .code yJ9_min_7cf53 cJ9_min_7cf53 2 (some .int) :: ([])
def wsL_line_r1 : List Cond := [Cond.classLink RL 13 "java/lang/IllegalArgumentException", Cond.classLink RL 15 "java/lang/IllegalStateException", Cond.methodLink RL 7 yX7_line, Cond.instanceMethod yX7_line, Cond.selects RX7 yX7_line yX7_line, Cond.initialized RX7, Cond.code yX7_line cX7_line 2 (some .int), Cond.classLink RX7 56 "java/lang/IllegalArgumentException", Cond.initialized "java/lang/IllegalArgumentException", Cond.classLink RX7 63 "java/lang/IllegalStateException", Cond.initialized "java/lang/IllegalStateException", Cond.fieldLink RX7 35 "ChartTable" "reader" "LChartTable$Reader;", Cond.fieldLink RX7 44 "ChartTable" "table" "LChartTable$Table;", Cond.methodLink RX7 52 yX2_read, Cond.instanceMethod yX2_read, Cond.selects RX2 yX2_read yX2_read, Cond.initialized RX2, Cond.code yX2_read cX2_read 1 (some .int), Cond.fieldLink RX2 9 "ChartTable$Reader" "text" "LChartTable$Line;", Cond.fieldLink RX2 15 "ChartTable$Reader" "states" "LChartTable$States;", Cond.methodLink RX2 23 yX0_split, Cond.instanceMethod yX0_split, Cond.selects RX0 yX0_split yX0_split, Cond.initialized RX0]
def wsL_line_r2 : List Cond := [Cond.code yX0_split cX0_split 4 none, Cond.fieldLink RX0 26 "ChartTable$Line" "words" "I", Cond.fieldLink RX0 22 "ChartTable$Line" "length" "I", Cond.fieldLink RX0 9 "ChartTable$Line" "characters" "[C", Cond.fieldLink RX0 15 "ChartTable$Line" "starts" "[I", Cond.fieldLink RX0 19 "ChartTable$Line" "ends" "[I", Cond.methodLink RX2 28 yX0_words, Cond.instanceMethod yX0_words, Cond.selects RX0 yX0_words yX0_words, Cond.code yX0_words cX0_words 1 (some .int), Cond.methodLink RX2 34 yX0_says, Cond.instanceMethod yX0_says, Cond.selects RX0 yX0_says yX0_says, Cond.code yX0_says cX0_says 4 (some .boolean), Cond.methodLink RX0 29 yX0_sizeOf, Cond.instanceMethod yX0_sizeOf, Cond.selects RX0 yX0_sizeOf yX0_sizeOf, Cond.code yX0_sizeOf cX0_sizeOf 2 (some .int), Cond.methodLink RX0 33 yJ0_length_8abf5, Cond.instanceMethod yJ0_length_8abf5, Cond.selects RJ0 yJ0_length_8abf5 yJ0_length_8abf5, Cond.initialized RJ0, Cond.code yJ0_length_8abf5 cJ0_length_8abf5 1 (some .int), Cond.fieldLink RJ0 9 "java/lang/String" "value" "[B"]
def wsL_line_r3 : List Cond := [Cond.methodLink RJ0 335 yJ0_coder_7d493, Cond.instanceMethod yJ0_coder_7d493, Cond.selects RJ0 yJ0_coder_7d493 yJ0_coder_7d493, Cond.code yJ0_coder_7d493 cJ0_coder_7d493 1 (some .byte), Cond.fieldLink RJ0 38 "java/lang/String" "COMPACT_STRINGS" "Z", Cond.fieldLink RJ0 15 "java/lang/String" "coder" "B", Cond.methodLink RX0 38 yX0_letterAt, Cond.instanceMethod yX0_letterAt, Cond.selects RX0 yX0_letterAt yX0_letterAt, Cond.code yX0_letterAt cX0_letterAt 3 (some .char), Cond.methodLink RX0 42 yJ0_charAt_5068e, Cond.instanceMethod yJ0_charAt_5068e, Cond.selects RJ0 yJ0_charAt_5068e yJ0_charAt_5068e, Cond.code yJ0_charAt_5068e cJ0_charAt_5068e 2 (some .char), Cond.methodLink RJ0 492 yJ0_isLatin1_aae02, Cond.instanceMethod yJ0_isLatin1_aae02, Cond.selects RJ0 yJ0_isLatin1_aae02 yJ0_isLatin1_aae02, Cond.code yJ0_isLatin1_aae02 cJ0_isLatin1_aae02 1 (some .boolean), Cond.methodLink RJ0 495 yJ1_charAt_3b067, Cond.static yJ1_charAt_3b067, Cond.initialized RJ1, Cond.code yJ1_charAt_3b067 cJ1_charAt_3b067 2 (some .char), Cond.methodLink RJ1 9 yJ0_checkIndex_df160, Cond.static yJ0_checkIndex_df160]
def wsL_line_r4 : List Cond := [Cond.code yJ0_checkIndex_df160 cJ0_checkIndex_df160 2 none, Cond.fieldLink RJ0 1053 "jdk/internal/util/Preconditions" "SIOOBE_FORMATTER" "Ljava/util/function/BiFunction;", Cond.methodLink RJ0 1059 yJ3_checkIndex_8e157, Cond.static yJ3_checkIndex_8e157, Cond.initialized RJ3, Cond.code yJ3_checkIndex_8e157 cJ3_checkIndex_8e157 3 (some .int), Cond.methodLink RJ0 498 yJ2_charAt_3b067, Cond.static yJ2_charAt_3b067, Cond.initialized RJ2, Cond.code yJ2_charAt_3b067 cJ2_charAt_3b067 2 (some .char), Cond.methodLink RJ2 67 yJ2_checkIndex_2214a, Cond.static yJ2_checkIndex_2214a, Cond.code yJ2_checkIndex_2214a cJ2_checkIndex_2214a 2 none, Cond.methodLink RJ2 48 yJ2_length_9d52b, Cond.static yJ2_length_9d52b, Cond.code yJ2_length_9d52b cJ2_length_9d52b 1 (some .int), Cond.methodLink RJ2 414 yJ0_checkIndex_df160, Cond.methodLink RJ2 71 yJ2_getChar_3b067, Cond.static yJ2_getChar_3b067, Cond.code yJ2_getChar_3b067 cJ2_getChar_3b067 2 (some .char), Cond.fieldLink RJ2 44 "java/lang/StringUTF16" "$assertionsDisabled" "Z", Cond.fieldLink RJ2 59 "java/lang/StringUTF16" "HI_BYTE_SHIFT" "I", Cond.fieldLink RJ2 63 "java/lang/StringUTF16" "LO_BYTE_SHIFT" "I", Cond.methodLink RX2 38 yX2_readState]
def wsL_line_r5 : List Cond := [Cond.instanceMethod yX2_readState, Cond.selects RX2 yX2_readState yX2_readState, Cond.code yX2_readState cX2_readState 5 (some .int), Cond.methodLink RX2 69 yX0_nameAt, Cond.instanceMethod yX0_nameAt, Cond.selects RX0 yX0_nameAt yX0_nameAt, Cond.code yX0_nameAt cX0_nameAt 5 (some .int), Cond.methodLink RX0 46 yX0_isLetters, Cond.instanceMethod yX0_isLetters, Cond.selects RX0 yX0_isLetters yX0_isLetters, Cond.code yX0_isLetters cX0_isLetters 6 (some .boolean), Cond.methodLink RX2 73 yX4_find, Cond.instanceMethod yX4_find, Cond.selects RX4 yX4_find yX4_find, Cond.initialized RX4, Cond.code yX4_find cX4_find 3 (some .int), Cond.fieldLink RX4 43 "ChartTable$States" "made" "I", Cond.fieldLink RX4 9 "ChartTable$States" "names" "[I", Cond.methodLink RX2 76 yX4_depthOf, Cond.instanceMethod yX4_depthOf, Cond.selects RX4 yX4_depthOf yX4_depthOf, Cond.code yX4_depthOf cX4_depthOf 2 (some .int), Cond.fieldLink RX4 18 "ChartTable$States" "depths" "[I", Cond.methodLink RX4 51 yX4_isState]
def wsL_line_r6 : List Cond := [Cond.instanceMethod yX4_isState, Cond.selects RX4 yX4_isState yX4_isState, Cond.code yX4_isState cX4_isState 2 (some .boolean), Cond.methodLink RX2 79 yX4_isFull, Cond.instanceMethod yX4_isFull, Cond.selects RX4 yX4_isFull yX4_isFull, Cond.code yX4_isFull cX4_isFull 1 (some .boolean), Cond.methodLink RX2 83 yX4_make, Cond.instanceMethod yX4_make, Cond.selects RX4 yX4_make yX4_make, Cond.code yX4_make cX4_make 5 none, Cond.fieldLink RX4 15 "ChartTable$States" "parents" "[I", Cond.fieldLink RX4 21 "ChartTable$States" "firstChildren" "[I", Cond.fieldLink RX4 24 "ChartTable$States" "wholes" "[Z", Cond.fieldLink RX4 28 "ChartTable$States" "remembering" "[Z", Cond.methodLink RX4 47 yX4_isFull, Cond.methodLink RX2 43 yX4_entering, Cond.instanceMethod yX4_entering, Cond.selects RX4 yX4_entering yX4_entering, Cond.code yX4_entering cX4_entering 1 (some (.object "ChartTable$MarkRows")), Cond.fieldLink RX4 36 "ChartTable$States" "entering" "LChartTable$MarkRows;", Cond.methodLink RX2 49 yX2_readMarks, Cond.instanceMethod yX2_readMarks, Cond.selects RX2 yX2_readMarks yX2_readMarks]
def wsL_line_r7 : List Cond := [Cond.code yX2_readMarks cX2_readMarks 3 (some .int), Cond.methodLink RX2 87 yX0_isLetters, Cond.methodLink RX2 91 yX0_sizeOf, Cond.methodLink RX2 94 yX1_hasRoom, Cond.instanceMethod yX1_hasRoom, Cond.selects RX1 yX1_hasRoom yX1_hasRoom, Cond.initialized RX1, Cond.code yX1_hasRoom cX1_hasRoom 3 (some .boolean), Cond.fieldLink RX1 21 "ChartTable$MarkRows" "most" "I", Cond.fieldLink RX1 28 "ChartTable$MarkRows" "sizes" "[I", Cond.methodLink RX1 32 yX1_isRow, Cond.instanceMethod yX1_isRow, Cond.selects RX1 yX1_isRow yX1_isRow, Cond.code yX1_isRow cX1_isRow 2 (some .boolean), Cond.fieldLink RX1 15 "ChartTable$MarkRows" "rows" "I", Cond.methodLink RX2 99 yX2_addMarks, Cond.instanceMethod yX2_addMarks, Cond.selects RX2 yX2_addMarks yX2_addMarks, Cond.code yX2_addMarks cX2_addMarks 6 none, Cond.methodLink RX2 134 yX0_letterAt, Cond.methodLink RX2 138 yX1_add, Cond.instanceMethod yX1_add, Cond.selects RX1 yX1_add yX1_add, Cond.code yX1_add cX1_add 3 none]
def wsL_line_r8 : List Cond := [Cond.fieldLink RX1 24 "ChartTable$MarkRows" "letters" "[C", Cond.methodLink RX2 55 yX4_leaving, Cond.instanceMethod yX4_leaving, Cond.selects RX4 yX4_leaving yX4_leaving, Cond.code yX4_leaving cX4_leaving 1 (some (.object "ChartTable$MarkRows")), Cond.fieldLink RX4 40 "ChartTable$States" "leaving" "LChartTable$MarkRows;", Cond.methodLink RX2 60 yX2_readRule, Cond.instanceMethod yX2_readRule, Cond.selects RX2 yX2_readRule yX2_readRule, Cond.code yX2_readRule cX2_readRule 8 (some .int), Cond.fieldLink RX2 19 "ChartTable$Reader" "rules" "LChartTable$Rules;", Cond.methodLink RX2 111 yX2_isEndOfRule, Cond.instanceMethod yX2_isEndOfRule, Cond.selects RX2 yX2_isEndOfRule yX2_isEndOfRule, Cond.code yX2_isEndOfRule cX2_isEndOfRule 2 (some .boolean), Cond.methodLink RX2 115 yX3_hasRoom, Cond.instanceMethod yX3_hasRoom, Cond.selects RX3 yX3_hasRoom yX3_hasRoom, Cond.initialized RX3, Cond.code yX3_hasRoom cX3_hasRoom 2 (some .boolean), Cond.fieldLink RX3 43 "ChartTable$Rules" "made" "I", Cond.fieldLink RX3 47 "ChartTable$Rules" "events" "I", Cond.methodLink RX3 50 yX3_findEvent, Cond.instanceMethod yX3_findEvent]
def wsL_line_r9 : List Cond := [Cond.selects RX3 yX3_findEvent yX3_findEvent, Cond.code yX3_findEvent cX3_findEvent 3 (some .int), Cond.fieldLink RX3 9 "ChartTable$Rules" "eventNames" "[I", Cond.methodLink RX2 119 yX4_scopeOf, Cond.instanceMethod yX4_scopeOf, Cond.selects RX4 yX4_scopeOf yX4_scopeOf, Cond.code yX4_scopeOf cX4_scopeOf 5 (some .int), Cond.methodLink RX4 55 yX4_parentOf, Cond.instanceMethod yX4_parentOf, Cond.selects RX4 yX4_parentOf yX4_parentOf, Cond.code yX4_parentOf cX4_parentOf 2 (some .int), Cond.methodLink RX4 59 yX4_isWhole, Cond.instanceMethod yX4_isWhole, Cond.selects RX4 yX4_isWhole yX4_isWhole, Cond.code yX4_isWhole cX4_isWhole 2 (some .boolean), Cond.methodLink RX4 62 yX4_childToward, Cond.instanceMethod yX4_childToward, Cond.selects RX4 yX4_childToward yX4_childToward, Cond.code yX4_childToward cX4_childToward 5 (some .int), Cond.methodLink RX2 123 yX3_make, Cond.instanceMethod yX3_make, Cond.selects RX3 yX3_make yX3_make, Cond.code yX3_make cX3_make 8 none, Cond.fieldLink RX3 15 "ChartTable$Rules" "ruleEvents" "[I"]
def wsL_line_r10 : List Cond := [Cond.fieldLink RX3 18 "ChartTable$Rules" "froms" "[I", Cond.fieldLink RX3 21 "ChartTable$Rules" "targets" "[I", Cond.fieldLink RX3 24 "ChartTable$Rules" "scopes" "[I", Cond.fieldLink RX3 27 "ChartTable$Rules" "askedStates" "[I", Cond.fieldLink RX3 30 "ChartTable$Rules" "wanted" "[Z", Cond.methodLink RX3 54 yX3_hasRoom, Cond.methodLink RX2 126 yX3_marks, Cond.instanceMethod yX3_marks, Cond.selects RX3 yX3_marks yX3_marks, Cond.code yX3_marks cX3_marks 1 (some (.object "ChartTable$MarkRows")), Cond.fieldLink RX3 39 "ChartTable$Rules" "marks" "LChartTable$MarkRows;", Cond.methodLink RX2 129 yX3_made, Cond.instanceMethod yX3_made, Cond.selects RX3 yX3_made yX3_made, Cond.code yX3_made cX3_made 1 (some .int), Cond.methodLink RX7 68 yX5_drop, Cond.instanceMethod yX5_drop, Cond.selects RX5 yX5_drop yX5_drop, Cond.initialized RX5, Cond.code yX5_drop cX5_drop 1 none, Cond.fieldLink RX5 44 "ChartTable$Table" "size" "I"]
def wsL_line : List Cond := .codeWith yL_line cL_line 3 (some .int) [(0, 8, 11, 13), (0, 8, 14, 15)] :: ((wsL_line_r1 ++ (wsL_line_r2 ++ (wsL_line_r3 ++ (wsL_line_r4 ++ (wsL_line_r5 ++ (wsL_line_r6 ++ (wsL_line_r7 ++ (wsL_line_r8 ++ (wsL_line_r9 ++ wsL_line_r10))))))))) ++ wsX70 ++ wsX20 ++ wsX00 ++ wsX40 ++ wsX10 ++ wsX30 ++ wsX50 ++ (vx_atS RX7 60 "java/lang/IllegalArgumentException" ["java/lang/RuntimeException", "java/lang/Exception"]).filter goodWord ++ (vx_atS RX7 67 "java/lang/IllegalStateException" ["java/lang/RuntimeException", "java/lang/Exception"]).filter goodWord)
def wsL_compile_r1 : List Cond := [Cond.classLink RL 15 "java/lang/IllegalStateException", Cond.methodLink RL 17 yX7_compile, Cond.instanceMethod yX7_compile, Cond.selects RX7 yX7_compile yX7_compile, Cond.initialized RX7, Cond.code yX7_compile cX7_compile 1 (some .int), Cond.classLink RX7 63 "java/lang/IllegalStateException", Cond.initialized "java/lang/IllegalStateException", Cond.fieldLink RX7 44 "ChartTable" "table" "LChartTable$Table;", Cond.methodLink RX7 71 yX5_build, Cond.instanceMethod yX5_build, Cond.selects RX5 yX5_build yX5_build, Cond.initialized RX5, Cond.code yX5_build cX5_build 5 (some .boolean), Cond.fieldLink RX5 44 "ChartTable$Table" "size" "I", Cond.fieldLink RX5 40 "ChartTable$Table" "walk" "LChartTable$Walk;", Cond.fieldLink RX5 31 "ChartTable$Table" "rules" "LChartTable$Rules;", Cond.fieldLink RX5 24 "ChartTable$Table" "followers" "[I", Cond.fieldLink RX5 48 "ChartTable$Table" "place" "I", Cond.fieldLink RX5 14 "ChartTable$Table" "traces" "LChartTable$MarkRows;", Cond.fieldLink RX5 51 "ChartTable$Table" "marksNoted" "I", Cond.methodLink RX5 54 yX6_start, Cond.instanceMethod yX6_start, Cond.selects RX6 yX6_start yX6_start]
def wsL_compile_r2 : List Cond := [Cond.initialized RX6, Cond.code yX6_start cX6_start 3 none, Cond.fieldLink RX6 9 "ChartTable$Walk" "currents" "[I", Cond.fieldLink RX6 15 "ChartTable$Walk" "states" "LChartTable$States;", Cond.methodLink RX6 27 yX4_currentAtFirst, Cond.instanceMethod yX4_currentAtFirst, Cond.selects RX4 yX4_currentAtFirst yX4_currentAtFirst, Cond.initialized RX4, Cond.code yX4_currentAtFirst cX4_currentAtFirst 2 (some .int), Cond.fieldLink RX4 24 "ChartTable$States" "wholes" "[Z", Cond.fieldLink RX4 21 "ChartTable$States" "firstChildren" "[I", Cond.methodLink RX4 51 yX4_isState, Cond.instanceMethod yX4_isState, Cond.selects RX4 yX4_isState yX4_isState, Cond.code yX4_isState cX4_isState 2 (some .boolean), Cond.fieldLink RX4 43 "ChartTable$States" "made" "I", Cond.methodLink RX6 33 yX6_noteIn, Cond.instanceMethod yX6_noteIn, Cond.selects RX6 yX6_noteIn yX6_noteIn, Cond.code yX6_noteIn cX6_noteIn 2 none, Cond.fieldLink RX6 45 "ChartTable$Walk" "row" "I", Cond.fieldLink RX6 23 "ChartTable$Walk" "traces" "LChartTable$MarkRows;", Cond.methodLink RX6 49 yX1_empty, Cond.instanceMethod yX1_empty]
def wsL_compile_r3 : List Cond := [Cond.selects RX1 yX1_empty yX1_empty, Cond.initialized RX1, Cond.code yX1_empty cX1_empty 2 none, Cond.fieldLink RX1 28 "ChartTable$MarkRows" "sizes" "[I", Cond.methodLink RX1 32 yX1_isRow, Cond.instanceMethod yX1_isRow, Cond.selects RX1 yX1_isRow yX1_isRow, Cond.code yX1_isRow cX1_isRow 2 (some .boolean), Cond.fieldLink RX1 15 "ChartTable$MarkRows" "rows" "I", Cond.methodLink RX6 37 yX6_enter, Cond.instanceMethod yX6_enter, Cond.selects RX6 yX6_enter yX6_enter, Cond.code yX6_enter cX6_enter 5 none, Cond.methodLink RX6 64 yX4_isState, Cond.methodLink RX6 67 yX4_entering, Cond.instanceMethod yX4_entering, Cond.selects RX4 yX4_entering yX4_entering, Cond.code yX4_entering cX4_entering 1 (some (.object "ChartTable$MarkRows")), Cond.fieldLink RX4 36 "ChartTable$States" "entering" "LChartTable$MarkRows;", Cond.methodLink RX6 71 yX1_addRow, Cond.instanceMethod yX1_addRow, Cond.selects RX1 yX1_addRow yX1_addRow, Cond.code yX1_addRow cX1_addRow 7 none, Cond.fieldLink RX1 21 "ChartTable$MarkRows" "most" "I"]
def wsL_compile_r4 : List Cond := [Cond.methodLink RX1 40 Lib.Math.min.name, Cond.static Lib.Math.min.name, Cond.initialized "java/lang/Math", Cond.code Lib.Math.min.name Lib.Math.min.code 2 (some .int), Cond.fieldLink RX1 24 "ChartTable$MarkRows" "letters" "[C", Cond.methodLink RX6 57 yX4_isWhole, Cond.instanceMethod yX4_isWhole, Cond.selects RX4 yX4_isWhole yX4_isWhole, Cond.code yX4_isWhole cX4_isWhole 2 (some .boolean), Cond.methodLink RX6 75 yX4_made, Cond.instanceMethod yX4_made, Cond.selects RX4 yX4_made yX4_made, Cond.code yX4_made cX4_made 1 (some .int), Cond.methodLink RX6 54 yX4_parentOf, Cond.instanceMethod yX4_parentOf, Cond.selects RX4 yX4_parentOf yX4_parentOf, Cond.code yX4_parentOf cX4_parentOf 2 (some .int), Cond.fieldLink RX4 15 "ChartTable$States" "parents" "[I", Cond.methodLink RX6 79 yX4_childToward, Cond.instanceMethod yX4_childToward, Cond.selects RX4 yX4_childToward yX4_childToward, Cond.code yX4_childToward cX4_childToward 5 (some .int), Cond.methodLink RX6 83 yX6_makeCurrent, Cond.instanceMethod yX6_makeCurrent]
def wsL_compile_r5 : List Cond := [Cond.selects RX6 yX6_makeCurrent yX6_makeCurrent, Cond.code yX6_makeCurrent cX6_makeCurrent 3 none, Cond.methodLink RX6 61 yX6_currentChild, Cond.instanceMethod yX6_currentChild, Cond.selects RX6 yX6_currentChild yX6_currentChild, Cond.code yX6_currentChild cX6_currentChild 2 (some .int), Cond.methodLink RX5 58 yX5_numberOfWalk, Cond.instanceMethod yX5_numberOfWalk, Cond.selects RX5 yX5_numberOfWalk yX5_numberOfWalk, Cond.code yX5_numberOfWalk cX5_numberOfWalk 2 (some .int), Cond.fieldLink RX5 20 "ChartTable$Table" "currents" "[I", Cond.methodLink RX5 96 yX5_isWalk, Cond.instanceMethod yX5_isWalk, Cond.selects RX5 yX5_isWalk yX5_isWalk, Cond.code yX5_isWalk cX5_isWalk 3 (some .boolean), Cond.methodLink RX5 88 yX5_currentChild, Cond.instanceMethod yX5_currentChild, Cond.selects RX5 yX5_currentChild yX5_currentChild, Cond.code yX5_currentChild cX5_currentChild 3 (some .int), Cond.fieldLink RX5 27 "ChartTable$Table" "states" "LChartTable$States;", Cond.methodLink RX5 81 yX5_isConfiguration, Cond.instanceMethod yX5_isConfiguration, Cond.selects RX5 yX5_isConfiguration yX5_isConfiguration, Cond.code yX5_isConfiguration cX5_isConfiguration 2 (some .boolean)]
def wsL_compile_r6 : List Cond := [Cond.methodLink RX5 102 yX4_isState, Cond.methodLink RX5 94 yX6_currentChild, Cond.methodLink RX5 62 yX3_events, Cond.instanceMethod yX3_events, Cond.selects RX3 yX3_events yX3_events, Cond.initialized RX3, Cond.code yX3_events cX3_events 1 (some .int), Cond.fieldLink RX3 47 "ChartTable$Rules" "events" "I", Cond.methodLink RX5 67 yX5_cellOf, Cond.instanceMethod yX5_cellOf, Cond.selects RX5 yX5_cellOf yX5_cellOf, Cond.code yX5_cellOf cX5_cellOf 3 (some .int), Cond.methodLink RX5 85 yX3_isEvent, Cond.instanceMethod yX3_isEvent, Cond.selects RX3 yX3_isEvent yX3_isEvent, Cond.code yX3_isEvent cX3_isEvent 2 (some .boolean), Cond.methodLink RX5 71 yX5_setWalk, Cond.instanceMethod yX5_setWalk, Cond.selects RX5 yX5_setWalk yX5_setWalk, Cond.code yX5_setWalk cX5_setWalk 3 none, Cond.methodLink RX5 91 yX6_makeCurrent, Cond.methodLink RX5 74 yX6_receive, Cond.instanceMethod yX6_receive, Cond.selects RX6 yX6_receive yX6_receive]
def wsL_compile_r7 : List Cond := [Cond.code yX6_receive cX6_receive 3 none, Cond.methodLink RX6 41 yX6_offer, Cond.instanceMethod yX6_offer, Cond.selects RX6 yX6_offer yX6_offer, Cond.code yX6_offer cX6_offer 6 (some .int), Cond.methodLink RX6 96 Lib.Math.min.name, Cond.methodLink RX6 101 yX6_ownRule, Cond.instanceMethod yX6_ownRule, Cond.selects RX6 yX6_ownRule yX6_ownRule, Cond.code yX6_ownRule cX6_ownRule 4 (some .int), Cond.fieldLink RX6 19 "ChartTable$Walk" "rules" "LChartTable$Rules;", Cond.methodLink RX6 107 yX3_made, Cond.instanceMethod yX3_made, Cond.selects RX3 yX3_made yX3_made, Cond.code yX3_made cX3_made 1 (some .int), Cond.fieldLink RX3 43 "ChartTable$Rules" "made" "I", Cond.methodLink RX6 110 yX3_isFor, Cond.instanceMethod yX3_isFor, Cond.selects RX3 yX3_isFor yX3_isFor, Cond.code yX3_isFor cX3_isFor 4 (some .boolean), Cond.fieldLink RX3 15 "ChartTable$Rules" "ruleEvents" "[I", Cond.fieldLink RX3 18 "ChartTable$Rules" "froms" "[I", Cond.methodLink RX3 58 yX3_isRule, Cond.instanceMethod yX3_isRule]
def wsL_compile_r8 : List Cond := [Cond.selects RX3 yX3_isRule yX3_isRule, Cond.code yX3_isRule cX3_isRule 2 (some .boolean), Cond.methodLink RX6 114 yX3_askedOf, Cond.instanceMethod yX3_askedOf, Cond.selects RX3 yX3_askedOf yX3_askedOf, Cond.code yX3_askedOf cX3_askedOf 2 (some .int), Cond.fieldLink RX3 27 "ChartTable$Rules" "askedStates" "[I", Cond.methodLink RX6 117 yX6_isActive, Cond.instanceMethod yX6_isActive, Cond.selects RX6 yX6_isActive yX6_isActive, Cond.code yX6_isActive cX6_isActive 5 (some .boolean), Cond.methodLink RX6 120 yX3_isWantedActive, Cond.instanceMethod yX3_isWantedActive, Cond.selects RX3 yX3_isWantedActive yX3_isWantedActive, Cond.code yX3_isWantedActive cX3_isWantedActive 2 (some .boolean), Cond.fieldLink RX3 30 "ChartTable$Rules" "wanted" "[Z", Cond.methodLink RX6 104 yX6_take, Cond.instanceMethod yX6_take, Cond.selects RX6 yX6_take yX6_take, Cond.code yX6_take cX6_take 5 (some .int), Cond.methodLink RX6 123 yX3_isRule, Cond.methodLink RX6 126 yX3_scopeOf, Cond.instanceMethod yX3_scopeOf, Cond.selects RX3 yX3_scopeOf yX3_scopeOf]
def wsL_compile_r9 : List Cond := [Cond.code yX3_scopeOf cX3_scopeOf 2 (some .int), Cond.fieldLink RX3 24 "ChartTable$Rules" "scopes" "[I", Cond.methodLink RX6 129 yX3_targetOf, Cond.instanceMethod yX3_targetOf, Cond.selects RX3 yX3_targetOf yX3_targetOf, Cond.code yX3_targetOf cX3_targetOf 2 (some .int), Cond.fieldLink RX3 21 "ChartTable$Rules" "targets" "[I", Cond.methodLink RX6 132 yX4_depthOf, Cond.instanceMethod yX4_depthOf, Cond.selects RX4 yX4_depthOf yX4_depthOf, Cond.code yX4_depthOf cX4_depthOf 2 (some .int), Cond.fieldLink RX4 18 "ChartTable$States" "depths" "[I", Cond.methodLink RX6 87 yX6_leave, Cond.instanceMethod yX6_leave, Cond.selects RX6 yX6_leave yX6_leave, Cond.code yX6_leave cX6_leave 4 none, Cond.methodLink RX6 90 yX4_leaving, Cond.instanceMethod yX4_leaving, Cond.selects RX4 yX4_leaving yX4_leaving, Cond.code yX4_leaving cX4_leaving 1 (some (.object "ChartTable$MarkRows")), Cond.fieldLink RX4 40 "ChartTable$States" "leaving" "LChartTable$MarkRows;", Cond.methodLink RX6 93 yX4_isRemembering, Cond.instanceMethod yX4_isRemembering, Cond.selects RX4 yX4_isRemembering yX4_isRemembering]
def wsL_compile_r10 : List Cond := [Cond.code yX4_isRemembering cX4_isRemembering 2 (some .boolean), Cond.fieldLink RX4 28 "ChartTable$States" "remembering" "[Z", Cond.methodLink RX6 135 yX3_marks, Cond.instanceMethod yX3_marks, Cond.selects RX3 yX3_marks yX3_marks, Cond.code yX3_marks cX3_marks 1 (some (.object "ChartTable$MarkRows")), Cond.fieldLink RX3 39 "ChartTable$Rules" "marks" "LChartTable$MarkRows;", Cond.methodLink RX5 77 yX1_sizeOf, Cond.instanceMethod yX1_sizeOf, Cond.selects RX1 yX1_sizeOf yX1_sizeOf, Cond.code yX1_sizeOf cX1_sizeOf 2 (some .int), Cond.methodLink RX7 77 yX5_size, Cond.instanceMethod yX5_size, Cond.selects RX5 yX5_size yX5_size, Cond.code yX5_size cX5_size 1 (some .int)]
def wsL_compile : List Cond := .codeWith yL_compile cL_compile 3 (some .int) [(0, 8, 11, 15)] :: ((wsL_compile_r1 ++ (wsL_compile_r2 ++ (wsL_compile_r3 ++ (wsL_compile_r4 ++ (wsL_compile_r5 ++ (wsL_compile_r6 ++ (wsL_compile_r7 ++ (wsL_compile_r8 ++ (wsL_compile_r9 ++ wsL_compile_r10))))))))) ++ wsX70 ++ wsX50 ++ wsX60 ++ wsX40 ++ wsX10 ++ wsX30 ++ (vx_atS RX7 67 "java/lang/IllegalStateException" ["java/lang/RuntimeException", "java/lang/Exception"]).filter goodWord)
def wsL_named_r1 : List Cond := [Cond.classLink RL 23 "java/util/NoSuchElementException", Cond.methodLink RL 20 yX7_named, Cond.instanceMethod yX7_named, Cond.selects RX7 yX7_named yX7_named, Cond.initialized RX7, Cond.code yX7_named cX7_named 2 (some .int), Cond.classLink RX7 103 "java/util/NoSuchElementException", Cond.initialized "java/util/NoSuchElementException", Cond.fieldLink RX7 12 "ChartTable" "text" "LChartTable$Line;", Cond.fieldLink RX7 19 "ChartTable" "states" "LChartTable$States;", Cond.methodLink RX7 90 yX0_split, Cond.instanceMethod yX0_split, Cond.selects RX0 yX0_split yX0_split, Cond.initialized RX0, Cond.code yX0_split cX0_split 4 none, Cond.fieldLink RX0 26 "ChartTable$Line" "words" "I", Cond.fieldLink RX0 22 "ChartTable$Line" "length" "I", Cond.fieldLink RX0 9 "ChartTable$Line" "characters" "[C", Cond.fieldLink RX0 15 "ChartTable$Line" "starts" "[I", Cond.fieldLink RX0 19 "ChartTable$Line" "ends" "[I", Cond.methodLink RX7 93 yX0_words, Cond.instanceMethod yX0_words, Cond.selects RX0 yX0_words yX0_words, Cond.code yX0_words cX0_words 1 (some .int)]
def wsL_named_r2 : List Cond := [Cond.methodLink RX7 96 yX0_nameAt, Cond.instanceMethod yX0_nameAt, Cond.selects RX0 yX0_nameAt yX0_nameAt, Cond.code yX0_nameAt cX0_nameAt 5 (some .int), Cond.methodLink RX0 46 yX0_isLetters, Cond.instanceMethod yX0_isLetters, Cond.selects RX0 yX0_isLetters yX0_isLetters, Cond.code yX0_isLetters cX0_isLetters 6 (some .boolean), Cond.methodLink RX0 29 yX0_sizeOf, Cond.instanceMethod yX0_sizeOf, Cond.selects RX0 yX0_sizeOf yX0_sizeOf, Cond.code yX0_sizeOf cX0_sizeOf 2 (some .int), Cond.methodLink RX0 38 yX0_letterAt, Cond.instanceMethod yX0_letterAt, Cond.selects RX0 yX0_letterAt yX0_letterAt, Cond.code yX0_letterAt cX0_letterAt 3 (some .char), Cond.methodLink RX7 100 yX4_find, Cond.instanceMethod yX4_find, Cond.selects RX4 yX4_find yX4_find, Cond.initialized RX4, Cond.code yX4_find cX4_find 3 (some .int), Cond.fieldLink RX4 43 "ChartTable$States" "made" "I", Cond.fieldLink RX4 9 "ChartTable$States" "names" "[I"]
def wsL_named : List Cond := .codeWith yL_named cL_named 3 (some .int) [(0, 8, 11, 23)] :: ((wsL_named_r1 ++ wsL_named_r2) ++ wsX70 ++ wsX00 ++ wsX40 ++ (vx_atS RX7 107 "java/util/NoSuchElementException" ["java/lang/RuntimeException", "java/lang/Exception"]).filter goodWord)
def wsL_next_r1 : List Cond := [Cond.classLink RL 23 "java/util/NoSuchElementException", Cond.methodLink RL 25 yX7_next, Cond.instanceMethod yX7_next, Cond.selects RX7 yX7_next yX7_next, Cond.initialized RX7, Cond.code yX7_next cX7_next 4 (some .int), Cond.classLink RX7 103 "java/util/NoSuchElementException", Cond.initialized "java/util/NoSuchElementException", Cond.fieldLink RX7 44 "ChartTable" "table" "LChartTable$Table;", Cond.methodLink RX7 108 yX5_following, Cond.instanceMethod yX5_following, Cond.selects RX5 yX5_following yX5_following, Cond.initialized RX5, Cond.code yX5_following cX5_following 4 (some .int), Cond.fieldLink RX5 24 "ChartTable$Table" "followers" "[I", Cond.methodLink RX5 67 yX5_cellOf, Cond.instanceMethod yX5_cellOf, Cond.selects RX5 yX5_cellOf yX5_cellOf, Cond.code yX5_cellOf cX5_cellOf 3 (some .int), Cond.fieldLink RX5 31 "ChartTable$Table" "rules" "LChartTable$Rules;", Cond.methodLink RX5 81 yX5_isConfiguration, Cond.instanceMethod yX5_isConfiguration, Cond.selects RX5 yX5_isConfiguration yX5_isConfiguration, Cond.code yX5_isConfiguration cX5_isConfiguration 2 (some .boolean)]
def wsL_next_r2 : List Cond := [Cond.fieldLink RX5 44 "ChartTable$Table" "size" "I", Cond.methodLink RX5 85 yX3_isEvent, Cond.instanceMethod yX3_isEvent, Cond.selects RX3 yX3_isEvent yX3_isEvent, Cond.initialized RX3, Cond.code yX3_isEvent cX3_isEvent 2 (some .boolean), Cond.fieldLink RX3 47 "ChartTable$Rules" "events" "I"]
def wsL_next : List Cond := .codeWith yL_next cL_next 5 (some .int) [(0, 10, 13, 23)] :: ((wsL_next_r1 ++ wsL_next_r2) ++ wsX70 ++ wsX50 ++ wsX30 ++ (vx_atS RX7 107 "java/util/NoSuchElementException" ["java/lang/RuntimeException", "java/lang/Exception"]).filter goodWord)
def wsL_event_r1 : List Cond := [Cond.classLink RL 15 "java/lang/IllegalStateException", Cond.classLink RL 13 "java/lang/IllegalArgumentException", Cond.methodLink RL 29 yX7_event, Cond.instanceMethod yX7_event, Cond.selects RX7 yX7_event yX7_event, Cond.initialized RX7, Cond.code yX7_event cX7_event 2 (some .int), Cond.classLink RX7 63 "java/lang/IllegalStateException", Cond.initialized "java/lang/IllegalStateException", Cond.classLink RX7 56 "java/lang/IllegalArgumentException", Cond.initialized "java/lang/IllegalArgumentException", Cond.fieldLink RX7 44 "ChartTable" "table" "LChartTable$Table;", Cond.fieldLink RX7 26 "ChartTable" "rules" "LChartTable$Rules;", Cond.methodLink RX7 77 yX5_size, Cond.instanceMethod yX5_size, Cond.selects RX5 yX5_size yX5_size, Cond.initialized RX5, Cond.code yX5_size cX5_size 1 (some .int), Cond.fieldLink RX5 44 "ChartTable$Table" "size" "I", Cond.methodLink RX7 127 yX3_isEvent, Cond.instanceMethod yX3_isEvent, Cond.selects RX3 yX3_isEvent yX3_isEvent, Cond.initialized RX3, Cond.code yX3_isEvent cX3_isEvent 2 (some .boolean)]
def wsL_event_r2 : List Cond := [Cond.fieldLink RX3 47 "ChartTable$Rules" "events" "I", Cond.methodLink RX7 133 yX5_step, Cond.instanceMethod yX5_step, Cond.selects RX5 yX5_step yX5_step, Cond.code yX5_step cX5_step 3 (some .int), Cond.fieldLink RX5 48 "ChartTable$Table" "place" "I", Cond.fieldLink RX5 24 "ChartTable$Table" "followers" "[I", Cond.fieldLink RX5 51 "ChartTable$Table" "marksNoted" "I", Cond.fieldLink RX5 14 "ChartTable$Table" "traces" "LChartTable$MarkRows;", Cond.methodLink RX5 67 yX5_cellOf, Cond.instanceMethod yX5_cellOf, Cond.selects RX5 yX5_cellOf yX5_cellOf, Cond.code yX5_cellOf cX5_cellOf 3 (some .int), Cond.fieldLink RX5 31 "ChartTable$Table" "rules" "LChartTable$Rules;", Cond.methodLink RX5 81 yX5_isConfiguration, Cond.instanceMethod yX5_isConfiguration, Cond.selects RX5 yX5_isConfiguration yX5_isConfiguration, Cond.code yX5_isConfiguration cX5_isConfiguration 2 (some .boolean), Cond.methodLink RX5 85 yX3_isEvent, Cond.methodLink RX5 77 yX1_sizeOf, Cond.instanceMethod yX1_sizeOf, Cond.selects RX1 yX1_sizeOf yX1_sizeOf, Cond.initialized RX1, Cond.code yX1_sizeOf cX1_sizeOf 2 (some .int)]
def wsL_event_r3 : List Cond := [Cond.fieldLink RX1 28 "ChartTable$MarkRows" "sizes" "[I", Cond.methodLink RX1 32 yX1_isRow, Cond.instanceMethod yX1_isRow, Cond.selects RX1 yX1_isRow yX1_isRow, Cond.code yX1_isRow cX1_isRow 2 (some .boolean), Cond.fieldLink RX1 15 "ChartTable$MarkRows" "rows" "I"]
def wsL_event : List Cond := .codeWith yL_event cL_event 4 (some .int) [(0, 9, 12, 15), (0, 9, 15, 13)] :: ((wsL_event_r1 ++ (wsL_event_r2 ++ wsL_event_r3)) ++ wsX70 ++ wsX50 ++ wsX30 ++ wsX10 ++ (vx_atS RX7 67 "java/lang/IllegalStateException" ["java/lang/RuntimeException", "java/lang/Exception"]).filter goodWord ++ (vx_atS RX7 60 "java/lang/IllegalArgumentException" ["java/lang/RuntimeException", "java/lang/Exception"]).filter goodWord)
def wsL_law0_r1 : List Cond := [Cond.classLink RL 8 RX7, Cond.instantiable RX7 5, Cond.initialized RX7, Cond.classLink RL 34 RX8, Cond.instantiable RX8 39, Cond.initialized RX8, Cond.arrayClass .long, Cond.methodLink RL 33 yX7_init, Cond.instanceMethod yX7_init, Cond.code yX7_init cX7_init 1 none, Cond.methodLink RX7 3 objectInit, Cond.instanceMethod objectInit, Cond.code objectInit ⟨#[0xb1]⟩ 1 none, Cond.classLink RX7 9 RX0, Cond.instantiable RX0 5, Cond.initialized RX0, Cond.fieldLink RX7 12 "ChartTable" "text" "LChartTable$Line;", Cond.classLink RX7 16 RX4, Cond.instantiable RX4 9, Cond.initialized RX4, Cond.fieldLink RX7 19 "ChartTable" "states" "LChartTable$States;", Cond.classLink RX7 23 RX3, Cond.instantiable RX3 10, Cond.initialized RX3]
def wsL_law0_r2 : List Cond := [Cond.fieldLink RX7 26 "ChartTable" "rules" "LChartTable$Rules;", Cond.classLink RX7 30 RX2, Cond.instantiable RX2 3, Cond.initialized RX2, Cond.fieldLink RX7 35 "ChartTable" "reader" "LChartTable$Reader;", Cond.classLink RX7 39 RX5, Cond.instantiable RX5 9, Cond.initialized RX5, Cond.fieldLink RX7 44 "ChartTable" "table" "LChartTable$Table;", Cond.instanceMethod yX0_init, Cond.code yX0_init cX0_init 1 none, Cond.methodLink RX0 3 objectInit, Cond.arrayClass .char, Cond.fieldLink RX0 9 "ChartTable$Line" "characters" "[C", Cond.arrayClass .int, Cond.fieldLink RX0 15 "ChartTable$Line" "starts" "[I", Cond.fieldLink RX0 19 "ChartTable$Line" "ends" "[I", Cond.methodLink RX7 18 yX4_init, Cond.instanceMethod yX4_init, Cond.code yX4_init cX4_init 1 none, Cond.methodLink RX4 3 objectInit, Cond.fieldLink RX4 9 "ChartTable$States" "names" "[I", Cond.fieldLink RX4 15 "ChartTable$States" "parents" "[I", Cond.fieldLink RX4 18 "ChartTable$States" "depths" "[I"]
def wsL_law0_r3 : List Cond := [Cond.fieldLink RX4 21 "ChartTable$States" "firstChildren" "[I", Cond.arrayClass .boolean, Cond.fieldLink RX4 24 "ChartTable$States" "wholes" "[Z", Cond.fieldLink RX4 28 "ChartTable$States" "remembering" "[Z", Cond.classLink RX4 31 RX1, Cond.instantiable RX1 4, Cond.initialized RX1, Cond.fieldLink RX4 36 "ChartTable$States" "entering" "LChartTable$MarkRows;", Cond.fieldLink RX4 40 "ChartTable$States" "leaving" "LChartTable$MarkRows;", Cond.fieldLink RX4 43 "ChartTable$States" "made" "I", Cond.methodLink RX4 33 yX1_init, Cond.instanceMethod yX1_init, Cond.code yX1_init cX1_init 3 none, Cond.methodLink RX1 3 objectInit, Cond.methodLink RX1 9 Lib.Math.max.name, Cond.static Lib.Math.max.name, Cond.initialized "java/lang/Math", Cond.code Lib.Math.max.name Lib.Math.max.code 2 (some .int), Cond.fieldLink RX1 15 "ChartTable$MarkRows" "rows" "I", Cond.fieldLink RX1 21 "ChartTable$MarkRows" "most" "I", Cond.fieldLink RX1 24 "ChartTable$MarkRows" "letters" "[C", Cond.fieldLink RX1 28 "ChartTable$MarkRows" "sizes" "[I", Cond.instanceMethod yX3_init, Cond.code yX3_init cX3_init 1 none]
def wsL_law0_r4 : List Cond := [Cond.methodLink RX3 3 objectInit, Cond.fieldLink RX3 9 "ChartTable$Rules" "eventNames" "[I", Cond.fieldLink RX3 15 "ChartTable$Rules" "ruleEvents" "[I", Cond.fieldLink RX3 18 "ChartTable$Rules" "froms" "[I", Cond.fieldLink RX3 21 "ChartTable$Rules" "targets" "[I", Cond.fieldLink RX3 24 "ChartTable$Rules" "scopes" "[I", Cond.fieldLink RX3 27 "ChartTable$Rules" "askedStates" "[I", Cond.fieldLink RX3 30 "ChartTable$Rules" "wanted" "[Z", Cond.classLink RX3 34 RX1, Cond.fieldLink RX3 39 "ChartTable$Rules" "marks" "LChartTable$MarkRows;", Cond.methodLink RX3 36 yX1_init, Cond.methodLink RX7 32 yX2_init, Cond.instanceMethod yX2_init, Cond.code yX2_init cX2_init 4 none, Cond.methodLink RX2 3 objectInit, Cond.fieldLink RX2 9 "ChartTable$Reader" "text" "LChartTable$Line;", Cond.fieldLink RX2 15 "ChartTable$Reader" "states" "LChartTable$States;", Cond.fieldLink RX2 19 "ChartTable$Reader" "rules" "LChartTable$Rules;", Cond.methodLink RX7 41 yX5_init, Cond.instanceMethod yX5_init, Cond.code yX5_init cX5_init 3 none, Cond.methodLink RX5 3 objectInit, Cond.classLink RX5 9 RX1, Cond.fieldLink RX5 14 "ChartTable$Table" "traces" "LChartTable$MarkRows;"]
def wsL_law0_r5 : List Cond := [Cond.fieldLink RX5 20 "ChartTable$Table" "currents" "[I", Cond.fieldLink RX5 24 "ChartTable$Table" "followers" "[I", Cond.fieldLink RX5 27 "ChartTable$Table" "states" "LChartTable$States;", Cond.fieldLink RX5 31 "ChartTable$Table" "rules" "LChartTable$Rules;", Cond.classLink RX5 35 RX6, Cond.instantiable RX6 5, Cond.initialized RX6, Cond.fieldLink RX5 40 "ChartTable$Table" "walk" "LChartTable$Walk;", Cond.methodLink RX5 11 yX1_init, Cond.methodLink RX5 37 yX6_init, Cond.instanceMethod yX6_init, Cond.code yX6_init cX6_init 4 none, Cond.methodLink RX6 3 objectInit, Cond.fieldLink RX6 9 "ChartTable$Walk" "currents" "[I", Cond.fieldLink RX6 15 "ChartTable$Walk" "states" "LChartTable$States;", Cond.fieldLink RX6 19 "ChartTable$Walk" "rules" "LChartTable$Rules;", Cond.fieldLink RX6 23 "ChartTable$Walk" "traces" "LChartTable$MarkRows;", Cond.methodLink RL 36 yX8_init, Cond.instanceMethod yX8_init, Cond.code yX8_init cX8_init 1 none, Cond.methodLink RX8 1 objectInit, Cond.fieldLink RX8 7 "ChartTableModel" "text" "[C", Cond.fieldLink RX8 13 "ChartTableModel" "begin" "[I", Cond.fieldLink RX8 17 "ChartTableModel" "end" "[I"]
def wsL_law0_r6 : List Cond := [Cond.fieldLink RX8 20 "ChartTableModel" "states" "I", Cond.fieldLink RX8 24 "ChartTableModel" "name" "[C", Cond.fieldLink RX8 27 "ChartTableModel" "mark" "[C", Cond.fieldLink RX8 30 "ChartTableModel" "parent" "[I", Cond.fieldLink RX8 33 "ChartTableModel" "depth" "[I", Cond.fieldLink RX8 36 "ChartTableModel" "marks" "[I", Cond.fieldLink RX8 39 "ChartTableModel" "whole" "[Z", Cond.fieldLink RX8 43 "ChartTableModel" "remembers" "[Z", Cond.fieldLink RX8 46 "ChartTableModel" "eventName" "[C", Cond.fieldLink RX8 49 "ChartTableModel" "ruleMark" "[C", Cond.fieldLink RX8 52 "ChartTableModel" "ruleEvent" "[I", Cond.fieldLink RX8 55 "ChartTableModel" "ruleFrom" "[I", Cond.fieldLink RX8 58 "ChartTableModel" "ruleTo" "[I", Cond.fieldLink RX8 61 "ChartTableModel" "ruleWhen" "[I", Cond.fieldLink RX8 64 "ChartTableModel" "ruleState" "[I", Cond.fieldLink RX8 67 "ChartTableModel" "ruleMarks" "[I", Cond.fieldLink RX8 70 "ChartTableModel" "now" "[I", Cond.fieldLink RX8 73 "ChartTableModel" "note" "[C", Cond.fieldLink RX8 76 "ChartTableModel" "current" "[I", Cond.fieldLink RX8 79 "ChartTableModel" "next" "[I", Cond.fieldLink RX8 82 "ChartTableModel" "traced" "[I", Cond.fieldLink RX8 85 "ChartTableModel" "trace" "[C", Cond.fieldLink RX8 88 "ChartTableModel" "stack" "[I", Cond.fieldLink RX8 91 "ChartTableModel" "row" "[I"]
def wsL_law0_r7 : List Cond := [Cond.fieldLink RX8 94 "ChartTableModel" "open" "[I", Cond.fieldLink RX8 97 "ChartTableModel" "reached" "[I", Cond.fieldLink RX8 100 "ChartTableModel" "taken" "[I", Cond.methodLink RL 37 yX7_write, Cond.instanceMethod yX7_write, Cond.selects RX7 yX7_write yX7_write, Cond.code yX7_write cX7_write 2 (some .boolean), Cond.methodLink RX7 48 yX0_append, Cond.instanceMethod yX0_append, Cond.selects RX0 yX0_append yX0_append, Cond.code yX0_append cX0_append 2 (some .boolean), Cond.fieldLink RX0 22 "ChartTable$Line" "length" "I", Cond.methodLink RL 41 yX8_write, Cond.instanceMethod yX8_write, Cond.selects RX8 yX8_write yX8_write, Cond.code yX8_write cX8_write 2 (some .boolean), Cond.fieldLink RX8 103 "ChartTableModel" "fault" "I", Cond.fieldLink RX8 106 "ChartTableModel" "written" "I", Cond.methodLink RL 42 yL_line, Cond.static yL_line, Cond.initialized RL, Cond.codeWith yL_line cL_line 3 (some .int) [(0, 8, 11, 13), (0, 8, 14, 15)], Cond.classLink RL 13 "java/lang/IllegalArgumentException", Cond.classLink RL 15 "java/lang/IllegalStateException"]
def wsL_law0_r8 : List Cond := [Cond.methodLink RL 7 yX7_line, Cond.instanceMethod yX7_line, Cond.selects RX7 yX7_line yX7_line, Cond.code yX7_line cX7_line 2 (some .int), Cond.classLink RX7 56 "java/lang/IllegalArgumentException", Cond.initialized "java/lang/IllegalArgumentException", Cond.classLink RX7 63 "java/lang/IllegalStateException", Cond.initialized "java/lang/IllegalStateException", Cond.methodLink RX7 52 yX2_read, Cond.instanceMethod yX2_read, Cond.selects RX2 yX2_read yX2_read, Cond.code yX2_read cX2_read 1 (some .int), Cond.methodLink RX2 23 yX0_split, Cond.instanceMethod yX0_split, Cond.selects RX0 yX0_split yX0_split, Cond.code yX0_split cX0_split 4 none, Cond.fieldLink RX0 26 "ChartTable$Line" "words" "I", Cond.methodLink RX2 28 yX0_words, Cond.instanceMethod yX0_words, Cond.selects RX0 yX0_words yX0_words, Cond.code yX0_words cX0_words 1 (some .int), Cond.methodLink RX2 34 yX0_says, Cond.instanceMethod yX0_says, Cond.selects RX0 yX0_says yX0_says]
def wsL_law0_r9 : List Cond := [Cond.code yX0_says cX0_says 4 (some .boolean), Cond.methodLink RX0 29 yX0_sizeOf, Cond.instanceMethod yX0_sizeOf, Cond.selects RX0 yX0_sizeOf yX0_sizeOf, Cond.code yX0_sizeOf cX0_sizeOf 2 (some .int), Cond.methodLink RX0 33 yJ0_length_8abf5, Cond.instanceMethod yJ0_length_8abf5, Cond.selects RJ0 yJ0_length_8abf5 yJ0_length_8abf5, Cond.initialized RJ0, Cond.code yJ0_length_8abf5 cJ0_length_8abf5 1 (some .int), Cond.fieldLink RJ0 9 "java/lang/String" "value" "[B", Cond.methodLink RJ0 335 yJ0_coder_7d493, Cond.instanceMethod yJ0_coder_7d493, Cond.selects RJ0 yJ0_coder_7d493 yJ0_coder_7d493, Cond.code yJ0_coder_7d493 cJ0_coder_7d493 1 (some .byte), Cond.fieldLink RJ0 38 "java/lang/String" "COMPACT_STRINGS" "Z", Cond.fieldLink RJ0 15 "java/lang/String" "coder" "B", Cond.methodLink RX0 38 yX0_letterAt, Cond.instanceMethod yX0_letterAt, Cond.selects RX0 yX0_letterAt yX0_letterAt, Cond.code yX0_letterAt cX0_letterAt 3 (some .char), Cond.methodLink RX0 42 yJ0_charAt_5068e, Cond.instanceMethod yJ0_charAt_5068e, Cond.selects RJ0 yJ0_charAt_5068e yJ0_charAt_5068e]
def wsL_law0_r10 : List Cond := [Cond.code yJ0_charAt_5068e cJ0_charAt_5068e 2 (some .char), Cond.methodLink RJ0 492 yJ0_isLatin1_aae02, Cond.instanceMethod yJ0_isLatin1_aae02, Cond.selects RJ0 yJ0_isLatin1_aae02 yJ0_isLatin1_aae02, Cond.code yJ0_isLatin1_aae02 cJ0_isLatin1_aae02 1 (some .boolean), Cond.methodLink RJ0 495 yJ1_charAt_3b067, Cond.static yJ1_charAt_3b067, Cond.initialized RJ1, Cond.code yJ1_charAt_3b067 cJ1_charAt_3b067 2 (some .char), Cond.methodLink RJ1 9 yJ0_checkIndex_df160, Cond.static yJ0_checkIndex_df160, Cond.code yJ0_checkIndex_df160 cJ0_checkIndex_df160 2 none, Cond.fieldLink RJ0 1053 "jdk/internal/util/Preconditions" "SIOOBE_FORMATTER" "Ljava/util/function/BiFunction;", Cond.methodLink RJ0 1059 yJ3_checkIndex_8e157, Cond.static yJ3_checkIndex_8e157, Cond.initialized RJ3, Cond.code yJ3_checkIndex_8e157 cJ3_checkIndex_8e157 3 (some .int), Cond.methodLink RJ0 498 yJ2_charAt_3b067, Cond.static yJ2_charAt_3b067, Cond.initialized RJ2, Cond.code yJ2_charAt_3b067 cJ2_charAt_3b067 2 (some .char), Cond.methodLink RJ2 67 yJ2_checkIndex_2214a, Cond.static yJ2_checkIndex_2214a, Cond.code yJ2_checkIndex_2214a cJ2_checkIndex_2214a 2 none]
def wsL_law0_r11 : List Cond := [Cond.methodLink RJ2 48 yJ2_length_9d52b, Cond.static yJ2_length_9d52b, Cond.code yJ2_length_9d52b cJ2_length_9d52b 1 (some .int), Cond.methodLink RJ2 414 yJ0_checkIndex_df160, Cond.methodLink RJ2 71 yJ2_getChar_3b067, Cond.static yJ2_getChar_3b067, Cond.code yJ2_getChar_3b067 cJ2_getChar_3b067 2 (some .char), Cond.fieldLink RJ2 44 "java/lang/StringUTF16" "$assertionsDisabled" "Z", Cond.fieldLink RJ2 59 "java/lang/StringUTF16" "HI_BYTE_SHIFT" "I", Cond.fieldLink RJ2 63 "java/lang/StringUTF16" "LO_BYTE_SHIFT" "I", Cond.methodLink RX2 38 yX2_readState, Cond.instanceMethod yX2_readState, Cond.selects RX2 yX2_readState yX2_readState, Cond.code yX2_readState cX2_readState 5 (some .int), Cond.methodLink RX2 69 yX0_nameAt, Cond.instanceMethod yX0_nameAt, Cond.selects RX0 yX0_nameAt yX0_nameAt, Cond.code yX0_nameAt cX0_nameAt 5 (some .int), Cond.methodLink RX0 46 yX0_isLetters, Cond.instanceMethod yX0_isLetters, Cond.selects RX0 yX0_isLetters yX0_isLetters, Cond.code yX0_isLetters cX0_isLetters 6 (some .boolean), Cond.methodLink RX2 73 yX4_find, Cond.instanceMethod yX4_find]
def wsL_law0_r12 : List Cond := [Cond.selects RX4 yX4_find yX4_find, Cond.code yX4_find cX4_find 3 (some .int), Cond.methodLink RX2 76 yX4_depthOf, Cond.instanceMethod yX4_depthOf, Cond.selects RX4 yX4_depthOf yX4_depthOf, Cond.code yX4_depthOf cX4_depthOf 2 (some .int), Cond.methodLink RX4 51 yX4_isState, Cond.instanceMethod yX4_isState, Cond.selects RX4 yX4_isState yX4_isState, Cond.code yX4_isState cX4_isState 2 (some .boolean), Cond.methodLink RX2 79 yX4_isFull, Cond.instanceMethod yX4_isFull, Cond.selects RX4 yX4_isFull yX4_isFull, Cond.code yX4_isFull cX4_isFull 1 (some .boolean), Cond.methodLink RX2 83 yX4_make, Cond.instanceMethod yX4_make, Cond.selects RX4 yX4_make yX4_make, Cond.code yX4_make cX4_make 5 none, Cond.methodLink RX4 47 yX4_isFull, Cond.methodLink RX2 43 yX4_entering, Cond.instanceMethod yX4_entering, Cond.selects RX4 yX4_entering yX4_entering, Cond.code yX4_entering cX4_entering 1 (some (.object "ChartTable$MarkRows")), Cond.methodLink RX2 49 yX2_readMarks]
def wsL_law0_r13 : List Cond := [Cond.instanceMethod yX2_readMarks, Cond.selects RX2 yX2_readMarks yX2_readMarks, Cond.code yX2_readMarks cX2_readMarks 3 (some .int), Cond.methodLink RX2 87 yX0_isLetters, Cond.methodLink RX2 91 yX0_sizeOf, Cond.methodLink RX2 94 yX1_hasRoom, Cond.instanceMethod yX1_hasRoom, Cond.selects RX1 yX1_hasRoom yX1_hasRoom, Cond.code yX1_hasRoom cX1_hasRoom 3 (some .boolean), Cond.methodLink RX1 32 yX1_isRow, Cond.instanceMethod yX1_isRow, Cond.selects RX1 yX1_isRow yX1_isRow, Cond.code yX1_isRow cX1_isRow 2 (some .boolean), Cond.methodLink RX2 99 yX2_addMarks, Cond.instanceMethod yX2_addMarks, Cond.selects RX2 yX2_addMarks yX2_addMarks, Cond.code yX2_addMarks cX2_addMarks 6 none, Cond.methodLink RX2 134 yX0_letterAt, Cond.methodLink RX2 138 yX1_add, Cond.instanceMethod yX1_add, Cond.selects RX1 yX1_add yX1_add, Cond.code yX1_add cX1_add 3 none, Cond.methodLink RX2 55 yX4_leaving, Cond.instanceMethod yX4_leaving]
def wsL_law0_r14 : List Cond := [Cond.selects RX4 yX4_leaving yX4_leaving, Cond.code yX4_leaving cX4_leaving 1 (some (.object "ChartTable$MarkRows")), Cond.methodLink RX2 60 yX2_readRule, Cond.instanceMethod yX2_readRule, Cond.selects RX2 yX2_readRule yX2_readRule, Cond.code yX2_readRule cX2_readRule 8 (some .int), Cond.methodLink RX2 111 yX2_isEndOfRule, Cond.instanceMethod yX2_isEndOfRule, Cond.selects RX2 yX2_isEndOfRule yX2_isEndOfRule, Cond.code yX2_isEndOfRule cX2_isEndOfRule 2 (some .boolean), Cond.methodLink RX2 115 yX3_hasRoom, Cond.instanceMethod yX3_hasRoom, Cond.selects RX3 yX3_hasRoom yX3_hasRoom, Cond.code yX3_hasRoom cX3_hasRoom 2 (some .boolean), Cond.fieldLink RX3 43 "ChartTable$Rules" "made" "I", Cond.fieldLink RX3 47 "ChartTable$Rules" "events" "I", Cond.methodLink RX3 50 yX3_findEvent, Cond.instanceMethod yX3_findEvent, Cond.selects RX3 yX3_findEvent yX3_findEvent, Cond.code yX3_findEvent cX3_findEvent 3 (some .int), Cond.methodLink RX2 119 yX4_scopeOf, Cond.instanceMethod yX4_scopeOf, Cond.selects RX4 yX4_scopeOf yX4_scopeOf, Cond.code yX4_scopeOf cX4_scopeOf 5 (some .int)]
def wsL_law0_r15 : List Cond := [Cond.methodLink RX4 55 yX4_parentOf, Cond.instanceMethod yX4_parentOf, Cond.selects RX4 yX4_parentOf yX4_parentOf, Cond.code yX4_parentOf cX4_parentOf 2 (some .int), Cond.methodLink RX4 59 yX4_isWhole, Cond.instanceMethod yX4_isWhole, Cond.selects RX4 yX4_isWhole yX4_isWhole, Cond.code yX4_isWhole cX4_isWhole 2 (some .boolean), Cond.methodLink RX4 62 yX4_childToward, Cond.instanceMethod yX4_childToward, Cond.selects RX4 yX4_childToward yX4_childToward, Cond.code yX4_childToward cX4_childToward 5 (some .int), Cond.methodLink RX2 123 yX3_make, Cond.instanceMethod yX3_make, Cond.selects RX3 yX3_make yX3_make, Cond.code yX3_make cX3_make 8 none, Cond.methodLink RX3 54 yX3_hasRoom, Cond.methodLink RX2 126 yX3_marks, Cond.instanceMethod yX3_marks, Cond.selects RX3 yX3_marks yX3_marks, Cond.code yX3_marks cX3_marks 1 (some (.object "ChartTable$MarkRows")), Cond.methodLink RX2 129 yX3_made, Cond.instanceMethod yX3_made, Cond.selects RX3 yX3_made yX3_made]
def wsL_law0_r16 : List Cond := [Cond.code yX3_made cX3_made 1 (some .int), Cond.methodLink RX7 68 yX5_drop, Cond.instanceMethod yX5_drop, Cond.selects RX5 yX5_drop yX5_drop, Cond.code yX5_drop cX5_drop 1 none, Cond.fieldLink RX5 44 "ChartTable$Table" "size" "I", Cond.methodLink RL 47 yX8_line, Cond.instanceMethod yX8_line, Cond.selects RX8 yX8_line yX8_line, Cond.code yX8_line cX8_line 2 (some .int), Cond.fieldLink RX8 109 "ChartTableModel" "words" "I", Cond.fieldLink RX8 143 "ChartTableModel" "made" "I", Cond.methodLink RX8 123 yX8_split, Cond.instanceMethod yX8_split, Cond.selects RX8 yX8_split yX8_split, Cond.code yX8_split cX8_split 2 none, Cond.methodLink RX8 126 yX8_says, Cond.instanceMethod yX8_says, Cond.selects RX8 yX8_says yX8_says, Cond.code yX8_says cX8_says 8 (some .boolean), Cond.methodLink RX8 116 yX8_letter, Cond.instanceMethod yX8_letter, Cond.selects RX8 yX8_letter yX8_letter, Cond.code yX8_letter cX8_letter 3 (some .char)]
def wsL_law0_r17 : List Cond := [Cond.methodLink RX8 112 yX8_length, Cond.instanceMethod yX8_length, Cond.selects RX8 yX8_length yX8_length, Cond.code yX8_length cX8_length 2 (some .int), Cond.methodLink RX8 130 yX8_newState, Cond.instanceMethod yX8_newState, Cond.selects RX8 yX8_newState yX8_newState, Cond.code yX8_newState cX8_newState 5 (some .int), Cond.methodLink RX8 146 yX8_isWord, Cond.instanceMethod yX8_isWord, Cond.selects RX8 yX8_isWord yX8_isWord, Cond.code yX8_isWord cX8_isWord 5 (some .boolean), Cond.methodLink RX8 150 yX8_stateOf, Cond.instanceMethod yX8_stateOf, Cond.selects RX8 yX8_stateOf yX8_stateOf, Cond.code yX8_stateOf cX8_stateOf 5 (some .int), Cond.methodLink RX8 134 yX8_newMarks, Cond.instanceMethod yX8_newMarks, Cond.selects RX8 yX8_newMarks yX8_newMarks, Cond.code yX8_newMarks cX8_newMarks 5 (some .int), Cond.methodLink RX8 137 yX8_newRule, Cond.instanceMethod yX8_newRule, Cond.selects RX8 yX8_newRule yX8_newRule, Cond.code yX8_newRule cX8_newRule 10 (some .int)]
def wsL_law0_r18 : List Cond := [Cond.fieldLink RX8 156 "ChartTableModel" "rules" "I", Cond.fieldLink RX8 120 "ChartTableModel" "events" "I", Cond.methodLink RX8 153 yX8_eventOf, Cond.instanceMethod yX8_eventOf, Cond.selects RX8 yX8_eventOf yX8_eventOf, Cond.code yX8_eventOf cX8_eventOf 5 (some .int), Cond.methodLink RX8 140 yX8_fails, Cond.instanceMethod yX8_fails, Cond.selects RX8 yX8_fails yX8_fails, Cond.code yX8_fails cX8_fails 2 (some .int), Cond.methodLink RL 48 yX8_thrown, Cond.instanceMethod yX8_thrown, Cond.selects RX8 yX8_thrown yX8_thrown, Cond.code yX8_thrown cX8_thrown 1 (some .int), Cond.methodLink RL 51 yL_compile, Cond.static yL_compile, Cond.codeWith yL_compile cL_compile 3 (some .int) [(0, 8, 11, 15)], Cond.methodLink RL 17 yX7_compile, Cond.instanceMethod yX7_compile, Cond.selects RX7 yX7_compile yX7_compile, Cond.code yX7_compile cX7_compile 1 (some .int), Cond.methodLink RX7 71 yX5_build, Cond.instanceMethod yX5_build, Cond.selects RX5 yX5_build yX5_build]
def wsL_law0_r19 : List Cond := [Cond.code yX5_build cX5_build 5 (some .boolean), Cond.fieldLink RX5 48 "ChartTable$Table" "place" "I", Cond.fieldLink RX5 51 "ChartTable$Table" "marksNoted" "I", Cond.methodLink RX5 54 yX6_start, Cond.instanceMethod yX6_start, Cond.selects RX6 yX6_start yX6_start, Cond.code yX6_start cX6_start 3 none, Cond.methodLink RX6 27 yX4_currentAtFirst, Cond.instanceMethod yX4_currentAtFirst, Cond.selects RX4 yX4_currentAtFirst yX4_currentAtFirst, Cond.code yX4_currentAtFirst cX4_currentAtFirst 2 (some .int), Cond.methodLink RX6 33 yX6_noteIn, Cond.instanceMethod yX6_noteIn, Cond.selects RX6 yX6_noteIn yX6_noteIn, Cond.code yX6_noteIn cX6_noteIn 2 none, Cond.fieldLink RX6 45 "ChartTable$Walk" "row" "I", Cond.methodLink RX6 49 yX1_empty, Cond.instanceMethod yX1_empty, Cond.selects RX1 yX1_empty yX1_empty, Cond.code yX1_empty cX1_empty 2 none, Cond.methodLink RX6 37 yX6_enter, Cond.instanceMethod yX6_enter, Cond.selects RX6 yX6_enter yX6_enter, Cond.code yX6_enter cX6_enter 5 none]
def wsL_law0_r20 : List Cond := [Cond.methodLink RX6 64 yX4_isState, Cond.methodLink RX6 67 yX4_entering, Cond.methodLink RX6 71 yX1_addRow, Cond.instanceMethod yX1_addRow, Cond.selects RX1 yX1_addRow yX1_addRow, Cond.code yX1_addRow cX1_addRow 7 none, Cond.methodLink RX1 40 Lib.Math.min.name, Cond.static Lib.Math.min.name, Cond.code Lib.Math.min.name Lib.Math.min.code 2 (some .int), Cond.methodLink RX6 57 yX4_isWhole, Cond.methodLink RX6 75 yX4_made, Cond.instanceMethod yX4_made, Cond.selects RX4 yX4_made yX4_made, Cond.code yX4_made cX4_made 1 (some .int), Cond.methodLink RX6 54 yX4_parentOf, Cond.methodLink RX6 79 yX4_childToward, Cond.methodLink RX6 83 yX6_makeCurrent, Cond.instanceMethod yX6_makeCurrent, Cond.selects RX6 yX6_makeCurrent yX6_makeCurrent, Cond.code yX6_makeCurrent cX6_makeCurrent 3 none, Cond.methodLink RX6 61 yX6_currentChild, Cond.instanceMethod yX6_currentChild, Cond.selects RX6 yX6_currentChild yX6_currentChild, Cond.code yX6_currentChild cX6_currentChild 2 (some .int)]
def wsL_law0_r21 : List Cond := [Cond.methodLink RX5 58 yX5_numberOfWalk, Cond.instanceMethod yX5_numberOfWalk, Cond.selects RX5 yX5_numberOfWalk yX5_numberOfWalk, Cond.code yX5_numberOfWalk cX5_numberOfWalk 2 (some .int), Cond.methodLink RX5 96 yX5_isWalk, Cond.instanceMethod yX5_isWalk, Cond.selects RX5 yX5_isWalk yX5_isWalk, Cond.code yX5_isWalk cX5_isWalk 3 (some .boolean), Cond.methodLink RX5 88 yX5_currentChild, Cond.instanceMethod yX5_currentChild, Cond.selects RX5 yX5_currentChild yX5_currentChild, Cond.code yX5_currentChild cX5_currentChild 3 (some .int), Cond.methodLink RX5 81 yX5_isConfiguration, Cond.instanceMethod yX5_isConfiguration, Cond.selects RX5 yX5_isConfiguration yX5_isConfiguration, Cond.code yX5_isConfiguration cX5_isConfiguration 2 (some .boolean), Cond.methodLink RX5 102 yX4_isState, Cond.methodLink RX5 94 yX6_currentChild, Cond.methodLink RX5 62 yX3_events, Cond.instanceMethod yX3_events, Cond.selects RX3 yX3_events yX3_events, Cond.code yX3_events cX3_events 1 (some .int), Cond.methodLink RX5 67 yX5_cellOf, Cond.instanceMethod yX5_cellOf]
def wsL_law0_r22 : List Cond := [Cond.selects RX5 yX5_cellOf yX5_cellOf, Cond.code yX5_cellOf cX5_cellOf 3 (some .int), Cond.methodLink RX5 85 yX3_isEvent, Cond.instanceMethod yX3_isEvent, Cond.selects RX3 yX3_isEvent yX3_isEvent, Cond.code yX3_isEvent cX3_isEvent 2 (some .boolean), Cond.methodLink RX5 71 yX5_setWalk, Cond.instanceMethod yX5_setWalk, Cond.selects RX5 yX5_setWalk yX5_setWalk, Cond.code yX5_setWalk cX5_setWalk 3 none, Cond.methodLink RX5 91 yX6_makeCurrent, Cond.methodLink RX5 74 yX6_receive, Cond.instanceMethod yX6_receive, Cond.selects RX6 yX6_receive yX6_receive, Cond.code yX6_receive cX6_receive 3 none, Cond.methodLink RX6 41 yX6_offer, Cond.instanceMethod yX6_offer, Cond.selects RX6 yX6_offer yX6_offer, Cond.code yX6_offer cX6_offer 6 (some .int), Cond.methodLink RX6 96 Lib.Math.min.name, Cond.methodLink RX6 101 yX6_ownRule, Cond.instanceMethod yX6_ownRule, Cond.selects RX6 yX6_ownRule yX6_ownRule, Cond.code yX6_ownRule cX6_ownRule 4 (some .int)]
def wsL_law0_r23 : List Cond := [Cond.methodLink RX6 107 yX3_made, Cond.methodLink RX6 110 yX3_isFor, Cond.instanceMethod yX3_isFor, Cond.selects RX3 yX3_isFor yX3_isFor, Cond.code yX3_isFor cX3_isFor 4 (some .boolean), Cond.methodLink RX3 58 yX3_isRule, Cond.instanceMethod yX3_isRule, Cond.selects RX3 yX3_isRule yX3_isRule, Cond.code yX3_isRule cX3_isRule 2 (some .boolean), Cond.methodLink RX6 114 yX3_askedOf, Cond.instanceMethod yX3_askedOf, Cond.selects RX3 yX3_askedOf yX3_askedOf, Cond.code yX3_askedOf cX3_askedOf 2 (some .int), Cond.methodLink RX6 117 yX6_isActive, Cond.instanceMethod yX6_isActive, Cond.selects RX6 yX6_isActive yX6_isActive, Cond.code yX6_isActive cX6_isActive 5 (some .boolean), Cond.methodLink RX6 120 yX3_isWantedActive, Cond.instanceMethod yX3_isWantedActive, Cond.selects RX3 yX3_isWantedActive yX3_isWantedActive, Cond.code yX3_isWantedActive cX3_isWantedActive 2 (some .boolean), Cond.methodLink RX6 104 yX6_take, Cond.instanceMethod yX6_take, Cond.selects RX6 yX6_take yX6_take]
def wsL_law0_r24 : List Cond := [Cond.code yX6_take cX6_take 5 (some .int), Cond.methodLink RX6 123 yX3_isRule, Cond.methodLink RX6 126 yX3_scopeOf, Cond.instanceMethod yX3_scopeOf, Cond.selects RX3 yX3_scopeOf yX3_scopeOf, Cond.code yX3_scopeOf cX3_scopeOf 2 (some .int), Cond.methodLink RX6 129 yX3_targetOf, Cond.instanceMethod yX3_targetOf, Cond.selects RX3 yX3_targetOf yX3_targetOf, Cond.code yX3_targetOf cX3_targetOf 2 (some .int), Cond.methodLink RX6 132 yX4_depthOf, Cond.methodLink RX6 87 yX6_leave, Cond.instanceMethod yX6_leave, Cond.selects RX6 yX6_leave yX6_leave, Cond.code yX6_leave cX6_leave 4 none, Cond.methodLink RX6 90 yX4_leaving, Cond.methodLink RX6 93 yX4_isRemembering, Cond.instanceMethod yX4_isRemembering, Cond.selects RX4 yX4_isRemembering yX4_isRemembering, Cond.code yX4_isRemembering cX4_isRemembering 2 (some .boolean), Cond.methodLink RX6 135 yX3_marks, Cond.methodLink RX5 77 yX1_sizeOf, Cond.instanceMethod yX1_sizeOf, Cond.selects RX1 yX1_sizeOf yX1_sizeOf]
def wsL_law0_r25 : List Cond := [Cond.code yX1_sizeOf cX1_sizeOf 2 (some .int), Cond.methodLink RX7 77 yX5_size, Cond.instanceMethod yX5_size, Cond.selects RX5 yX5_size yX5_size, Cond.code yX5_size cX5_size 1 (some .int), Cond.methodLink RL 53 yX8_compile, Cond.instanceMethod yX8_compile, Cond.selects RX8 yX8_compile yX8_compile, Cond.code yX8_compile cX8_compile 4 (some .int), Cond.fieldLink RX8 163 "ChartTableModel" "notes" "I", Cond.fieldLink RX8 211 "ChartTableModel" "at" "I", Cond.fieldLink RX8 214 "ChartTableModel" "noted" "I", Cond.methodLink RX8 172 yX8_firstOf, Cond.instanceMethod yX8_firstOf, Cond.selects RX8 yX8_firstOf yX8_firstOf, Cond.code yX8_firstOf cX8_firstOf 2 (some .int), Cond.methodLink RX8 175 yX8_firstChild, Cond.instanceMethod yX8_firstChild, Cond.selects RX8 yX8_firstChild yX8_firstChild, Cond.code yX8_firstChild cX8_firstChild 3 (some .int), Cond.methodLink RX8 188 yX8_enter, Cond.instanceMethod yX8_enter, Cond.selects RX8 yX8_enter yX8_enter, Cond.code yX8_enter cX8_enter 8 none]
def wsL_law0_r26 : List Cond := [Cond.methodLink RX8 166 yX8_notes, Cond.instanceMethod yX8_notes, Cond.selects RX8 yX8_notes yX8_notes, Cond.code yX8_notes cX8_notes 3 none, Cond.methodLink RX8 159 yX8_put, Cond.instanceMethod yX8_put, Cond.selects RX8 yX8_put yX8_put, Cond.code yX8_put cX8_put 2 none, Cond.methodLink RX8 169 yX8_within, Cond.instanceMethod yX8_within, Cond.selects RX8 yX8_within yX8_within, Cond.code yX8_within cX8_within 4 (some .boolean), Cond.methodLink RX8 202 yX8_keep, Cond.instanceMethod yX8_keep, Cond.selects RX8 yX8_keep yX8_keep, Cond.code yX8_keep cX8_keep 3 none, Cond.methodLink RX8 205 yX8_configuration, Cond.instanceMethod yX8_configuration, Cond.selects RX8 yX8_configuration yX8_configuration, Cond.code yX8_configuration cX8_configuration 4 (some .int), Cond.methodLink RX8 208 yX8_offered, Cond.instanceMethod yX8_offered, Cond.selects RX8 yX8_offered yX8_offered, Cond.code yX8_offered cX8_offered 4 none]
def wsL_law0_r27 : List Cond := [Cond.methodLink RX8 199 yX8_offer, Cond.instanceMethod yX8_offer, Cond.selects RX8 yX8_offer yX8_offer, Cond.code yX8_offer cX8_offer 7 none, Cond.methodLink RX8 192 yX8_following, Cond.instanceMethod yX8_following, Cond.selects RX8 yX8_following yX8_following, Cond.code yX8_following cX8_following 4 (some .int), Cond.methodLink RX8 196 yX8_own, Cond.instanceMethod yX8_own, Cond.selects RX8 yX8_own yX8_own, Cond.code yX8_own cX8_own 5 (some .int), Cond.methodLink RX8 178 yX8_isActive, Cond.instanceMethod yX8_isActive, Cond.selects RX8 yX8_isActive yX8_isActive, Cond.code yX8_isActive cX8_isActive 4 (some .boolean), Cond.methodLink RX8 182 yX8_take, Cond.instanceMethod yX8_take, Cond.selects RX8 yX8_take yX8_take, Cond.code yX8_take cX8_take 5 (some .int), Cond.methodLink RX8 185 yX8_leave, Cond.instanceMethod yX8_leave, Cond.selects RX8 yX8_leave yX8_leave, Cond.code yX8_leave cX8_leave 6 none]
def wsL_law0_r28 : List Cond := [Cond.methodLink RL 54 yX7_configurations, Cond.instanceMethod yX7_configurations, Cond.selects RX7 yX7_configurations yX7_configurations, Cond.code yX7_configurations cX7_configurations 1 (some .int), Cond.methodLink RL 57 yX8_configurations, Cond.instanceMethod yX8_configurations, Cond.selects RX8 yX8_configurations yX8_configurations, Cond.code yX8_configurations cX8_configurations 1 (some .int), Cond.methodLink RL 58 yX7_count, Cond.instanceMethod yX7_count, Cond.selects RX7 yX7_count yX7_count, Cond.code yX7_count cX7_count 2 (some .int), Cond.methodLink RX7 80 yX4_made, Cond.methodLink RX7 83 yX3_made, Cond.methodLink RX7 84 yX3_events, Cond.methodLink RX7 87 yX5_place, Cond.instanceMethod yX5_place, Cond.selects RX5 yX5_place yX5_place, Cond.code yX5_place cX5_place 1 (some .int), Cond.methodLink RL 61 yX8_count, Cond.instanceMethod yX8_count, Cond.selects RX8 yX8_count yX8_count, Cond.code yX8_count cX8_count 2 (some .int), Cond.methodLink RL 62 yL_named]
def wsL_law0_r29 : List Cond := [Cond.static yL_named, Cond.codeWith yL_named cL_named 3 (some .int) [(0, 8, 11, 23)], Cond.classLink RL 23 "java/util/NoSuchElementException", Cond.methodLink RL 20 yX7_named, Cond.instanceMethod yX7_named, Cond.selects RX7 yX7_named yX7_named, Cond.code yX7_named cX7_named 2 (some .int), Cond.classLink RX7 103 "java/util/NoSuchElementException", Cond.initialized "java/util/NoSuchElementException", Cond.methodLink RX7 90 yX0_split, Cond.methodLink RX7 93 yX0_words, Cond.methodLink RX7 96 yX0_nameAt, Cond.methodLink RX7 100 yX4_find, Cond.methodLink RL 64 yX8_named, Cond.instanceMethod yX8_named, Cond.selects RX8 yX8_named yX8_named, Cond.code yX8_named cX8_named 2 (some .int), Cond.methodLink RL 65 yL_next, Cond.static yL_next, Cond.codeWith yL_next cL_next 5 (some .int) [(0, 10, 13, 23)], Cond.methodLink RL 25 yX7_next, Cond.instanceMethod yX7_next, Cond.selects RX7 yX7_next yX7_next, Cond.code yX7_next cX7_next 4 (some .int)]
def wsL_law0_r30 : List Cond := [Cond.methodLink RX7 108 yX5_following, Cond.instanceMethod yX5_following, Cond.selects RX5 yX5_following yX5_following, Cond.code yX5_following cX5_following 4 (some .int), Cond.methodLink RL 68 yX8_next, Cond.instanceMethod yX8_next, Cond.selects RX8 yX8_next yX8_next, Cond.code yX8_next cX8_next 3 (some .int), Cond.methodLink RX8 217 yX8_isIn, Cond.instanceMethod yX8_isIn, Cond.selects RX8 yX8_isIn yX8_isIn, Cond.code yX8_isIn cX8_isIn 3 (some .boolean), Cond.methodLink RL 69 yX7_trace, Cond.instanceMethod yX7_trace, Cond.selects RX7 yX7_trace yX7_trace, Cond.code yX7_trace cX7_trace 4 (some .int), Cond.methodLink RX7 114 yX5_traceLetter, Cond.instanceMethod yX5_traceLetter, Cond.selects RX5 yX5_traceLetter yX5_traceLetter, Cond.code yX5_traceLetter cX5_traceLetter 5 (some .int), Cond.methodLink RX5 99 yX1_letterAt, Cond.instanceMethod yX1_letterAt, Cond.selects RX1 yX1_letterAt yX1_letterAt, Cond.code yX1_letterAt cX1_letterAt 3 (some .int)]
def wsL_law0_r31 : List Cond := [Cond.methodLink RX1 36 yX1_sizeOf, Cond.methodLink RL 73 yX8_trace, Cond.instanceMethod yX8_trace, Cond.selects RX8 yX8_trace yX8_trace, Cond.code yX8_trace cX8_trace 6 (some .int), Cond.methodLink RL 74 yX7_active, Cond.instanceMethod yX7_active, Cond.selects RX7 yX7_active yX7_active, Cond.code yX7_active cX7_active 3 (some .boolean), Cond.methodLink RX7 118 yX5_isActive, Cond.instanceMethod yX5_isActive, Cond.selects RX5 yX5_isActive yX5_isActive, Cond.code yX5_isActive cX5_isActive 3 (some .boolean), Cond.methodLink RX5 107 yX6_isActive, Cond.methodLink RL 78 yX8_active, Cond.instanceMethod yX8_active, Cond.selects RX8 yX8_active yX8_active, Cond.code yX8_active cX8_active 4 (some .boolean), Cond.methodLink RL 79 yX7_current, Cond.instanceMethod yX7_current, Cond.selects RX7 yX7_current yX7_current, Cond.code yX7_current cX7_current 3 (some .int), Cond.methodLink RX7 122 yX5_currentChild, Cond.methodLink RL 82 yX8_current]
def wsL_law0_r32 : List Cond := [Cond.instanceMethod yX8_current, Cond.selects RX8 yX8_current yX8_current, Cond.code yX8_current cX8_current 3 (some .int), Cond.methodLink RL 83 yL_event, Cond.static yL_event, Cond.codeWith yL_event cL_event 4 (some .int) [(0, 9, 12, 15), (0, 9, 15, 13)], Cond.methodLink RL 29 yX7_event, Cond.instanceMethod yX7_event, Cond.selects RX7 yX7_event yX7_event, Cond.code yX7_event cX7_event 2 (some .int), Cond.methodLink RX7 127 yX3_isEvent, Cond.methodLink RX7 133 yX5_step, Cond.instanceMethod yX5_step, Cond.selects RX5 yX5_step yX5_step, Cond.code yX5_step cX5_step 3 (some .int), Cond.methodLink RL 86 yX8_event, Cond.instanceMethod yX8_event, Cond.selects RX8 yX8_event yX8_event, Cond.code yX8_event cX8_event 2 (some .int), Cond.methodLink RL 87 yX7_noted, Cond.instanceMethod yX7_noted, Cond.selects RX7 yX7_noted yX7_noted, Cond.code yX7_noted cX7_noted 1 (some .int), Cond.methodLink RX7 136 yX5_marksNoted]
def wsL_law0_r33 : List Cond := [Cond.instanceMethod yX5_marksNoted, Cond.selects RX5 yX5_marksNoted yX5_marksNoted, Cond.code yX5_marksNoted cX5_marksNoted 1 (some .int), Cond.methodLink RL 90 yX8_noted, Cond.instanceMethod yX8_noted, Cond.selects RX8 yX8_noted yX8_noted, Cond.code yX8_noted cX8_noted 1 (some .int)]
def wsL_law0 : List Cond := (wsL_law0_r1 ++ (wsL_law0_r2 ++ (wsL_law0_r3 ++ (wsL_law0_r4 ++ (wsL_law0_r5 ++ (wsL_law0_r6 ++ (wsL_law0_r7 ++ (wsL_law0_r8 ++ (wsL_law0_r9 ++ (wsL_law0_r10 ++ (wsL_law0_r11 ++ (wsL_law0_r12 ++ (wsL_law0_r13 ++ (wsL_law0_r14 ++ (wsL_law0_r15 ++ (wsL_law0_r16 ++ (wsL_law0_r17 ++ (wsL_law0_r18 ++ (wsL_law0_r19 ++ (wsL_law0_r20 ++ (wsL_law0_r21 ++ (wsL_law0_r22 ++ (wsL_law0_r23 ++ (wsL_law0_r24 ++ (wsL_law0_r25 ++ (wsL_law0_r26 ++ (wsL_law0_r27 ++ (wsL_law0_r28 ++ (wsL_law0_r29 ++ (wsL_law0_r30 ++ (wsL_law0_r31 ++ (wsL_law0_r32 ++ wsL_law0_r33)))))))))))))))))))))))))))))))) ++ wsX70 ++ wsX80 ++ wsX00 ++ wsX40 ++ wsX30 ++ wsX20 ++ wsX50 ++ wsX10 ++ wsX60 ++ ([] : List Cond)
def wsL_law : List Cond := wsL_law0 ++ (vx_atS RX7 60 "java/lang/IllegalArgumentException" ["java/lang/RuntimeException", "java/lang/Exception"]).filter goodWord ++ (vx_atS RX7 67 "java/lang/IllegalStateException" ["java/lang/RuntimeException", "java/lang/Exception"]).filter goodWord ++ (vx_atS RX7 107 "java/util/NoSuchElementException" ["java/lang/RuntimeException", "java/lang/Exception"]).filter goodWord
abbrev vwCl : List vw_C := [(RX0, TX0, 5), (RX1, TX1, 4), (RX2, TX2, 3), (RX3, TX3, 10), (RX4, TX4, 9), (RX5, TX5, 9), (RX6, TX6, 5), (RX7, TX7, 5), (RX8, TX8, 39)]
end
section
theorem dX0_init_0 : decode cX0_init 0 = .ok (.aload_n 0, 1) := by decide +kernel
theorem dX0_init_1 : decode cX0_init 1 = .ok (.invokespecial 3, 3) := by decide +kernel
theorem dX0_init_4 : decode cX0_init 4 = .ok (.aload_n 0, 1) := by decide +kernel
theorem dX0_init_5 : decode cX0_init 5 = .ok (.bipush 50, 2) := by decide +kernel
theorem dX0_init_7 : decode cX0_init 7 = .ok (.newarray .char, 2) := by decide +kernel
theorem dX0_init_9 : decode cX0_init 9 = .ok (.putfield 9, 3) := by decide +kernel
theorem dX0_init_12 : decode cX0_init 12 = .ok (.aload_n 0, 1) := by decide +kernel
theorem dX0_init_13 : decode cX0_init 13 = .ok (.bipush 25, 2) := by decide +kernel
theorem dX0_init_15 : decode cX0_init 15 = .ok (.newarray .int, 2) := by decide +kernel
theorem dX0_init_17 : decode cX0_init 17 = .ok (.putfield 15, 3) := by decide +kernel
theorem dX0_init_20 : decode cX0_init 20 = .ok (.aload_n 0, 1) := by decide +kernel
theorem dX0_init_21 : decode cX0_init 21 = .ok (.bipush 25, 2) := by decide +kernel
theorem dX0_init_23 : decode cX0_init 23 = .ok (.newarray .int, 2) := by decide +kernel
theorem dX0_init_25 : decode cX0_init 25 = .ok (.putfield 19, 3) := by decide +kernel
theorem dX0_init_28 : decode cX0_init 28 = .ok (.return_, 1) := by decide +kernel
theorem dX0_append_0 : decode cX0_append 0 = .ok (.iload_n 1, 1) := by decide +kernel
theorem dX0_append_1 : decode cX0_append 1 = .ok (.bipush 32, 2) := by decide +kernel
theorem dX0_append_3 : decode cX0_append 3 = .ok (.if_icmp .lt 18, 3) := by decide +kernel
theorem dX0_append_6 : decode cX0_append 6 = .ok (.iload_n 1, 1) := by decide +kernel
theorem dX0_append_7 : decode cX0_append 7 = .ok (.bipush 126, 2) := by decide +kernel
theorem dX0_append_9 : decode cX0_append 9 = .ok (.if_icmp .gt 12, 3) := by decide +kernel
theorem dX0_append_12 : decode cX0_append 12 = .ok (.aload_n 0, 1) := by decide +kernel
theorem dX0_append_13 : decode cX0_append 13 = .ok (.getfield 22, 3) := by decide +kernel
theorem dX0_append_16 : decode cX0_append 16 = .ok (.bipush 50, 2) := by decide +kernel
theorem dX0_append_18 : decode cX0_append 18 = .ok (.if_icmp .lt 5, 3) := by decide +kernel
theorem dX0_append_21 : decode cX0_append 21 = .ok (.iconst 0, 1) := by decide +kernel
theorem dX0_append_22 : decode cX0_append 22 = .ok (.ireturn, 1) := by decide +kernel
theorem dX0_append_23 : decode cX0_append 23 = .ok (.aload_n 0, 1) := by decide +kernel
theorem dX0_append_24 : decode cX0_append 24 = .ok (.getfield 9, 3) := by decide +kernel
theorem dX0_append_27 : decode cX0_append 27 = .ok (.aload_n 0, 1) := by decide +kernel
theorem dX0_append_28 : decode cX0_append 28 = .ok (.getfield 22, 3) := by decide +kernel
theorem dX0_append_31 : decode cX0_append 31 = .ok (.iload_n 1, 1) := by decide +kernel
theorem dX0_append_32 : decode cX0_append 32 = .ok (.castore, 1) := by decide +kernel
theorem dX0_append_33 : decode cX0_append 33 = .ok (.aload_n 0, 1) := by decide +kernel
theorem dX0_append_34 : decode cX0_append 34 = .ok (.dup, 1) := by decide +kernel
theorem dX0_append_35 : decode cX0_append 35 = .ok (.getfield 22, 3) := by decide +kernel
theorem dX0_append_38 : decode cX0_append 38 = .ok (.iconst 1, 1) := by decide +kernel
theorem dX0_append_39 : decode cX0_append 39 = .ok (.iadd, 1) := by decide +kernel
theorem dX0_append_40 : decode cX0_append 40 = .ok (.putfield 22, 3) := by decide +kernel
theorem dX0_append_43 : decode cX0_append 43 = .ok (.iconst 1, 1) := by decide +kernel
theorem dX0_append_44 : decode cX0_append 44 = .ok (.ireturn, 1) := by decide +kernel
theorem dX0_split_0 : decode cX0_split 0 = .ok (.aload_n 0, 1) := by decide +kernel
theorem dX0_split_1 : decode cX0_split 1 = .ok (.iconst 0, 1) := by decide +kernel
theorem dX0_split_2 : decode cX0_split 2 = .ok (.putfield 26, 3) := by decide +kernel
theorem dX0_split_5 : decode cX0_split 5 = .ok (.iconst 0, 1) := by decide +kernel
theorem dX0_split_6 : decode cX0_split 6 = .ok (.istore_n 1, 1) := by decide +kernel
theorem dX0_split_7 : decode cX0_split 7 = .ok (.iconst 0, 1) := by decide +kernel
theorem dX0_split_8 : decode cX0_split 8 = .ok (.istore_n 2, 1) := by decide +kernel
theorem dX0_split_9 : decode cX0_split 9 = .ok (.iload_n 2, 1) := by decide +kernel
theorem dX0_split_10 : decode cX0_split 10 = .ok (.aload_n 0, 1) := by decide +kernel
theorem dX0_split_11 : decode cX0_split 11 = .ok (.getfield 22, 3) := by decide +kernel
theorem dX0_split_14 : decode cX0_split 14 = .ok (.if_icmp .ge 104, 3) := by decide +kernel
theorem dX0_split_17 : decode cX0_split 17 = .ok (.iload_n 2, 1) := by decide +kernel
theorem dX0_split_18 : decode cX0_split 18 = .ok (.bipush 50, 2) := by decide +kernel
theorem dX0_split_20 : decode cX0_split 20 = .ok (.if_icmp .ge 98, 3) := by decide +kernel
theorem dX0_split_23 : decode cX0_split 23 = .ok (.aload_n 0, 1) := by decide +kernel
theorem dX0_split_24 : decode cX0_split 24 = .ok (.getfield 9, 3) := by decide +kernel
theorem dX0_split_27 : decode cX0_split 27 = .ok (.iload_n 2, 1) := by decide +kernel
theorem dX0_split_28 : decode cX0_split 28 = .ok (.caload, 1) := by decide +kernel
theorem dX0_split_29 : decode cX0_split 29 = .ok (.bipush 32, 2) := by decide +kernel
theorem dX0_split_31 : decode cX0_split 31 = .ok (.if_icmp .ne 7, 3) := by decide +kernel
theorem dX0_split_34 : decode cX0_split 34 = .ok (.iconst 1, 1) := by decide +kernel
theorem dX0_split_35 : decode cX0_split 35 = .ok (.goto 4, 3) := by decide +kernel
theorem dX0_split_38 : decode cX0_split 38 = .ok (.iconst 0, 1) := by decide +kernel
theorem dX0_split_39 : decode cX0_split 39 = .ok (.istore_n 3, 1) := by decide +kernel
theorem dX0_split_40 : decode cX0_split 40 = .ok (.iload_n 3, 1) := by decide +kernel
theorem dX0_split_41 : decode cX0_split 41 = .ok (.ifCond .ne 36, 3) := by decide +kernel
theorem dX0_split_44 : decode cX0_split 44 = .ok (.iload_n 1, 1) := by decide +kernel
theorem dX0_split_45 : decode cX0_split 45 = .ok (.ifCond .ne 32, 3) := by decide +kernel
theorem dX0_split_48 : decode cX0_split 48 = .ok (.aload_n 0, 1) := by decide +kernel
theorem dX0_split_49 : decode cX0_split 49 = .ok (.getfield 26, 3) := by decide +kernel
theorem dX0_split_52 : decode cX0_split 52 = .ok (.bipush 25, 2) := by decide +kernel
theorem dX0_split_54 : decode cX0_split 54 = .ok (.if_icmp .ge 23, 3) := by decide +kernel
theorem dX0_split_57 : decode cX0_split 57 = .ok (.aload_n 0, 1) := by decide +kernel
theorem dX0_split_58 : decode cX0_split 58 = .ok (.getfield 15, 3) := by decide +kernel
theorem dX0_split_61 : decode cX0_split 61 = .ok (.aload_n 0, 1) := by decide +kernel
theorem dX0_split_62 : decode cX0_split 62 = .ok (.getfield 26, 3) := by decide +kernel
theorem dX0_split_65 : decode cX0_split 65 = .ok (.iload_n 2, 1) := by decide +kernel
theorem dX0_split_66 : decode cX0_split 66 = .ok (.iastore, 1) := by decide +kernel
theorem dX0_split_67 : decode cX0_split 67 = .ok (.aload_n 0, 1) := by decide +kernel
theorem dX0_split_68 : decode cX0_split 68 = .ok (.dup, 1) := by decide +kernel
theorem dX0_split_69 : decode cX0_split 69 = .ok (.getfield 26, 3) := by decide +kernel
theorem dX0_split_72 : decode cX0_split 72 = .ok (.iconst 1, 1) := by decide +kernel
theorem dX0_split_73 : decode cX0_split 73 = .ok (.iadd, 1) := by decide +kernel
theorem dX0_split_74 : decode cX0_split 74 = .ok (.putfield 26, 3) := by decide +kernel
theorem dX0_split_77 : decode cX0_split 77 = .ok (.iload_n 3, 1) := by decide +kernel
theorem dX0_split_78 : decode cX0_split 78 = .ok (.ifCond .ne 24, 3) := by decide +kernel
theorem dX0_split_81 : decode cX0_split 81 = .ok (.aload_n 0, 1) := by decide +kernel
theorem dX0_split_82 : decode cX0_split 82 = .ok (.getfield 26, 3) := by decide +kernel
theorem dX0_split_85 : decode cX0_split 85 = .ok (.ifCond .le 17, 3) := by decide +kernel
theorem dX0_split_88 : decode cX0_split 88 = .ok (.aload_n 0, 1) := by decide +kernel
theorem dX0_split_89 : decode cX0_split 89 = .ok (.getfield 19, 3) := by decide +kernel
theorem dX0_split_92 : decode cX0_split 92 = .ok (.aload_n 0, 1) := by decide +kernel
theorem dX0_split_93 : decode cX0_split 93 = .ok (.getfield 26, 3) := by decide +kernel
theorem dX0_split_96 : decode cX0_split 96 = .ok (.iconst 1, 1) := by decide +kernel
theorem dX0_split_97 : decode cX0_split 97 = .ok (.isub, 1) := by decide +kernel
theorem dX0_split_98 : decode cX0_split 98 = .ok (.iload_n 2, 1) := by decide +kernel
theorem dX0_split_99 : decode cX0_split 99 = .ok (.iconst 1, 1) := by decide +kernel
theorem dX0_split_100 : decode cX0_split 100 = .ok (.iadd, 1) := by decide +kernel
theorem dX0_split_101 : decode cX0_split 101 = .ok (.iastore, 1) := by decide +kernel
theorem dX0_split_102 : decode cX0_split 102 = .ok (.iload_n 3, 1) := by decide +kernel
theorem dX0_split_103 : decode cX0_split 103 = .ok (.ifCond .ne 7, 3) := by decide +kernel
theorem dX0_split_106 : decode cX0_split 106 = .ok (.iconst 1, 1) := by decide +kernel
theorem dX0_split_107 : decode cX0_split 107 = .ok (.goto 4, 3) := by decide +kernel
theorem dX0_split_110 : decode cX0_split 110 = .ok (.iconst 0, 1) := by decide +kernel
theorem dX0_split_111 : decode cX0_split 111 = .ok (.istore_n 1, 1) := by decide +kernel
theorem dX0_split_112 : decode cX0_split 112 = .ok (.iinc 2 1, 3) := by decide +kernel
theorem dX0_split_115 : decode cX0_split 115 = .ok (.goto (-106), 3) := by decide +kernel
theorem dX0_split_118 : decode cX0_split 118 = .ok (.aload_n 0, 1) := by decide +kernel
theorem dX0_split_119 : decode cX0_split 119 = .ok (.iconst 0, 1) := by decide +kernel
theorem dX0_split_120 : decode cX0_split 120 = .ok (.putfield 22, 3) := by decide +kernel
theorem dX0_split_123 : decode cX0_split 123 = .ok (.return_, 1) := by decide +kernel
theorem dX0_words_0 : decode cX0_words 0 = .ok (.aload_n 0, 1) := by decide +kernel
theorem dX0_words_1 : decode cX0_words 1 = .ok (.getfield 26, 3) := by decide +kernel
theorem dX0_words_4 : decode cX0_words 4 = .ok (.ireturn, 1) := by decide +kernel
set_option maxRecDepth 20000 in
theorem ggX0_says_X0_sizeOf : GoodIn wsX0_says wsX0_sizeOf := goodIn_r _ [5, 6, 7, 8, 63, 64, 65, 66, 67] (by decide +kernel) (by decide +kernel)
set_option maxRecDepth 20000 in
theorem gX0_says_X0_sizeOf : GoodIn wsX0_says (wsV RX0 29 RX0 yX0_sizeOf wsX0_sizeOf) := goodIn_app (goodIn_of _ (by decide +kernel)) ggX0_says_X0_sizeOf
set_option maxRecDepth 20000 in
theorem ggX0_says_J0_length_8abf5 : GoodIn wsX0_says wsJ0_length_8abf5 := goodIn_r _ [13, 14, 15, 16, 17, 12, 18, 19, 20] (by decide +kernel) (by decide +kernel)
set_option maxRecDepth 20000 in
theorem gX0_says_J0_length_8abf5 : GoodIn wsX0_says (wsV RX0 33 RJ0 yJ0_length_8abf5 wsJ0_length_8abf5) := goodIn_app (goodIn_of _ (by decide +kernel)) ggX0_says_J0_length_8abf5
set_option maxRecDepth 20000 in
theorem ggX0_says_X0_letterAt : GoodIn wsX0_says wsX0_letterAt := goodIn_r _ [24, 25, 8, 1, 2, 3, 4, 5, 6, 7, 63, 64, 65, 66, 67] (by decide +kernel) (by decide +kernel)
set_option maxRecDepth 20000 in
theorem gX0_says_X0_letterAt : GoodIn wsX0_says (wsV RX0 38 RX0 yX0_letterAt wsX0_letterAt) := goodIn_app (goodIn_of _ (by decide +kernel)) ggX0_says_X0_letterAt
set_option maxRecDepth 20000 in
theorem ggX0_says_J0_charAt_5068e : GoodIn wsX0_says wsJ0_charAt_5068e := goodIn_r _ [29, 14, 30, 31, 32, 12, 33, 19, 20, 34, 35, 36, 37, 38, 39, 40, 41, 42, 43, 44, 45, 46, 47, 48, 49, 50, 51, 52, 53, 54, 55, 56, 57, 58, 59, 60, 61, 62] (by decide +kernel) (by decide +kernel)
set_option maxRecDepth 20000 in
theorem gX0_says_J0_charAt_5068e : GoodIn wsX0_says (wsV RX0 42 RJ0 yJ0_charAt_5068e wsJ0_charAt_5068e) := goodIn_app (goodIn_of _ (by decide +kernel)) ggX0_says_J0_charAt_5068e
theorem dX0_says_0 : decode cX0_says 0 = .ok (.aload_n 0, 1) := by decide +kernel
theorem dX0_says_1 : decode cX0_says 1 = .ok (.iload_n 1, 1) := by decide +kernel
theorem dX0_says_2 : decode cX0_says 2 = .ok (.invokevirtual 29, 3) := by decide +kernel
theorem dX0_says_5 : decode cX0_says 5 = .ok (.aload_n 2, 1) := by decide +kernel
theorem dX0_says_6 : decode cX0_says 6 = .ok (.invokevirtual 33, 3) := by decide +kernel
theorem dX0_says_9 : decode cX0_says 9 = .ok (.if_icmp .eq 5, 3) := by decide +kernel
theorem dX0_says_12 : decode cX0_says 12 = .ok (.iconst 0, 1) := by decide +kernel
theorem dX0_says_13 : decode cX0_says 13 = .ok (.ireturn, 1) := by decide +kernel
theorem dX0_says_14 : decode cX0_says 14 = .ok (.iconst 0, 1) := by decide +kernel
theorem dX0_says_15 : decode cX0_says 15 = .ok (.istore_n 3, 1) := by decide +kernel
theorem dX0_says_16 : decode cX0_says 16 = .ok (.iload_n 3, 1) := by decide +kernel
theorem dX0_says_17 : decode cX0_says 17 = .ok (.aload_n 2, 1) := by decide +kernel
theorem dX0_says_18 : decode cX0_says 18 = .ok (.invokevirtual 33, 3) := by decide +kernel
theorem dX0_says_21 : decode cX0_says 21 = .ok (.if_icmp .ge 25, 3) := by decide +kernel
theorem dX0_says_24 : decode cX0_says 24 = .ok (.aload_n 0, 1) := by decide +kernel
theorem dX0_says_25 : decode cX0_says 25 = .ok (.iload_n 1, 1) := by decide +kernel
theorem dX0_says_26 : decode cX0_says 26 = .ok (.iload_n 3, 1) := by decide +kernel
theorem dX0_says_27 : decode cX0_says 27 = .ok (.invokevirtual 38, 3) := by decide +kernel
theorem dX0_says_30 : decode cX0_says 30 = .ok (.aload_n 2, 1) := by decide +kernel
theorem dX0_says_31 : decode cX0_says 31 = .ok (.iload_n 3, 1) := by decide +kernel
theorem dX0_says_32 : decode cX0_says 32 = .ok (.invokevirtual 42, 3) := by decide +kernel
theorem dX0_says_35 : decode cX0_says 35 = .ok (.if_icmp .eq 5, 3) := by decide +kernel
theorem dX0_says_38 : decode cX0_says 38 = .ok (.iconst 0, 1) := by decide +kernel
theorem dX0_says_39 : decode cX0_says 39 = .ok (.ireturn, 1) := by decide +kernel
theorem dX0_says_40 : decode cX0_says 40 = .ok (.iinc 3 1, 3) := by decide +kernel
theorem dX0_says_43 : decode cX0_says 43 = .ok (.goto (-27), 3) := by decide +kernel
theorem dX0_says_46 : decode cX0_says 46 = .ok (.iconst 1, 1) := by decide +kernel
theorem dX0_says_47 : decode cX0_says 47 = .ok (.ireturn, 1) := by decide +kernel
theorem dX0_sizeOf_0 : decode cX0_sizeOf 0 = .ok (.iload_n 1, 1) := by decide +kernel
theorem dX0_sizeOf_1 : decode cX0_sizeOf 1 = .ok (.ifCond .lt 27, 3) := by decide +kernel
theorem dX0_sizeOf_4 : decode cX0_sizeOf 4 = .ok (.iload_n 1, 1) := by decide +kernel
theorem dX0_sizeOf_5 : decode cX0_sizeOf 5 = .ok (.aload_n 0, 1) := by decide +kernel
theorem dX0_sizeOf_6 : decode cX0_sizeOf 6 = .ok (.getfield 26, 3) := by decide +kernel
theorem dX0_sizeOf_9 : decode cX0_sizeOf 9 = .ok (.if_icmp .ge 19, 3) := by decide +kernel
theorem dX0_sizeOf_12 : decode cX0_sizeOf 12 = .ok (.aload_n 0, 1) := by decide +kernel
theorem dX0_sizeOf_13 : decode cX0_sizeOf 13 = .ok (.getfield 19, 3) := by decide +kernel
theorem dX0_sizeOf_16 : decode cX0_sizeOf 16 = .ok (.iload_n 1, 1) := by decide +kernel
theorem dX0_sizeOf_17 : decode cX0_sizeOf 17 = .ok (.iaload, 1) := by decide +kernel
theorem dX0_sizeOf_18 : decode cX0_sizeOf 18 = .ok (.aload_n 0, 1) := by decide +kernel
theorem dX0_sizeOf_19 : decode cX0_sizeOf 19 = .ok (.getfield 15, 3) := by decide +kernel
theorem dX0_sizeOf_22 : decode cX0_sizeOf 22 = .ok (.iload_n 1, 1) := by decide +kernel
theorem dX0_sizeOf_23 : decode cX0_sizeOf 23 = .ok (.iaload, 1) := by decide +kernel
theorem dX0_sizeOf_24 : decode cX0_sizeOf 24 = .ok (.isub, 1) := by decide +kernel
theorem dX0_sizeOf_25 : decode cX0_sizeOf 25 = .ok (.goto 4, 3) := by decide +kernel
theorem dX0_sizeOf_28 : decode cX0_sizeOf 28 = .ok (.iconst 0, 1) := by decide +kernel
theorem dX0_sizeOf_29 : decode cX0_sizeOf 29 = .ok (.ireturn, 1) := by decide +kernel
set_option maxRecDepth 20000 in
theorem ggX0_letterAt_X0_sizeOf : GoodIn wsX0_letterAt wsX0_sizeOf := goodIn_r _ [7, 8, 9, 2, 10, 11, 12, 13, 14] (by decide +kernel) (by decide +kernel)
set_option maxRecDepth 20000 in
theorem gX0_letterAt_X0_sizeOf : GoodIn wsX0_letterAt (wsV RX0 29 RX0 yX0_sizeOf wsX0_sizeOf) := goodIn_app (goodIn_of _ (by decide +kernel)) ggX0_letterAt_X0_sizeOf
theorem dX0_letterAt_0 : decode cX0_letterAt 0 = .ok (.iload_n 2, 1) := by decide +kernel
theorem dX0_letterAt_1 : decode cX0_letterAt 1 = .ok (.ifCond .lt 28, 3) := by decide +kernel
theorem dX0_letterAt_4 : decode cX0_letterAt 4 = .ok (.iload_n 2, 1) := by decide +kernel
theorem dX0_letterAt_5 : decode cX0_letterAt 5 = .ok (.aload_n 0, 1) := by decide +kernel
theorem dX0_letterAt_6 : decode cX0_letterAt 6 = .ok (.iload_n 1, 1) := by decide +kernel
theorem dX0_letterAt_7 : decode cX0_letterAt 7 = .ok (.invokevirtual 29, 3) := by decide +kernel
theorem dX0_letterAt_10 : decode cX0_letterAt 10 = .ok (.if_icmp .ge 19, 3) := by decide +kernel
theorem dX0_letterAt_13 : decode cX0_letterAt 13 = .ok (.aload_n 0, 1) := by decide +kernel
theorem dX0_letterAt_14 : decode cX0_letterAt 14 = .ok (.getfield 9, 3) := by decide +kernel
theorem dX0_letterAt_17 : decode cX0_letterAt 17 = .ok (.aload_n 0, 1) := by decide +kernel
theorem dX0_letterAt_18 : decode cX0_letterAt 18 = .ok (.getfield 15, 3) := by decide +kernel
theorem dX0_letterAt_21 : decode cX0_letterAt 21 = .ok (.iload_n 1, 1) := by decide +kernel
theorem dX0_letterAt_22 : decode cX0_letterAt 22 = .ok (.iaload, 1) := by decide +kernel
theorem dX0_letterAt_23 : decode cX0_letterAt 23 = .ok (.iload_n 2, 1) := by decide +kernel
theorem dX0_letterAt_24 : decode cX0_letterAt 24 = .ok (.iadd, 1) := by decide +kernel
theorem dX0_letterAt_25 : decode cX0_letterAt 25 = .ok (.caload, 1) := by decide +kernel
theorem dX0_letterAt_26 : decode cX0_letterAt 26 = .ok (.goto 5, 3) := by decide +kernel
theorem dX0_letterAt_29 : decode cX0_letterAt 29 = .ok (.bipush 32, 2) := by decide +kernel
theorem dX0_letterAt_31 : decode cX0_letterAt 31 = .ok (.ireturn, 1) := by decide +kernel
set_option maxRecDepth 20000 in
theorem ggX0_isLetters_X0_sizeOf : GoodIn wsX0_isLetters wsX0_sizeOf := goodIn_r _ [5, 6, 7, 8, 14, 15, 16, 17, 18] (by decide +kernel) (by decide +kernel)
set_option maxRecDepth 20000 in
theorem gX0_isLetters_X0_sizeOf : GoodIn wsX0_isLetters (wsV RX0 29 RX0 yX0_sizeOf wsX0_sizeOf) := goodIn_app (goodIn_of _ (by decide +kernel)) ggX0_isLetters_X0_sizeOf
set_option maxRecDepth 20000 in
theorem ggX0_isLetters_X0_letterAt : GoodIn wsX0_isLetters wsX0_letterAt := goodIn_r _ [12, 13, 8, 1, 2, 3, 4, 5, 6, 7, 14, 15, 16, 17, 18] (by decide +kernel) (by decide +kernel)
set_option maxRecDepth 20000 in
theorem gX0_isLetters_X0_letterAt : GoodIn wsX0_isLetters (wsV RX0 38 RX0 yX0_letterAt wsX0_letterAt) := goodIn_app (goodIn_of _ (by decide +kernel)) ggX0_isLetters_X0_letterAt
theorem dX0_isLetters_0 : decode cX0_isLetters 0 = .ok (.aload_n 0, 1) := by decide +kernel
theorem dX0_isLetters_1 : decode cX0_isLetters 1 = .ok (.iload_n 1, 1) := by decide +kernel
theorem dX0_isLetters_2 : decode cX0_isLetters 2 = .ok (.invokevirtual 29, 3) := by decide +kernel
theorem dX0_isLetters_5 : decode cX0_isLetters 5 = .ok (.istore_n 3, 1) := by decide +kernel
theorem dX0_isLetters_6 : decode cX0_isLetters 6 = .ok (.iload_n 3, 1) := by decide +kernel
theorem dX0_isLetters_7 : decode cX0_isLetters 7 = .ok (.ifCond .eq 8, 3) := by decide +kernel
theorem dX0_isLetters_10 : decode cX0_isLetters 10 = .ok (.iload_n 3, 1) := by decide +kernel
theorem dX0_isLetters_11 : decode cX0_isLetters 11 = .ok (.iload_n 2, 1) := by decide +kernel
theorem dX0_isLetters_12 : decode cX0_isLetters 12 = .ok (.if_icmp .le 5, 3) := by decide +kernel
theorem dX0_isLetters_15 : decode cX0_isLetters 15 = .ok (.iconst 0, 1) := by decide +kernel
theorem dX0_isLetters_16 : decode cX0_isLetters 16 = .ok (.ireturn, 1) := by decide +kernel
theorem dX0_isLetters_17 : decode cX0_isLetters 17 = .ok (.iconst 0, 1) := by decide +kernel
theorem dX0_isLetters_18 : decode cX0_isLetters 18 = .ok (.istore 4, 2) := by decide +kernel
theorem dX0_isLetters_20 : decode cX0_isLetters 20 = .ok (.iload 4, 2) := by decide +kernel
theorem dX0_isLetters_22 : decode cX0_isLetters 22 = .ok (.iload_n 3, 1) := by decide +kernel
theorem dX0_isLetters_23 : decode cX0_isLetters 23 = .ok (.if_icmp .ge 34, 3) := by decide +kernel
theorem dX0_isLetters_26 : decode cX0_isLetters 26 = .ok (.aload_n 0, 1) := by decide +kernel
theorem dX0_isLetters_27 : decode cX0_isLetters 27 = .ok (.iload_n 1, 1) := by decide +kernel
theorem dX0_isLetters_28 : decode cX0_isLetters 28 = .ok (.iload 4, 2) := by decide +kernel
theorem dX0_isLetters_30 : decode cX0_isLetters 30 = .ok (.invokevirtual 38, 3) := by decide +kernel
theorem dX0_isLetters_33 : decode cX0_isLetters 33 = .ok (.istore 5, 2) := by decide +kernel
theorem dX0_isLetters_35 : decode cX0_isLetters 35 = .ok (.iload 5, 2) := by decide +kernel
theorem dX0_isLetters_37 : decode cX0_isLetters 37 = .ok (.bipush 97, 2) := by decide +kernel
theorem dX0_isLetters_39 : decode cX0_isLetters 39 = .ok (.if_icmp .lt 10, 3) := by decide +kernel
theorem dX0_isLetters_42 : decode cX0_isLetters 42 = .ok (.iload 5, 2) := by decide +kernel
theorem dX0_isLetters_44 : decode cX0_isLetters 44 = .ok (.bipush 122, 2) := by decide +kernel
theorem dX0_isLetters_46 : decode cX0_isLetters 46 = .ok (.if_icmp .le 5, 3) := by decide +kernel
theorem dX0_isLetters_49 : decode cX0_isLetters 49 = .ok (.iconst 0, 1) := by decide +kernel
theorem dX0_isLetters_50 : decode cX0_isLetters 50 = .ok (.ireturn, 1) := by decide +kernel
theorem dX0_isLetters_51 : decode cX0_isLetters 51 = .ok (.iinc 4 1, 3) := by decide +kernel
theorem dX0_isLetters_54 : decode cX0_isLetters 54 = .ok (.goto (-34), 3) := by decide +kernel
theorem dX0_isLetters_57 : decode cX0_isLetters 57 = .ok (.iconst 1, 1) := by decide +kernel
theorem dX0_isLetters_58 : decode cX0_isLetters 58 = .ok (.ireturn, 1) := by decide +kernel
set_option maxRecDepth 20000 in
theorem ggX0_nameAt_X0_isLetters : GoodIn wsX0_nameAt wsX0_isLetters := goodIn_r _ [5, 6, 7, 8, 4, 9, 10, 11, 12, 13, 14, 15, 16, 17, 18, 19, 20, 21, 22] (by decide +kernel) (by decide +kernel)
set_option maxRecDepth 20000 in
theorem gX0_nameAt_X0_isLetters : GoodIn wsX0_nameAt (wsV RX0 46 RX0 yX0_isLetters wsX0_isLetters) := goodIn_app (goodIn_of _ (by decide +kernel)) ggX0_nameAt_X0_isLetters
set_option maxRecDepth 20000 in
theorem ggX0_nameAt_X0_sizeOf : GoodIn wsX0_nameAt wsX0_sizeOf := goodIn_r _ [9, 10, 11, 12, 18, 19, 20, 21, 22] (by decide +kernel) (by decide +kernel)
set_option maxRecDepth 20000 in
theorem gX0_nameAt_X0_sizeOf : GoodIn wsX0_nameAt (wsV RX0 29 RX0 yX0_sizeOf wsX0_sizeOf) := goodIn_app (goodIn_of _ (by decide +kernel)) ggX0_nameAt_X0_sizeOf
set_option maxRecDepth 20000 in
theorem ggX0_nameAt_X0_letterAt : GoodIn wsX0_nameAt wsX0_letterAt := goodIn_r _ [16, 17, 12, 6, 7, 8, 4, 9, 10, 11, 18, 19, 20, 21, 22] (by decide +kernel) (by decide +kernel)
set_option maxRecDepth 20000 in
theorem gX0_nameAt_X0_letterAt : GoodIn wsX0_nameAt (wsV RX0 38 RX0 yX0_letterAt wsX0_letterAt) := goodIn_app (goodIn_of _ (by decide +kernel)) ggX0_nameAt_X0_letterAt
theorem dX0_nameAt_0 : decode cX0_nameAt 0 = .ok (.aload_n 0, 1) := by decide +kernel
theorem dX0_nameAt_1 : decode cX0_nameAt 1 = .ok (.iload_n 1, 1) := by decide +kernel
theorem dX0_nameAt_2 : decode cX0_nameAt 2 = .ok (.iconst 4, 1) := by decide +kernel
theorem dX0_nameAt_3 : decode cX0_nameAt 3 = .ok (.invokevirtual 46, 3) := by decide +kernel
theorem dX0_nameAt_6 : decode cX0_nameAt 6 = .ok (.ifCond .ne 5, 3) := by decide +kernel
theorem dX0_nameAt_9 : decode cX0_nameAt 9 = .ok (.iconst (-1), 1) := by decide +kernel
theorem dX0_nameAt_10 : decode cX0_nameAt 10 = .ok (.ireturn, 1) := by decide +kernel
theorem dX0_nameAt_11 : decode cX0_nameAt 11 = .ok (.iconst 0, 1) := by decide +kernel
theorem dX0_nameAt_12 : decode cX0_nameAt 12 = .ok (.istore_n 2, 1) := by decide +kernel
theorem dX0_nameAt_13 : decode cX0_nameAt 13 = .ok (.aload_n 0, 1) := by decide +kernel
theorem dX0_nameAt_14 : decode cX0_nameAt 14 = .ok (.iload_n 1, 1) := by decide +kernel
theorem dX0_nameAt_15 : decode cX0_nameAt 15 = .ok (.invokevirtual 29, 3) := by decide +kernel
theorem dX0_nameAt_18 : decode cX0_nameAt 18 = .ok (.istore_n 3, 1) := by decide +kernel
theorem dX0_nameAt_19 : decode cX0_nameAt 19 = .ok (.iconst 0, 1) := by decide +kernel
theorem dX0_nameAt_20 : decode cX0_nameAt 20 = .ok (.istore 4, 2) := by decide +kernel
theorem dX0_nameAt_22 : decode cX0_nameAt 22 = .ok (.iload 4, 2) := by decide +kernel
theorem dX0_nameAt_24 : decode cX0_nameAt 24 = .ok (.iload_n 3, 1) := by decide +kernel
theorem dX0_nameAt_25 : decode cX0_nameAt 25 = .ok (.if_icmp .ge 27, 3) := by decide +kernel
theorem dX0_nameAt_28 : decode cX0_nameAt 28 = .ok (.iload_n 2, 1) := by decide +kernel
theorem dX0_nameAt_29 : decode cX0_nameAt 29 = .ok (.bipush 27, 2) := by decide +kernel
theorem dX0_nameAt_31 : decode cX0_nameAt 31 = .ok (.imul, 1) := by decide +kernel
theorem dX0_nameAt_32 : decode cX0_nameAt 32 = .ok (.aload_n 0, 1) := by decide +kernel
theorem dX0_nameAt_33 : decode cX0_nameAt 33 = .ok (.iload_n 1, 1) := by decide +kernel
theorem dX0_nameAt_34 : decode cX0_nameAt 34 = .ok (.iload 4, 2) := by decide +kernel
theorem dX0_nameAt_36 : decode cX0_nameAt 36 = .ok (.invokevirtual 38, 3) := by decide +kernel
theorem dX0_nameAt_39 : decode cX0_nameAt 39 = .ok (.iadd, 1) := by decide +kernel
theorem dX0_nameAt_40 : decode cX0_nameAt 40 = .ok (.bipush 97, 2) := by decide +kernel
theorem dX0_nameAt_42 : decode cX0_nameAt 42 = .ok (.isub, 1) := by decide +kernel
theorem dX0_nameAt_43 : decode cX0_nameAt 43 = .ok (.iconst 1, 1) := by decide +kernel
theorem dX0_nameAt_44 : decode cX0_nameAt 44 = .ok (.iadd, 1) := by decide +kernel
theorem dX0_nameAt_45 : decode cX0_nameAt 45 = .ok (.istore_n 2, 1) := by decide +kernel
theorem dX0_nameAt_46 : decode cX0_nameAt 46 = .ok (.iinc 4 1, 3) := by decide +kernel
theorem dX0_nameAt_49 : decode cX0_nameAt 49 = .ok (.goto (-27), 3) := by decide +kernel
theorem dX0_nameAt_52 : decode cX0_nameAt 52 = .ok (.iload_n 2, 1) := by decide +kernel
theorem dX0_nameAt_53 : decode cX0_nameAt 53 = .ok (.ireturn, 1) := by decide +kernel
theorem dX1_init_0 : decode cX1_init 0 = .ok (.aload_n 0, 1) := by decide +kernel
theorem dX1_init_1 : decode cX1_init 1 = .ok (.invokespecial 3, 3) := by decide +kernel
theorem dX1_init_4 : decode cX1_init 4 = .ok (.aload_n 0, 1) := by decide +kernel
theorem dX1_init_5 : decode cX1_init 5 = .ok (.iload_n 1, 1) := by decide +kernel
theorem dX1_init_6 : decode cX1_init 6 = .ok (.iconst 0, 1) := by decide +kernel
theorem dX1_init_7 : decode cX1_init 7 = .ok (.invokestatic 9, 3) := by decide +kernel
theorem dX1_init_10 : decode cX1_init 10 = .ok (.putfield 15, 3) := by decide +kernel
theorem dX1_init_13 : decode cX1_init 13 = .ok (.aload_n 0, 1) := by decide +kernel
theorem dX1_init_14 : decode cX1_init 14 = .ok (.iload_n 2, 1) := by decide +kernel
theorem dX1_init_15 : decode cX1_init 15 = .ok (.iconst 0, 1) := by decide +kernel
theorem dX1_init_16 : decode cX1_init 16 = .ok (.invokestatic 9, 3) := by decide +kernel
theorem dX1_init_19 : decode cX1_init 19 = .ok (.putfield 21, 3) := by decide +kernel
theorem dX1_init_22 : decode cX1_init 22 = .ok (.aload_n 0, 1) := by decide +kernel
theorem dX1_init_23 : decode cX1_init 23 = .ok (.aload_n 0, 1) := by decide +kernel
theorem dX1_init_24 : decode cX1_init 24 = .ok (.getfield 15, 3) := by decide +kernel
theorem dX1_init_27 : decode cX1_init 27 = .ok (.aload_n 0, 1) := by decide +kernel
theorem dX1_init_28 : decode cX1_init 28 = .ok (.getfield 21, 3) := by decide +kernel
theorem dX1_init_31 : decode cX1_init 31 = .ok (.imul, 1) := by decide +kernel
theorem dX1_init_32 : decode cX1_init 32 = .ok (.iconst 0, 1) := by decide +kernel
theorem dX1_init_33 : decode cX1_init 33 = .ok (.invokestatic 9, 3) := by decide +kernel
theorem dX1_init_36 : decode cX1_init 36 = .ok (.newarray .char, 2) := by decide +kernel
theorem dX1_init_38 : decode cX1_init 38 = .ok (.putfield 24, 3) := by decide +kernel
theorem dX1_init_41 : decode cX1_init 41 = .ok (.aload_n 0, 1) := by decide +kernel
theorem dX1_init_42 : decode cX1_init 42 = .ok (.aload_n 0, 1) := by decide +kernel
theorem dX1_init_43 : decode cX1_init 43 = .ok (.getfield 15, 3) := by decide +kernel
theorem dX1_init_46 : decode cX1_init 46 = .ok (.newarray .int, 2) := by decide +kernel
theorem dX1_init_48 : decode cX1_init 48 = .ok (.putfield 28, 3) := by decide +kernel
theorem dX1_init_51 : decode cX1_init 51 = .ok (.return_, 1) := by decide +kernel
theorem dX1_isRow_0 : decode cX1_isRow 0 = .ok (.iload_n 1, 1) := by decide +kernel
theorem dX1_isRow_1 : decode cX1_isRow 1 = .ok (.ifCond .lt 15, 3) := by decide +kernel
theorem dX1_isRow_4 : decode cX1_isRow 4 = .ok (.iload_n 1, 1) := by decide +kernel
theorem dX1_isRow_5 : decode cX1_isRow 5 = .ok (.aload_n 0, 1) := by decide +kernel
theorem dX1_isRow_6 : decode cX1_isRow 6 = .ok (.getfield 15, 3) := by decide +kernel
theorem dX1_isRow_9 : decode cX1_isRow 9 = .ok (.if_icmp .ge 7, 3) := by decide +kernel
theorem dX1_isRow_12 : decode cX1_isRow 12 = .ok (.iconst 1, 1) := by decide +kernel
theorem dX1_isRow_13 : decode cX1_isRow 13 = .ok (.goto 4, 3) := by decide +kernel
theorem dX1_isRow_16 : decode cX1_isRow 16 = .ok (.iconst 0, 1) := by decide +kernel
theorem dX1_isRow_17 : decode cX1_isRow 17 = .ok (.ireturn, 1) := by decide +kernel
set_option maxRecDepth 20000 in
theorem ggX1_sizeOf_X1_isRow : GoodIn wsX1_sizeOf wsX1_isRow := goodIn_r _ [6, 7, 8, 9, 10, 11] (by decide +kernel) (by decide +kernel)
set_option maxRecDepth 20000 in
theorem gX1_sizeOf_X1_isRow : GoodIn wsX1_sizeOf (wsV RX1 32 RX1 yX1_isRow wsX1_isRow) := goodIn_app (goodIn_of _ (by decide +kernel)) ggX1_sizeOf_X1_isRow
theorem dX1_sizeOf_0 : decode cX1_sizeOf 0 = .ok (.aload_n 0, 1) := by decide +kernel
theorem dX1_sizeOf_1 : decode cX1_sizeOf 1 = .ok (.iload_n 1, 1) := by decide +kernel
theorem dX1_sizeOf_2 : decode cX1_sizeOf 2 = .ok (.invokevirtual 32, 3) := by decide +kernel
theorem dX1_sizeOf_5 : decode cX1_sizeOf 5 = .ok (.ifCond .eq 12, 3) := by decide +kernel
theorem dX1_sizeOf_8 : decode cX1_sizeOf 8 = .ok (.aload_n 0, 1) := by decide +kernel
theorem dX1_sizeOf_9 : decode cX1_sizeOf 9 = .ok (.getfield 28, 3) := by decide +kernel
theorem dX1_sizeOf_12 : decode cX1_sizeOf 12 = .ok (.iload_n 1, 1) := by decide +kernel
theorem dX1_sizeOf_13 : decode cX1_sizeOf 13 = .ok (.iaload, 1) := by decide +kernel
theorem dX1_sizeOf_14 : decode cX1_sizeOf 14 = .ok (.goto 4, 3) := by decide +kernel
theorem dX1_sizeOf_17 : decode cX1_sizeOf 17 = .ok (.iconst 0, 1) := by decide +kernel
theorem dX1_sizeOf_18 : decode cX1_sizeOf 18 = .ok (.ireturn, 1) := by decide +kernel
set_option maxRecDepth 20000 in
theorem ggX1_letterAt_X1_sizeOf : GoodIn wsX1_letterAt wsX1_sizeOf := goodIn_r _ [7, 8, 9, 10, 11, 6, 12, 13, 14, 15, 16, 17] (by decide +kernel) (by decide +kernel)
set_option maxRecDepth 20000 in
theorem gX1_letterAt_X1_sizeOf : GoodIn wsX1_letterAt (wsV RX1 36 RX1 yX1_sizeOf wsX1_sizeOf) := goodIn_app (goodIn_of _ (by decide +kernel)) ggX1_letterAt_X1_sizeOf
theorem dX1_letterAt_0 : decode cX1_letterAt 0 = .ok (.iload_n 2, 1) := by decide +kernel
theorem dX1_letterAt_1 : decode cX1_letterAt 1 = .ok (.ifCond .lt 28, 3) := by decide +kernel
theorem dX1_letterAt_4 : decode cX1_letterAt 4 = .ok (.iload_n 2, 1) := by decide +kernel
theorem dX1_letterAt_5 : decode cX1_letterAt 5 = .ok (.aload_n 0, 1) := by decide +kernel
theorem dX1_letterAt_6 : decode cX1_letterAt 6 = .ok (.iload_n 1, 1) := by decide +kernel
theorem dX1_letterAt_7 : decode cX1_letterAt 7 = .ok (.invokevirtual 36, 3) := by decide +kernel
theorem dX1_letterAt_10 : decode cX1_letterAt 10 = .ok (.if_icmp .ge 19, 3) := by decide +kernel
theorem dX1_letterAt_13 : decode cX1_letterAt 13 = .ok (.aload_n 0, 1) := by decide +kernel
theorem dX1_letterAt_14 : decode cX1_letterAt 14 = .ok (.getfield 24, 3) := by decide +kernel
theorem dX1_letterAt_17 : decode cX1_letterAt 17 = .ok (.iload_n 1, 1) := by decide +kernel
theorem dX1_letterAt_18 : decode cX1_letterAt 18 = .ok (.aload_n 0, 1) := by decide +kernel
theorem dX1_letterAt_19 : decode cX1_letterAt 19 = .ok (.getfield 21, 3) := by decide +kernel
theorem dX1_letterAt_22 : decode cX1_letterAt 22 = .ok (.imul, 1) := by decide +kernel
theorem dX1_letterAt_23 : decode cX1_letterAt 23 = .ok (.iload_n 2, 1) := by decide +kernel
theorem dX1_letterAt_24 : decode cX1_letterAt 24 = .ok (.iadd, 1) := by decide +kernel
theorem dX1_letterAt_25 : decode cX1_letterAt 25 = .ok (.caload, 1) := by decide +kernel
theorem dX1_letterAt_26 : decode cX1_letterAt 26 = .ok (.goto 4, 3) := by decide +kernel
theorem dX1_letterAt_29 : decode cX1_letterAt 29 = .ok (.iconst (-1), 1) := by decide +kernel
theorem dX1_letterAt_30 : decode cX1_letterAt 30 = .ok (.ireturn, 1) := by decide +kernel
set_option maxRecDepth 20000 in
theorem ggX1_hasRoom_X1_isRow : GoodIn wsX1_hasRoom wsX1_isRow := goodIn_r _ [7, 8, 9, 10, 11, 12] (by decide +kernel) (by decide +kernel)
set_option maxRecDepth 20000 in
theorem gX1_hasRoom_X1_isRow : GoodIn wsX1_hasRoom (wsV RX1 32 RX1 yX1_isRow wsX1_isRow) := goodIn_app (goodIn_of _ (by decide +kernel)) ggX1_hasRoom_X1_isRow
theorem dX1_hasRoom_0 : decode cX1_hasRoom 0 = .ok (.aload_n 0, 1) := by decide +kernel
theorem dX1_hasRoom_1 : decode cX1_hasRoom 1 = .ok (.iload_n 1, 1) := by decide +kernel
theorem dX1_hasRoom_2 : decode cX1_hasRoom 2 = .ok (.invokevirtual 32, 3) := by decide +kernel
theorem dX1_hasRoom_5 : decode cX1_hasRoom 5 = .ok (.ifCond .eq 22, 3) := by decide +kernel
theorem dX1_hasRoom_8 : decode cX1_hasRoom 8 = .ok (.iload_n 2, 1) := by decide +kernel
theorem dX1_hasRoom_9 : decode cX1_hasRoom 9 = .ok (.aload_n 0, 1) := by decide +kernel
theorem dX1_hasRoom_10 : decode cX1_hasRoom 10 = .ok (.getfield 21, 3) := by decide +kernel
theorem dX1_hasRoom_13 : decode cX1_hasRoom 13 = .ok (.aload_n 0, 1) := by decide +kernel
theorem dX1_hasRoom_14 : decode cX1_hasRoom 14 = .ok (.getfield 28, 3) := by decide +kernel
theorem dX1_hasRoom_17 : decode cX1_hasRoom 17 = .ok (.iload_n 1, 1) := by decide +kernel
theorem dX1_hasRoom_18 : decode cX1_hasRoom 18 = .ok (.iaload, 1) := by decide +kernel
theorem dX1_hasRoom_19 : decode cX1_hasRoom 19 = .ok (.isub, 1) := by decide +kernel
theorem dX1_hasRoom_20 : decode cX1_hasRoom 20 = .ok (.if_icmp .gt 7, 3) := by decide +kernel
theorem dX1_hasRoom_23 : decode cX1_hasRoom 23 = .ok (.iconst 1, 1) := by decide +kernel
theorem dX1_hasRoom_24 : decode cX1_hasRoom 24 = .ok (.goto 4, 3) := by decide +kernel
theorem dX1_hasRoom_27 : decode cX1_hasRoom 27 = .ok (.iconst 0, 1) := by decide +kernel
theorem dX1_hasRoom_28 : decode cX1_hasRoom 28 = .ok (.ireturn, 1) := by decide +kernel
set_option maxRecDepth 20000 in
theorem ggX1_empty_X1_isRow : GoodIn wsX1_empty wsX1_isRow := goodIn_r _ [6, 7, 8, 9, 10, 11] (by decide +kernel) (by decide +kernel)
set_option maxRecDepth 20000 in
theorem gX1_empty_X1_isRow : GoodIn wsX1_empty (wsV RX1 32 RX1 yX1_isRow wsX1_isRow) := goodIn_app (goodIn_of _ (by decide +kernel)) ggX1_empty_X1_isRow
theorem dX1_empty_0 : decode cX1_empty 0 = .ok (.aload_n 0, 1) := by decide +kernel
theorem dX1_empty_1 : decode cX1_empty 1 = .ok (.iload_n 1, 1) := by decide +kernel
theorem dX1_empty_2 : decode cX1_empty 2 = .ok (.invokevirtual 32, 3) := by decide +kernel
theorem dX1_empty_5 : decode cX1_empty 5 = .ok (.ifCond .eq 10, 3) := by decide +kernel
theorem dX1_empty_8 : decode cX1_empty 8 = .ok (.aload_n 0, 1) := by decide +kernel
theorem dX1_empty_9 : decode cX1_empty 9 = .ok (.getfield 28, 3) := by decide +kernel
theorem dX1_empty_12 : decode cX1_empty 12 = .ok (.iload_n 1, 1) := by decide +kernel
theorem dX1_empty_13 : decode cX1_empty 13 = .ok (.iconst 0, 1) := by decide +kernel
theorem dX1_empty_14 : decode cX1_empty 14 = .ok (.iastore, 1) := by decide +kernel
theorem dX1_empty_15 : decode cX1_empty 15 = .ok (.return_, 1) := by decide +kernel
set_option maxRecDepth 20000 in
theorem ggX1_add_X1_isRow : GoodIn wsX1_add wsX1_isRow := goodIn_r _ [8, 9, 10, 11, 12, 13] (by decide +kernel) (by decide +kernel)
set_option maxRecDepth 20000 in
theorem gX1_add_X1_isRow : GoodIn wsX1_add (wsV RX1 32 RX1 yX1_isRow wsX1_isRow) := goodIn_app (goodIn_of _ (by decide +kernel)) ggX1_add_X1_isRow
theorem dX1_add_0 : decode cX1_add 0 = .ok (.aload_n 0, 1) := by decide +kernel
theorem dX1_add_1 : decode cX1_add 1 = .ok (.iload_n 1, 1) := by decide +kernel
theorem dX1_add_2 : decode cX1_add 2 = .ok (.invokevirtual 32, 3) := by decide +kernel
theorem dX1_add_5 : decode cX1_add 5 = .ok (.ifCond .eq 45, 3) := by decide +kernel
theorem dX1_add_8 : decode cX1_add 8 = .ok (.aload_n 0, 1) := by decide +kernel
theorem dX1_add_9 : decode cX1_add 9 = .ok (.getfield 28, 3) := by decide +kernel
theorem dX1_add_12 : decode cX1_add 12 = .ok (.iload_n 1, 1) := by decide +kernel
theorem dX1_add_13 : decode cX1_add 13 = .ok (.iaload, 1) := by decide +kernel
theorem dX1_add_14 : decode cX1_add 14 = .ok (.aload_n 0, 1) := by decide +kernel
theorem dX1_add_15 : decode cX1_add 15 = .ok (.getfield 21, 3) := by decide +kernel
theorem dX1_add_18 : decode cX1_add 18 = .ok (.if_icmp .ge 32, 3) := by decide +kernel
theorem dX1_add_21 : decode cX1_add 21 = .ok (.aload_n 0, 1) := by decide +kernel
theorem dX1_add_22 : decode cX1_add 22 = .ok (.getfield 24, 3) := by decide +kernel
theorem dX1_add_25 : decode cX1_add 25 = .ok (.iload_n 1, 1) := by decide +kernel
theorem dX1_add_26 : decode cX1_add 26 = .ok (.aload_n 0, 1) := by decide +kernel
theorem dX1_add_27 : decode cX1_add 27 = .ok (.getfield 21, 3) := by decide +kernel
theorem dX1_add_30 : decode cX1_add 30 = .ok (.imul, 1) := by decide +kernel
theorem dX1_add_31 : decode cX1_add 31 = .ok (.aload_n 0, 1) := by decide +kernel
theorem dX1_add_32 : decode cX1_add 32 = .ok (.getfield 28, 3) := by decide +kernel
theorem dX1_add_35 : decode cX1_add 35 = .ok (.iload_n 1, 1) := by decide +kernel
theorem dX1_add_36 : decode cX1_add 36 = .ok (.iaload, 1) := by decide +kernel
theorem dX1_add_37 : decode cX1_add 37 = .ok (.iadd, 1) := by decide +kernel
theorem dX1_add_38 : decode cX1_add 38 = .ok (.iload_n 2, 1) := by decide +kernel
theorem dX1_add_39 : decode cX1_add 39 = .ok (.castore, 1) := by decide +kernel
theorem dX1_add_40 : decode cX1_add 40 = .ok (.aload_n 0, 1) := by decide +kernel
theorem dX1_add_41 : decode cX1_add 41 = .ok (.getfield 28, 3) := by decide +kernel
theorem dX1_add_44 : decode cX1_add 44 = .ok (.iload_n 1, 1) := by decide +kernel
theorem dX1_add_45 : decode cX1_add 45 = .ok (.dup2, 1) := by decide +kernel
theorem dX1_add_46 : decode cX1_add 46 = .ok (.iaload, 1) := by decide +kernel
theorem dX1_add_47 : decode cX1_add 47 = .ok (.iconst 1, 1) := by decide +kernel
theorem dX1_add_48 : decode cX1_add 48 = .ok (.iadd, 1) := by decide +kernel
theorem dX1_add_49 : decode cX1_add 49 = .ok (.iastore, 1) := by decide +kernel
theorem dX1_add_50 : decode cX1_add 50 = .ok (.return_, 1) := by decide +kernel
set_option maxRecDepth 20000 in
theorem ggX1_addRow_X1_isRow : GoodIn wsX1_addRow wsX1_isRow := goodIn_r _ [12, 13, 14, 15, 16, 17] (by decide +kernel) (by decide +kernel)
set_option maxRecDepth 20000 in
theorem gX1_addRow_X1_isRow : GoodIn wsX1_addRow (wsV RX1 32 RX1 yX1_isRow wsX1_isRow) := goodIn_app (goodIn_of _ (by decide +kernel)) ggX1_addRow_X1_isRow
theorem dX1_addRow_0 : decode cX1_addRow 0 = .ok (.aload_n 2, 1) := by decide +kernel
theorem dX1_addRow_1 : decode cX1_addRow 1 = .ok (.ifnull 19, 3) := by decide +kernel
theorem dX1_addRow_4 : decode cX1_addRow 4 = .ok (.aload_n 0, 1) := by decide +kernel
theorem dX1_addRow_5 : decode cX1_addRow 5 = .ok (.iload_n 1, 1) := by decide +kernel
theorem dX1_addRow_6 : decode cX1_addRow 6 = .ok (.invokevirtual 32, 3) := by decide +kernel
theorem dX1_addRow_9 : decode cX1_addRow 9 = .ok (.ifCond .eq 11, 3) := by decide +kernel
theorem dX1_addRow_12 : decode cX1_addRow 12 = .ok (.aload_n 2, 1) := by decide +kernel
theorem dX1_addRow_13 : decode cX1_addRow 13 = .ok (.iload_n 3, 1) := by decide +kernel
theorem dX1_addRow_14 : decode cX1_addRow 14 = .ok (.invokevirtual 32, 3) := by decide +kernel
theorem dX1_addRow_17 : decode cX1_addRow 17 = .ok (.ifCond .ne 4, 3) := by decide +kernel
theorem dX1_addRow_20 : decode cX1_addRow 20 = .ok (.return_, 1) := by decide +kernel
theorem dX1_addRow_21 : decode cX1_addRow 21 = .ok (.aload_n 2, 1) := by decide +kernel
theorem dX1_addRow_22 : decode cX1_addRow 22 = .ok (.getfield 28, 3) := by decide +kernel
theorem dX1_addRow_25 : decode cX1_addRow 25 = .ok (.iload_n 3, 1) := by decide +kernel
theorem dX1_addRow_26 : decode cX1_addRow 26 = .ok (.iaload, 1) := by decide +kernel
theorem dX1_addRow_27 : decode cX1_addRow 27 = .ok (.aload_n 0, 1) := by decide +kernel
theorem dX1_addRow_28 : decode cX1_addRow 28 = .ok (.getfield 21, 3) := by decide +kernel
theorem dX1_addRow_31 : decode cX1_addRow 31 = .ok (.aload_n 0, 1) := by decide +kernel
theorem dX1_addRow_32 : decode cX1_addRow 32 = .ok (.getfield 28, 3) := by decide +kernel
theorem dX1_addRow_35 : decode cX1_addRow 35 = .ok (.iload_n 1, 1) := by decide +kernel
theorem dX1_addRow_36 : decode cX1_addRow 36 = .ok (.iaload, 1) := by decide +kernel
theorem dX1_addRow_37 : decode cX1_addRow 37 = .ok (.isub, 1) := by decide +kernel
theorem dX1_addRow_38 : decode cX1_addRow 38 = .ok (.invokestatic 40, 3) := by decide +kernel
theorem dX1_addRow_41 : decode cX1_addRow 41 = .ok (.istore 4, 2) := by decide +kernel
theorem dX1_addRow_43 : decode cX1_addRow 43 = .ok (.iload_n 1, 1) := by decide +kernel
theorem dX1_addRow_44 : decode cX1_addRow 44 = .ok (.aload_n 0, 1) := by decide +kernel
theorem dX1_addRow_45 : decode cX1_addRow 45 = .ok (.getfield 21, 3) := by decide +kernel
theorem dX1_addRow_48 : decode cX1_addRow 48 = .ok (.imul, 1) := by decide +kernel
theorem dX1_addRow_49 : decode cX1_addRow 49 = .ok (.aload_n 0, 1) := by decide +kernel
theorem dX1_addRow_50 : decode cX1_addRow 50 = .ok (.getfield 28, 3) := by decide +kernel
theorem dX1_addRow_53 : decode cX1_addRow 53 = .ok (.iload_n 1, 1) := by decide +kernel
theorem dX1_addRow_54 : decode cX1_addRow 54 = .ok (.iaload, 1) := by decide +kernel
theorem dX1_addRow_55 : decode cX1_addRow 55 = .ok (.iadd, 1) := by decide +kernel
theorem dX1_addRow_56 : decode cX1_addRow 56 = .ok (.istore 5, 2) := by decide +kernel
theorem dX1_addRow_58 : decode cX1_addRow 58 = .ok (.iconst 0, 1) := by decide +kernel
theorem dX1_addRow_59 : decode cX1_addRow 59 = .ok (.istore 6, 2) := by decide +kernel
theorem dX1_addRow_61 : decode cX1_addRow 61 = .ok (.iload 6, 2) := by decide +kernel
theorem dX1_addRow_63 : decode cX1_addRow 63 = .ok (.iload 4, 2) := by decide +kernel
theorem dX1_addRow_65 : decode cX1_addRow 65 = .ok (.if_icmp .ge 33, 3) := by decide +kernel
theorem dX1_addRow_68 : decode cX1_addRow 68 = .ok (.aload_n 0, 1) := by decide +kernel
theorem dX1_addRow_69 : decode cX1_addRow 69 = .ok (.getfield 24, 3) := by decide +kernel
theorem dX1_addRow_72 : decode cX1_addRow 72 = .ok (.iload 5, 2) := by decide +kernel
theorem dX1_addRow_74 : decode cX1_addRow 74 = .ok (.iload 6, 2) := by decide +kernel
theorem dX1_addRow_76 : decode cX1_addRow 76 = .ok (.iadd, 1) := by decide +kernel
theorem dX1_addRow_77 : decode cX1_addRow 77 = .ok (.aload_n 2, 1) := by decide +kernel
theorem dX1_addRow_78 : decode cX1_addRow 78 = .ok (.getfield 24, 3) := by decide +kernel
theorem dX1_addRow_81 : decode cX1_addRow 81 = .ok (.iload_n 3, 1) := by decide +kernel
theorem dX1_addRow_82 : decode cX1_addRow 82 = .ok (.aload_n 2, 1) := by decide +kernel
theorem dX1_addRow_83 : decode cX1_addRow 83 = .ok (.getfield 21, 3) := by decide +kernel
theorem dX1_addRow_86 : decode cX1_addRow 86 = .ok (.imul, 1) := by decide +kernel
theorem dX1_addRow_87 : decode cX1_addRow 87 = .ok (.iload 6, 2) := by decide +kernel
theorem dX1_addRow_89 : decode cX1_addRow 89 = .ok (.iadd, 1) := by decide +kernel
theorem dX1_addRow_90 : decode cX1_addRow 90 = .ok (.caload, 1) := by decide +kernel
theorem dX1_addRow_91 : decode cX1_addRow 91 = .ok (.castore, 1) := by decide +kernel
theorem dX1_addRow_92 : decode cX1_addRow 92 = .ok (.iinc 6 1, 3) := by decide +kernel
theorem dX1_addRow_95 : decode cX1_addRow 95 = .ok (.goto (-34), 3) := by decide +kernel
theorem dX1_addRow_98 : decode cX1_addRow 98 = .ok (.aload_n 0, 1) := by decide +kernel
theorem dX1_addRow_99 : decode cX1_addRow 99 = .ok (.getfield 28, 3) := by decide +kernel
theorem dX1_addRow_102 : decode cX1_addRow 102 = .ok (.iload_n 1, 1) := by decide +kernel
theorem dX1_addRow_103 : decode cX1_addRow 103 = .ok (.dup2, 1) := by decide +kernel
theorem dX1_addRow_104 : decode cX1_addRow 104 = .ok (.iaload, 1) := by decide +kernel
theorem dX1_addRow_105 : decode cX1_addRow 105 = .ok (.iload 4, 2) := by decide +kernel
theorem dX1_addRow_107 : decode cX1_addRow 107 = .ok (.iadd, 1) := by decide +kernel
theorem dX1_addRow_108 : decode cX1_addRow 108 = .ok (.iastore, 1) := by decide +kernel
theorem dX1_addRow_109 : decode cX1_addRow 109 = .ok (.return_, 1) := by decide +kernel
theorem dX2_init_0 : decode cX2_init 0 = .ok (.aload_n 0, 1) := by decide +kernel
theorem dX2_init_1 : decode cX2_init 1 = .ok (.invokespecial 3, 3) := by decide +kernel
theorem dX2_init_4 : decode cX2_init 4 = .ok (.aload_n 0, 1) := by decide +kernel
theorem dX2_init_5 : decode cX2_init 5 = .ok (.aload_n 1, 1) := by decide +kernel
theorem dX2_init_6 : decode cX2_init 6 = .ok (.putfield 9, 3) := by decide +kernel
theorem dX2_init_9 : decode cX2_init 9 = .ok (.aload_n 0, 1) := by decide +kernel
theorem dX2_init_10 : decode cX2_init 10 = .ok (.aload_n 2, 1) := by decide +kernel
theorem dX2_init_11 : decode cX2_init 11 = .ok (.putfield 15, 3) := by decide +kernel
theorem dX2_init_14 : decode cX2_init 14 = .ok (.aload_n 0, 1) := by decide +kernel
theorem dX2_init_15 : decode cX2_init 15 = .ok (.aload_n 3, 1) := by decide +kernel
theorem dX2_init_16 : decode cX2_init 16 = .ok (.putfield 19, 3) := by decide +kernel
theorem dX2_init_19 : decode cX2_init 19 = .ok (.return_, 1) := by decide +kernel
set_option maxRecDepth 20000 in
theorem ggX2_read_X0_split : GoodIn wsX2_read wsX0_split := goodIn_r _ [7, 8, 9, 10, 11, 12, 218, 219, 220, 221, 222] (by decide +kernel) (by decide +kernel)
set_option maxRecDepth 20000 in
theorem gX2_read_X0_split : GoodIn wsX2_read (wsV RX2 23 RX0 yX0_split wsX0_split) := goodIn_app (goodIn_of _ (by decide +kernel)) ggX2_read_X0_split
set_option maxRecDepth 20000 in
theorem ggX2_read_X0_words : GoodIn wsX2_read wsX0_words := goodIn_r _ [16, 8, 218, 219, 220, 221, 222] (by decide +kernel) (by decide +kernel)
set_option maxRecDepth 20000 in
theorem gX2_read_X0_words : GoodIn wsX2_read (wsV RX2 28 RX0 yX0_words wsX0_words) := goodIn_app (goodIn_of _ (by decide +kernel)) ggX2_read_X0_words
set_option maxRecDepth 20000 in
theorem ggX2_read_X0_says : GoodIn wsX2_read wsX0_says := goodIn_r _ [20, 21, 22, 23, 6, 24, 8, 12, 11, 25, 26, 27, 28, 29, 30, 31, 32, 33, 34, 35, 36, 37, 38, 39, 40, 10, 41, 42, 43, 44, 45, 46, 47, 48, 49, 50, 51, 52, 53, 54, 55, 56, 57, 58, 59, 60, 61, 62, 63, 64, 65, 66, 67, 68, 69, 70, 71, 72, 73, 74, 75, 76, 77, 218, 219, 220, 221, 222] (by decide +kernel) (by decide +kernel)
set_option maxRecDepth 20000 in
theorem gX2_read_X0_says : GoodIn wsX2_read (wsV RX2 34 RX0 yX0_says wsX0_says) := goodIn_app (goodIn_of _ (by decide +kernel)) ggX2_read_X0_says
set_option maxRecDepth 20000 in
theorem ggX2_read_X2_readState : GoodIn wsX2_read wsX2_readState := goodIn_r _ [82, 1, 2, 17, 18, 19, 6, 20, 21, 22, 23, 24, 8, 12, 11, 25, 26, 27, 28, 29, 30, 31, 32, 33, 34, 35, 36, 37, 38, 39, 40, 10, 41, 42, 43, 44, 45, 46, 47, 48, 49, 50, 51, 52, 53, 54, 55, 56, 57, 58, 59, 60, 61, 62, 63, 64, 65, 66, 67, 68, 69, 70, 71, 72, 73, 74, 75, 76, 77, 13, 14, 15, 16, 83, 84, 85, 86, 87, 88, 89, 90, 91, 92, 93, 94, 95, 96, 97, 98, 99, 100, 101, 102, 103, 104, 105, 106, 107, 108, 109, 110, 111, 112, 113, 114, 115, 116, 117, 118, 119, 215, 216, 217, 218, 219, 220, 221, 222, 223, 224, 225, 226, 227, 228, 229, 230, 231] (by decide +kernel) (by decide +kernel)
set_option maxRecDepth 20000 in
theorem gX2_read_X2_readState : GoodIn wsX2_read (wsV RX2 38 RX2 yX2_readState wsX2_readState) := goodIn_app (goodIn_of _ (by decide +kernel)) ggX2_read_X2_readState
set_option maxRecDepth 20000 in
theorem ggX2_read_X4_entering : GoodIn wsX2_read wsX4_entering := goodIn_r _ [123, 124, 223, 224, 225, 226, 227, 228, 229, 230, 231] (by decide +kernel) (by decide +kernel)
set_option maxRecDepth 20000 in
theorem gX2_read_X4_entering : GoodIn wsX2_read (wsV RX2 43 RX4 yX4_entering wsX4_entering) := goodIn_app (goodIn_of _ (by decide +kernel)) ggX2_read_X4_entering
set_option maxRecDepth 20000 in
theorem ggX2_read_X2_readMarks : GoodIn wsX2_read wsX2_readMarks := goodIn_r _ [128, 2, 1, 83, 84, 85, 6, 86, 87, 88, 89, 90, 21, 22, 23, 24, 8, 12, 11, 37, 38, 39, 40, 10, 91, 92, 93, 94, 95, 96, 97, 13, 14, 15, 16, 129, 130, 131, 132, 133, 134, 135, 136, 137, 138, 139, 140, 141, 142, 143, 144, 145, 81, 146, 147, 148, 149, 150, 151, 152, 215, 216, 217, 218, 219, 220, 221, 222, 223, 224, 225, 226, 227, 228, 229, 230, 231, 232, 233, 234, 235] (by decide +kernel) (by decide +kernel)
set_option maxRecDepth 20000 in
theorem gX2_read_X2_readMarks : GoodIn wsX2_read (wsV RX2 49 RX2 yX2_readMarks wsX2_readMarks) := goodIn_app (goodIn_of _ (by decide +kernel)) ggX2_read_X2_readMarks
set_option maxRecDepth 20000 in
theorem ggX2_read_X4_leaving : GoodIn wsX2_read wsX4_leaving := goodIn_r _ [156, 157, 223, 224, 225, 226, 227, 228, 229, 230, 231] (by decide +kernel) (by decide +kernel)
set_option maxRecDepth 20000 in
theorem gX2_read_X4_leaving : GoodIn wsX2_read (wsV RX2 55 RX4 yX4_leaving wsX4_leaving) := goodIn_app (goodIn_of _ (by decide +kernel)) ggX2_read_X4_leaving
set_option maxRecDepth 20000 in
theorem ggX2_read_X2_readRule : GoodIn wsX2_read wsX2_readRule := goodIn_r _ [161, 2, 1, 162, 83, 84, 85, 6, 86, 87, 88, 89, 90, 21, 22, 23, 24, 8, 12, 11, 37, 38, 39, 40, 10, 91, 92, 93, 94, 95, 96, 97, 17, 18, 19, 20, 25, 26, 27, 28, 29, 30, 31, 32, 33, 34, 35, 36, 41, 42, 43, 44, 45, 46, 47, 48, 49, 50, 51, 52, 53, 54, 55, 56, 57, 58, 59, 60, 61, 62, 63, 64, 65, 66, 67, 68, 69, 70, 71, 72, 73, 74, 75, 76, 77, 163, 164, 165, 81, 166, 13, 14, 15, 16, 129, 167, 168, 169, 170, 171, 172, 173, 174, 175, 176, 177, 178, 179, 180, 181, 182, 183, 184, 185, 186, 115, 103, 104, 105, 106, 187, 188, 189, 190, 117, 191, 192, 193, 194, 195, 196, 197, 198, 199, 200, 201, 202, 203, 204, 205, 206, 207, 208, 209, 210, 211, 212, 213, 214, 143, 144, 145, 146, 130, 147, 148, 149, 150, 134, 151, 137, 136, 152, 138, 139, 140, 141, 142, 215, 216, 217, 218, 219, 220, 221, 222, 223, 224, 225, 226, 227, 228, 229, 230, 231, 236, 237, 238, 239, 240, 241, 242, 243, 244, 245, 232, 233, 234, 235] (by decide +kernel) (by decide +kernel)
set_option maxRecDepth 20000 in
theorem gX2_read_X2_readRule : GoodIn wsX2_read (wsV RX2 60 RX2 yX2_readRule wsX2_readRule) := goodIn_app (goodIn_of _ (by decide +kernel)) ggX2_read_X2_readRule
theorem dX2_read_0 : decode cX2_read 0 = .ok (.aload_n 0, 1) := by decide +kernel
theorem dX2_read_1 : decode cX2_read 1 = .ok (.getfield 9, 3) := by decide +kernel
theorem dX2_read_4 : decode cX2_read 4 = .ok (.invokevirtual 23, 3) := by decide +kernel
theorem dX2_read_7 : decode cX2_read 7 = .ok (.aload_n 0, 1) := by decide +kernel
theorem dX2_read_8 : decode cX2_read 8 = .ok (.getfield 9, 3) := by decide +kernel
theorem dX2_read_11 : decode cX2_read 11 = .ok (.invokevirtual 28, 3) := by decide +kernel
theorem dX2_read_14 : decode cX2_read 14 = .ok (.ifCond .ne 5, 3) := by decide +kernel
theorem dX2_read_17 : decode cX2_read 17 = .ok (.iconst 0, 1) := by decide +kernel
theorem dX2_read_18 : decode cX2_read 18 = .ok (.ireturn, 1) := by decide +kernel
theorem dX2_read_19 : decode cX2_read 19 = .ok (.aload_n 0, 1) := by decide +kernel
theorem dX2_read_20 : decode cX2_read 20 = .ok (.getfield 9, 3) := by decide +kernel
theorem dX2_read_23 : decode cX2_read 23 = .ok (.iconst 0, 1) := by decide +kernel
theorem dX2_read_24 : decode cX2_read 24 = .ok (.ldc 32, 2) := by decide +kernel
theorem dX2_read_26 : decode cX2_read 26 = .ok (.invokevirtual 34, 3) := by decide +kernel
theorem dX2_read_29 : decode cX2_read 29 = .ok (.ifCond .eq 8, 3) := by decide +kernel
theorem dX2_read_32 : decode cX2_read 32 = .ok (.aload_n 0, 1) := by decide +kernel
theorem dX2_read_33 : decode cX2_read 33 = .ok (.invokevirtual 38, 3) := by decide +kernel
theorem dX2_read_36 : decode cX2_read 36 = .ok (.ireturn, 1) := by decide +kernel
theorem dX2_read_37 : decode cX2_read 37 = .ok (.aload_n 0, 1) := by decide +kernel
theorem dX2_read_38 : decode cX2_read 38 = .ok (.getfield 9, 3) := by decide +kernel
theorem dX2_read_41 : decode cX2_read 41 = .ok (.iconst 0, 1) := by decide +kernel
theorem dX2_read_42 : decode cX2_read 42 = .ok (.ldc 41, 2) := by decide +kernel
theorem dX2_read_44 : decode cX2_read 44 = .ok (.invokevirtual 34, 3) := by decide +kernel
theorem dX2_read_47 : decode cX2_read 47 = .ok (.ifCond .eq 15, 3) := by decide +kernel
theorem dX2_read_50 : decode cX2_read 50 = .ok (.aload_n 0, 1) := by decide +kernel
theorem dX2_read_51 : decode cX2_read 51 = .ok (.aload_n 0, 1) := by decide +kernel
theorem dX2_read_52 : decode cX2_read 52 = .ok (.getfield 15, 3) := by decide +kernel
theorem dX2_read_55 : decode cX2_read 55 = .ok (.invokevirtual 43, 3) := by decide +kernel
theorem dX2_read_58 : decode cX2_read 58 = .ok (.invokevirtual 49, 3) := by decide +kernel
theorem dX2_read_61 : decode cX2_read 61 = .ok (.ireturn, 1) := by decide +kernel
theorem dX2_read_62 : decode cX2_read 62 = .ok (.aload_n 0, 1) := by decide +kernel
theorem dX2_read_63 : decode cX2_read 63 = .ok (.getfield 9, 3) := by decide +kernel
theorem dX2_read_66 : decode cX2_read 66 = .ok (.iconst 0, 1) := by decide +kernel
theorem dX2_read_67 : decode cX2_read 67 = .ok (.ldc 53, 2) := by decide +kernel
theorem dX2_read_69 : decode cX2_read 69 = .ok (.invokevirtual 34, 3) := by decide +kernel
theorem dX2_read_72 : decode cX2_read 72 = .ok (.ifCond .eq 15, 3) := by decide +kernel
theorem dX2_read_75 : decode cX2_read 75 = .ok (.aload_n 0, 1) := by decide +kernel
theorem dX2_read_76 : decode cX2_read 76 = .ok (.aload_n 0, 1) := by decide +kernel
theorem dX2_read_77 : decode cX2_read 77 = .ok (.getfield 15, 3) := by decide +kernel
theorem dX2_read_80 : decode cX2_read 80 = .ok (.invokevirtual 55, 3) := by decide +kernel
theorem dX2_read_83 : decode cX2_read 83 = .ok (.invokevirtual 49, 3) := by decide +kernel
theorem dX2_read_86 : decode cX2_read 86 = .ok (.ireturn, 1) := by decide +kernel
theorem dX2_read_87 : decode cX2_read 87 = .ok (.aload_n 0, 1) := by decide +kernel
theorem dX2_read_88 : decode cX2_read 88 = .ok (.getfield 9, 3) := by decide +kernel
theorem dX2_read_91 : decode cX2_read 91 = .ok (.iconst 0, 1) := by decide +kernel
theorem dX2_read_92 : decode cX2_read 92 = .ok (.ldc 58, 2) := by decide +kernel
theorem dX2_read_94 : decode cX2_read 94 = .ok (.invokevirtual 34, 3) := by decide +kernel
theorem dX2_read_97 : decode cX2_read 97 = .ok (.ifCond .eq 10, 3) := by decide +kernel
theorem dX2_read_100 : decode cX2_read 100 = .ok (.aload_n 0, 1) := by decide +kernel
theorem dX2_read_101 : decode cX2_read 101 = .ok (.invokevirtual 60, 3) := by decide +kernel
theorem dX2_read_104 : decode cX2_read 104 = .ok (.goto 4, 3) := by decide +kernel
theorem dX2_read_107 : decode cX2_read 107 = .ok (.iconst (-1), 1) := by decide +kernel
theorem dX2_read_108 : decode cX2_read 108 = .ok (.ireturn, 1) := by decide +kernel
set_option maxRecDepth 20000 in
theorem ggX2_readState_X0_says : GoodIn wsX2_readState wsX0_says := goodIn_r _ [7, 8, 9, 10, 6, 11, 12, 13, 14, 15, 16, 17, 18, 19, 20, 21, 22, 23, 24, 25, 26, 27, 28, 29, 30, 31, 32, 33, 34, 35, 36, 37, 38, 39, 40, 41, 42, 43, 44, 45, 46, 47, 48, 49, 50, 51, 52, 53, 54, 55, 56, 57, 58, 59, 60, 61, 62, 63, 64, 65, 66, 67, 68, 113, 114, 115, 116, 117] (by decide +kernel) (by decide +kernel)
set_option maxRecDepth 20000 in
theorem gX2_readState_X0_says : GoodIn wsX2_readState (wsV RX2 34 RX0 yX0_says wsX0_says) := goodIn_app (goodIn_of _ (by decide +kernel)) ggX2_readState_X0_says
set_option maxRecDepth 20000 in
theorem ggX2_readState_X0_words : GoodIn wsX2_readState wsX0_words := goodIn_r _ [72, 12, 113, 114, 115, 116, 117] (by decide +kernel) (by decide +kernel)
set_option maxRecDepth 20000 in
theorem gX2_readState_X0_words : GoodIn wsX2_readState (wsV RX2 28 RX0 yX0_words wsX0_words) := goodIn_app (goodIn_of _ (by decide +kernel)) ggX2_readState_X0_words
set_option maxRecDepth 20000 in
theorem ggX2_readState_X0_nameAt : GoodIn wsX2_readState wsX0_nameAt := goodIn_r _ [76, 77, 78, 79, 6, 80, 8, 9, 10, 11, 12, 13, 14, 27, 28, 29, 30, 31, 113, 114, 115, 116, 117] (by decide +kernel) (by decide +kernel)
set_option maxRecDepth 20000 in
theorem gX2_readState_X0_nameAt : GoodIn wsX2_readState (wsV RX2 69 RX0 yX0_nameAt wsX0_nameAt) := goodIn_app (goodIn_of _ (by decide +kernel)) ggX2_readState_X0_nameAt
set_option maxRecDepth 20000 in
theorem ggX2_readState_X4_find : GoodIn wsX2_readState wsX4_find := goodIn_r _ [85, 86, 87, 118, 119, 120, 121, 122, 123, 124, 125, 126] (by decide +kernel) (by decide +kernel)
set_option maxRecDepth 20000 in
theorem gX2_readState_X4_find : GoodIn wsX2_readState (wsV RX2 73 RX4 yX4_find wsX4_find) := goodIn_app (goodIn_of _ (by decide +kernel)) ggX2_readState_X4_find
set_option maxRecDepth 20000 in
theorem ggX2_readState_X4_depthOf : GoodIn wsX2_readState wsX4_depthOf := goodIn_r _ [91, 92, 93, 94, 95, 84, 96, 86, 118, 119, 120, 121, 122, 123, 124, 125, 126] (by decide +kernel) (by decide +kernel)
set_option maxRecDepth 20000 in
theorem gX2_readState_X4_depthOf : GoodIn wsX2_readState (wsV RX2 76 RX4 yX4_depthOf wsX4_depthOf) := goodIn_app (goodIn_of _ (by decide +kernel)) ggX2_readState_X4_depthOf
set_option maxRecDepth 20000 in
theorem ggX2_readState_X4_isFull : GoodIn wsX2_readState wsX4_isFull := goodIn_r _ [100, 86, 118, 119, 120, 121, 122, 123, 124, 125, 126] (by decide +kernel) (by decide +kernel)
set_option maxRecDepth 20000 in
theorem gX2_readState_X4_isFull : GoodIn wsX2_readState (wsV RX2 79 RX4 yX4_isFull wsX4_isFull) := goodIn_app (goodIn_of _ (by decide +kernel)) ggX2_readState_X4_isFull
set_option maxRecDepth 20000 in
theorem ggX2_readState_X4_make : GoodIn wsX2_readState wsX4_make := goodIn_r _ [104, 87, 86, 105, 92, 106, 107, 108, 109, 98, 99, 84, 100, 93, 94, 95, 96, 118, 119, 120, 121, 122, 123, 124, 125, 126] (by decide +kernel) (by decide +kernel)
set_option maxRecDepth 20000 in
theorem gX2_readState_X4_make : GoodIn wsX2_readState (wsV RX2 83 RX4 yX4_make wsX4_make) := goodIn_app (goodIn_of _ (by decide +kernel)) ggX2_readState_X4_make
theorem dX2_readState_0 : decode cX2_readState 0 = .ok (.aload_n 0, 1) := by decide +kernel
theorem dX2_readState_1 : decode cX2_readState 1 = .ok (.getfield 9, 3) := by decide +kernel
theorem dX2_readState_4 : decode cX2_readState 4 = .ok (.iconst 4, 1) := by decide +kernel
theorem dX2_readState_5 : decode cX2_readState 5 = .ok (.ldc 63, 2) := by decide +kernel
theorem dX2_readState_7 : decode cX2_readState 7 = .ok (.invokevirtual 34, 3) := by decide +kernel
theorem dX2_readState_10 : decode cX2_readState 10 = .ok (.istore_n 1, 1) := by decide +kernel
theorem dX2_readState_11 : decode cX2_readState 11 = .ok (.aload_n 0, 1) := by decide +kernel
theorem dX2_readState_12 : decode cX2_readState 12 = .ok (.getfield 9, 3) := by decide +kernel
theorem dX2_readState_15 : decode cX2_readState 15 = .ok (.iconst 4, 1) := by decide +kernel
theorem dX2_readState_16 : decode cX2_readState 16 = .ok (.ldc 65, 2) := by decide +kernel
theorem dX2_readState_18 : decode cX2_readState 18 = .ok (.invokevirtual 34, 3) := by decide +kernel
theorem dX2_readState_21 : decode cX2_readState 21 = .ok (.istore_n 2, 1) := by decide +kernel
theorem dX2_readState_22 : decode cX2_readState 22 = .ok (.aload_n 0, 1) := by decide +kernel
theorem dX2_readState_23 : decode cX2_readState 23 = .ok (.getfield 9, 3) := by decide +kernel
theorem dX2_readState_26 : decode cX2_readState 26 = .ok (.invokevirtual 28, 3) := by decide +kernel
theorem dX2_readState_29 : decode cX2_readState 29 = .ok (.iload_n 1, 1) := by decide +kernel
theorem dX2_readState_30 : decode cX2_readState 30 = .ok (.ifCond .ne 7, 3) := by decide +kernel
theorem dX2_readState_33 : decode cX2_readState 33 = .ok (.iload_n 2, 1) := by decide +kernel
theorem dX2_readState_34 : decode cX2_readState 34 = .ok (.ifCond .eq 7, 3) := by decide +kernel
theorem dX2_readState_37 : decode cX2_readState 37 = .ok (.iconst 5, 1) := by decide +kernel
theorem dX2_readState_38 : decode cX2_readState 38 = .ok (.goto 4, 3) := by decide +kernel
theorem dX2_readState_41 : decode cX2_readState 41 = .ok (.iconst 4, 1) := by decide +kernel
theorem dX2_readState_42 : decode cX2_readState 42 = .ok (.if_icmp .ne 16, 3) := by decide +kernel
theorem dX2_readState_45 : decode cX2_readState 45 = .ok (.aload_n 0, 1) := by decide +kernel
theorem dX2_readState_46 : decode cX2_readState 46 = .ok (.getfield 9, 3) := by decide +kernel
theorem dX2_readState_49 : decode cX2_readState 49 = .ok (.iconst 2, 1) := by decide +kernel
theorem dX2_readState_50 : decode cX2_readState 50 = .ok (.ldc 67, 2) := by decide +kernel
theorem dX2_readState_52 : decode cX2_readState 52 = .ok (.invokevirtual 34, 3) := by decide +kernel
theorem dX2_readState_55 : decode cX2_readState 55 = .ok (.ifCond .ne 5, 3) := by decide +kernel
theorem dX2_readState_58 : decode cX2_readState 58 = .ok (.iconst (-1), 1) := by decide +kernel
theorem dX2_readState_59 : decode cX2_readState 59 = .ok (.ireturn, 1) := by decide +kernel
theorem dX2_readState_60 : decode cX2_readState 60 = .ok (.aload_n 0, 1) := by decide +kernel
theorem dX2_readState_61 : decode cX2_readState 61 = .ok (.getfield 9, 3) := by decide +kernel
theorem dX2_readState_64 : decode cX2_readState 64 = .ok (.iconst 1, 1) := by decide +kernel
theorem dX2_readState_65 : decode cX2_readState 65 = .ok (.invokevirtual 69, 3) := by decide +kernel
theorem dX2_readState_68 : decode cX2_readState 68 = .ok (.istore_n 3, 1) := by decide +kernel
theorem dX2_readState_69 : decode cX2_readState 69 = .ok (.aload_n 0, 1) := by decide +kernel
theorem dX2_readState_70 : decode cX2_readState 70 = .ok (.getfield 15, 3) := by decide +kernel
theorem dX2_readState_73 : decode cX2_readState 73 = .ok (.aload_n 0, 1) := by decide +kernel
theorem dX2_readState_74 : decode cX2_readState 74 = .ok (.getfield 9, 3) := by decide +kernel
theorem dX2_readState_77 : decode cX2_readState 77 = .ok (.iconst 3, 1) := by decide +kernel
theorem dX2_readState_78 : decode cX2_readState 78 = .ok (.invokevirtual 69, 3) := by decide +kernel
theorem dX2_readState_81 : decode cX2_readState 81 = .ok (.invokevirtual 73, 3) := by decide +kernel
theorem dX2_readState_84 : decode cX2_readState 84 = .ok (.istore 4, 2) := by decide +kernel
theorem dX2_readState_86 : decode cX2_readState 86 = .ok (.iload_n 3, 1) := by decide +kernel
theorem dX2_readState_87 : decode cX2_readState 87 = .ok (.iconst (-1), 1) := by decide +kernel
theorem dX2_readState_88 : decode cX2_readState 88 = .ok (.if_icmp .eq 15, 3) := by decide +kernel
theorem dX2_readState_91 : decode cX2_readState 91 = .ok (.aload_n 0, 1) := by decide +kernel
theorem dX2_readState_92 : decode cX2_readState 92 = .ok (.getfield 15, 3) := by decide +kernel
theorem dX2_readState_95 : decode cX2_readState 95 = .ok (.iload_n 3, 1) := by decide +kernel
theorem dX2_readState_96 : decode cX2_readState 96 = .ok (.invokevirtual 73, 3) := by decide +kernel
theorem dX2_readState_99 : decode cX2_readState 99 = .ok (.iconst (-1), 1) := by decide +kernel
theorem dX2_readState_100 : decode cX2_readState 100 = .ok (.if_icmp .eq 5, 3) := by decide +kernel
theorem dX2_readState_103 : decode cX2_readState 103 = .ok (.iconst (-1), 1) := by decide +kernel
theorem dX2_readState_104 : decode cX2_readState 104 = .ok (.ireturn, 1) := by decide +kernel
theorem dX2_readState_105 : decode cX2_readState 105 = .ok (.iload 4, 2) := by decide +kernel
theorem dX2_readState_107 : decode cX2_readState 107 = .ok (.iconst (-1), 1) := by decide +kernel
theorem dX2_readState_108 : decode cX2_readState 108 = .ok (.if_icmp .eq 17, 3) := by decide +kernel
theorem dX2_readState_111 : decode cX2_readState 111 = .ok (.aload_n 0, 1) := by decide +kernel
theorem dX2_readState_112 : decode cX2_readState 112 = .ok (.getfield 15, 3) := by decide +kernel
theorem dX2_readState_115 : decode cX2_readState 115 = .ok (.iload 4, 2) := by decide +kernel
theorem dX2_readState_117 : decode cX2_readState 117 = .ok (.invokevirtual 76, 3) := by decide +kernel
theorem dX2_readState_120 : decode cX2_readState 120 = .ok (.bipush 6, 2) := by decide +kernel
theorem dX2_readState_122 : decode cX2_readState 122 = .ok (.if_icmp .lt 5, 3) := by decide +kernel
theorem dX2_readState_125 : decode cX2_readState 125 = .ok (.iconst (-1), 1) := by decide +kernel
theorem dX2_readState_126 : decode cX2_readState 126 = .ok (.ireturn, 1) := by decide +kernel
theorem dX2_readState_127 : decode cX2_readState 127 = .ok (.aload_n 0, 1) := by decide +kernel
theorem dX2_readState_128 : decode cX2_readState 128 = .ok (.getfield 15, 3) := by decide +kernel
theorem dX2_readState_131 : decode cX2_readState 131 = .ok (.invokevirtual 79, 3) := by decide +kernel
theorem dX2_readState_134 : decode cX2_readState 134 = .ok (.ifCond .eq 6, 3) := by decide +kernel
theorem dX2_readState_137 : decode cX2_readState 137 = .ok (.bipush (-2), 2) := by decide +kernel
theorem dX2_readState_139 : decode cX2_readState 139 = .ok (.ireturn, 1) := by decide +kernel
theorem dX2_readState_140 : decode cX2_readState 140 = .ok (.aload_n 0, 1) := by decide +kernel
theorem dX2_readState_141 : decode cX2_readState 141 = .ok (.getfield 15, 3) := by decide +kernel
theorem dX2_readState_144 : decode cX2_readState 144 = .ok (.iload_n 3, 1) := by decide +kernel
theorem dX2_readState_145 : decode cX2_readState 145 = .ok (.iload 4, 2) := by decide +kernel
theorem dX2_readState_147 : decode cX2_readState 147 = .ok (.iload_n 1, 1) := by decide +kernel
theorem dX2_readState_148 : decode cX2_readState 148 = .ok (.iload_n 2, 1) := by decide +kernel
theorem dX2_readState_149 : decode cX2_readState 149 = .ok (.invokevirtual 83, 3) := by decide +kernel
theorem dX2_readState_152 : decode cX2_readState 152 = .ok (.iconst 1, 1) := by decide +kernel
theorem dX2_readState_153 : decode cX2_readState 153 = .ok (.ireturn, 1) := by decide +kernel
set_option maxRecDepth 20000 in
theorem ggX2_readMarks_X0_nameAt : GoodIn wsX2_readMarks wsX0_nameAt := goodIn_r _ [7, 8, 9, 10, 6, 11, 12, 13, 14, 15, 16, 17, 18, 19, 20, 21, 22, 23, 63, 64, 65, 66, 67] (by decide +kernel) (by decide +kernel)
set_option maxRecDepth 20000 in
theorem gX2_readMarks_X0_nameAt : GoodIn wsX2_readMarks (wsV RX2 69 RX0 yX0_nameAt wsX0_nameAt) := goodIn_app (goodIn_of _ (by decide +kernel)) ggX2_readMarks_X0_nameAt
set_option maxRecDepth 20000 in
theorem ggX2_readMarks_X4_find : GoodIn wsX2_readMarks wsX4_find := goodIn_r _ [28, 29, 30, 68, 69, 70, 71, 72, 73, 74, 75, 76] (by decide +kernel) (by decide +kernel)
set_option maxRecDepth 20000 in
theorem gX2_readMarks_X4_find : GoodIn wsX2_readMarks (wsV RX2 73 RX4 yX4_find wsX4_find) := goodIn_app (goodIn_of _ (by decide +kernel)) ggX2_readMarks_X4_find
set_option maxRecDepth 20000 in
theorem ggX2_readMarks_X0_words : GoodIn wsX2_readMarks wsX0_words := goodIn_r _ [34, 16, 63, 64, 65, 66, 67] (by decide +kernel) (by decide +kernel)
set_option maxRecDepth 20000 in
theorem gX2_readMarks_X0_words : GoodIn wsX2_readMarks (wsV RX2 28 RX0 yX0_words wsX0_words) := goodIn_app (goodIn_of _ (by decide +kernel)) ggX2_readMarks_X0_words
set_option maxRecDepth 20000 in
theorem ggX2_readMarks_X0_isLetters : GoodIn wsX2_readMarks wsX0_isLetters := goodIn_r _ [11, 12, 13, 14, 6, 15, 16, 17, 18, 19, 20, 21, 22, 23, 63, 64, 65, 66, 67] (by decide +kernel) (by decide +kernel)
set_option maxRecDepth 20000 in
theorem gX2_readMarks_X0_isLetters : GoodIn wsX2_readMarks (wsV RX2 87 RX0 yX0_isLetters wsX0_isLetters) := goodIn_app (goodIn_of _ (by decide +kernel)) ggX2_readMarks_X0_isLetters
set_option maxRecDepth 20000 in
theorem ggX2_readMarks_X0_sizeOf : GoodIn wsX2_readMarks wsX0_sizeOf := goodIn_r _ [15, 16, 17, 18, 63, 64, 65, 66, 67] (by decide +kernel) (by decide +kernel)
set_option maxRecDepth 20000 in
theorem gX2_readMarks_X0_sizeOf : GoodIn wsX2_readMarks (wsV RX2 91 RX0 yX0_sizeOf wsX0_sizeOf) := goodIn_app (goodIn_of _ (by decide +kernel)) ggX2_readMarks_X0_sizeOf
set_option maxRecDepth 20000 in
theorem ggX2_readMarks_X1_hasRoom : GoodIn wsX2_readMarks wsX1_hasRoom := goodIn_r _ [41, 42, 43, 44, 45, 46, 40, 47, 48, 77, 78, 79, 80] (by decide +kernel) (by decide +kernel)
set_option maxRecDepth 20000 in
theorem gX2_readMarks_X1_hasRoom : GoodIn wsX2_readMarks (wsV RX2 94 RX1 yX1_hasRoom wsX1_hasRoom) := goodIn_app (goodIn_of _ (by decide +kernel)) ggX2_readMarks_X1_hasRoom
set_option maxRecDepth 20000 in
theorem ggX2_readMarks_X2_addMarks : GoodIn wsX2_readMarks wsX2_addMarks := goodIn_r _ [53, 2, 36, 13, 14, 6, 15, 16, 17, 18, 54, 20, 21, 22, 23, 12, 55, 56, 57, 40, 58, 43, 42, 59, 44, 45, 46, 47, 48, 60, 61, 62, 63, 64, 65, 66, 67, 77, 78, 79, 80] (by decide +kernel) (by decide +kernel)
set_option maxRecDepth 20000 in
theorem gX2_readMarks_X2_addMarks : GoodIn wsX2_readMarks (wsV RX2 99 RX2 yX2_addMarks wsX2_addMarks) := goodIn_app (goodIn_of _ (by decide +kernel)) ggX2_readMarks_X2_addMarks
theorem dX2_readMarks_0 : decode cX2_readMarks 0 = .ok (.aload_n 0, 1) := by decide +kernel
theorem dX2_readMarks_1 : decode cX2_readMarks 1 = .ok (.getfield 15, 3) := by decide +kernel
theorem dX2_readMarks_4 : decode cX2_readMarks 4 = .ok (.aload_n 0, 1) := by decide +kernel
theorem dX2_readMarks_5 : decode cX2_readMarks 5 = .ok (.getfield 9, 3) := by decide +kernel
theorem dX2_readMarks_8 : decode cX2_readMarks 8 = .ok (.iconst 1, 1) := by decide +kernel
theorem dX2_readMarks_9 : decode cX2_readMarks 9 = .ok (.invokevirtual 69, 3) := by decide +kernel
theorem dX2_readMarks_12 : decode cX2_readMarks 12 = .ok (.invokevirtual 73, 3) := by decide +kernel
theorem dX2_readMarks_15 : decode cX2_readMarks 15 = .ok (.istore_n 2, 1) := by decide +kernel
theorem dX2_readMarks_16 : decode cX2_readMarks 16 = .ok (.aload_n 0, 1) := by decide +kernel
theorem dX2_readMarks_17 : decode cX2_readMarks 17 = .ok (.getfield 9, 3) := by decide +kernel
theorem dX2_readMarks_20 : decode cX2_readMarks 20 = .ok (.invokevirtual 28, 3) := by decide +kernel
theorem dX2_readMarks_23 : decode cX2_readMarks 23 = .ok (.iconst 3, 1) := by decide +kernel
theorem dX2_readMarks_24 : decode cX2_readMarks 24 = .ok (.if_icmp .ne 20, 3) := by decide +kernel
theorem dX2_readMarks_27 : decode cX2_readMarks 27 = .ok (.iload_n 2, 1) := by decide +kernel
theorem dX2_readMarks_28 : decode cX2_readMarks 28 = .ok (.iconst (-1), 1) := by decide +kernel
theorem dX2_readMarks_29 : decode cX2_readMarks 29 = .ok (.if_icmp .eq 15, 3) := by decide +kernel
theorem dX2_readMarks_32 : decode cX2_readMarks 32 = .ok (.aload_n 0, 1) := by decide +kernel
theorem dX2_readMarks_33 : decode cX2_readMarks 33 = .ok (.getfield 9, 3) := by decide +kernel
theorem dX2_readMarks_36 : decode cX2_readMarks 36 = .ok (.iconst 2, 1) := by decide +kernel
theorem dX2_readMarks_37 : decode cX2_readMarks 37 = .ok (.iconst 3, 1) := by decide +kernel
theorem dX2_readMarks_38 : decode cX2_readMarks 38 = .ok (.invokevirtual 87, 3) := by decide +kernel
theorem dX2_readMarks_41 : decode cX2_readMarks 41 = .ok (.ifCond .ne 5, 3) := by decide +kernel
theorem dX2_readMarks_44 : decode cX2_readMarks 44 = .ok (.iconst (-1), 1) := by decide +kernel
theorem dX2_readMarks_45 : decode cX2_readMarks 45 = .ok (.ireturn, 1) := by decide +kernel
theorem dX2_readMarks_46 : decode cX2_readMarks 46 = .ok (.aload_n 1, 1) := by decide +kernel
theorem dX2_readMarks_47 : decode cX2_readMarks 47 = .ok (.iload_n 2, 1) := by decide +kernel
theorem dX2_readMarks_48 : decode cX2_readMarks 48 = .ok (.aload_n 0, 1) := by decide +kernel
theorem dX2_readMarks_49 : decode cX2_readMarks 49 = .ok (.getfield 9, 3) := by decide +kernel
theorem dX2_readMarks_52 : decode cX2_readMarks 52 = .ok (.iconst 2, 1) := by decide +kernel
theorem dX2_readMarks_53 : decode cX2_readMarks 53 = .ok (.invokevirtual 91, 3) := by decide +kernel
theorem dX2_readMarks_56 : decode cX2_readMarks 56 = .ok (.invokevirtual 94, 3) := by decide +kernel
theorem dX2_readMarks_59 : decode cX2_readMarks 59 = .ok (.ifCond .ne 6, 3) := by decide +kernel
theorem dX2_readMarks_62 : decode cX2_readMarks 62 = .ok (.bipush (-2), 2) := by decide +kernel
theorem dX2_readMarks_64 : decode cX2_readMarks 64 = .ok (.ireturn, 1) := by decide +kernel
theorem dX2_readMarks_65 : decode cX2_readMarks 65 = .ok (.aload_n 0, 1) := by decide +kernel
theorem dX2_readMarks_66 : decode cX2_readMarks 66 = .ok (.aload_n 1, 1) := by decide +kernel
theorem dX2_readMarks_67 : decode cX2_readMarks 67 = .ok (.iload_n 2, 1) := by decide +kernel
theorem dX2_readMarks_68 : decode cX2_readMarks 68 = .ok (.iconst 2, 1) := by decide +kernel
theorem dX2_readMarks_69 : decode cX2_readMarks 69 = .ok (.invokevirtual 99, 3) := by decide +kernel
theorem dX2_readMarks_72 : decode cX2_readMarks 72 = .ok (.iconst 2, 1) := by decide +kernel
theorem dX2_readMarks_73 : decode cX2_readMarks 73 = .ok (.ireturn, 1) := by decide +kernel
set_option maxRecDepth 20000 in
theorem ggX2_readRule_X0_nameAt : GoodIn wsX2_readRule wsX0_nameAt := goodIn_r _ [8, 9, 10, 11, 7, 12, 13, 14, 15, 16, 17, 18, 19, 20, 21, 22, 23, 24, 171, 172, 173, 174, 175] (by decide +kernel) (by decide +kernel)
set_option maxRecDepth 20000 in
theorem gX2_readRule_X0_nameAt : GoodIn wsX2_readRule (wsV RX2 69 RX0 yX0_nameAt wsX0_nameAt) := goodIn_app (goodIn_of _ (by decide +kernel)) ggX2_readRule_X0_nameAt
set_option maxRecDepth 20000 in
theorem ggX2_readRule_X4_find : GoodIn wsX2_readRule wsX4_find := goodIn_r _ [29, 30, 31, 176, 177, 178, 179, 180, 181, 182, 183, 184] (by decide +kernel) (by decide +kernel)
set_option maxRecDepth 20000 in
theorem gX2_readRule_X4_find : GoodIn wsX2_readRule (wsV RX2 73 RX4 yX4_find wsX4_find) := goodIn_app (goodIn_of _ (by decide +kernel)) ggX2_readRule_X4_find
set_option maxRecDepth 20000 in
theorem ggX2_readRule_X0_says : GoodIn wsX2_readRule wsX0_says := goodIn_r _ [35, 13, 14, 15, 7, 16, 17, 18, 19, 36, 37, 38, 39, 40, 41, 42, 43, 44, 45, 46, 47, 20, 21, 22, 23, 24, 48, 49, 50, 51, 52, 53, 54, 55, 56, 57, 58, 59, 60, 61, 62, 63, 64, 65, 66, 67, 68, 69, 70, 71, 72, 73, 74, 75, 76, 77, 78, 79, 80, 81, 82, 83, 84, 171, 172, 173, 174, 175] (by decide +kernel) (by decide +kernel)
set_option maxRecDepth 20000 in
theorem gX2_readRule_X0_says : GoodIn wsX2_readRule (wsV RX2 34 RX0 yX0_says wsX0_says) := goodIn_app (goodIn_of _ (by decide +kernel)) ggX2_readRule_X0_says
set_option maxRecDepth 20000 in
theorem ggX2_readRule_X2_isEndOfRule : GoodIn wsX2_readRule wsX2_isEndOfRule := goodIn_r _ [89, 2, 32, 33, 34, 7, 35, 13, 14, 15, 16, 17, 18, 19, 36, 37, 38, 39, 40, 41, 42, 43, 44, 45, 46, 47, 20, 21, 22, 23, 24, 48, 49, 50, 51, 52, 53, 54, 55, 56, 57, 58, 59, 60, 61, 62, 63, 64, 65, 66, 67, 68, 69, 70, 71, 72, 73, 74, 75, 76, 77, 78, 79, 80, 81, 82, 83, 84, 90, 91, 92, 93, 94, 10, 11, 12, 168, 169, 170, 171, 172, 173, 174, 175] (by decide +kernel) (by decide +kernel)
set_option maxRecDepth 20000 in
theorem gX2_readRule_X2_isEndOfRule : GoodIn wsX2_readRule (wsV RX2 111 RX2 yX2_isEndOfRule wsX2_isEndOfRule) := goodIn_app (goodIn_of _ (by decide +kernel)) ggX2_readRule_X2_isEndOfRule
set_option maxRecDepth 20000 in
theorem ggX2_readRule_X3_hasRoom : GoodIn wsX2_readRule wsX3_hasRoom := goodIn_r _ [99, 100, 101, 102, 103, 104, 98, 105, 106, 185, 186, 187, 188, 189, 190, 191, 192, 193, 194] (by decide +kernel) (by decide +kernel)
set_option maxRecDepth 20000 in
theorem gX2_readRule_X3_hasRoom : GoodIn wsX2_readRule (wsV RX2 115 RX3 yX3_hasRoom wsX3_hasRoom) := goodIn_app (goodIn_of _ (by decide +kernel)) ggX2_readRule_X3_hasRoom
set_option maxRecDepth 20000 in
theorem ggX2_readRule_X4_scopeOf : GoodIn wsX2_readRule wsX4_scopeOf := goodIn_r _ [110, 111, 112, 113, 28, 114, 115, 116, 117, 118, 119, 30, 120, 121, 122, 123, 124, 125, 126, 127, 128, 176, 177, 178, 179, 180, 181, 182, 183, 184] (by decide +kernel) (by decide +kernel)
set_option maxRecDepth 20000 in
theorem gX2_readRule_X4_scopeOf : GoodIn wsX2_readRule (wsV RX2 119 RX4 yX4_scopeOf wsX4_scopeOf) := goodIn_app (goodIn_of _ (by decide +kernel)) ggX2_readRule_X4_scopeOf
set_option maxRecDepth 20000 in
theorem ggX2_readRule_X3_make : GoodIn wsX2_readRule wsX3_make := goodIn_r _ [132, 101, 106, 133, 100, 134, 135, 136, 137, 138, 139, 96, 97, 98, 99, 102, 103, 104, 105, 185, 186, 187, 188, 189, 190, 191, 192, 193, 194] (by decide +kernel) (by decide +kernel)
set_option maxRecDepth 20000 in
theorem gX2_readRule_X3_make : GoodIn wsX2_readRule (wsV RX2 123 RX3 yX3_make wsX3_make) := goodIn_app (goodIn_of _ (by decide +kernel)) ggX2_readRule_X3_make
set_option maxRecDepth 20000 in
theorem ggX2_readRule_X3_marks : GoodIn wsX2_readRule wsX3_marks := goodIn_r _ [143, 144, 185, 186, 187, 188, 189, 190, 191, 192, 193, 194] (by decide +kernel) (by decide +kernel)
set_option maxRecDepth 20000 in
theorem gX2_readRule_X3_marks : GoodIn wsX2_readRule (wsV RX2 126 RX3 yX3_marks wsX3_marks) := goodIn_app (goodIn_of _ (by decide +kernel)) ggX2_readRule_X3_marks
set_option maxRecDepth 20000 in
theorem ggX2_readRule_X3_made : GoodIn wsX2_readRule wsX3_made := goodIn_r _ [148, 100, 185, 186, 187, 188, 189, 190, 191, 192, 193, 194] (by decide +kernel) (by decide +kernel)
set_option maxRecDepth 20000 in
theorem gX2_readRule_X3_made : GoodIn wsX2_readRule (wsV RX2 129 RX3 yX3_made wsX3_made) := goodIn_app (goodIn_of _ (by decide +kernel)) ggX2_readRule_X3_made
set_option maxRecDepth 20000 in
theorem ggX2_readRule_X2_addMarks : GoodIn wsX2_readRule wsX2_addMarks := goodIn_r _ [152, 2, 153, 14, 15, 7, 16, 17, 18, 19, 154, 21, 22, 23, 24, 13, 155, 156, 157, 158, 159, 160, 161, 162, 163, 164, 165, 166, 167, 168, 169, 170, 171, 172, 173, 174, 175, 195, 196, 197, 198] (by decide +kernel) (by decide +kernel)
set_option maxRecDepth 20000 in
theorem gX2_readRule_X2_addMarks : GoodIn wsX2_readRule (wsV RX2 99 RX2 yX2_addMarks wsX2_addMarks) := goodIn_app (goodIn_of _ (by decide +kernel)) ggX2_readRule_X2_addMarks
theorem dX2_readRule_0 : decode cX2_readRule 0 = .ok (.aload_n 0, 1) := by decide +kernel
theorem dX2_readRule_1 : decode cX2_readRule 1 = .ok (.getfield 15, 3) := by decide +kernel
theorem dX2_readRule_4 : decode cX2_readRule 4 = .ok (.aload_n 0, 1) := by decide +kernel
theorem dX2_readRule_5 : decode cX2_readRule 5 = .ok (.getfield 9, 3) := by decide +kernel
theorem dX2_readRule_8 : decode cX2_readRule 8 = .ok (.iconst 3, 1) := by decide +kernel
theorem dX2_readRule_9 : decode cX2_readRule 9 = .ok (.invokevirtual 69, 3) := by decide +kernel
theorem dX2_readRule_12 : decode cX2_readRule 12 = .ok (.invokevirtual 73, 3) := by decide +kernel
theorem dX2_readRule_15 : decode cX2_readRule 15 = .ok (.istore_n 1, 1) := by decide +kernel
theorem dX2_readRule_16 : decode cX2_readRule 16 = .ok (.aload_n 0, 1) := by decide +kernel
theorem dX2_readRule_17 : decode cX2_readRule 17 = .ok (.getfield 15, 3) := by decide +kernel
theorem dX2_readRule_20 : decode cX2_readRule 20 = .ok (.aload_n 0, 1) := by decide +kernel
theorem dX2_readRule_21 : decode cX2_readRule 21 = .ok (.getfield 9, 3) := by decide +kernel
theorem dX2_readRule_24 : decode cX2_readRule 24 = .ok (.iconst 5, 1) := by decide +kernel
theorem dX2_readRule_25 : decode cX2_readRule 25 = .ok (.invokevirtual 69, 3) := by decide +kernel
theorem dX2_readRule_28 : decode cX2_readRule 28 = .ok (.invokevirtual 73, 3) := by decide +kernel
theorem dX2_readRule_31 : decode cX2_readRule 31 = .ok (.istore_n 2, 1) := by decide +kernel
theorem dX2_readRule_32 : decode cX2_readRule 32 = .ok (.aload_n 0, 1) := by decide +kernel
theorem dX2_readRule_33 : decode cX2_readRule 33 = .ok (.getfield 9, 3) := by decide +kernel
theorem dX2_readRule_36 : decode cX2_readRule 36 = .ok (.iconst 1, 1) := by decide +kernel
theorem dX2_readRule_37 : decode cX2_readRule 37 = .ok (.invokevirtual 69, 3) := by decide +kernel
theorem dX2_readRule_40 : decode cX2_readRule 40 = .ok (.iconst (-1), 1) := by decide +kernel
theorem dX2_readRule_41 : decode cX2_readRule 41 = .ok (.if_icmp .eq 29, 3) := by decide +kernel
theorem dX2_readRule_44 : decode cX2_readRule 44 = .ok (.aload_n 0, 1) := by decide +kernel
theorem dX2_readRule_45 : decode cX2_readRule 45 = .ok (.getfield 9, 3) := by decide +kernel
theorem dX2_readRule_48 : decode cX2_readRule 48 = .ok (.iconst 2, 1) := by decide +kernel
theorem dX2_readRule_49 : decode cX2_readRule 49 = .ok (.ldc 103, 2) := by decide +kernel
theorem dX2_readRule_51 : decode cX2_readRule 51 = .ok (.invokevirtual 34, 3) := by decide +kernel
theorem dX2_readRule_54 : decode cX2_readRule 54 = .ok (.ifCond .eq 16, 3) := by decide +kernel
theorem dX2_readRule_57 : decode cX2_readRule 57 = .ok (.aload_n 0, 1) := by decide +kernel
theorem dX2_readRule_58 : decode cX2_readRule 58 = .ok (.getfield 9, 3) := by decide +kernel
theorem dX2_readRule_61 : decode cX2_readRule 61 = .ok (.iconst 4, 1) := by decide +kernel
theorem dX2_readRule_62 : decode cX2_readRule 62 = .ok (.ldc 105, 2) := by decide +kernel
theorem dX2_readRule_64 : decode cX2_readRule 64 = .ok (.invokevirtual 34, 3) := by decide +kernel
theorem dX2_readRule_67 : decode cX2_readRule 67 = .ok (.ifCond .ne 5, 3) := by decide +kernel
theorem dX2_readRule_70 : decode cX2_readRule 70 = .ok (.iconst (-1), 1) := by decide +kernel
theorem dX2_readRule_71 : decode cX2_readRule 71 = .ok (.ireturn, 1) := by decide +kernel
theorem dX2_readRule_72 : decode cX2_readRule 72 = .ok (.iload_n 1, 1) := by decide +kernel
theorem dX2_readRule_73 : decode cX2_readRule 73 = .ok (.iconst (-1), 1) := by decide +kernel
theorem dX2_readRule_74 : decode cX2_readRule 74 = .ok (.if_icmp .eq 16, 3) := by decide +kernel
theorem dX2_readRule_77 : decode cX2_readRule 77 = .ok (.iload_n 1, 1) := by decide +kernel
theorem dX2_readRule_78 : decode cX2_readRule 78 = .ok (.ifCond .eq 12, 3) := by decide +kernel
theorem dX2_readRule_81 : decode cX2_readRule 81 = .ok (.iload_n 2, 1) := by decide +kernel
theorem dX2_readRule_82 : decode cX2_readRule 82 = .ok (.iconst (-1), 1) := by decide +kernel
theorem dX2_readRule_83 : decode cX2_readRule 83 = .ok (.if_icmp .eq 7, 3) := by decide +kernel
theorem dX2_readRule_86 : decode cX2_readRule 86 = .ok (.iload_n 2, 1) := by decide +kernel
theorem dX2_readRule_87 : decode cX2_readRule 87 = .ok (.ifCond .ne 5, 3) := by decide +kernel
theorem dX2_readRule_90 : decode cX2_readRule 90 = .ok (.iconst (-1), 1) := by decide +kernel
theorem dX2_readRule_91 : decode cX2_readRule 91 = .ok (.ireturn, 1) := by decide +kernel
theorem dX2_readRule_92 : decode cX2_readRule 92 = .ok (.aload_n 0, 1) := by decide +kernel
theorem dX2_readRule_93 : decode cX2_readRule 93 = .ok (.getfield 9, 3) := by decide +kernel
theorem dX2_readRule_96 : decode cX2_readRule 96 = .ok (.bipush 6, 2) := by decide +kernel
theorem dX2_readRule_98 : decode cX2_readRule 98 = .ok (.ldc 107, 2) := by decide +kernel
theorem dX2_readRule_100 : decode cX2_readRule 100 = .ok (.invokevirtual 34, 3) := by decide +kernel
theorem dX2_readRule_103 : decode cX2_readRule 103 = .ok (.istore_n 3, 1) := by decide +kernel
theorem dX2_readRule_104 : decode cX2_readRule 104 = .ok (.iload_n 3, 1) := by decide +kernel
theorem dX2_readRule_105 : decode cX2_readRule 105 = .ok (.ifCond .ne 17, 3) := by decide +kernel
theorem dX2_readRule_108 : decode cX2_readRule 108 = .ok (.aload_n 0, 1) := by decide +kernel
theorem dX2_readRule_109 : decode cX2_readRule 109 = .ok (.getfield 9, 3) := by decide +kernel
theorem dX2_readRule_112 : decode cX2_readRule 112 = .ok (.bipush 6, 2) := by decide +kernel
theorem dX2_readRule_114 : decode cX2_readRule 114 = .ok (.ldc 109, 2) := by decide +kernel
theorem dX2_readRule_116 : decode cX2_readRule 116 = .ok (.invokevirtual 34, 3) := by decide +kernel
theorem dX2_readRule_119 : decode cX2_readRule 119 = .ok (.ifCond .eq 7, 3) := by decide +kernel
theorem dX2_readRule_122 : decode cX2_readRule 122 = .ok (.iconst 1, 1) := by decide +kernel
theorem dX2_readRule_123 : decode cX2_readRule 123 = .ok (.goto 4, 3) := by decide +kernel
theorem dX2_readRule_126 : decode cX2_readRule 126 = .ok (.iconst 0, 1) := by decide +kernel
theorem dX2_readRule_127 : decode cX2_readRule 127 = .ok (.istore 4, 2) := by decide +kernel
theorem dX2_readRule_129 : decode cX2_readRule 129 = .ok (.iload 4, 2) := by decide +kernel
theorem dX2_readRule_131 : decode cX2_readRule 131 = .ok (.ifCond .eq 22, 3) := by decide +kernel
theorem dX2_readRule_134 : decode cX2_readRule 134 = .ok (.aload_n 0, 1) := by decide +kernel
theorem dX2_readRule_135 : decode cX2_readRule 135 = .ok (.getfield 15, 3) := by decide +kernel
theorem dX2_readRule_138 : decode cX2_readRule 138 = .ok (.aload_n 0, 1) := by decide +kernel
theorem dX2_readRule_139 : decode cX2_readRule 139 = .ok (.getfield 9, 3) := by decide +kernel
theorem dX2_readRule_142 : decode cX2_readRule 142 = .ok (.bipush 7, 2) := by decide +kernel
theorem dX2_readRule_144 : decode cX2_readRule 144 = .ok (.invokevirtual 69, 3) := by decide +kernel
theorem dX2_readRule_147 : decode cX2_readRule 147 = .ok (.invokevirtual 73, 3) := by decide +kernel
theorem dX2_readRule_150 : decode cX2_readRule 150 = .ok (.goto 4, 3) := by decide +kernel
theorem dX2_readRule_153 : decode cX2_readRule 153 = .ok (.iconst 0, 1) := by decide +kernel
theorem dX2_readRule_154 : decode cX2_readRule 154 = .ok (.istore 5, 2) := by decide +kernel
theorem dX2_readRule_156 : decode cX2_readRule 156 = .ok (.iload 4, 2) := by decide +kernel
theorem dX2_readRule_158 : decode cX2_readRule 158 = .ok (.ifCond .eq 8, 3) := by decide +kernel
theorem dX2_readRule_161 : decode cX2_readRule 161 = .ok (.bipush 8, 2) := by decide +kernel
theorem dX2_readRule_163 : decode cX2_readRule 163 = .ok (.goto 5, 3) := by decide +kernel
theorem dX2_readRule_166 : decode cX2_readRule 166 = .ok (.bipush 6, 2) := by decide +kernel
theorem dX2_readRule_168 : decode cX2_readRule 168 = .ok (.istore 6, 2) := by decide +kernel
theorem dX2_readRule_170 : decode cX2_readRule 170 = .ok (.iload 5, 2) := by decide +kernel
theorem dX2_readRule_172 : decode cX2_readRule 172 = .ok (.iconst (-1), 1) := by decide +kernel
theorem dX2_readRule_173 : decode cX2_readRule 173 = .ok (.if_icmp .eq 12, 3) := by decide +kernel
theorem dX2_readRule_176 : decode cX2_readRule 176 = .ok (.aload_n 0, 1) := by decide +kernel
theorem dX2_readRule_177 : decode cX2_readRule 177 = .ok (.iload 6, 2) := by decide +kernel
theorem dX2_readRule_179 : decode cX2_readRule 179 = .ok (.invokevirtual 111, 3) := by decide +kernel
theorem dX2_readRule_182 : decode cX2_readRule 182 = .ok (.ifCond .ne 5, 3) := by decide +kernel
theorem dX2_readRule_185 : decode cX2_readRule 185 = .ok (.iconst (-1), 1) := by decide +kernel
theorem dX2_readRule_186 : decode cX2_readRule 186 = .ok (.ireturn, 1) := by decide +kernel
theorem dX2_readRule_187 : decode cX2_readRule 187 = .ok (.aload_n 0, 1) := by decide +kernel
theorem dX2_readRule_188 : decode cX2_readRule 188 = .ok (.getfield 19, 3) := by decide +kernel
theorem dX2_readRule_191 : decode cX2_readRule 191 = .ok (.aload_n 0, 1) := by decide +kernel
theorem dX2_readRule_192 : decode cX2_readRule 192 = .ok (.getfield 9, 3) := by decide +kernel
theorem dX2_readRule_195 : decode cX2_readRule 195 = .ok (.iconst 1, 1) := by decide +kernel
theorem dX2_readRule_196 : decode cX2_readRule 196 = .ok (.invokevirtual 69, 3) := by decide +kernel
theorem dX2_readRule_199 : decode cX2_readRule 199 = .ok (.invokevirtual 115, 3) := by decide +kernel
theorem dX2_readRule_202 : decode cX2_readRule 202 = .ok (.ifCond .ne 6, 3) := by decide +kernel
theorem dX2_readRule_205 : decode cX2_readRule 205 = .ok (.bipush (-2), 2) := by decide +kernel
theorem dX2_readRule_207 : decode cX2_readRule 207 = .ok (.ireturn, 1) := by decide +kernel
theorem dX2_readRule_208 : decode cX2_readRule 208 = .ok (.aload_n 0, 1) := by decide +kernel
theorem dX2_readRule_209 : decode cX2_readRule 209 = .ok (.getfield 15, 3) := by decide +kernel
theorem dX2_readRule_212 : decode cX2_readRule 212 = .ok (.iload_n 1, 1) := by decide +kernel
theorem dX2_readRule_213 : decode cX2_readRule 213 = .ok (.iload_n 2, 1) := by decide +kernel
theorem dX2_readRule_214 : decode cX2_readRule 214 = .ok (.invokevirtual 119, 3) := by decide +kernel
theorem dX2_readRule_217 : decode cX2_readRule 217 = .ok (.istore 7, 2) := by decide +kernel
theorem dX2_readRule_219 : decode cX2_readRule 219 = .ok (.aload_n 0, 1) := by decide +kernel
theorem dX2_readRule_220 : decode cX2_readRule 220 = .ok (.getfield 19, 3) := by decide +kernel
theorem dX2_readRule_223 : decode cX2_readRule 223 = .ok (.aload_n 0, 1) := by decide +kernel
theorem dX2_readRule_224 : decode cX2_readRule 224 = .ok (.getfield 9, 3) := by decide +kernel
theorem dX2_readRule_227 : decode cX2_readRule 227 = .ok (.iconst 1, 1) := by decide +kernel
theorem dX2_readRule_228 : decode cX2_readRule 228 = .ok (.invokevirtual 69, 3) := by decide +kernel
theorem dX2_readRule_231 : decode cX2_readRule 231 = .ok (.iload_n 1, 1) := by decide +kernel
theorem dX2_readRule_232 : decode cX2_readRule 232 = .ok (.iload_n 2, 1) := by decide +kernel
theorem dX2_readRule_233 : decode cX2_readRule 233 = .ok (.iload 7, 2) := by decide +kernel
theorem dX2_readRule_235 : decode cX2_readRule 235 = .ok (.iload 5, 2) := by decide +kernel
theorem dX2_readRule_237 : decode cX2_readRule 237 = .ok (.iload_n 3, 1) := by decide +kernel
theorem dX2_readRule_238 : decode cX2_readRule 238 = .ok (.ifCond .ne 7, 3) := by decide +kernel
theorem dX2_readRule_241 : decode cX2_readRule 241 = .ok (.iconst 1, 1) := by decide +kernel
theorem dX2_readRule_242 : decode cX2_readRule 242 = .ok (.goto 4, 3) := by decide +kernel
theorem dX2_readRule_245 : decode cX2_readRule 245 = .ok (.iconst 0, 1) := by decide +kernel
theorem dX2_readRule_246 : decode cX2_readRule 246 = .ok (.invokevirtual 123, 3) := by decide +kernel
theorem dX2_readRule_249 : decode cX2_readRule 249 = .ok (.aload_n 0, 1) := by decide +kernel
theorem dX2_readRule_250 : decode cX2_readRule 250 = .ok (.aload_n 0, 1) := by decide +kernel
theorem dX2_readRule_251 : decode cX2_readRule 251 = .ok (.getfield 19, 3) := by decide +kernel
theorem dX2_readRule_254 : decode cX2_readRule 254 = .ok (.invokevirtual 126, 3) := by decide +kernel
theorem dX2_readRule_257 : decode cX2_readRule 257 = .ok (.aload_n 0, 1) := by decide +kernel
theorem dX2_readRule_258 : decode cX2_readRule 258 = .ok (.getfield 19, 3) := by decide +kernel
theorem dX2_readRule_261 : decode cX2_readRule 261 = .ok (.invokevirtual 129, 3) := by decide +kernel
theorem dX2_readRule_264 : decode cX2_readRule 264 = .ok (.iconst 1, 1) := by decide +kernel
theorem dX2_readRule_265 : decode cX2_readRule 265 = .ok (.isub, 1) := by decide +kernel
theorem dX2_readRule_266 : decode cX2_readRule 266 = .ok (.iload 6, 2) := by decide +kernel
theorem dX2_readRule_268 : decode cX2_readRule 268 = .ok (.iconst 1, 1) := by decide +kernel
theorem dX2_readRule_269 : decode cX2_readRule 269 = .ok (.iadd, 1) := by decide +kernel
theorem dX2_readRule_270 : decode cX2_readRule 270 = .ok (.invokevirtual 99, 3) := by decide +kernel
theorem dX2_readRule_273 : decode cX2_readRule 273 = .ok (.iconst 3, 1) := by decide +kernel
theorem dX2_readRule_274 : decode cX2_readRule 274 = .ok (.ireturn, 1) := by decide +kernel
set_option maxRecDepth 20000 in
theorem ggX2_isEndOfRule_X0_says : GoodIn wsX2_isEndOfRule wsX0_says := goodIn_r _ [6, 7, 8, 9, 5, 10, 11, 12, 13, 14, 15, 16, 17, 18, 19, 20, 21, 22, 23, 24, 25, 26, 27, 28, 29, 30, 31, 32, 33, 34, 35, 36, 37, 38, 39, 40, 41, 42, 43, 44, 45, 46, 47, 48, 49, 50, 51, 52, 53, 54, 55, 56, 57, 58, 59, 60, 61, 62, 63, 64, 65, 66, 67, 79, 80, 81, 82, 83] (by decide +kernel) (by decide +kernel)
set_option maxRecDepth 20000 in
theorem gX2_isEndOfRule_X0_says : GoodIn wsX2_isEndOfRule (wsV RX2 34 RX0 yX0_says wsX0_says) := goodIn_app (goodIn_of _ (by decide +kernel)) ggX2_isEndOfRule_X0_says
set_option maxRecDepth 20000 in
theorem ggX2_isEndOfRule_X0_words : GoodIn wsX2_isEndOfRule wsX0_words := goodIn_r _ [71, 11, 79, 80, 81, 82, 83] (by decide +kernel) (by decide +kernel)
set_option maxRecDepth 20000 in
theorem gX2_isEndOfRule_X0_words : GoodIn wsX2_isEndOfRule (wsV RX2 28 RX0 yX0_words wsX0_words) := goodIn_app (goodIn_of _ (by decide +kernel)) ggX2_isEndOfRule_X0_words
set_option maxRecDepth 20000 in
theorem ggX2_isEndOfRule_X0_isLetters : GoodIn wsX2_isEndOfRule wsX0_isLetters := goodIn_r _ [75, 7, 8, 9, 5, 10, 11, 12, 13, 26, 27, 28, 29, 30, 79, 80, 81, 82, 83] (by decide +kernel) (by decide +kernel)
set_option maxRecDepth 20000 in
theorem gX2_isEndOfRule_X0_isLetters : GoodIn wsX2_isEndOfRule (wsV RX2 87 RX0 yX0_isLetters wsX0_isLetters) := goodIn_app (goodIn_of _ (by decide +kernel)) ggX2_isEndOfRule_X0_isLetters
theorem dX2_isEndOfRule_0 : decode cX2_isEndOfRule 0 = .ok (.aload_n 0, 1) := by decide +kernel
theorem dX2_isEndOfRule_1 : decode cX2_isEndOfRule 1 = .ok (.getfield 9, 3) := by decide +kernel
theorem dX2_isEndOfRule_4 : decode cX2_isEndOfRule 4 = .ok (.iload_n 1, 1) := by decide +kernel
theorem dX2_isEndOfRule_5 : decode cX2_isEndOfRule 5 = .ok (.ldc 132, 2) := by decide +kernel
theorem dX2_isEndOfRule_7 : decode cX2_isEndOfRule 7 = .ok (.invokevirtual 34, 3) := by decide +kernel
theorem dX2_isEndOfRule_10 : decode cX2_isEndOfRule 10 = .ok (.ifCond .eq 36, 3) := by decide +kernel
theorem dX2_isEndOfRule_13 : decode cX2_isEndOfRule 13 = .ok (.aload_n 0, 1) := by decide +kernel
theorem dX2_isEndOfRule_14 : decode cX2_isEndOfRule 14 = .ok (.getfield 9, 3) := by decide +kernel
theorem dX2_isEndOfRule_17 : decode cX2_isEndOfRule 17 = .ok (.invokevirtual 28, 3) := by decide +kernel
theorem dX2_isEndOfRule_20 : decode cX2_isEndOfRule 20 = .ok (.iload_n 1, 1) := by decide +kernel
theorem dX2_isEndOfRule_21 : decode cX2_isEndOfRule 21 = .ok (.iconst 2, 1) := by decide +kernel
theorem dX2_isEndOfRule_22 : decode cX2_isEndOfRule 22 = .ok (.iadd, 1) := by decide +kernel
theorem dX2_isEndOfRule_23 : decode cX2_isEndOfRule 23 = .ok (.if_icmp .ne 21, 3) := by decide +kernel
theorem dX2_isEndOfRule_26 : decode cX2_isEndOfRule 26 = .ok (.aload_n 0, 1) := by decide +kernel
theorem dX2_isEndOfRule_27 : decode cX2_isEndOfRule 27 = .ok (.getfield 9, 3) := by decide +kernel
theorem dX2_isEndOfRule_30 : decode cX2_isEndOfRule 30 = .ok (.iload_n 1, 1) := by decide +kernel
theorem dX2_isEndOfRule_31 : decode cX2_isEndOfRule 31 = .ok (.iconst 1, 1) := by decide +kernel
theorem dX2_isEndOfRule_32 : decode cX2_isEndOfRule 32 = .ok (.iadd, 1) := by decide +kernel
theorem dX2_isEndOfRule_33 : decode cX2_isEndOfRule 33 = .ok (.iconst 3, 1) := by decide +kernel
theorem dX2_isEndOfRule_34 : decode cX2_isEndOfRule 34 = .ok (.invokevirtual 87, 3) := by decide +kernel
theorem dX2_isEndOfRule_37 : decode cX2_isEndOfRule 37 = .ok (.ifCond .eq 7, 3) := by decide +kernel
theorem dX2_isEndOfRule_40 : decode cX2_isEndOfRule 40 = .ok (.iconst 1, 1) := by decide +kernel
theorem dX2_isEndOfRule_41 : decode cX2_isEndOfRule 41 = .ok (.goto 4, 3) := by decide +kernel
theorem dX2_isEndOfRule_44 : decode cX2_isEndOfRule 44 = .ok (.iconst 0, 1) := by decide +kernel
theorem dX2_isEndOfRule_45 : decode cX2_isEndOfRule 45 = .ok (.ireturn, 1) := by decide +kernel
theorem dX2_isEndOfRule_46 : decode cX2_isEndOfRule 46 = .ok (.aload_n 0, 1) := by decide +kernel
theorem dX2_isEndOfRule_47 : decode cX2_isEndOfRule 47 = .ok (.getfield 9, 3) := by decide +kernel
theorem dX2_isEndOfRule_50 : decode cX2_isEndOfRule 50 = .ok (.invokevirtual 28, 3) := by decide +kernel
theorem dX2_isEndOfRule_53 : decode cX2_isEndOfRule 53 = .ok (.iload_n 1, 1) := by decide +kernel
theorem dX2_isEndOfRule_54 : decode cX2_isEndOfRule 54 = .ok (.if_icmp .ne 7, 3) := by decide +kernel
theorem dX2_isEndOfRule_57 : decode cX2_isEndOfRule 57 = .ok (.iconst 1, 1) := by decide +kernel
theorem dX2_isEndOfRule_58 : decode cX2_isEndOfRule 58 = .ok (.goto 4, 3) := by decide +kernel
theorem dX2_isEndOfRule_61 : decode cX2_isEndOfRule 61 = .ok (.iconst 0, 1) := by decide +kernel
theorem dX2_isEndOfRule_62 : decode cX2_isEndOfRule 62 = .ok (.ireturn, 1) := by decide +kernel
set_option maxRecDepth 20000 in
theorem ggX2_addMarks_X0_sizeOf : GoodIn wsX2_addMarks wsX0_sizeOf := goodIn_r _ [6, 7, 8, 9, 32, 33, 34, 35, 36] (by decide +kernel) (by decide +kernel)
set_option maxRecDepth 20000 in
theorem gX2_addMarks_X0_sizeOf : GoodIn wsX2_addMarks (wsV RX2 91 RX0 yX0_sizeOf wsX0_sizeOf) := goodIn_app (goodIn_of _ (by decide +kernel)) ggX2_addMarks_X0_sizeOf
set_option maxRecDepth 20000 in
theorem ggX2_addMarks_X0_letterAt : GoodIn wsX2_addMarks wsX0_letterAt := goodIn_r _ [13, 14, 9, 15, 3, 4, 5, 6, 7, 8, 32, 33, 34, 35, 36] (by decide +kernel) (by decide +kernel)
set_option maxRecDepth 20000 in
theorem gX2_addMarks_X0_letterAt : GoodIn wsX2_addMarks (wsV RX2 134 RX0 yX0_letterAt wsX0_letterAt) := goodIn_app (goodIn_of _ (by decide +kernel)) ggX2_addMarks_X0_letterAt
set_option maxRecDepth 20000 in
theorem ggX2_addMarks_X1_add : GoodIn wsX2_addMarks wsX1_add := goodIn_r _ [20, 21, 22, 23, 24, 25, 26, 19, 27, 28, 37, 38, 39, 40] (by decide +kernel) (by decide +kernel)
set_option maxRecDepth 20000 in
theorem gX2_addMarks_X1_add : GoodIn wsX2_addMarks (wsV RX2 138 RX1 yX1_add wsX1_add) := goodIn_app (goodIn_of _ (by decide +kernel)) ggX2_addMarks_X1_add
theorem dX2_addMarks_0 : decode cX2_addMarks 0 = .ok (.aload_n 0, 1) := by decide +kernel
theorem dX2_addMarks_1 : decode cX2_addMarks 1 = .ok (.getfield 9, 3) := by decide +kernel
theorem dX2_addMarks_4 : decode cX2_addMarks 4 = .ok (.iload_n 3, 1) := by decide +kernel
theorem dX2_addMarks_5 : decode cX2_addMarks 5 = .ok (.invokevirtual 91, 3) := by decide +kernel
theorem dX2_addMarks_8 : decode cX2_addMarks 8 = .ok (.istore 4, 2) := by decide +kernel
theorem dX2_addMarks_10 : decode cX2_addMarks 10 = .ok (.iconst 0, 1) := by decide +kernel
theorem dX2_addMarks_11 : decode cX2_addMarks 11 = .ok (.istore 5, 2) := by decide +kernel
theorem dX2_addMarks_13 : decode cX2_addMarks 13 = .ok (.iload 5, 2) := by decide +kernel
theorem dX2_addMarks_15 : decode cX2_addMarks 15 = .ok (.iload 4, 2) := by decide +kernel
theorem dX2_addMarks_17 : decode cX2_addMarks 17 = .ok (.if_icmp .ge 24, 3) := by decide +kernel
theorem dX2_addMarks_20 : decode cX2_addMarks 20 = .ok (.aload_n 1, 1) := by decide +kernel
theorem dX2_addMarks_21 : decode cX2_addMarks 21 = .ok (.iload_n 2, 1) := by decide +kernel
theorem dX2_addMarks_22 : decode cX2_addMarks 22 = .ok (.aload_n 0, 1) := by decide +kernel
theorem dX2_addMarks_23 : decode cX2_addMarks 23 = .ok (.getfield 9, 3) := by decide +kernel
theorem dX2_addMarks_26 : decode cX2_addMarks 26 = .ok (.iload_n 3, 1) := by decide +kernel
theorem dX2_addMarks_27 : decode cX2_addMarks 27 = .ok (.iload 5, 2) := by decide +kernel
theorem dX2_addMarks_29 : decode cX2_addMarks 29 = .ok (.invokevirtual 134, 3) := by decide +kernel
theorem dX2_addMarks_32 : decode cX2_addMarks 32 = .ok (.invokevirtual 138, 3) := by decide +kernel
theorem dX2_addMarks_35 : decode cX2_addMarks 35 = .ok (.iinc 5 1, 3) := by decide +kernel
theorem dX2_addMarks_38 : decode cX2_addMarks 38 = .ok (.goto (-25), 3) := by decide +kernel
theorem dX2_addMarks_41 : decode cX2_addMarks 41 = .ok (.return_, 1) := by decide +kernel
set_option maxRecDepth 20000 in
theorem ggX3_init_X1_init : GoodIn wsX3_init wsX1_init := goodIn_r _ [19, 20, 2, 3, 21, 22, 23, 24, 25, 26, 27, 28, 4, 29, 40, 41, 42, 43] (by decide +kernel) (by decide +kernel)
set_option maxRecDepth 20000 in
theorem gX3_init_X1_init : GoodIn wsX3_init (wsX1_init) := ggX3_init_X1_init
theorem dX3_init_0 : decode cX3_init 0 = .ok (.aload_n 0, 1) := by decide +kernel
theorem dX3_init_1 : decode cX3_init 1 = .ok (.invokespecial 3, 3) := by decide +kernel
theorem dX3_init_4 : decode cX3_init 4 = .ok (.aload_n 0, 1) := by decide +kernel
theorem dX3_init_5 : decode cX3_init 5 = .ok (.bipush 6, 2) := by decide +kernel
theorem dX3_init_7 : decode cX3_init 7 = .ok (.newarray .int, 2) := by decide +kernel
theorem dX3_init_9 : decode cX3_init 9 = .ok (.putfield 9, 3) := by decide +kernel
theorem dX3_init_12 : decode cX3_init 12 = .ok (.aload_n 0, 1) := by decide +kernel
theorem dX3_init_13 : decode cX3_init 13 = .ok (.bipush 20, 2) := by decide +kernel
theorem dX3_init_15 : decode cX3_init 15 = .ok (.newarray .int, 2) := by decide +kernel
theorem dX3_init_17 : decode cX3_init 17 = .ok (.putfield 15, 3) := by decide +kernel
theorem dX3_init_20 : decode cX3_init 20 = .ok (.aload_n 0, 1) := by decide +kernel
theorem dX3_init_21 : decode cX3_init 21 = .ok (.bipush 20, 2) := by decide +kernel
theorem dX3_init_23 : decode cX3_init 23 = .ok (.newarray .int, 2) := by decide +kernel
theorem dX3_init_25 : decode cX3_init 25 = .ok (.putfield 18, 3) := by decide +kernel
theorem dX3_init_28 : decode cX3_init 28 = .ok (.aload_n 0, 1) := by decide +kernel
theorem dX3_init_29 : decode cX3_init 29 = .ok (.bipush 20, 2) := by decide +kernel
theorem dX3_init_31 : decode cX3_init 31 = .ok (.newarray .int, 2) := by decide +kernel
theorem dX3_init_33 : decode cX3_init 33 = .ok (.putfield 21, 3) := by decide +kernel
theorem dX3_init_36 : decode cX3_init 36 = .ok (.aload_n 0, 1) := by decide +kernel
theorem dX3_init_37 : decode cX3_init 37 = .ok (.bipush 20, 2) := by decide +kernel
theorem dX3_init_39 : decode cX3_init 39 = .ok (.newarray .int, 2) := by decide +kernel
theorem dX3_init_41 : decode cX3_init 41 = .ok (.putfield 24, 3) := by decide +kernel
theorem dX3_init_44 : decode cX3_init 44 = .ok (.aload_n 0, 1) := by decide +kernel
theorem dX3_init_45 : decode cX3_init 45 = .ok (.bipush 20, 2) := by decide +kernel
theorem dX3_init_47 : decode cX3_init 47 = .ok (.newarray .int, 2) := by decide +kernel
theorem dX3_init_49 : decode cX3_init 49 = .ok (.putfield 27, 3) := by decide +kernel
theorem dX3_init_52 : decode cX3_init 52 = .ok (.aload_n 0, 1) := by decide +kernel
theorem dX3_init_53 : decode cX3_init 53 = .ok (.bipush 20, 2) := by decide +kernel
theorem dX3_init_55 : decode cX3_init 55 = .ok (.newarray .boolean, 2) := by decide +kernel
theorem dX3_init_57 : decode cX3_init 57 = .ok (.putfield 30, 3) := by decide +kernel
theorem dX3_init_60 : decode cX3_init 60 = .ok (.aload_n 0, 1) := by decide +kernel
theorem dX3_init_61 : decode cX3_init 61 = .ok (.new 34, 3) := by decide +kernel
theorem dX3_init_64 : decode cX3_init 64 = .ok (.dup, 1) := by decide +kernel
theorem dX3_init_65 : decode cX3_init 65 = .ok (.bipush 20, 2) := by decide +kernel
theorem dX3_init_67 : decode cX3_init 67 = .ok (.iconst 3, 1) := by decide +kernel
theorem dX3_init_68 : decode cX3_init 68 = .ok (.invokespecial 36, 3) := by decide +kernel
theorem dX3_init_71 : decode cX3_init 71 = .ok (.putfield 39, 3) := by decide +kernel
theorem dX3_init_74 : decode cX3_init 74 = .ok (.return_, 1) := by decide +kernel
theorem dX3_made_0 : decode cX3_made 0 = .ok (.aload_n 0, 1) := by decide +kernel
theorem dX3_made_1 : decode cX3_made 1 = .ok (.getfield 43, 3) := by decide +kernel
theorem dX3_made_4 : decode cX3_made 4 = .ok (.ireturn, 1) := by decide +kernel
theorem dX3_events_0 : decode cX3_events 0 = .ok (.aload_n 0, 1) := by decide +kernel
theorem dX3_events_1 : decode cX3_events 1 = .ok (.getfield 47, 3) := by decide +kernel
theorem dX3_events_4 : decode cX3_events 4 = .ok (.ireturn, 1) := by decide +kernel
theorem dX3_marks_0 : decode cX3_marks 0 = .ok (.aload_n 0, 1) := by decide +kernel
theorem dX3_marks_1 : decode cX3_marks 1 = .ok (.getfield 39, 3) := by decide +kernel
theorem dX3_marks_4 : decode cX3_marks 4 = .ok (.areturn, 1) := by decide +kernel
theorem dX3_isRule_0 : decode cX3_isRule 0 = .ok (.iload_n 1, 1) := by decide +kernel
theorem dX3_isRule_1 : decode cX3_isRule 1 = .ok (.ifCond .lt 15, 3) := by decide +kernel
theorem dX3_isRule_4 : decode cX3_isRule 4 = .ok (.iload_n 1, 1) := by decide +kernel
theorem dX3_isRule_5 : decode cX3_isRule 5 = .ok (.aload_n 0, 1) := by decide +kernel
theorem dX3_isRule_6 : decode cX3_isRule 6 = .ok (.getfield 43, 3) := by decide +kernel
theorem dX3_isRule_9 : decode cX3_isRule 9 = .ok (.if_icmp .ge 7, 3) := by decide +kernel
theorem dX3_isRule_12 : decode cX3_isRule 12 = .ok (.iconst 1, 1) := by decide +kernel
theorem dX3_isRule_13 : decode cX3_isRule 13 = .ok (.goto 4, 3) := by decide +kernel
theorem dX3_isRule_16 : decode cX3_isRule 16 = .ok (.iconst 0, 1) := by decide +kernel
theorem dX3_isRule_17 : decode cX3_isRule 17 = .ok (.ireturn, 1) := by decide +kernel
theorem dX3_isEvent_0 : decode cX3_isEvent 0 = .ok (.iload_n 1, 1) := by decide +kernel
theorem dX3_isEvent_1 : decode cX3_isEvent 1 = .ok (.ifCond .lt 15, 3) := by decide +kernel
theorem dX3_isEvent_4 : decode cX3_isEvent 4 = .ok (.iload_n 1, 1) := by decide +kernel
theorem dX3_isEvent_5 : decode cX3_isEvent 5 = .ok (.aload_n 0, 1) := by decide +kernel
theorem dX3_isEvent_6 : decode cX3_isEvent 6 = .ok (.getfield 47, 3) := by decide +kernel
theorem dX3_isEvent_9 : decode cX3_isEvent 9 = .ok (.if_icmp .ge 7, 3) := by decide +kernel
theorem dX3_isEvent_12 : decode cX3_isEvent 12 = .ok (.iconst 1, 1) := by decide +kernel
theorem dX3_isEvent_13 : decode cX3_isEvent 13 = .ok (.goto 4, 3) := by decide +kernel
theorem dX3_isEvent_16 : decode cX3_isEvent 16 = .ok (.iconst 0, 1) := by decide +kernel
theorem dX3_isEvent_17 : decode cX3_isEvent 17 = .ok (.ireturn, 1) := by decide +kernel
theorem dX3_findEvent_0 : decode cX3_findEvent 0 = .ok (.iconst 0, 1) := by decide +kernel
theorem dX3_findEvent_1 : decode cX3_findEvent 1 = .ok (.istore_n 2, 1) := by decide +kernel
theorem dX3_findEvent_2 : decode cX3_findEvent 2 = .ok (.iload_n 2, 1) := by decide +kernel
theorem dX3_findEvent_3 : decode cX3_findEvent 3 = .ok (.aload_n 0, 1) := by decide +kernel
theorem dX3_findEvent_4 : decode cX3_findEvent 4 = .ok (.getfield 47, 3) := by decide +kernel
theorem dX3_findEvent_7 : decode cX3_findEvent 7 = .ok (.if_icmp .ge 21, 3) := by decide +kernel
theorem dX3_findEvent_10 : decode cX3_findEvent 10 = .ok (.aload_n 0, 1) := by decide +kernel
theorem dX3_findEvent_11 : decode cX3_findEvent 11 = .ok (.getfield 9, 3) := by decide +kernel
theorem dX3_findEvent_14 : decode cX3_findEvent 14 = .ok (.iload_n 2, 1) := by decide +kernel
theorem dX3_findEvent_15 : decode cX3_findEvent 15 = .ok (.iaload, 1) := by decide +kernel
theorem dX3_findEvent_16 : decode cX3_findEvent 16 = .ok (.iload_n 1, 1) := by decide +kernel
theorem dX3_findEvent_17 : decode cX3_findEvent 17 = .ok (.if_icmp .ne 5, 3) := by decide +kernel
theorem dX3_findEvent_20 : decode cX3_findEvent 20 = .ok (.iload_n 2, 1) := by decide +kernel
theorem dX3_findEvent_21 : decode cX3_findEvent 21 = .ok (.ireturn, 1) := by decide +kernel
theorem dX3_findEvent_22 : decode cX3_findEvent 22 = .ok (.iinc 2 1, 3) := by decide +kernel
theorem dX3_findEvent_25 : decode cX3_findEvent 25 = .ok (.goto (-23), 3) := by decide +kernel
theorem dX3_findEvent_28 : decode cX3_findEvent 28 = .ok (.iconst (-1), 1) := by decide +kernel
theorem dX3_findEvent_29 : decode cX3_findEvent 29 = .ok (.ireturn, 1) := by decide +kernel
set_option maxRecDepth 20000 in
theorem ggX3_hasRoom_X3_findEvent : GoodIn wsX3_hasRoom wsX3_findEvent := goodIn_r _ [7, 2, 8, 9, 10, 11, 12, 13, 14, 15, 16, 17, 18] (by decide +kernel) (by decide +kernel)
set_option maxRecDepth 20000 in
theorem gX3_hasRoom_X3_findEvent : GoodIn wsX3_hasRoom (wsV RX3 50 RX3 yX3_findEvent wsX3_findEvent) := goodIn_app (goodIn_of _ (by decide +kernel)) ggX3_hasRoom_X3_findEvent
theorem dX3_hasRoom_0 : decode cX3_hasRoom 0 = .ok (.aload_n 0, 1) := by decide +kernel
theorem dX3_hasRoom_1 : decode cX3_hasRoom 1 = .ok (.getfield 43, 3) := by decide +kernel
theorem dX3_hasRoom_4 : decode cX3_hasRoom 4 = .ok (.bipush 20, 2) := by decide +kernel
theorem dX3_hasRoom_6 : decode cX3_hasRoom 6 = .ok (.if_icmp .ge 25, 3) := by decide +kernel
theorem dX3_hasRoom_9 : decode cX3_hasRoom 9 = .ok (.aload_n 0, 1) := by decide +kernel
theorem dX3_hasRoom_10 : decode cX3_hasRoom 10 = .ok (.getfield 47, 3) := by decide +kernel
theorem dX3_hasRoom_13 : decode cX3_hasRoom 13 = .ok (.bipush 6, 2) := by decide +kernel
theorem dX3_hasRoom_15 : decode cX3_hasRoom 15 = .ok (.if_icmp .lt 12, 3) := by decide +kernel
theorem dX3_hasRoom_18 : decode cX3_hasRoom 18 = .ok (.aload_n 0, 1) := by decide +kernel
theorem dX3_hasRoom_19 : decode cX3_hasRoom 19 = .ok (.iload_n 1, 1) := by decide +kernel
theorem dX3_hasRoom_20 : decode cX3_hasRoom 20 = .ok (.invokevirtual 50, 3) := by decide +kernel
theorem dX3_hasRoom_23 : decode cX3_hasRoom 23 = .ok (.iconst (-1), 1) := by decide +kernel
theorem dX3_hasRoom_24 : decode cX3_hasRoom 24 = .ok (.if_icmp .eq 7, 3) := by decide +kernel
theorem dX3_hasRoom_27 : decode cX3_hasRoom 27 = .ok (.iconst 1, 1) := by decide +kernel
theorem dX3_hasRoom_28 : decode cX3_hasRoom 28 = .ok (.goto 4, 3) := by decide +kernel
theorem dX3_hasRoom_31 : decode cX3_hasRoom 31 = .ok (.iconst 0, 1) := by decide +kernel
theorem dX3_hasRoom_32 : decode cX3_hasRoom 32 = .ok (.ireturn, 1) := by decide +kernel
set_option maxRecDepth 20000 in
theorem ggX3_make_X3_hasRoom : GoodIn wsX3_make wsX3_hasRoom := goodIn_r _ [14, 4, 1, 15, 16, 17, 13, 18, 2, 19, 20, 21, 22, 23, 24, 25, 26, 27, 28] (by decide +kernel) (by decide +kernel)
set_option maxRecDepth 20000 in
theorem gX3_make_X3_hasRoom : GoodIn wsX3_make (wsV RX3 54 RX3 yX3_hasRoom wsX3_hasRoom) := goodIn_app (goodIn_of _ (by decide +kernel)) ggX3_make_X3_hasRoom
set_option maxRecDepth 20000 in
theorem ggX3_make_X3_findEvent : GoodIn wsX3_make wsX3_findEvent := goodIn_r _ [18, 1, 2, 19, 20, 21, 22, 23, 24, 25, 26, 27, 28] (by decide +kernel) (by decide +kernel)
set_option maxRecDepth 20000 in
theorem gX3_make_X3_findEvent : GoodIn wsX3_make (wsV RX3 50 RX3 yX3_findEvent wsX3_findEvent) := goodIn_app (goodIn_of _ (by decide +kernel)) ggX3_make_X3_findEvent
theorem dX3_make_0 : decode cX3_make 0 = .ok (.aload_n 0, 1) := by decide +kernel
theorem dX3_make_1 : decode cX3_make 1 = .ok (.iload_n 1, 1) := by decide +kernel
theorem dX3_make_2 : decode cX3_make 2 = .ok (.invokevirtual 54, 3) := by decide +kernel
theorem dX3_make_5 : decode cX3_make 5 = .ok (.ifCond .ne 4, 3) := by decide +kernel
theorem dX3_make_8 : decode cX3_make 8 = .ok (.return_, 1) := by decide +kernel
theorem dX3_make_9 : decode cX3_make 9 = .ok (.aload_n 0, 1) := by decide +kernel
theorem dX3_make_10 : decode cX3_make 10 = .ok (.iload_n 1, 1) := by decide +kernel
theorem dX3_make_11 : decode cX3_make 11 = .ok (.invokevirtual 50, 3) := by decide +kernel
theorem dX3_make_14 : decode cX3_make 14 = .ok (.istore 7, 2) := by decide +kernel
theorem dX3_make_16 : decode cX3_make 16 = .ok (.iload 7, 2) := by decide +kernel
theorem dX3_make_18 : decode cX3_make 18 = .ok (.iconst (-1), 1) := by decide +kernel
theorem dX3_make_19 : decode cX3_make 19 = .ok (.if_icmp .ne 29, 3) := by decide +kernel
theorem dX3_make_22 : decode cX3_make 22 = .ok (.aload_n 0, 1) := by decide +kernel
theorem dX3_make_23 : decode cX3_make 23 = .ok (.getfield 47, 3) := by decide +kernel
theorem dX3_make_26 : decode cX3_make 26 = .ok (.istore 7, 2) := by decide +kernel
theorem dX3_make_28 : decode cX3_make 28 = .ok (.aload_n 0, 1) := by decide +kernel
theorem dX3_make_29 : decode cX3_make 29 = .ok (.getfield 9, 3) := by decide +kernel
theorem dX3_make_32 : decode cX3_make 32 = .ok (.aload_n 0, 1) := by decide +kernel
theorem dX3_make_33 : decode cX3_make 33 = .ok (.getfield 47, 3) := by decide +kernel
theorem dX3_make_36 : decode cX3_make 36 = .ok (.iload_n 1, 1) := by decide +kernel
theorem dX3_make_37 : decode cX3_make 37 = .ok (.iastore, 1) := by decide +kernel
theorem dX3_make_38 : decode cX3_make 38 = .ok (.aload_n 0, 1) := by decide +kernel
theorem dX3_make_39 : decode cX3_make 39 = .ok (.dup, 1) := by decide +kernel
theorem dX3_make_40 : decode cX3_make 40 = .ok (.getfield 47, 3) := by decide +kernel
theorem dX3_make_43 : decode cX3_make 43 = .ok (.iconst 1, 1) := by decide +kernel
theorem dX3_make_44 : decode cX3_make 44 = .ok (.iadd, 1) := by decide +kernel
theorem dX3_make_45 : decode cX3_make 45 = .ok (.putfield 47, 3) := by decide +kernel
theorem dX3_make_48 : decode cX3_make 48 = .ok (.aload_n 0, 1) := by decide +kernel
theorem dX3_make_49 : decode cX3_make 49 = .ok (.getfield 15, 3) := by decide +kernel
theorem dX3_make_52 : decode cX3_make 52 = .ok (.aload_n 0, 1) := by decide +kernel
theorem dX3_make_53 : decode cX3_make 53 = .ok (.getfield 43, 3) := by decide +kernel
theorem dX3_make_56 : decode cX3_make 56 = .ok (.iload 7, 2) := by decide +kernel
theorem dX3_make_58 : decode cX3_make 58 = .ok (.iastore, 1) := by decide +kernel
theorem dX3_make_59 : decode cX3_make 59 = .ok (.aload_n 0, 1) := by decide +kernel
theorem dX3_make_60 : decode cX3_make 60 = .ok (.getfield 18, 3) := by decide +kernel
theorem dX3_make_63 : decode cX3_make 63 = .ok (.aload_n 0, 1) := by decide +kernel
theorem dX3_make_64 : decode cX3_make 64 = .ok (.getfield 43, 3) := by decide +kernel
theorem dX3_make_67 : decode cX3_make 67 = .ok (.iload_n 2, 1) := by decide +kernel
theorem dX3_make_68 : decode cX3_make 68 = .ok (.iastore, 1) := by decide +kernel
theorem dX3_make_69 : decode cX3_make 69 = .ok (.aload_n 0, 1) := by decide +kernel
theorem dX3_make_70 : decode cX3_make 70 = .ok (.getfield 21, 3) := by decide +kernel
theorem dX3_make_73 : decode cX3_make 73 = .ok (.aload_n 0, 1) := by decide +kernel
theorem dX3_make_74 : decode cX3_make 74 = .ok (.getfield 43, 3) := by decide +kernel
theorem dX3_make_77 : decode cX3_make 77 = .ok (.iload_n 3, 1) := by decide +kernel
theorem dX3_make_78 : decode cX3_make 78 = .ok (.iastore, 1) := by decide +kernel
theorem dX3_make_79 : decode cX3_make 79 = .ok (.aload_n 0, 1) := by decide +kernel
theorem dX3_make_80 : decode cX3_make 80 = .ok (.getfield 24, 3) := by decide +kernel
theorem dX3_make_83 : decode cX3_make 83 = .ok (.aload_n 0, 1) := by decide +kernel
theorem dX3_make_84 : decode cX3_make 84 = .ok (.getfield 43, 3) := by decide +kernel
theorem dX3_make_87 : decode cX3_make 87 = .ok (.iload 4, 2) := by decide +kernel
theorem dX3_make_89 : decode cX3_make 89 = .ok (.iastore, 1) := by decide +kernel
theorem dX3_make_90 : decode cX3_make 90 = .ok (.aload_n 0, 1) := by decide +kernel
theorem dX3_make_91 : decode cX3_make 91 = .ok (.getfield 27, 3) := by decide +kernel
theorem dX3_make_94 : decode cX3_make 94 = .ok (.aload_n 0, 1) := by decide +kernel
theorem dX3_make_95 : decode cX3_make 95 = .ok (.getfield 43, 3) := by decide +kernel
theorem dX3_make_98 : decode cX3_make 98 = .ok (.iload 5, 2) := by decide +kernel
theorem dX3_make_100 : decode cX3_make 100 = .ok (.iastore, 1) := by decide +kernel
theorem dX3_make_101 : decode cX3_make 101 = .ok (.aload_n 0, 1) := by decide +kernel
theorem dX3_make_102 : decode cX3_make 102 = .ok (.getfield 30, 3) := by decide +kernel
theorem dX3_make_105 : decode cX3_make 105 = .ok (.aload_n 0, 1) := by decide +kernel
theorem dX3_make_106 : decode cX3_make 106 = .ok (.getfield 43, 3) := by decide +kernel
theorem dX3_make_109 : decode cX3_make 109 = .ok (.iload 6, 2) := by decide +kernel
theorem dX3_make_111 : decode cX3_make 111 = .ok (.bastore, 1) := by decide +kernel
theorem dX3_make_112 : decode cX3_make 112 = .ok (.aload_n 0, 1) := by decide +kernel
theorem dX3_make_113 : decode cX3_make 113 = .ok (.dup, 1) := by decide +kernel
theorem dX3_make_114 : decode cX3_make 114 = .ok (.getfield 43, 3) := by decide +kernel
theorem dX3_make_117 : decode cX3_make 117 = .ok (.iconst 1, 1) := by decide +kernel
theorem dX3_make_118 : decode cX3_make 118 = .ok (.iadd, 1) := by decide +kernel
theorem dX3_make_119 : decode cX3_make 119 = .ok (.putfield 43, 3) := by decide +kernel
theorem dX3_make_122 : decode cX3_make 122 = .ok (.return_, 1) := by decide +kernel
set_option maxRecDepth 20000 in
theorem ggX3_isFor_X3_isRule : GoodIn wsX3_isFor wsX3_isRule := goodIn_r _ [7, 8, 9, 10, 11, 12, 13, 14, 15, 16, 17, 18] (by decide +kernel) (by decide +kernel)
set_option maxRecDepth 20000 in
theorem gX3_isFor_X3_isRule : GoodIn wsX3_isFor (wsV RX3 58 RX3 yX3_isRule wsX3_isRule) := goodIn_app (goodIn_of _ (by decide +kernel)) ggX3_isFor_X3_isRule
theorem dX3_isFor_0 : decode cX3_isFor 0 = .ok (.aload_n 0, 1) := by decide +kernel
theorem dX3_isFor_1 : decode cX3_isFor 1 = .ok (.iload_n 1, 1) := by decide +kernel
theorem dX3_isFor_2 : decode cX3_isFor 2 = .ok (.invokevirtual 58, 3) := by decide +kernel
theorem dX3_isFor_5 : decode cX3_isFor 5 = .ok (.ifCond .eq 27, 3) := by decide +kernel
theorem dX3_isFor_8 : decode cX3_isFor 8 = .ok (.aload_n 0, 1) := by decide +kernel
theorem dX3_isFor_9 : decode cX3_isFor 9 = .ok (.getfield 15, 3) := by decide +kernel
theorem dX3_isFor_12 : decode cX3_isFor 12 = .ok (.iload_n 1, 1) := by decide +kernel
theorem dX3_isFor_13 : decode cX3_isFor 13 = .ok (.iaload, 1) := by decide +kernel
theorem dX3_isFor_14 : decode cX3_isFor 14 = .ok (.iload_n 2, 1) := by decide +kernel
theorem dX3_isFor_15 : decode cX3_isFor 15 = .ok (.if_icmp .ne 17, 3) := by decide +kernel
theorem dX3_isFor_18 : decode cX3_isFor 18 = .ok (.aload_n 0, 1) := by decide +kernel
theorem dX3_isFor_19 : decode cX3_isFor 19 = .ok (.getfield 18, 3) := by decide +kernel
theorem dX3_isFor_22 : decode cX3_isFor 22 = .ok (.iload_n 1, 1) := by decide +kernel
theorem dX3_isFor_23 : decode cX3_isFor 23 = .ok (.iaload, 1) := by decide +kernel
theorem dX3_isFor_24 : decode cX3_isFor 24 = .ok (.iload_n 3, 1) := by decide +kernel
theorem dX3_isFor_25 : decode cX3_isFor 25 = .ok (.if_icmp .ne 7, 3) := by decide +kernel
theorem dX3_isFor_28 : decode cX3_isFor 28 = .ok (.iconst 1, 1) := by decide +kernel
theorem dX3_isFor_29 : decode cX3_isFor 29 = .ok (.goto 4, 3) := by decide +kernel
theorem dX3_isFor_32 : decode cX3_isFor 32 = .ok (.iconst 0, 1) := by decide +kernel
theorem dX3_isFor_33 : decode cX3_isFor 33 = .ok (.ireturn, 1) := by decide +kernel
set_option maxRecDepth 20000 in
theorem ggX3_targetOf_X3_isRule : GoodIn wsX3_targetOf wsX3_isRule := goodIn_r _ [6, 7, 8, 9, 10, 11, 12, 13, 14, 15, 16, 17] (by decide +kernel) (by decide +kernel)
set_option maxRecDepth 20000 in
theorem gX3_targetOf_X3_isRule : GoodIn wsX3_targetOf (wsV RX3 58 RX3 yX3_isRule wsX3_isRule) := goodIn_app (goodIn_of _ (by decide +kernel)) ggX3_targetOf_X3_isRule
theorem dX3_targetOf_0 : decode cX3_targetOf 0 = .ok (.aload_n 0, 1) := by decide +kernel
theorem dX3_targetOf_1 : decode cX3_targetOf 1 = .ok (.iload_n 1, 1) := by decide +kernel
theorem dX3_targetOf_2 : decode cX3_targetOf 2 = .ok (.invokevirtual 58, 3) := by decide +kernel
theorem dX3_targetOf_5 : decode cX3_targetOf 5 = .ok (.ifCond .eq 12, 3) := by decide +kernel
theorem dX3_targetOf_8 : decode cX3_targetOf 8 = .ok (.aload_n 0, 1) := by decide +kernel
theorem dX3_targetOf_9 : decode cX3_targetOf 9 = .ok (.getfield 21, 3) := by decide +kernel
theorem dX3_targetOf_12 : decode cX3_targetOf 12 = .ok (.iload_n 1, 1) := by decide +kernel
theorem dX3_targetOf_13 : decode cX3_targetOf 13 = .ok (.iaload, 1) := by decide +kernel
theorem dX3_targetOf_14 : decode cX3_targetOf 14 = .ok (.goto 4, 3) := by decide +kernel
theorem dX3_targetOf_17 : decode cX3_targetOf 17 = .ok (.iconst (-1), 1) := by decide +kernel
theorem dX3_targetOf_18 : decode cX3_targetOf 18 = .ok (.ireturn, 1) := by decide +kernel
set_option maxRecDepth 20000 in
theorem ggX3_scopeOf_X3_isRule : GoodIn wsX3_scopeOf wsX3_isRule := goodIn_r _ [6, 7, 8, 9, 10, 11, 12, 13, 14, 15, 16, 17] (by decide +kernel) (by decide +kernel)
set_option maxRecDepth 20000 in
theorem gX3_scopeOf_X3_isRule : GoodIn wsX3_scopeOf (wsV RX3 58 RX3 yX3_isRule wsX3_isRule) := goodIn_app (goodIn_of _ (by decide +kernel)) ggX3_scopeOf_X3_isRule
theorem dX3_scopeOf_0 : decode cX3_scopeOf 0 = .ok (.aload_n 0, 1) := by decide +kernel
theorem dX3_scopeOf_1 : decode cX3_scopeOf 1 = .ok (.iload_n 1, 1) := by decide +kernel
theorem dX3_scopeOf_2 : decode cX3_scopeOf 2 = .ok (.invokevirtual 58, 3) := by decide +kernel
theorem dX3_scopeOf_5 : decode cX3_scopeOf 5 = .ok (.ifCond .eq 12, 3) := by decide +kernel
theorem dX3_scopeOf_8 : decode cX3_scopeOf 8 = .ok (.aload_n 0, 1) := by decide +kernel
theorem dX3_scopeOf_9 : decode cX3_scopeOf 9 = .ok (.getfield 24, 3) := by decide +kernel
theorem dX3_scopeOf_12 : decode cX3_scopeOf 12 = .ok (.iload_n 1, 1) := by decide +kernel
theorem dX3_scopeOf_13 : decode cX3_scopeOf 13 = .ok (.iaload, 1) := by decide +kernel
theorem dX3_scopeOf_14 : decode cX3_scopeOf 14 = .ok (.goto 4, 3) := by decide +kernel
theorem dX3_scopeOf_17 : decode cX3_scopeOf 17 = .ok (.iconst (-1), 1) := by decide +kernel
theorem dX3_scopeOf_18 : decode cX3_scopeOf 18 = .ok (.ireturn, 1) := by decide +kernel
set_option maxRecDepth 20000 in
theorem ggX3_askedOf_X3_isRule : GoodIn wsX3_askedOf wsX3_isRule := goodIn_r _ [6, 7, 8, 9, 10, 11, 12, 13, 14, 15, 16, 17] (by decide +kernel) (by decide +kernel)
set_option maxRecDepth 20000 in
theorem gX3_askedOf_X3_isRule : GoodIn wsX3_askedOf (wsV RX3 58 RX3 yX3_isRule wsX3_isRule) := goodIn_app (goodIn_of _ (by decide +kernel)) ggX3_askedOf_X3_isRule
theorem dX3_askedOf_0 : decode cX3_askedOf 0 = .ok (.aload_n 0, 1) := by decide +kernel
theorem dX3_askedOf_1 : decode cX3_askedOf 1 = .ok (.iload_n 1, 1) := by decide +kernel
theorem dX3_askedOf_2 : decode cX3_askedOf 2 = .ok (.invokevirtual 58, 3) := by decide +kernel
theorem dX3_askedOf_5 : decode cX3_askedOf 5 = .ok (.ifCond .eq 12, 3) := by decide +kernel
theorem dX3_askedOf_8 : decode cX3_askedOf 8 = .ok (.aload_n 0, 1) := by decide +kernel
theorem dX3_askedOf_9 : decode cX3_askedOf 9 = .ok (.getfield 27, 3) := by decide +kernel
theorem dX3_askedOf_12 : decode cX3_askedOf 12 = .ok (.iload_n 1, 1) := by decide +kernel
theorem dX3_askedOf_13 : decode cX3_askedOf 13 = .ok (.iaload, 1) := by decide +kernel
theorem dX3_askedOf_14 : decode cX3_askedOf 14 = .ok (.goto 4, 3) := by decide +kernel
theorem dX3_askedOf_17 : decode cX3_askedOf 17 = .ok (.iconst (-1), 1) := by decide +kernel
theorem dX3_askedOf_18 : decode cX3_askedOf 18 = .ok (.ireturn, 1) := by decide +kernel
set_option maxRecDepth 20000 in
theorem ggX3_isWantedActive_X3_isRule : GoodIn wsX3_isWantedActive wsX3_isRule := goodIn_r _ [6, 7, 8, 9, 10, 11, 12, 13, 14, 15, 16, 17] (by decide +kernel) (by decide +kernel)
set_option maxRecDepth 20000 in
theorem gX3_isWantedActive_X3_isRule : GoodIn wsX3_isWantedActive (wsV RX3 58 RX3 yX3_isRule wsX3_isRule) := goodIn_app (goodIn_of _ (by decide +kernel)) ggX3_isWantedActive_X3_isRule
theorem dX3_isWantedActive_0 : decode cX3_isWantedActive 0 = .ok (.aload_n 0, 1) := by decide +kernel
theorem dX3_isWantedActive_1 : decode cX3_isWantedActive 1 = .ok (.iload_n 1, 1) := by decide +kernel
theorem dX3_isWantedActive_2 : decode cX3_isWantedActive 2 = .ok (.invokevirtual 58, 3) := by decide +kernel
theorem dX3_isWantedActive_5 : decode cX3_isWantedActive 5 = .ok (.ifCond .eq 16, 3) := by decide +kernel
theorem dX3_isWantedActive_8 : decode cX3_isWantedActive 8 = .ok (.aload_n 0, 1) := by decide +kernel
theorem dX3_isWantedActive_9 : decode cX3_isWantedActive 9 = .ok (.getfield 30, 3) := by decide +kernel
theorem dX3_isWantedActive_12 : decode cX3_isWantedActive 12 = .ok (.iload_n 1, 1) := by decide +kernel
theorem dX3_isWantedActive_13 : decode cX3_isWantedActive 13 = .ok (.baload, 1) := by decide +kernel
theorem dX3_isWantedActive_14 : decode cX3_isWantedActive 14 = .ok (.ifCond .eq 7, 3) := by decide +kernel
theorem dX3_isWantedActive_17 : decode cX3_isWantedActive 17 = .ok (.iconst 1, 1) := by decide +kernel
theorem dX3_isWantedActive_18 : decode cX3_isWantedActive 18 = .ok (.goto 4, 3) := by decide +kernel
theorem dX3_isWantedActive_21 : decode cX3_isWantedActive 21 = .ok (.iconst 0, 1) := by decide +kernel
theorem dX3_isWantedActive_22 : decode cX3_isWantedActive 22 = .ok (.ireturn, 1) := by decide +kernel
set_option maxRecDepth 20000 in
theorem ggX4_init_X1_init : GoodIn wsX4_init wsX1_init := goodIn_r _ [20, 21, 2, 3, 22, 23, 24, 25, 26, 27, 28, 29, 4, 30, 40, 41, 42, 43] (by decide +kernel) (by decide +kernel)
set_option maxRecDepth 20000 in
theorem gX4_init_X1_init : GoodIn wsX4_init (wsX1_init) := ggX4_init_X1_init
end
section
theorem dX4_init_0 : decode cX4_init 0 = .ok (.aload_n 0, 1) := by decide +kernel
theorem dX4_init_1 : decode cX4_init 1 = .ok (.invokespecial 3, 3) := by decide +kernel
theorem dX4_init_4 : decode cX4_init 4 = .ok (.aload_n 0, 1) := by decide +kernel
theorem dX4_init_5 : decode cX4_init 5 = .ok (.bipush 14, 2) := by decide +kernel
theorem dX4_init_7 : decode cX4_init 7 = .ok (.newarray .int, 2) := by decide +kernel
theorem dX4_init_9 : decode cX4_init 9 = .ok (.putfield 9, 3) := by decide +kernel
theorem dX4_init_12 : decode cX4_init 12 = .ok (.aload_n 0, 1) := by decide +kernel
theorem dX4_init_13 : decode cX4_init 13 = .ok (.bipush 14, 2) := by decide +kernel
theorem dX4_init_15 : decode cX4_init 15 = .ok (.newarray .int, 2) := by decide +kernel
theorem dX4_init_17 : decode cX4_init 17 = .ok (.putfield 15, 3) := by decide +kernel
theorem dX4_init_20 : decode cX4_init 20 = .ok (.aload_n 0, 1) := by decide +kernel
theorem dX4_init_21 : decode cX4_init 21 = .ok (.bipush 14, 2) := by decide +kernel
theorem dX4_init_23 : decode cX4_init 23 = .ok (.newarray .int, 2) := by decide +kernel
theorem dX4_init_25 : decode cX4_init 25 = .ok (.putfield 18, 3) := by decide +kernel
theorem dX4_init_28 : decode cX4_init 28 = .ok (.aload_n 0, 1) := by decide +kernel
theorem dX4_init_29 : decode cX4_init 29 = .ok (.bipush 14, 2) := by decide +kernel
theorem dX4_init_31 : decode cX4_init 31 = .ok (.newarray .int, 2) := by decide +kernel
theorem dX4_init_33 : decode cX4_init 33 = .ok (.putfield 21, 3) := by decide +kernel
theorem dX4_init_36 : decode cX4_init 36 = .ok (.aload_n 0, 1) := by decide +kernel
theorem dX4_init_37 : decode cX4_init 37 = .ok (.bipush 14, 2) := by decide +kernel
theorem dX4_init_39 : decode cX4_init 39 = .ok (.newarray .boolean, 2) := by decide +kernel
theorem dX4_init_41 : decode cX4_init 41 = .ok (.putfield 24, 3) := by decide +kernel
theorem dX4_init_44 : decode cX4_init 44 = .ok (.aload_n 0, 1) := by decide +kernel
theorem dX4_init_45 : decode cX4_init 45 = .ok (.bipush 14, 2) := by decide +kernel
theorem dX4_init_47 : decode cX4_init 47 = .ok (.newarray .boolean, 2) := by decide +kernel
theorem dX4_init_49 : decode cX4_init 49 = .ok (.putfield 28, 3) := by decide +kernel
theorem dX4_init_52 : decode cX4_init 52 = .ok (.aload_n 0, 1) := by decide +kernel
theorem dX4_init_53 : decode cX4_init 53 = .ok (.new 31, 3) := by decide +kernel
theorem dX4_init_56 : decode cX4_init 56 = .ok (.dup, 1) := by decide +kernel
theorem dX4_init_57 : decode cX4_init 57 = .ok (.bipush 14, 2) := by decide +kernel
theorem dX4_init_59 : decode cX4_init 59 = .ok (.bipush 6, 2) := by decide +kernel
theorem dX4_init_61 : decode cX4_init 61 = .ok (.invokespecial 33, 3) := by decide +kernel
theorem dX4_init_64 : decode cX4_init 64 = .ok (.putfield 36, 3) := by decide +kernel
theorem dX4_init_67 : decode cX4_init 67 = .ok (.aload_n 0, 1) := by decide +kernel
theorem dX4_init_68 : decode cX4_init 68 = .ok (.new 31, 3) := by decide +kernel
theorem dX4_init_71 : decode cX4_init 71 = .ok (.dup, 1) := by decide +kernel
theorem dX4_init_72 : decode cX4_init 72 = .ok (.bipush 14, 2) := by decide +kernel
theorem dX4_init_74 : decode cX4_init 74 = .ok (.bipush 6, 2) := by decide +kernel
theorem dX4_init_76 : decode cX4_init 76 = .ok (.invokespecial 33, 3) := by decide +kernel
theorem dX4_init_79 : decode cX4_init 79 = .ok (.putfield 40, 3) := by decide +kernel
theorem dX4_init_82 : decode cX4_init 82 = .ok (.aload_n 0, 1) := by decide +kernel
theorem dX4_init_83 : decode cX4_init 83 = .ok (.getfield 9, 3) := by decide +kernel
theorem dX4_init_86 : decode cX4_init 86 = .ok (.iconst 0, 1) := by decide +kernel
theorem dX4_init_87 : decode cX4_init 87 = .ok (.sipush 15001, 3) := by decide +kernel
theorem dX4_init_90 : decode cX4_init 90 = .ok (.iastore, 1) := by decide +kernel
theorem dX4_init_91 : decode cX4_init 91 = .ok (.aload_n 0, 1) := by decide +kernel
theorem dX4_init_92 : decode cX4_init 92 = .ok (.getfield 15, 3) := by decide +kernel
theorem dX4_init_95 : decode cX4_init 95 = .ok (.iconst 0, 1) := by decide +kernel
theorem dX4_init_96 : decode cX4_init 96 = .ok (.iconst (-1), 1) := by decide +kernel
theorem dX4_init_97 : decode cX4_init 97 = .ok (.iastore, 1) := by decide +kernel
theorem dX4_init_98 : decode cX4_init 98 = .ok (.aload_n 0, 1) := by decide +kernel
theorem dX4_init_99 : decode cX4_init 99 = .ok (.getfield 21, 3) := by decide +kernel
theorem dX4_init_102 : decode cX4_init 102 = .ok (.iconst 0, 1) := by decide +kernel
theorem dX4_init_103 : decode cX4_init 103 = .ok (.iconst (-1), 1) := by decide +kernel
theorem dX4_init_104 : decode cX4_init 104 = .ok (.iastore, 1) := by decide +kernel
theorem dX4_init_105 : decode cX4_init 105 = .ok (.aload_n 0, 1) := by decide +kernel
theorem dX4_init_106 : decode cX4_init 106 = .ok (.iconst 1, 1) := by decide +kernel
theorem dX4_init_107 : decode cX4_init 107 = .ok (.putfield 43, 3) := by decide +kernel
theorem dX4_init_110 : decode cX4_init 110 = .ok (.return_, 1) := by decide +kernel
theorem dX4_made_0 : decode cX4_made 0 = .ok (.aload_n 0, 1) := by decide +kernel
theorem dX4_made_1 : decode cX4_made 1 = .ok (.getfield 43, 3) := by decide +kernel
theorem dX4_made_4 : decode cX4_made 4 = .ok (.ireturn, 1) := by decide +kernel
theorem dX4_isFull_0 : decode cX4_isFull 0 = .ok (.aload_n 0, 1) := by decide +kernel
theorem dX4_isFull_1 : decode cX4_isFull 1 = .ok (.getfield 43, 3) := by decide +kernel
theorem dX4_isFull_4 : decode cX4_isFull 4 = .ok (.bipush 14, 2) := by decide +kernel
theorem dX4_isFull_6 : decode cX4_isFull 6 = .ok (.if_icmp .lt 7, 3) := by decide +kernel
theorem dX4_isFull_9 : decode cX4_isFull 9 = .ok (.iconst 1, 1) := by decide +kernel
theorem dX4_isFull_10 : decode cX4_isFull 10 = .ok (.goto 4, 3) := by decide +kernel
theorem dX4_isFull_13 : decode cX4_isFull 13 = .ok (.iconst 0, 1) := by decide +kernel
theorem dX4_isFull_14 : decode cX4_isFull 14 = .ok (.ireturn, 1) := by decide +kernel
theorem dX4_isState_0 : decode cX4_isState 0 = .ok (.iload_n 1, 1) := by decide +kernel
theorem dX4_isState_1 : decode cX4_isState 1 = .ok (.ifCond .lt 15, 3) := by decide +kernel
theorem dX4_isState_4 : decode cX4_isState 4 = .ok (.iload_n 1, 1) := by decide +kernel
theorem dX4_isState_5 : decode cX4_isState 5 = .ok (.aload_n 0, 1) := by decide +kernel
theorem dX4_isState_6 : decode cX4_isState 6 = .ok (.getfield 43, 3) := by decide +kernel
theorem dX4_isState_9 : decode cX4_isState 9 = .ok (.if_icmp .ge 7, 3) := by decide +kernel
theorem dX4_isState_12 : decode cX4_isState 12 = .ok (.iconst 1, 1) := by decide +kernel
theorem dX4_isState_13 : decode cX4_isState 13 = .ok (.goto 4, 3) := by decide +kernel
theorem dX4_isState_16 : decode cX4_isState 16 = .ok (.iconst 0, 1) := by decide +kernel
theorem dX4_isState_17 : decode cX4_isState 17 = .ok (.ireturn, 1) := by decide +kernel
theorem dX4_entering_0 : decode cX4_entering 0 = .ok (.aload_n 0, 1) := by decide +kernel
theorem dX4_entering_1 : decode cX4_entering 1 = .ok (.getfield 36, 3) := by decide +kernel
theorem dX4_entering_4 : decode cX4_entering 4 = .ok (.areturn, 1) := by decide +kernel
theorem dX4_leaving_0 : decode cX4_leaving 0 = .ok (.aload_n 0, 1) := by decide +kernel
theorem dX4_leaving_1 : decode cX4_leaving 1 = .ok (.getfield 40, 3) := by decide +kernel
theorem dX4_leaving_4 : decode cX4_leaving 4 = .ok (.areturn, 1) := by decide +kernel
theorem dX4_find_0 : decode cX4_find 0 = .ok (.iconst 0, 1) := by decide +kernel
theorem dX4_find_1 : decode cX4_find 1 = .ok (.istore_n 2, 1) := by decide +kernel
theorem dX4_find_2 : decode cX4_find 2 = .ok (.iload_n 2, 1) := by decide +kernel
theorem dX4_find_3 : decode cX4_find 3 = .ok (.aload_n 0, 1) := by decide +kernel
theorem dX4_find_4 : decode cX4_find 4 = .ok (.getfield 43, 3) := by decide +kernel
theorem dX4_find_7 : decode cX4_find 7 = .ok (.if_icmp .ge 21, 3) := by decide +kernel
theorem dX4_find_10 : decode cX4_find 10 = .ok (.aload_n 0, 1) := by decide +kernel
theorem dX4_find_11 : decode cX4_find 11 = .ok (.getfield 9, 3) := by decide +kernel
theorem dX4_find_14 : decode cX4_find 14 = .ok (.iload_n 2, 1) := by decide +kernel
theorem dX4_find_15 : decode cX4_find 15 = .ok (.iaload, 1) := by decide +kernel
theorem dX4_find_16 : decode cX4_find 16 = .ok (.iload_n 1, 1) := by decide +kernel
theorem dX4_find_17 : decode cX4_find 17 = .ok (.if_icmp .ne 5, 3) := by decide +kernel
theorem dX4_find_20 : decode cX4_find 20 = .ok (.iload_n 2, 1) := by decide +kernel
theorem dX4_find_21 : decode cX4_find 21 = .ok (.ireturn, 1) := by decide +kernel
theorem dX4_find_22 : decode cX4_find 22 = .ok (.iinc 2 1, 3) := by decide +kernel
theorem dX4_find_25 : decode cX4_find 25 = .ok (.goto (-23), 3) := by decide +kernel
theorem dX4_find_28 : decode cX4_find 28 = .ok (.iconst (-1), 1) := by decide +kernel
theorem dX4_find_29 : decode cX4_find 29 = .ok (.ireturn, 1) := by decide +kernel
set_option maxRecDepth 20000 in
theorem ggX4_make_X4_isFull : GoodIn wsX4_make wsX4_isFull := goodIn_r _ [12, 2, 17, 18, 19, 20, 21, 22, 23, 24, 25] (by decide +kernel) (by decide +kernel)
set_option maxRecDepth 20000 in
theorem gX4_make_X4_isFull : GoodIn wsX4_make (wsV RX4 47 RX4 yX4_isFull wsX4_isFull) := goodIn_app (goodIn_of _ (by decide +kernel)) ggX4_make_X4_isFull
set_option maxRecDepth 20000 in
theorem ggX4_make_X4_isState : GoodIn wsX4_make wsX4_isState := goodIn_r _ [16, 2, 17, 18, 19, 20, 21, 22, 23, 24, 25] (by decide +kernel) (by decide +kernel)
set_option maxRecDepth 20000 in
theorem gX4_make_X4_isState : GoodIn wsX4_make (wsV RX4 51 RX4 yX4_isState wsX4_isState) := goodIn_app (goodIn_of _ (by decide +kernel)) ggX4_make_X4_isState
theorem dX4_make_0 : decode cX4_make 0 = .ok (.aload_n 0, 1) := by decide +kernel
theorem dX4_make_1 : decode cX4_make 1 = .ok (.invokevirtual 47, 3) := by decide +kernel
theorem dX4_make_4 : decode cX4_make 4 = .ok (.ifCond .ne 11, 3) := by decide +kernel
theorem dX4_make_7 : decode cX4_make 7 = .ok (.aload_n 0, 1) := by decide +kernel
theorem dX4_make_8 : decode cX4_make 8 = .ok (.iload_n 2, 1) := by decide +kernel
theorem dX4_make_9 : decode cX4_make 9 = .ok (.invokevirtual 51, 3) := by decide +kernel
theorem dX4_make_12 : decode cX4_make 12 = .ok (.ifCond .ne 4, 3) := by decide +kernel
theorem dX4_make_15 : decode cX4_make 15 = .ok (.return_, 1) := by decide +kernel
theorem dX4_make_16 : decode cX4_make 16 = .ok (.aload_n 0, 1) := by decide +kernel
theorem dX4_make_17 : decode cX4_make 17 = .ok (.getfield 9, 3) := by decide +kernel
theorem dX4_make_20 : decode cX4_make 20 = .ok (.aload_n 0, 1) := by decide +kernel
theorem dX4_make_21 : decode cX4_make 21 = .ok (.getfield 43, 3) := by decide +kernel
theorem dX4_make_24 : decode cX4_make 24 = .ok (.iload_n 1, 1) := by decide +kernel
theorem dX4_make_25 : decode cX4_make 25 = .ok (.iastore, 1) := by decide +kernel
theorem dX4_make_26 : decode cX4_make 26 = .ok (.aload_n 0, 1) := by decide +kernel
theorem dX4_make_27 : decode cX4_make 27 = .ok (.getfield 15, 3) := by decide +kernel
theorem dX4_make_30 : decode cX4_make 30 = .ok (.aload_n 0, 1) := by decide +kernel
theorem dX4_make_31 : decode cX4_make 31 = .ok (.getfield 43, 3) := by decide +kernel
theorem dX4_make_34 : decode cX4_make 34 = .ok (.iload_n 2, 1) := by decide +kernel
theorem dX4_make_35 : decode cX4_make 35 = .ok (.iastore, 1) := by decide +kernel
theorem dX4_make_36 : decode cX4_make 36 = .ok (.aload_n 0, 1) := by decide +kernel
theorem dX4_make_37 : decode cX4_make 37 = .ok (.getfield 18, 3) := by decide +kernel
theorem dX4_make_40 : decode cX4_make 40 = .ok (.aload_n 0, 1) := by decide +kernel
theorem dX4_make_41 : decode cX4_make 41 = .ok (.getfield 43, 3) := by decide +kernel
theorem dX4_make_44 : decode cX4_make 44 = .ok (.aload_n 0, 1) := by decide +kernel
theorem dX4_make_45 : decode cX4_make 45 = .ok (.getfield 18, 3) := by decide +kernel
theorem dX4_make_48 : decode cX4_make 48 = .ok (.iload_n 2, 1) := by decide +kernel
theorem dX4_make_49 : decode cX4_make 49 = .ok (.iaload, 1) := by decide +kernel
theorem dX4_make_50 : decode cX4_make 50 = .ok (.iconst 1, 1) := by decide +kernel
theorem dX4_make_51 : decode cX4_make 51 = .ok (.iadd, 1) := by decide +kernel
theorem dX4_make_52 : decode cX4_make 52 = .ok (.iastore, 1) := by decide +kernel
theorem dX4_make_53 : decode cX4_make 53 = .ok (.aload_n 0, 1) := by decide +kernel
theorem dX4_make_54 : decode cX4_make 54 = .ok (.getfield 21, 3) := by decide +kernel
theorem dX4_make_57 : decode cX4_make 57 = .ok (.aload_n 0, 1) := by decide +kernel
theorem dX4_make_58 : decode cX4_make 58 = .ok (.getfield 43, 3) := by decide +kernel
theorem dX4_make_61 : decode cX4_make 61 = .ok (.iconst (-1), 1) := by decide +kernel
theorem dX4_make_62 : decode cX4_make 62 = .ok (.iastore, 1) := by decide +kernel
theorem dX4_make_63 : decode cX4_make 63 = .ok (.aload_n 0, 1) := by decide +kernel
theorem dX4_make_64 : decode cX4_make 64 = .ok (.getfield 24, 3) := by decide +kernel
theorem dX4_make_67 : decode cX4_make 67 = .ok (.aload_n 0, 1) := by decide +kernel
theorem dX4_make_68 : decode cX4_make 68 = .ok (.getfield 43, 3) := by decide +kernel
theorem dX4_make_71 : decode cX4_make 71 = .ok (.iload_n 3, 1) := by decide +kernel
theorem dX4_make_72 : decode cX4_make 72 = .ok (.bastore, 1) := by decide +kernel
theorem dX4_make_73 : decode cX4_make 73 = .ok (.aload_n 0, 1) := by decide +kernel
theorem dX4_make_74 : decode cX4_make 74 = .ok (.getfield 28, 3) := by decide +kernel
theorem dX4_make_77 : decode cX4_make 77 = .ok (.aload_n 0, 1) := by decide +kernel
theorem dX4_make_78 : decode cX4_make 78 = .ok (.getfield 43, 3) := by decide +kernel
theorem dX4_make_81 : decode cX4_make 81 = .ok (.iload 4, 2) := by decide +kernel
theorem dX4_make_83 : decode cX4_make 83 = .ok (.bastore, 1) := by decide +kernel
theorem dX4_make_84 : decode cX4_make 84 = .ok (.aload_n 0, 1) := by decide +kernel
theorem dX4_make_85 : decode cX4_make 85 = .ok (.getfield 21, 3) := by decide +kernel
theorem dX4_make_88 : decode cX4_make 88 = .ok (.iload_n 2, 1) := by decide +kernel
theorem dX4_make_89 : decode cX4_make 89 = .ok (.iaload, 1) := by decide +kernel
theorem dX4_make_90 : decode cX4_make 90 = .ok (.iconst (-1), 1) := by decide +kernel
theorem dX4_make_91 : decode cX4_make 91 = .ok (.if_icmp .ne 13, 3) := by decide +kernel
theorem dX4_make_94 : decode cX4_make 94 = .ok (.aload_n 0, 1) := by decide +kernel
theorem dX4_make_95 : decode cX4_make 95 = .ok (.getfield 21, 3) := by decide +kernel
theorem dX4_make_98 : decode cX4_make 98 = .ok (.iload_n 2, 1) := by decide +kernel
theorem dX4_make_99 : decode cX4_make 99 = .ok (.aload_n 0, 1) := by decide +kernel
theorem dX4_make_100 : decode cX4_make 100 = .ok (.getfield 43, 3) := by decide +kernel
theorem dX4_make_103 : decode cX4_make 103 = .ok (.iastore, 1) := by decide +kernel
theorem dX4_make_104 : decode cX4_make 104 = .ok (.aload_n 0, 1) := by decide +kernel
theorem dX4_make_105 : decode cX4_make 105 = .ok (.dup, 1) := by decide +kernel
theorem dX4_make_106 : decode cX4_make 106 = .ok (.getfield 43, 3) := by decide +kernel
theorem dX4_make_109 : decode cX4_make 109 = .ok (.iconst 1, 1) := by decide +kernel
theorem dX4_make_110 : decode cX4_make 110 = .ok (.iadd, 1) := by decide +kernel
theorem dX4_make_111 : decode cX4_make 111 = .ok (.putfield 43, 3) := by decide +kernel
theorem dX4_make_114 : decode cX4_make 114 = .ok (.return_, 1) := by decide +kernel
set_option maxRecDepth 20000 in
theorem ggX4_parentOf_X4_isState : GoodIn wsX4_parentOf wsX4_isState := goodIn_r _ [6, 7, 8, 9, 10, 11, 12, 13, 14, 15, 16] (by decide +kernel) (by decide +kernel)
set_option maxRecDepth 20000 in
theorem gX4_parentOf_X4_isState : GoodIn wsX4_parentOf (wsV RX4 51 RX4 yX4_isState wsX4_isState) := goodIn_app (goodIn_of _ (by decide +kernel)) ggX4_parentOf_X4_isState
theorem dX4_parentOf_0 : decode cX4_parentOf 0 = .ok (.aload_n 0, 1) := by decide +kernel
theorem dX4_parentOf_1 : decode cX4_parentOf 1 = .ok (.iload_n 1, 1) := by decide +kernel
theorem dX4_parentOf_2 : decode cX4_parentOf 2 = .ok (.invokevirtual 51, 3) := by decide +kernel
theorem dX4_parentOf_5 : decode cX4_parentOf 5 = .ok (.ifCond .eq 12, 3) := by decide +kernel
theorem dX4_parentOf_8 : decode cX4_parentOf 8 = .ok (.aload_n 0, 1) := by decide +kernel
theorem dX4_parentOf_9 : decode cX4_parentOf 9 = .ok (.getfield 15, 3) := by decide +kernel
theorem dX4_parentOf_12 : decode cX4_parentOf 12 = .ok (.iload_n 1, 1) := by decide +kernel
theorem dX4_parentOf_13 : decode cX4_parentOf 13 = .ok (.iaload, 1) := by decide +kernel
theorem dX4_parentOf_14 : decode cX4_parentOf 14 = .ok (.goto 4, 3) := by decide +kernel
theorem dX4_parentOf_17 : decode cX4_parentOf 17 = .ok (.iconst (-1), 1) := by decide +kernel
theorem dX4_parentOf_18 : decode cX4_parentOf 18 = .ok (.ireturn, 1) := by decide +kernel
set_option maxRecDepth 20000 in
theorem ggX4_depthOf_X4_isState : GoodIn wsX4_depthOf wsX4_isState := goodIn_r _ [6, 7, 8, 9, 10, 11, 12, 13, 14, 15, 16] (by decide +kernel) (by decide +kernel)
set_option maxRecDepth 20000 in
theorem gX4_depthOf_X4_isState : GoodIn wsX4_depthOf (wsV RX4 51 RX4 yX4_isState wsX4_isState) := goodIn_app (goodIn_of _ (by decide +kernel)) ggX4_depthOf_X4_isState
theorem dX4_depthOf_0 : decode cX4_depthOf 0 = .ok (.aload_n 0, 1) := by decide +kernel
theorem dX4_depthOf_1 : decode cX4_depthOf 1 = .ok (.iload_n 1, 1) := by decide +kernel
theorem dX4_depthOf_2 : decode cX4_depthOf 2 = .ok (.invokevirtual 51, 3) := by decide +kernel
theorem dX4_depthOf_5 : decode cX4_depthOf 5 = .ok (.ifCond .eq 12, 3) := by decide +kernel
theorem dX4_depthOf_8 : decode cX4_depthOf 8 = .ok (.aload_n 0, 1) := by decide +kernel
theorem dX4_depthOf_9 : decode cX4_depthOf 9 = .ok (.getfield 18, 3) := by decide +kernel
theorem dX4_depthOf_12 : decode cX4_depthOf 12 = .ok (.iload_n 1, 1) := by decide +kernel
theorem dX4_depthOf_13 : decode cX4_depthOf 13 = .ok (.iaload, 1) := by decide +kernel
theorem dX4_depthOf_14 : decode cX4_depthOf 14 = .ok (.goto 4, 3) := by decide +kernel
theorem dX4_depthOf_17 : decode cX4_depthOf 17 = .ok (.iconst 0, 1) := by decide +kernel
theorem dX4_depthOf_18 : decode cX4_depthOf 18 = .ok (.ireturn, 1) := by decide +kernel
set_option maxRecDepth 20000 in
theorem ggX4_isWhole_X4_isState : GoodIn wsX4_isWhole wsX4_isState := goodIn_r _ [6, 7, 8, 9, 10, 11, 12, 13, 14, 15, 16] (by decide +kernel) (by decide +kernel)
set_option maxRecDepth 20000 in
theorem gX4_isWhole_X4_isState : GoodIn wsX4_isWhole (wsV RX4 51 RX4 yX4_isState wsX4_isState) := goodIn_app (goodIn_of _ (by decide +kernel)) ggX4_isWhole_X4_isState
theorem dX4_isWhole_0 : decode cX4_isWhole 0 = .ok (.aload_n 0, 1) := by decide +kernel
theorem dX4_isWhole_1 : decode cX4_isWhole 1 = .ok (.iload_n 1, 1) := by decide +kernel
theorem dX4_isWhole_2 : decode cX4_isWhole 2 = .ok (.invokevirtual 51, 3) := by decide +kernel
theorem dX4_isWhole_5 : decode cX4_isWhole 5 = .ok (.ifCond .eq 16, 3) := by decide +kernel
theorem dX4_isWhole_8 : decode cX4_isWhole 8 = .ok (.aload_n 0, 1) := by decide +kernel
theorem dX4_isWhole_9 : decode cX4_isWhole 9 = .ok (.getfield 24, 3) := by decide +kernel
theorem dX4_isWhole_12 : decode cX4_isWhole 12 = .ok (.iload_n 1, 1) := by decide +kernel
theorem dX4_isWhole_13 : decode cX4_isWhole 13 = .ok (.baload, 1) := by decide +kernel
theorem dX4_isWhole_14 : decode cX4_isWhole 14 = .ok (.ifCond .eq 7, 3) := by decide +kernel
theorem dX4_isWhole_17 : decode cX4_isWhole 17 = .ok (.iconst 1, 1) := by decide +kernel
theorem dX4_isWhole_18 : decode cX4_isWhole 18 = .ok (.goto 4, 3) := by decide +kernel
theorem dX4_isWhole_21 : decode cX4_isWhole 21 = .ok (.iconst 0, 1) := by decide +kernel
theorem dX4_isWhole_22 : decode cX4_isWhole 22 = .ok (.ireturn, 1) := by decide +kernel
set_option maxRecDepth 20000 in
theorem ggX4_isRemembering_X4_isState : GoodIn wsX4_isRemembering wsX4_isState := goodIn_r _ [6, 7, 8, 9, 10, 11, 12, 13, 14, 15, 16] (by decide +kernel) (by decide +kernel)
set_option maxRecDepth 20000 in
theorem gX4_isRemembering_X4_isState : GoodIn wsX4_isRemembering (wsV RX4 51 RX4 yX4_isState wsX4_isState) := goodIn_app (goodIn_of _ (by decide +kernel)) ggX4_isRemembering_X4_isState
theorem dX4_isRemembering_0 : decode cX4_isRemembering 0 = .ok (.aload_n 0, 1) := by decide +kernel
theorem dX4_isRemembering_1 : decode cX4_isRemembering 1 = .ok (.iload_n 1, 1) := by decide +kernel
theorem dX4_isRemembering_2 : decode cX4_isRemembering 2 = .ok (.invokevirtual 51, 3) := by decide +kernel
theorem dX4_isRemembering_5 : decode cX4_isRemembering 5 = .ok (.ifCond .eq 16, 3) := by decide +kernel
theorem dX4_isRemembering_8 : decode cX4_isRemembering 8 = .ok (.aload_n 0, 1) := by decide +kernel
theorem dX4_isRemembering_9 : decode cX4_isRemembering 9 = .ok (.getfield 28, 3) := by decide +kernel
theorem dX4_isRemembering_12 : decode cX4_isRemembering 12 = .ok (.iload_n 1, 1) := by decide +kernel
theorem dX4_isRemembering_13 : decode cX4_isRemembering 13 = .ok (.baload, 1) := by decide +kernel
theorem dX4_isRemembering_14 : decode cX4_isRemembering 14 = .ok (.ifCond .eq 7, 3) := by decide +kernel
theorem dX4_isRemembering_17 : decode cX4_isRemembering 17 = .ok (.iconst 1, 1) := by decide +kernel
theorem dX4_isRemembering_18 : decode cX4_isRemembering 18 = .ok (.goto 4, 3) := by decide +kernel
theorem dX4_isRemembering_21 : decode cX4_isRemembering 21 = .ok (.iconst 0, 1) := by decide +kernel
theorem dX4_isRemembering_22 : decode cX4_isRemembering 22 = .ok (.ireturn, 1) := by decide +kernel
set_option maxRecDepth 20000 in
theorem ggX4_currentAtFirst_X4_isState : GoodIn wsX4_currentAtFirst wsX4_isState := goodIn_r _ [7, 8, 9, 10, 11, 12, 13, 14, 15, 16, 17] (by decide +kernel) (by decide +kernel)
set_option maxRecDepth 20000 in
theorem gX4_currentAtFirst_X4_isState : GoodIn wsX4_currentAtFirst (wsV RX4 51 RX4 yX4_isState wsX4_isState) := goodIn_app (goodIn_of _ (by decide +kernel)) ggX4_currentAtFirst_X4_isState
theorem dX4_currentAtFirst_0 : decode cX4_currentAtFirst 0 = .ok (.aload_n 0, 1) := by decide +kernel
theorem dX4_currentAtFirst_1 : decode cX4_currentAtFirst 1 = .ok (.iload_n 1, 1) := by decide +kernel
theorem dX4_currentAtFirst_2 : decode cX4_currentAtFirst 2 = .ok (.invokevirtual 51, 3) := by decide +kernel
theorem dX4_currentAtFirst_5 : decode cX4_currentAtFirst 5 = .ok (.ifCond .eq 21, 3) := by decide +kernel
theorem dX4_currentAtFirst_8 : decode cX4_currentAtFirst 8 = .ok (.aload_n 0, 1) := by decide +kernel
theorem dX4_currentAtFirst_9 : decode cX4_currentAtFirst 9 = .ok (.getfield 24, 3) := by decide +kernel
theorem dX4_currentAtFirst_12 : decode cX4_currentAtFirst 12 = .ok (.iload_n 1, 1) := by decide +kernel
theorem dX4_currentAtFirst_13 : decode cX4_currentAtFirst 13 = .ok (.baload, 1) := by decide +kernel
theorem dX4_currentAtFirst_14 : decode cX4_currentAtFirst 14 = .ok (.ifCond .ne 12, 3) := by decide +kernel
theorem dX4_currentAtFirst_17 : decode cX4_currentAtFirst 17 = .ok (.aload_n 0, 1) := by decide +kernel
theorem dX4_currentAtFirst_18 : decode cX4_currentAtFirst 18 = .ok (.getfield 21, 3) := by decide +kernel
theorem dX4_currentAtFirst_21 : decode cX4_currentAtFirst 21 = .ok (.iload_n 1, 1) := by decide +kernel
theorem dX4_currentAtFirst_22 : decode cX4_currentAtFirst 22 = .ok (.iaload, 1) := by decide +kernel
theorem dX4_currentAtFirst_23 : decode cX4_currentAtFirst 23 = .ok (.goto 4, 3) := by decide +kernel
theorem dX4_currentAtFirst_26 : decode cX4_currentAtFirst 26 = .ok (.iconst (-1), 1) := by decide +kernel
theorem dX4_currentAtFirst_27 : decode cX4_currentAtFirst 27 = .ok (.ireturn, 1) := by decide +kernel
set_option maxRecDepth 20000 in
theorem ggX4_childToward_X4_isState : GoodIn wsX4_childToward wsX4_isState := goodIn_r _ [6, 7, 8, 9, 10, 11, 12, 13, 14, 15, 16] (by decide +kernel) (by decide +kernel)
set_option maxRecDepth 20000 in
theorem gX4_childToward_X4_isState : GoodIn wsX4_childToward (wsV RX4 51 RX4 yX4_isState wsX4_isState) := goodIn_app (goodIn_of _ (by decide +kernel)) ggX4_childToward_X4_isState
theorem dX4_childToward_0 : decode cX4_childToward 0 = .ok (.aload_n 0, 1) := by decide +kernel
theorem dX4_childToward_1 : decode cX4_childToward 1 = .ok (.iload_n 1, 1) := by decide +kernel
theorem dX4_childToward_2 : decode cX4_childToward 2 = .ok (.invokevirtual 51, 3) := by decide +kernel
theorem dX4_childToward_5 : decode cX4_childToward 5 = .ok (.ifCond .ne 5, 3) := by decide +kernel
theorem dX4_childToward_8 : decode cX4_childToward 8 = .ok (.iconst (-1), 1) := by decide +kernel
theorem dX4_childToward_9 : decode cX4_childToward 9 = .ok (.ireturn, 1) := by decide +kernel
theorem dX4_childToward_10 : decode cX4_childToward 10 = .ok (.iload_n 2, 1) := by decide +kernel
theorem dX4_childToward_11 : decode cX4_childToward 11 = .ok (.istore_n 3, 1) := by decide +kernel
theorem dX4_childToward_12 : decode cX4_childToward 12 = .ok (.iconst 0, 1) := by decide +kernel
theorem dX4_childToward_13 : decode cX4_childToward 13 = .ok (.istore 4, 2) := by decide +kernel
theorem dX4_childToward_15 : decode cX4_childToward 15 = .ok (.iload 4, 2) := by decide +kernel
theorem dX4_childToward_17 : decode cX4_childToward 17 = .ok (.bipush 6, 2) := by decide +kernel
theorem dX4_childToward_19 : decode cX4_childToward 19 = .ok (.if_icmp .gt 36, 3) := by decide +kernel
theorem dX4_childToward_22 : decode cX4_childToward 22 = .ok (.aload_n 0, 1) := by decide +kernel
theorem dX4_childToward_23 : decode cX4_childToward 23 = .ok (.iload_n 3, 1) := by decide +kernel
theorem dX4_childToward_24 : decode cX4_childToward 24 = .ok (.invokevirtual 51, 3) := by decide +kernel
theorem dX4_childToward_27 : decode cX4_childToward 27 = .ok (.ifCond .eq 28, 3) := by decide +kernel
theorem dX4_childToward_30 : decode cX4_childToward 30 = .ok (.aload_n 0, 1) := by decide +kernel
theorem dX4_childToward_31 : decode cX4_childToward 31 = .ok (.getfield 15, 3) := by decide +kernel
theorem dX4_childToward_34 : decode cX4_childToward 34 = .ok (.iload_n 3, 1) := by decide +kernel
theorem dX4_childToward_35 : decode cX4_childToward 35 = .ok (.iaload, 1) := by decide +kernel
theorem dX4_childToward_36 : decode cX4_childToward 36 = .ok (.iload_n 1, 1) := by decide +kernel
theorem dX4_childToward_37 : decode cX4_childToward 37 = .ok (.if_icmp .ne 5, 3) := by decide +kernel
theorem dX4_childToward_40 : decode cX4_childToward 40 = .ok (.iload_n 3, 1) := by decide +kernel
theorem dX4_childToward_41 : decode cX4_childToward 41 = .ok (.ireturn, 1) := by decide +kernel
theorem dX4_childToward_42 : decode cX4_childToward 42 = .ok (.aload_n 0, 1) := by decide +kernel
theorem dX4_childToward_43 : decode cX4_childToward 43 = .ok (.getfield 15, 3) := by decide +kernel
theorem dX4_childToward_46 : decode cX4_childToward 46 = .ok (.iload_n 3, 1) := by decide +kernel
theorem dX4_childToward_47 : decode cX4_childToward 47 = .ok (.iaload, 1) := by decide +kernel
theorem dX4_childToward_48 : decode cX4_childToward 48 = .ok (.istore_n 3, 1) := by decide +kernel
theorem dX4_childToward_49 : decode cX4_childToward 49 = .ok (.iinc 4 1, 3) := by decide +kernel
theorem dX4_childToward_52 : decode cX4_childToward 52 = .ok (.goto (-37), 3) := by decide +kernel
theorem dX4_childToward_55 : decode cX4_childToward 55 = .ok (.iconst (-1), 1) := by decide +kernel
theorem dX4_childToward_56 : decode cX4_childToward 56 = .ok (.ireturn, 1) := by decide +kernel
set_option maxRecDepth 20000 in
theorem ggX4_scopeOf_X4_parentOf : GoodIn wsX4_scopeOf wsX4_parentOf := goodIn_r _ [5, 6, 7, 8, 9, 4, 10, 11, 21, 22, 23, 24, 25, 26, 27, 28, 29] (by decide +kernel) (by decide +kernel)
set_option maxRecDepth 20000 in
theorem gX4_scopeOf_X4_parentOf : GoodIn wsX4_scopeOf (wsV RX4 55 RX4 yX4_parentOf wsX4_parentOf) := goodIn_app (goodIn_of _ (by decide +kernel)) ggX4_scopeOf_X4_parentOf
set_option maxRecDepth 20000 in
theorem ggX4_scopeOf_X4_isWhole : GoodIn wsX4_scopeOf wsX4_isWhole := goodIn_r _ [15, 16, 7, 8, 9, 4, 10, 11, 21, 22, 23, 24, 25, 26, 27, 28, 29] (by decide +kernel) (by decide +kernel)
set_option maxRecDepth 20000 in
theorem gX4_scopeOf_X4_isWhole : GoodIn wsX4_scopeOf (wsV RX4 59 RX4 yX4_isWhole wsX4_isWhole) := goodIn_app (goodIn_of _ (by decide +kernel)) ggX4_scopeOf_X4_isWhole
set_option maxRecDepth 20000 in
theorem ggX4_scopeOf_X4_childToward : GoodIn wsX4_scopeOf wsX4_childToward := goodIn_r _ [20, 6, 7, 8, 9, 4, 10, 11, 21, 22, 23, 24, 25, 26, 27, 28, 29] (by decide +kernel) (by decide +kernel)
set_option maxRecDepth 20000 in
theorem gX4_scopeOf_X4_childToward : GoodIn wsX4_scopeOf (wsV RX4 62 RX4 yX4_childToward wsX4_childToward) := goodIn_app (goodIn_of _ (by decide +kernel)) ggX4_scopeOf_X4_childToward
theorem dX4_scopeOf_0 : decode cX4_scopeOf 0 = .ok (.aload_n 0, 1) := by decide +kernel
theorem dX4_scopeOf_1 : decode cX4_scopeOf 1 = .ok (.iload_n 1, 1) := by decide +kernel
theorem dX4_scopeOf_2 : decode cX4_scopeOf 2 = .ok (.invokevirtual 55, 3) := by decide +kernel
theorem dX4_scopeOf_5 : decode cX4_scopeOf 5 = .ok (.istore_n 3, 1) := by decide +kernel
theorem dX4_scopeOf_6 : decode cX4_scopeOf 6 = .ok (.iconst 0, 1) := by decide +kernel
theorem dX4_scopeOf_7 : decode cX4_scopeOf 7 = .ok (.istore 4, 2) := by decide +kernel
theorem dX4_scopeOf_9 : decode cX4_scopeOf 9 = .ok (.iload 4, 2) := by decide +kernel
theorem dX4_scopeOf_11 : decode cX4_scopeOf 11 = .ok (.bipush 6, 2) := by decide +kernel
theorem dX4_scopeOf_13 : decode cX4_scopeOf 13 = .ok (.if_icmp .gt 39, 3) := by decide +kernel
theorem dX4_scopeOf_16 : decode cX4_scopeOf 16 = .ok (.iload_n 3, 1) := by decide +kernel
theorem dX4_scopeOf_17 : decode cX4_scopeOf 17 = .ok (.ifCond .le 35, 3) := by decide +kernel
theorem dX4_scopeOf_20 : decode cX4_scopeOf 20 = .ok (.aload_n 0, 1) := by decide +kernel
theorem dX4_scopeOf_21 : decode cX4_scopeOf 21 = .ok (.iload_n 3, 1) := by decide +kernel
theorem dX4_scopeOf_22 : decode cX4_scopeOf 22 = .ok (.invokevirtual 59, 3) := by decide +kernel
theorem dX4_scopeOf_25 : decode cX4_scopeOf 25 = .ok (.ifCond .ne 15, 3) := by decide +kernel
theorem dX4_scopeOf_28 : decode cX4_scopeOf 28 = .ok (.aload_n 0, 1) := by decide +kernel
theorem dX4_scopeOf_29 : decode cX4_scopeOf 29 = .ok (.iload_n 3, 1) := by decide +kernel
theorem dX4_scopeOf_30 : decode cX4_scopeOf 30 = .ok (.iload_n 2, 1) := by decide +kernel
theorem dX4_scopeOf_31 : decode cX4_scopeOf 31 = .ok (.invokevirtual 62, 3) := by decide +kernel
theorem dX4_scopeOf_34 : decode cX4_scopeOf 34 = .ok (.iconst (-1), 1) := by decide +kernel
theorem dX4_scopeOf_35 : decode cX4_scopeOf 35 = .ok (.if_icmp .eq 5, 3) := by decide +kernel
theorem dX4_scopeOf_38 : decode cX4_scopeOf 38 = .ok (.iload_n 3, 1) := by decide +kernel
theorem dX4_scopeOf_39 : decode cX4_scopeOf 39 = .ok (.ireturn, 1) := by decide +kernel
theorem dX4_scopeOf_40 : decode cX4_scopeOf 40 = .ok (.aload_n 0, 1) := by decide +kernel
theorem dX4_scopeOf_41 : decode cX4_scopeOf 41 = .ok (.iload_n 3, 1) := by decide +kernel
theorem dX4_scopeOf_42 : decode cX4_scopeOf 42 = .ok (.invokevirtual 55, 3) := by decide +kernel
theorem dX4_scopeOf_45 : decode cX4_scopeOf 45 = .ok (.istore_n 3, 1) := by decide +kernel
theorem dX4_scopeOf_46 : decode cX4_scopeOf 46 = .ok (.iinc 4 1, 3) := by decide +kernel
theorem dX4_scopeOf_49 : decode cX4_scopeOf 49 = .ok (.goto (-40), 3) := by decide +kernel
theorem dX4_scopeOf_52 : decode cX4_scopeOf 52 = .ok (.iconst 0, 1) := by decide +kernel
theorem dX4_scopeOf_53 : decode cX4_scopeOf 53 = .ok (.ireturn, 1) := by decide +kernel
set_option maxRecDepth 20000 in
theorem ggX5_init_X1_init : GoodIn wsX5_init wsX1_init := goodIn_r _ [19, 20, 2, 3, 21, 22, 23, 24, 25, 26, 27, 28, 8, 29, 38, 39, 40, 41] (by decide +kernel) (by decide +kernel)
set_option maxRecDepth 20000 in
theorem gX5_init_X1_init : GoodIn wsX5_init (wsX1_init) := ggX5_init_X1_init
set_option maxRecDepth 20000 in
theorem ggX5_init_X6_init : GoodIn wsX5_init wsX6_init := goodIn_r _ [32, 33, 2, 3, 8, 34, 35, 36, 37, 51, 52, 53, 54, 55] (by decide +kernel) (by decide +kernel)
set_option maxRecDepth 20000 in
theorem gX5_init_X6_init : GoodIn wsX5_init (wsX6_init) := ggX5_init_X6_init
theorem dX5_init_0 : decode cX5_init 0 = .ok (.aload_n 0, 1) := by decide +kernel
theorem dX5_init_1 : decode cX5_init 1 = .ok (.invokespecial 3, 3) := by decide +kernel
theorem dX5_init_4 : decode cX5_init 4 = .ok (.aload_n 0, 1) := by decide +kernel
theorem dX5_init_5 : decode cX5_init 5 = .ok (.new 9, 3) := by decide +kernel
theorem dX5_init_8 : decode cX5_init 8 = .ok (.dup, 1) := by decide +kernel
theorem dX5_init_9 : decode cX5_init 9 = .ok (.sipush 181, 3) := by decide +kernel
theorem dX5_init_12 : decode cX5_init 12 = .ok (.bipush 40, 2) := by decide +kernel
theorem dX5_init_14 : decode cX5_init 14 = .ok (.invokespecial 11, 3) := by decide +kernel
theorem dX5_init_17 : decode cX5_init 17 = .ok (.putfield 14, 3) := by decide +kernel
theorem dX5_init_20 : decode cX5_init 20 = .ok (.aload_n 0, 1) := by decide +kernel
theorem dX5_init_21 : decode cX5_init 21 = .ok (.sipush 420, 3) := by decide +kernel
theorem dX5_init_24 : decode cX5_init 24 = .ok (.newarray .int, 2) := by decide +kernel
theorem dX5_init_26 : decode cX5_init 26 = .ok (.putfield 20, 3) := by decide +kernel
theorem dX5_init_29 : decode cX5_init 29 = .ok (.aload_n 0, 1) := by decide +kernel
theorem dX5_init_30 : decode cX5_init 30 = .ok (.sipush 180, 3) := by decide +kernel
theorem dX5_init_33 : decode cX5_init 33 = .ok (.newarray .int, 2) := by decide +kernel
theorem dX5_init_35 : decode cX5_init 35 = .ok (.putfield 24, 3) := by decide +kernel
theorem dX5_init_38 : decode cX5_init 38 = .ok (.aload_n 0, 1) := by decide +kernel
theorem dX5_init_39 : decode cX5_init 39 = .ok (.aload_n 1, 1) := by decide +kernel
theorem dX5_init_40 : decode cX5_init 40 = .ok (.putfield 27, 3) := by decide +kernel
theorem dX5_init_43 : decode cX5_init 43 = .ok (.aload_n 0, 1) := by decide +kernel
theorem dX5_init_44 : decode cX5_init 44 = .ok (.aload_n 2, 1) := by decide +kernel
theorem dX5_init_45 : decode cX5_init 45 = .ok (.putfield 31, 3) := by decide +kernel
theorem dX5_init_48 : decode cX5_init 48 = .ok (.aload_n 0, 1) := by decide +kernel
theorem dX5_init_49 : decode cX5_init 49 = .ok (.new 35, 3) := by decide +kernel
theorem dX5_init_52 : decode cX5_init 52 = .ok (.dup, 1) := by decide +kernel
theorem dX5_init_53 : decode cX5_init 53 = .ok (.aload_n 1, 1) := by decide +kernel
theorem dX5_init_54 : decode cX5_init 54 = .ok (.aload_n 2, 1) := by decide +kernel
theorem dX5_init_55 : decode cX5_init 55 = .ok (.aload_n 0, 1) := by decide +kernel
theorem dX5_init_56 : decode cX5_init 56 = .ok (.getfield 14, 3) := by decide +kernel
theorem dX5_init_59 : decode cX5_init 59 = .ok (.invokespecial 37, 3) := by decide +kernel
theorem dX5_init_62 : decode cX5_init 62 = .ok (.putfield 40, 3) := by decide +kernel
theorem dX5_init_65 : decode cX5_init 65 = .ok (.return_, 1) := by decide +kernel
theorem dX5_drop_0 : decode cX5_drop 0 = .ok (.aload_n 0, 1) := by decide +kernel
theorem dX5_drop_1 : decode cX5_drop 1 = .ok (.iconst 0, 1) := by decide +kernel
theorem dX5_drop_2 : decode cX5_drop 2 = .ok (.putfield 44, 3) := by decide +kernel
theorem dX5_drop_5 : decode cX5_drop 5 = .ok (.return_, 1) := by decide +kernel
theorem dX5_size_0 : decode cX5_size 0 = .ok (.aload_n 0, 1) := by decide +kernel
theorem dX5_size_1 : decode cX5_size 1 = .ok (.getfield 44, 3) := by decide +kernel
theorem dX5_size_4 : decode cX5_size 4 = .ok (.ireturn, 1) := by decide +kernel
theorem dX5_place_0 : decode cX5_place 0 = .ok (.aload_n 0, 1) := by decide +kernel
theorem dX5_place_1 : decode cX5_place 1 = .ok (.getfield 44, 3) := by decide +kernel
theorem dX5_place_4 : decode cX5_place 4 = .ok (.ifCond .ne 7, 3) := by decide +kernel
theorem dX5_place_7 : decode cX5_place 7 = .ok (.iconst (-1), 1) := by decide +kernel
theorem dX5_place_8 : decode cX5_place 8 = .ok (.goto 7, 3) := by decide +kernel
theorem dX5_place_11 : decode cX5_place 11 = .ok (.aload_n 0, 1) := by decide +kernel
theorem dX5_place_12 : decode cX5_place 12 = .ok (.getfield 48, 3) := by decide +kernel
theorem dX5_place_15 : decode cX5_place 15 = .ok (.ireturn, 1) := by decide +kernel
theorem dX5_marksNoted_0 : decode cX5_marksNoted 0 = .ok (.aload_n 0, 1) := by decide +kernel
theorem dX5_marksNoted_1 : decode cX5_marksNoted 1 = .ok (.getfield 44, 3) := by decide +kernel
theorem dX5_marksNoted_4 : decode cX5_marksNoted 4 = .ok (.ifCond .ne 7, 3) := by decide +kernel
theorem dX5_marksNoted_7 : decode cX5_marksNoted 7 = .ok (.iconst 0, 1) := by decide +kernel
theorem dX5_marksNoted_8 : decode cX5_marksNoted 8 = .ok (.goto 7, 3) := by decide +kernel
theorem dX5_marksNoted_11 : decode cX5_marksNoted 11 = .ok (.aload_n 0, 1) := by decide +kernel
theorem dX5_marksNoted_12 : decode cX5_marksNoted 12 = .ok (.getfield 51, 3) := by decide +kernel
theorem dX5_marksNoted_15 : decode cX5_marksNoted 15 = .ok (.ireturn, 1) := by decide +kernel
set_option maxRecDepth 20000 in
theorem ggX5_build_X6_start : GoodIn wsX5_build wsX6_start := goodIn_r _ [12, 13, 14, 15, 16, 17, 18, 19, 20, 21, 22, 23, 24, 25, 26, 27, 28, 29, 11, 30, 31, 32, 33, 34, 35, 36, 37, 38, 39, 40, 41, 42, 43, 44, 45, 46, 47, 48, 49, 50, 51, 52, 53, 54, 55, 56, 57, 58, 59, 60, 61, 62, 63, 64, 65, 66, 67, 68, 69, 70, 71, 72, 73, 74, 75, 76, 77, 78, 79, 80, 81, 82, 83, 84, 85, 86, 87, 88, 224, 225, 226, 227, 228, 229, 230, 231, 232, 233, 234, 235, 236, 237, 238, 239, 240, 241] (by decide +kernel) (by decide +kernel)
set_option maxRecDepth 20000 in
theorem gX5_build_X6_start : GoodIn wsX5_build (wsV RX5 54 RX6 yX6_start wsX6_start) := goodIn_app (goodIn_of _ (by decide +kernel)) ggX5_build_X6_start
set_option maxRecDepth 20000 in
theorem ggX5_build_X5_numberOfWalk : GoodIn wsX5_build wsX5_numberOfWalk := goodIn_r _ [93, 1, 94, 2, 95, 96, 97, 92, 98, 99, 100, 101, 102, 103, 104, 105, 106, 107, 108, 23, 24, 18, 25, 26, 109, 86, 87, 11, 88, 13, 215, 216, 217, 218, 219, 220, 221, 222, 223, 229, 230, 231, 232, 233, 234, 235, 236, 237, 224, 225, 226, 227, 228] (by decide +kernel) (by decide +kernel)
set_option maxRecDepth 20000 in
theorem gX5_build_X5_numberOfWalk : GoodIn wsX5_build (wsV RX5 58 RX5 yX5_numberOfWalk wsX5_numberOfWalk) := goodIn_app (goodIn_of _ (by decide +kernel)) ggX5_build_X5_numberOfWalk
set_option maxRecDepth 20000 in
theorem ggX5_build_X3_events : GoodIn wsX5_build wsX3_events := goodIn_r _ [114, 115, 242, 243, 244, 245, 246, 247, 248, 249, 250, 251] (by decide +kernel) (by decide +kernel)
set_option maxRecDepth 20000 in
theorem gX5_build_X3_events : GoodIn wsX5_build (wsV RX5 62 RX3 yX3_events wsX3_events) := goodIn_app (goodIn_of _ (by decide +kernel)) ggX5_build_X3_events
set_option maxRecDepth 20000 in
theorem ggX5_build_X5_cellOf : GoodIn wsX5_build wsX5_cellOf := goodIn_r _ [119, 3, 104, 105, 106, 92, 107, 1, 120, 121, 122, 113, 123, 115, 215, 216, 217, 218, 219, 220, 221, 222, 223, 242, 243, 244, 245, 246, 247, 248, 249, 250, 251] (by decide +kernel) (by decide +kernel)
set_option maxRecDepth 20000 in
theorem gX5_build_X5_cellOf : GoodIn wsX5_build (wsV RX5 67 RX5 yX5_cellOf wsX5_cellOf) := goodIn_app (goodIn_of _ (by decide +kernel)) ggX5_build_X5_cellOf
set_option maxRecDepth 20000 in
theorem ggX5_build_X5_setWalk : GoodIn wsX5_build wsX5_setWalk := goodIn_r _ [127, 2, 99, 100, 101, 92, 102, 103, 94, 104, 105, 106, 107, 1, 108, 23, 24, 18, 25, 26, 128, 82, 83, 11, 84, 13, 215, 216, 217, 218, 219, 220, 221, 222, 223, 229, 230, 231, 232, 233, 234, 235, 236, 237, 224, 225, 226, 227, 228] (by decide +kernel) (by decide +kernel)
set_option maxRecDepth 20000 in
theorem gX5_build_X5_setWalk : GoodIn wsX5_build (wsV RX5 71 RX5 yX5_setWalk wsX5_setWalk) := goodIn_app (goodIn_of _ (by decide +kernel)) ggX5_build_X5_setWalk
set_option maxRecDepth 20000 in
theorem ggX5_build_X6_receive : GoodIn wsX5_build wsX6_receive := goodIn_r _ [132, 27, 28, 29, 11, 30, 31, 32, 33, 34, 35, 36, 37, 38, 39, 40, 41, 42, 43, 133, 134, 135, 136, 14, 137, 60, 61, 62, 48, 23, 24, 18, 25, 26, 64, 65, 66, 67, 20, 22, 68, 69, 70, 71, 72, 73, 74, 75, 76, 85, 86, 87, 88, 13, 138, 139, 140, 141, 142, 143, 144, 145, 113, 146, 147, 148, 149, 150, 151, 152, 153, 154, 155, 156, 157, 158, 159, 160, 161, 162, 163, 164, 165, 166, 167, 168, 169, 170, 171, 172, 173, 174, 175, 176, 177, 178, 179, 180, 181, 182, 183, 184, 185, 186, 187, 188, 189, 190, 191, 192, 193, 194, 195, 196, 197, 198, 199, 200, 54, 55, 56, 57, 58, 59, 63, 201, 202, 203, 204, 205, 15, 16, 17, 19, 21, 81, 82, 83, 84, 206, 207, 208, 209, 210, 77, 78, 79, 80, 44, 45, 46, 47, 49, 50, 51, 52, 53, 224, 225, 226, 227, 228, 238, 239, 240, 241, 229, 230, 231, 232, 233, 234, 235, 236, 237, 242, 243, 244, 245, 246, 247, 248, 249, 250, 251] (by decide +kernel) (by decide +kernel)
set_option maxRecDepth 20000 in
theorem gX5_build_X6_receive : GoodIn wsX5_build (wsV RX5 74 RX6 yX6_receive wsX6_receive) := goodIn_app (goodIn_of _ (by decide +kernel)) ggX5_build_X6_receive
set_option maxRecDepth 20000 in
theorem ggX5_build_X1_sizeOf : GoodIn wsX5_build wsX1_sizeOf := goodIn_r _ [214, 38, 39, 40, 41, 36, 42, 43, 238, 239, 240, 241] (by decide +kernel) (by decide +kernel)
set_option maxRecDepth 20000 in
theorem gX5_build_X1_sizeOf : GoodIn wsX5_build (wsV RX5 77 RX1 yX1_sizeOf wsX1_sizeOf) := goodIn_app (goodIn_of _ (by decide +kernel)) ggX5_build_X1_sizeOf
theorem dX5_build_0 : decode cX5_build 0 = .ok (.aload_n 0, 1) := by decide +kernel
theorem dX5_build_1 : decode cX5_build 1 = .ok (.iconst 0, 1) := by decide +kernel
theorem dX5_build_2 : decode cX5_build 2 = .ok (.putfield 44, 3) := by decide +kernel
theorem dX5_build_5 : decode cX5_build 5 = .ok (.aload_n 0, 1) := by decide +kernel
theorem dX5_build_6 : decode cX5_build 6 = .ok (.getfield 40, 3) := by decide +kernel
theorem dX5_build_9 : decode cX5_build 9 = .ok (.sipush 180, 3) := by decide +kernel
theorem dX5_build_12 : decode cX5_build 12 = .ok (.invokevirtual 54, 3) := by decide +kernel
theorem dX5_build_15 : decode cX5_build 15 = .ok (.aload_n 0, 1) := by decide +kernel
theorem dX5_build_16 : decode cX5_build 16 = .ok (.invokevirtual 58, 3) := by decide +kernel
theorem dX5_build_19 : decode cX5_build 19 = .ok (.pop, 1) := by decide +kernel
theorem dX5_build_20 : decode cX5_build 20 = .ok (.iconst 0, 1) := by decide +kernel
theorem dX5_build_21 : decode cX5_build 21 = .ok (.istore_n 1, 1) := by decide +kernel
theorem dX5_build_22 : decode cX5_build 22 = .ok (.iload_n 1, 1) := by decide +kernel
theorem dX5_build_23 : decode cX5_build 23 = .ok (.bipush 30, 2) := by decide +kernel
theorem dX5_build_25 : decode cX5_build 25 = .ok (.if_icmp .ge 95, 3) := by decide +kernel
theorem dX5_build_28 : decode cX5_build 28 = .ok (.iload_n 1, 1) := by decide +kernel
theorem dX5_build_29 : decode cX5_build 29 = .ok (.aload_n 0, 1) := by decide +kernel
theorem dX5_build_30 : decode cX5_build 30 = .ok (.getfield 44, 3) := by decide +kernel
theorem dX5_build_33 : decode cX5_build 33 = .ok (.if_icmp .ge 87, 3) := by decide +kernel
theorem dX5_build_36 : decode cX5_build 36 = .ok (.iconst 0, 1) := by decide +kernel
theorem dX5_build_37 : decode cX5_build 37 = .ok (.istore_n 2, 1) := by decide +kernel
theorem dX5_build_38 : decode cX5_build 38 = .ok (.iload_n 2, 1) := by decide +kernel
theorem dX5_build_39 : decode cX5_build 39 = .ok (.bipush 6, 2) := by decide +kernel
theorem dX5_build_41 : decode cX5_build 41 = .ok (.if_icmp .ge 73, 3) := by decide +kernel
theorem dX5_build_44 : decode cX5_build 44 = .ok (.iload_n 2, 1) := by decide +kernel
theorem dX5_build_45 : decode cX5_build 45 = .ok (.aload_n 0, 1) := by decide +kernel
theorem dX5_build_46 : decode cX5_build 46 = .ok (.getfield 31, 3) := by decide +kernel
theorem dX5_build_49 : decode cX5_build 49 = .ok (.invokevirtual 62, 3) := by decide +kernel
theorem dX5_build_52 : decode cX5_build 52 = .ok (.if_icmp .ge 62, 3) := by decide +kernel
theorem dX5_build_55 : decode cX5_build 55 = .ok (.aload_n 0, 1) := by decide +kernel
theorem dX5_build_56 : decode cX5_build 56 = .ok (.iload_n 1, 1) := by decide +kernel
theorem dX5_build_57 : decode cX5_build 57 = .ok (.iload_n 2, 1) := by decide +kernel
theorem dX5_build_58 : decode cX5_build 58 = .ok (.invokevirtual 67, 3) := by decide +kernel
theorem dX5_build_61 : decode cX5_build 61 = .ok (.istore_n 3, 1) := by decide +kernel
theorem dX5_build_62 : decode cX5_build 62 = .ok (.aload_n 0, 1) := by decide +kernel
theorem dX5_build_63 : decode cX5_build 63 = .ok (.iload_n 1, 1) := by decide +kernel
theorem dX5_build_64 : decode cX5_build 64 = .ok (.invokevirtual 71, 3) := by decide +kernel
theorem dX5_build_67 : decode cX5_build 67 = .ok (.aload_n 0, 1) := by decide +kernel
theorem dX5_build_68 : decode cX5_build 68 = .ok (.getfield 40, 3) := by decide +kernel
theorem dX5_build_71 : decode cX5_build 71 = .ok (.iload_n 2, 1) := by decide +kernel
theorem dX5_build_72 : decode cX5_build 72 = .ok (.iload_n 3, 1) := by decide +kernel
theorem dX5_build_73 : decode cX5_build 73 = .ok (.invokevirtual 74, 3) := by decide +kernel
theorem dX5_build_76 : decode cX5_build 76 = .ok (.aload_n 0, 1) := by decide +kernel
theorem dX5_build_77 : decode cX5_build 77 = .ok (.invokevirtual 58, 3) := by decide +kernel
theorem dX5_build_80 : decode cX5_build 80 = .ok (.istore 4, 2) := by decide +kernel
theorem dX5_build_82 : decode cX5_build 82 = .ok (.iload_n 3, 1) := by decide +kernel
theorem dX5_build_83 : decode cX5_build 83 = .ok (.iconst (-1), 1) := by decide +kernel
theorem dX5_build_84 : decode cX5_build 84 = .ok (.if_icmp .eq 9, 3) := by decide +kernel
theorem dX5_build_87 : decode cX5_build 87 = .ok (.iload 4, 2) := by decide +kernel
theorem dX5_build_89 : decode cX5_build 89 = .ok (.iconst (-1), 1) := by decide +kernel
theorem dX5_build_90 : decode cX5_build 90 = .ok (.if_icmp .ne 10, 3) := by decide +kernel
theorem dX5_build_93 : decode cX5_build 93 = .ok (.aload_n 0, 1) := by decide +kernel
theorem dX5_build_94 : decode cX5_build 94 = .ok (.iconst 0, 1) := by decide +kernel
theorem dX5_build_95 : decode cX5_build 95 = .ok (.putfield 44, 3) := by decide +kernel
theorem dX5_build_98 : decode cX5_build 98 = .ok (.iconst 0, 1) := by decide +kernel
theorem dX5_build_99 : decode cX5_build 99 = .ok (.ireturn, 1) := by decide +kernel
theorem dX5_build_100 : decode cX5_build 100 = .ok (.aload_n 0, 1) := by decide +kernel
theorem dX5_build_101 : decode cX5_build 101 = .ok (.getfield 24, 3) := by decide +kernel
theorem dX5_build_104 : decode cX5_build 104 = .ok (.iload_n 3, 1) := by decide +kernel
theorem dX5_build_105 : decode cX5_build 105 = .ok (.iload 4, 2) := by decide +kernel
theorem dX5_build_107 : decode cX5_build 107 = .ok (.iastore, 1) := by decide +kernel
theorem dX5_build_108 : decode cX5_build 108 = .ok (.iinc 2 1, 3) := by decide +kernel
theorem dX5_build_111 : decode cX5_build 111 = .ok (.goto (-73), 3) := by decide +kernel
theorem dX5_build_114 : decode cX5_build 114 = .ok (.iinc 1 1, 3) := by decide +kernel
theorem dX5_build_117 : decode cX5_build 117 = .ok (.goto (-95), 3) := by decide +kernel
theorem dX5_build_120 : decode cX5_build 120 = .ok (.aload_n 0, 1) := by decide +kernel
theorem dX5_build_121 : decode cX5_build 121 = .ok (.iconst 0, 1) := by decide +kernel
theorem dX5_build_122 : decode cX5_build 122 = .ok (.putfield 48, 3) := by decide +kernel
theorem dX5_build_125 : decode cX5_build 125 = .ok (.aload_n 0, 1) := by decide +kernel
theorem dX5_build_126 : decode cX5_build 126 = .ok (.aload_n 0, 1) := by decide +kernel
theorem dX5_build_127 : decode cX5_build 127 = .ok (.getfield 14, 3) := by decide +kernel
theorem dX5_build_130 : decode cX5_build 130 = .ok (.sipush 180, 3) := by decide +kernel
theorem dX5_build_133 : decode cX5_build 133 = .ok (.invokevirtual 77, 3) := by decide +kernel
theorem dX5_build_136 : decode cX5_build 136 = .ok (.putfield 51, 3) := by decide +kernel
theorem dX5_build_139 : decode cX5_build 139 = .ok (.iconst 1, 1) := by decide +kernel
theorem dX5_build_140 : decode cX5_build 140 = .ok (.ireturn, 1) := by decide +kernel
theorem dX5_isConfiguration_0 : decode cX5_isConfiguration 0 = .ok (.iload_n 1, 1) := by decide +kernel
theorem dX5_isConfiguration_1 : decode cX5_isConfiguration 1 = .ok (.ifCond .lt 15, 3) := by decide +kernel
theorem dX5_isConfiguration_4 : decode cX5_isConfiguration 4 = .ok (.iload_n 1, 1) := by decide +kernel
theorem dX5_isConfiguration_5 : decode cX5_isConfiguration 5 = .ok (.aload_n 0, 1) := by decide +kernel
theorem dX5_isConfiguration_6 : decode cX5_isConfiguration 6 = .ok (.getfield 44, 3) := by decide +kernel
theorem dX5_isConfiguration_9 : decode cX5_isConfiguration 9 = .ok (.if_icmp .ge 7, 3) := by decide +kernel
theorem dX5_isConfiguration_12 : decode cX5_isConfiguration 12 = .ok (.iconst 1, 1) := by decide +kernel
theorem dX5_isConfiguration_13 : decode cX5_isConfiguration 13 = .ok (.goto 4, 3) := by decide +kernel
theorem dX5_isConfiguration_16 : decode cX5_isConfiguration 16 = .ok (.iconst 0, 1) := by decide +kernel
theorem dX5_isConfiguration_17 : decode cX5_isConfiguration 17 = .ok (.ireturn, 1) := by decide +kernel
set_option maxRecDepth 20000 in
theorem ggX5_cellOf_X5_isConfiguration : GoodIn wsX5_cellOf wsX5_isConfiguration := goodIn_r _ [6, 7, 14, 15, 16, 17, 18, 19, 20, 21, 22] (by decide +kernel) (by decide +kernel)
set_option maxRecDepth 20000 in
theorem gX5_cellOf_X5_isConfiguration : GoodIn wsX5_cellOf (wsV RX5 81 RX5 yX5_isConfiguration wsX5_isConfiguration) := goodIn_app (goodIn_of _ (by decide +kernel)) ggX5_cellOf_X5_isConfiguration
set_option maxRecDepth 20000 in
theorem ggX5_cellOf_X3_isEvent : GoodIn wsX5_cellOf wsX3_isEvent := goodIn_r _ [12, 13, 23, 24, 25, 26, 27, 28, 29, 30, 31, 32] (by decide +kernel) (by decide +kernel)
set_option maxRecDepth 20000 in
theorem gX5_cellOf_X3_isEvent : GoodIn wsX5_cellOf (wsV RX5 85 RX3 yX3_isEvent wsX3_isEvent) := goodIn_app (goodIn_of _ (by decide +kernel)) ggX5_cellOf_X3_isEvent
theorem dX5_cellOf_0 : decode cX5_cellOf 0 = .ok (.aload_n 0, 1) := by decide +kernel
theorem dX5_cellOf_1 : decode cX5_cellOf 1 = .ok (.iload_n 1, 1) := by decide +kernel
theorem dX5_cellOf_2 : decode cX5_cellOf 2 = .ok (.invokevirtual 81, 3) := by decide +kernel
theorem dX5_cellOf_5 : decode cX5_cellOf 5 = .ok (.ifCond .eq 23, 3) := by decide +kernel
theorem dX5_cellOf_8 : decode cX5_cellOf 8 = .ok (.aload_n 0, 1) := by decide +kernel
theorem dX5_cellOf_9 : decode cX5_cellOf 9 = .ok (.getfield 31, 3) := by decide +kernel
theorem dX5_cellOf_12 : decode cX5_cellOf 12 = .ok (.iload_n 2, 1) := by decide +kernel
theorem dX5_cellOf_13 : decode cX5_cellOf 13 = .ok (.invokevirtual 85, 3) := by decide +kernel
theorem dX5_cellOf_16 : decode cX5_cellOf 16 = .ok (.ifCond .eq 12, 3) := by decide +kernel
theorem dX5_cellOf_19 : decode cX5_cellOf 19 = .ok (.iload_n 1, 1) := by decide +kernel
theorem dX5_cellOf_20 : decode cX5_cellOf 20 = .ok (.bipush 6, 2) := by decide +kernel
theorem dX5_cellOf_22 : decode cX5_cellOf 22 = .ok (.imul, 1) := by decide +kernel
theorem dX5_cellOf_23 : decode cX5_cellOf 23 = .ok (.iload_n 2, 1) := by decide +kernel
theorem dX5_cellOf_24 : decode cX5_cellOf 24 = .ok (.iadd, 1) := by decide +kernel
theorem dX5_cellOf_25 : decode cX5_cellOf 25 = .ok (.goto 4, 3) := by decide +kernel
theorem dX5_cellOf_28 : decode cX5_cellOf 28 = .ok (.iconst (-1), 1) := by decide +kernel
theorem dX5_cellOf_29 : decode cX5_cellOf 29 = .ok (.ireturn, 1) := by decide +kernel
set_option maxRecDepth 20000 in
theorem ggX5_setWalk_X5_currentChild : GoodIn wsX5_setWalk wsX5_currentChild := goodIn_r _ [6, 7, 8, 9, 10, 11, 5, 12, 13, 14, 15, 16, 17, 18, 19, 26, 27, 28, 29, 30, 31, 32, 33, 34, 35, 36, 37, 38, 39, 40, 41, 42, 43] (by decide +kernel) (by decide +kernel)
set_option maxRecDepth 20000 in
theorem gX5_setWalk_X5_currentChild : GoodIn wsX5_setWalk (wsV RX5 88 RX5 yX5_currentChild wsX5_currentChild) := goodIn_app (goodIn_of _ (by decide +kernel)) ggX5_setWalk_X5_currentChild
set_option maxRecDepth 20000 in
theorem ggX5_setWalk_X6_makeCurrent : GoodIn wsX5_setWalk wsX6_makeCurrent := goodIn_r _ [24, 25, 44, 45, 46, 47, 48] (by decide +kernel) (by decide +kernel)
set_option maxRecDepth 20000 in
theorem gX5_setWalk_X6_makeCurrent : GoodIn wsX5_setWalk (wsV RX5 91 RX6 yX6_makeCurrent wsX6_makeCurrent) := goodIn_app (goodIn_of _ (by decide +kernel)) ggX5_setWalk_X6_makeCurrent
theorem dX5_setWalk_0 : decode cX5_setWalk 0 = .ok (.iconst 0, 1) := by decide +kernel
theorem dX5_setWalk_1 : decode cX5_setWalk 1 = .ok (.istore_n 2, 1) := by decide +kernel
theorem dX5_setWalk_2 : decode cX5_setWalk 2 = .ok (.iload_n 2, 1) := by decide +kernel
theorem dX5_setWalk_3 : decode cX5_setWalk 3 = .ok (.bipush 14, 2) := by decide +kernel
theorem dX5_setWalk_5 : decode cX5_setWalk 5 = .ok (.if_icmp .ge 23, 3) := by decide +kernel
theorem dX5_setWalk_8 : decode cX5_setWalk 8 = .ok (.aload_n 0, 1) := by decide +kernel
theorem dX5_setWalk_9 : decode cX5_setWalk 9 = .ok (.getfield 40, 3) := by decide +kernel
theorem dX5_setWalk_12 : decode cX5_setWalk 12 = .ok (.iload_n 2, 1) := by decide +kernel
theorem dX5_setWalk_13 : decode cX5_setWalk 13 = .ok (.aload_n 0, 1) := by decide +kernel
theorem dX5_setWalk_14 : decode cX5_setWalk 14 = .ok (.iload_n 1, 1) := by decide +kernel
theorem dX5_setWalk_15 : decode cX5_setWalk 15 = .ok (.iload_n 2, 1) := by decide +kernel
theorem dX5_setWalk_16 : decode cX5_setWalk 16 = .ok (.invokevirtual 88, 3) := by decide +kernel
theorem dX5_setWalk_19 : decode cX5_setWalk 19 = .ok (.invokevirtual 91, 3) := by decide +kernel
theorem dX5_setWalk_22 : decode cX5_setWalk 22 = .ok (.iinc 2 1, 3) := by decide +kernel
theorem dX5_setWalk_25 : decode cX5_setWalk 25 = .ok (.goto (-23), 3) := by decide +kernel
theorem dX5_setWalk_28 : decode cX5_setWalk 28 = .ok (.return_, 1) := by decide +kernel
set_option maxRecDepth 20000 in
theorem ggX5_isWalk_X5_currentChild : GoodIn wsX5_isWalk wsX5_currentChild := goodIn_r _ [6, 7, 8, 9, 10, 11, 5, 12, 13, 14, 15, 16, 17, 18, 19, 26, 27, 28, 29, 30, 31, 32, 33, 34, 35, 36, 37, 38, 39, 40, 41, 42, 43] (by decide +kernel) (by decide +kernel)
set_option maxRecDepth 20000 in
theorem gX5_isWalk_X5_currentChild : GoodIn wsX5_isWalk (wsV RX5 88 RX5 yX5_currentChild wsX5_currentChild) := goodIn_app (goodIn_of _ (by decide +kernel)) ggX5_isWalk_X5_currentChild
set_option maxRecDepth 20000 in
theorem ggX5_isWalk_X6_currentChild : GoodIn wsX5_isWalk wsX6_currentChild := goodIn_r _ [24, 25, 44, 45, 46, 47, 48] (by decide +kernel) (by decide +kernel)
set_option maxRecDepth 20000 in
theorem gX5_isWalk_X6_currentChild : GoodIn wsX5_isWalk (wsV RX5 94 RX6 yX6_currentChild wsX6_currentChild) := goodIn_app (goodIn_of _ (by decide +kernel)) ggX5_isWalk_X6_currentChild
theorem dX5_isWalk_0 : decode cX5_isWalk 0 = .ok (.iconst 0, 1) := by decide +kernel
theorem dX5_isWalk_1 : decode cX5_isWalk 1 = .ok (.istore_n 2, 1) := by decide +kernel
theorem dX5_isWalk_2 : decode cX5_isWalk 2 = .ok (.iload_n 2, 1) := by decide +kernel
theorem dX5_isWalk_3 : decode cX5_isWalk 3 = .ok (.bipush 14, 2) := by decide +kernel
theorem dX5_isWalk_5 : decode cX5_isWalk 5 = .ok (.if_icmp .ge 28, 3) := by decide +kernel
theorem dX5_isWalk_8 : decode cX5_isWalk 8 = .ok (.aload_n 0, 1) := by decide +kernel
theorem dX5_isWalk_9 : decode cX5_isWalk 9 = .ok (.iload_n 1, 1) := by decide +kernel
theorem dX5_isWalk_10 : decode cX5_isWalk 10 = .ok (.iload_n 2, 1) := by decide +kernel
theorem dX5_isWalk_11 : decode cX5_isWalk 11 = .ok (.invokevirtual 88, 3) := by decide +kernel
theorem dX5_isWalk_14 : decode cX5_isWalk 14 = .ok (.aload_n 0, 1) := by decide +kernel
theorem dX5_isWalk_15 : decode cX5_isWalk 15 = .ok (.getfield 40, 3) := by decide +kernel
theorem dX5_isWalk_18 : decode cX5_isWalk 18 = .ok (.iload_n 2, 1) := by decide +kernel
theorem dX5_isWalk_19 : decode cX5_isWalk 19 = .ok (.invokevirtual 94, 3) := by decide +kernel
theorem dX5_isWalk_22 : decode cX5_isWalk 22 = .ok (.if_icmp .eq 5, 3) := by decide +kernel
theorem dX5_isWalk_25 : decode cX5_isWalk 25 = .ok (.iconst 0, 1) := by decide +kernel
theorem dX5_isWalk_26 : decode cX5_isWalk 26 = .ok (.ireturn, 1) := by decide +kernel
theorem dX5_isWalk_27 : decode cX5_isWalk 27 = .ok (.iinc 2 1, 3) := by decide +kernel
theorem dX5_isWalk_30 : decode cX5_isWalk 30 = .ok (.goto (-28), 3) := by decide +kernel
theorem dX5_isWalk_33 : decode cX5_isWalk 33 = .ok (.iconst 1, 1) := by decide +kernel
theorem dX5_isWalk_34 : decode cX5_isWalk 34 = .ok (.ireturn, 1) := by decide +kernel
set_option maxRecDepth 20000 in
theorem ggX5_numberOfWalk_X5_isWalk : GoodIn wsX5_numberOfWalk wsX5_isWalk := goodIn_r _ [8, 3, 9, 10, 11, 7, 12, 13, 2, 14, 15, 16, 17, 1, 18, 19, 20, 21, 22, 23, 24, 25, 26, 27, 28, 29, 30, 31, 32, 33, 34, 35, 36, 37, 38, 39, 40, 41, 42, 43, 44, 45, 46, 47, 48, 49, 50, 51, 52] (by decide +kernel) (by decide +kernel)
set_option maxRecDepth 20000 in
theorem gX5_numberOfWalk_X5_isWalk : GoodIn wsX5_numberOfWalk (wsV RX5 96 RX5 yX5_isWalk wsX5_isWalk) := goodIn_app (goodIn_of _ (by decide +kernel)) ggX5_numberOfWalk_X5_isWalk
set_option maxRecDepth 20000 in
theorem ggX5_numberOfWalk_X6_currentChild : GoodIn wsX5_numberOfWalk wsX6_currentChild := goodIn_r _ [28, 29, 48, 49, 50, 51, 52] (by decide +kernel) (by decide +kernel)
set_option maxRecDepth 20000 in
theorem gX5_numberOfWalk_X6_currentChild : GoodIn wsX5_numberOfWalk (wsV RX5 94 RX6 yX6_currentChild wsX6_currentChild) := goodIn_app (goodIn_of _ (by decide +kernel)) ggX5_numberOfWalk_X6_currentChild
theorem dX5_numberOfWalk_0 : decode cX5_numberOfWalk 0 = .ok (.iconst 0, 1) := by decide +kernel
theorem dX5_numberOfWalk_1 : decode cX5_numberOfWalk 1 = .ok (.istore_n 1, 1) := by decide +kernel
theorem dX5_numberOfWalk_2 : decode cX5_numberOfWalk 2 = .ok (.iload_n 1, 1) := by decide +kernel
theorem dX5_numberOfWalk_3 : decode cX5_numberOfWalk 3 = .ok (.aload_n 0, 1) := by decide +kernel
theorem dX5_numberOfWalk_4 : decode cX5_numberOfWalk 4 = .ok (.getfield 44, 3) := by decide +kernel
theorem dX5_numberOfWalk_7 : decode cX5_numberOfWalk 7 = .ok (.if_icmp .ge 19, 3) := by decide +kernel
theorem dX5_numberOfWalk_10 : decode cX5_numberOfWalk 10 = .ok (.aload_n 0, 1) := by decide +kernel
theorem dX5_numberOfWalk_11 : decode cX5_numberOfWalk 11 = .ok (.iload_n 1, 1) := by decide +kernel
theorem dX5_numberOfWalk_12 : decode cX5_numberOfWalk 12 = .ok (.invokevirtual 96, 3) := by decide +kernel
theorem dX5_numberOfWalk_15 : decode cX5_numberOfWalk 15 = .ok (.ifCond .eq 5, 3) := by decide +kernel
theorem dX5_numberOfWalk_18 : decode cX5_numberOfWalk 18 = .ok (.iload_n 1, 1) := by decide +kernel
theorem dX5_numberOfWalk_19 : decode cX5_numberOfWalk 19 = .ok (.ireturn, 1) := by decide +kernel
theorem dX5_numberOfWalk_20 : decode cX5_numberOfWalk 20 = .ok (.iinc 1 1, 3) := by decide +kernel
theorem dX5_numberOfWalk_23 : decode cX5_numberOfWalk 23 = .ok (.goto (-21), 3) := by decide +kernel
theorem dX5_numberOfWalk_26 : decode cX5_numberOfWalk 26 = .ok (.aload_n 0, 1) := by decide +kernel
theorem dX5_numberOfWalk_27 : decode cX5_numberOfWalk 27 = .ok (.getfield 44, 3) := by decide +kernel
theorem dX5_numberOfWalk_30 : decode cX5_numberOfWalk 30 = .ok (.bipush 30, 2) := by decide +kernel
theorem dX5_numberOfWalk_32 : decode cX5_numberOfWalk 32 = .ok (.if_icmp .lt 5, 3) := by decide +kernel
theorem dX5_numberOfWalk_35 : decode cX5_numberOfWalk 35 = .ok (.iconst (-1), 1) := by decide +kernel
theorem dX5_numberOfWalk_36 : decode cX5_numberOfWalk 36 = .ok (.ireturn, 1) := by decide +kernel
theorem dX5_numberOfWalk_37 : decode cX5_numberOfWalk 37 = .ok (.iconst 0, 1) := by decide +kernel
theorem dX5_numberOfWalk_38 : decode cX5_numberOfWalk 38 = .ok (.istore_n 1, 1) := by decide +kernel
theorem dX5_numberOfWalk_39 : decode cX5_numberOfWalk 39 = .ok (.iload_n 1, 1) := by decide +kernel
theorem dX5_numberOfWalk_40 : decode cX5_numberOfWalk 40 = .ok (.bipush 14, 2) := by decide +kernel
theorem dX5_numberOfWalk_42 : decode cX5_numberOfWalk 42 = .ok (.if_icmp .ge 31, 3) := by decide +kernel
theorem dX5_numberOfWalk_45 : decode cX5_numberOfWalk 45 = .ok (.aload_n 0, 1) := by decide +kernel
theorem dX5_numberOfWalk_46 : decode cX5_numberOfWalk 46 = .ok (.getfield 20, 3) := by decide +kernel
theorem dX5_numberOfWalk_49 : decode cX5_numberOfWalk 49 = .ok (.aload_n 0, 1) := by decide +kernel
theorem dX5_numberOfWalk_50 : decode cX5_numberOfWalk 50 = .ok (.getfield 44, 3) := by decide +kernel
theorem dX5_numberOfWalk_53 : decode cX5_numberOfWalk 53 = .ok (.bipush 14, 2) := by decide +kernel
theorem dX5_numberOfWalk_55 : decode cX5_numberOfWalk 55 = .ok (.imul, 1) := by decide +kernel
theorem dX5_numberOfWalk_56 : decode cX5_numberOfWalk 56 = .ok (.iload_n 1, 1) := by decide +kernel
theorem dX5_numberOfWalk_57 : decode cX5_numberOfWalk 57 = .ok (.iadd, 1) := by decide +kernel
theorem dX5_numberOfWalk_58 : decode cX5_numberOfWalk 58 = .ok (.aload_n 0, 1) := by decide +kernel
theorem dX5_numberOfWalk_59 : decode cX5_numberOfWalk 59 = .ok (.getfield 40, 3) := by decide +kernel
theorem dX5_numberOfWalk_62 : decode cX5_numberOfWalk 62 = .ok (.iload_n 1, 1) := by decide +kernel
theorem dX5_numberOfWalk_63 : decode cX5_numberOfWalk 63 = .ok (.invokevirtual 94, 3) := by decide +kernel
theorem dX5_numberOfWalk_66 : decode cX5_numberOfWalk 66 = .ok (.iastore, 1) := by decide +kernel
theorem dX5_numberOfWalk_67 : decode cX5_numberOfWalk 67 = .ok (.iinc 1 1, 3) := by decide +kernel
theorem dX5_numberOfWalk_70 : decode cX5_numberOfWalk 70 = .ok (.goto (-31), 3) := by decide +kernel
theorem dX5_numberOfWalk_73 : decode cX5_numberOfWalk 73 = .ok (.aload_n 0, 1) := by decide +kernel
theorem dX5_numberOfWalk_74 : decode cX5_numberOfWalk 74 = .ok (.dup, 1) := by decide +kernel
theorem dX5_numberOfWalk_75 : decode cX5_numberOfWalk 75 = .ok (.getfield 44, 3) := by decide +kernel
theorem dX5_numberOfWalk_78 : decode cX5_numberOfWalk 78 = .ok (.iconst 1, 1) := by decide +kernel
theorem dX5_numberOfWalk_79 : decode cX5_numberOfWalk 79 = .ok (.iadd, 1) := by decide +kernel
theorem dX5_numberOfWalk_80 : decode cX5_numberOfWalk 80 = .ok (.putfield 44, 3) := by decide +kernel
theorem dX5_numberOfWalk_83 : decode cX5_numberOfWalk 83 = .ok (.aload_n 0, 1) := by decide +kernel
theorem dX5_numberOfWalk_84 : decode cX5_numberOfWalk 84 = .ok (.getfield 44, 3) := by decide +kernel
theorem dX5_numberOfWalk_87 : decode cX5_numberOfWalk 87 = .ok (.iconst 1, 1) := by decide +kernel
theorem dX5_numberOfWalk_88 : decode cX5_numberOfWalk 88 = .ok (.isub, 1) := by decide +kernel
theorem dX5_numberOfWalk_89 : decode cX5_numberOfWalk 89 = .ok (.ireturn, 1) := by decide +kernel
set_option maxRecDepth 20000 in
theorem ggX5_following_X5_cellOf : GoodIn wsX5_following wsX5_cellOf := goodIn_r _ [6, 7, 8, 9, 10, 5, 11, 12, 13, 14, 15, 16, 17, 18, 19, 20, 21, 22, 23, 24, 25, 26, 27, 28, 29, 30, 31, 32, 33, 34, 35, 36, 37] (by decide +kernel) (by decide +kernel)
set_option maxRecDepth 20000 in
theorem gX5_following_X5_cellOf : GoodIn wsX5_following (wsV RX5 67 RX5 yX5_cellOf wsX5_cellOf) := goodIn_app (goodIn_of _ (by decide +kernel)) ggX5_following_X5_cellOf
theorem dX5_following_0 : decode cX5_following 0 = .ok (.aload_n 0, 1) := by decide +kernel
theorem dX5_following_1 : decode cX5_following 1 = .ok (.iload_n 1, 1) := by decide +kernel
theorem dX5_following_2 : decode cX5_following 2 = .ok (.iload_n 2, 1) := by decide +kernel
theorem dX5_following_3 : decode cX5_following 3 = .ok (.invokevirtual 67, 3) := by decide +kernel
theorem dX5_following_6 : decode cX5_following 6 = .ok (.istore_n 3, 1) := by decide +kernel
theorem dX5_following_7 : decode cX5_following 7 = .ok (.iload_n 3, 1) := by decide +kernel
theorem dX5_following_8 : decode cX5_following 8 = .ok (.iconst (-1), 1) := by decide +kernel
theorem dX5_following_9 : decode cX5_following 9 = .ok (.if_icmp .ne 7, 3) := by decide +kernel
theorem dX5_following_12 : decode cX5_following 12 = .ok (.iconst (-1), 1) := by decide +kernel
theorem dX5_following_13 : decode cX5_following 13 = .ok (.goto 9, 3) := by decide +kernel
theorem dX5_following_16 : decode cX5_following 16 = .ok (.aload_n 0, 1) := by decide +kernel
theorem dX5_following_17 : decode cX5_following 17 = .ok (.getfield 24, 3) := by decide +kernel
theorem dX5_following_20 : decode cX5_following 20 = .ok (.iload_n 3, 1) := by decide +kernel
theorem dX5_following_21 : decode cX5_following 21 = .ok (.iaload, 1) := by decide +kernel
theorem dX5_following_22 : decode cX5_following 22 = .ok (.ireturn, 1) := by decide +kernel
set_option maxRecDepth 20000 in
theorem ggX5_traceLetter_X5_cellOf : GoodIn wsX5_traceLetter wsX5_cellOf := goodIn_r _ [7, 8, 9, 10, 11, 6, 12, 1, 13, 14, 15, 16, 17, 18, 36, 37, 38, 39, 40, 41, 42, 43, 44, 45, 46, 47, 48, 49, 50, 51, 52, 53, 54] (by decide +kernel) (by decide +kernel)
set_option maxRecDepth 20000 in
theorem gX5_traceLetter_X5_cellOf : GoodIn wsX5_traceLetter (wsV RX5 67 RX5 yX5_cellOf wsX5_cellOf) := goodIn_app (goodIn_of _ (by decide +kernel)) ggX5_traceLetter_X5_cellOf
set_option maxRecDepth 20000 in
theorem ggX5_traceLetter_X1_letterAt : GoodIn wsX5_traceLetter wsX1_letterAt := goodIn_r _ [23, 24, 25, 26, 27, 28, 22, 29, 30, 31, 32, 33, 34, 35, 55, 56, 57, 58] (by decide +kernel) (by decide +kernel)
set_option maxRecDepth 20000 in
theorem gX5_traceLetter_X1_letterAt : GoodIn wsX5_traceLetter (wsV RX5 99 RX1 yX1_letterAt wsX1_letterAt) := goodIn_app (goodIn_of _ (by decide +kernel)) ggX5_traceLetter_X1_letterAt
theorem dX5_traceLetter_0 : decode cX5_traceLetter 0 = .ok (.aload_n 0, 1) := by decide +kernel
theorem dX5_traceLetter_1 : decode cX5_traceLetter 1 = .ok (.getfield 44, 3) := by decide +kernel
theorem dX5_traceLetter_4 : decode cX5_traceLetter 4 = .ok (.ifCond .le 16, 3) := by decide +kernel
theorem dX5_traceLetter_7 : decode cX5_traceLetter 7 = .ok (.iload_n 1, 1) := by decide +kernel
theorem dX5_traceLetter_8 : decode cX5_traceLetter 8 = .ok (.ifCond .ne 12, 3) := by decide +kernel
theorem dX5_traceLetter_11 : decode cX5_traceLetter 11 = .ok (.iload_n 2, 1) := by decide +kernel
theorem dX5_traceLetter_12 : decode cX5_traceLetter 12 = .ok (.iconst (-1), 1) := by decide +kernel
theorem dX5_traceLetter_13 : decode cX5_traceLetter 13 = .ok (.if_icmp .ne 7, 3) := by decide +kernel
theorem dX5_traceLetter_16 : decode cX5_traceLetter 16 = .ok (.iconst 1, 1) := by decide +kernel
theorem dX5_traceLetter_17 : decode cX5_traceLetter 17 = .ok (.goto 4, 3) := by decide +kernel
theorem dX5_traceLetter_20 : decode cX5_traceLetter 20 = .ok (.iconst 0, 1) := by decide +kernel
theorem dX5_traceLetter_21 : decode cX5_traceLetter 21 = .ok (.istore 4, 2) := by decide +kernel
theorem dX5_traceLetter_23 : decode cX5_traceLetter 23 = .ok (.aload_n 0, 1) := by decide +kernel
theorem dX5_traceLetter_24 : decode cX5_traceLetter 24 = .ok (.getfield 14, 3) := by decide +kernel
theorem dX5_traceLetter_27 : decode cX5_traceLetter 27 = .ok (.iload 4, 2) := by decide +kernel
theorem dX5_traceLetter_29 : decode cX5_traceLetter 29 = .ok (.ifCond .eq 9, 3) := by decide +kernel
theorem dX5_traceLetter_32 : decode cX5_traceLetter 32 = .ok (.sipush 180, 3) := by decide +kernel
theorem dX5_traceLetter_35 : decode cX5_traceLetter 35 = .ok (.goto 9, 3) := by decide +kernel
theorem dX5_traceLetter_38 : decode cX5_traceLetter 38 = .ok (.aload_n 0, 1) := by decide +kernel
theorem dX5_traceLetter_39 : decode cX5_traceLetter 39 = .ok (.iload_n 1, 1) := by decide +kernel
theorem dX5_traceLetter_40 : decode cX5_traceLetter 40 = .ok (.iload_n 2, 1) := by decide +kernel
theorem dX5_traceLetter_41 : decode cX5_traceLetter 41 = .ok (.invokevirtual 67, 3) := by decide +kernel
theorem dX5_traceLetter_44 : decode cX5_traceLetter 44 = .ok (.iload_n 3, 1) := by decide +kernel
theorem dX5_traceLetter_45 : decode cX5_traceLetter 45 = .ok (.invokevirtual 99, 3) := by decide +kernel
theorem dX5_traceLetter_48 : decode cX5_traceLetter 48 = .ok (.ireturn, 1) := by decide +kernel
set_option maxRecDepth 20000 in
theorem ggX5_isActive_X5_isConfiguration : GoodIn wsX5_isActive wsX5_isConfiguration := goodIn_r _ [7, 8, 50, 51, 52, 53, 54, 55, 56, 57, 58] (by decide +kernel) (by decide +kernel)
set_option maxRecDepth 20000 in
theorem gX5_isActive_X5_isConfiguration : GoodIn wsX5_isActive (wsV RX5 81 RX5 yX5_isConfiguration wsX5_isConfiguration) := goodIn_app (goodIn_of _ (by decide +kernel)) ggX5_isActive_X5_isConfiguration
set_option maxRecDepth 20000 in
theorem ggX5_isActive_X4_isState : GoodIn wsX5_isActive wsX4_isState := goodIn_r _ [13, 14, 59, 60, 61, 62, 63, 64, 65, 66, 67] (by decide +kernel) (by decide +kernel)
set_option maxRecDepth 20000 in
theorem gX5_isActive_X4_isState : GoodIn wsX5_isActive (wsV RX5 102 RX4 yX4_isState wsX4_isState) := goodIn_app (goodIn_of _ (by decide +kernel)) ggX5_isActive_X4_isState
set_option maxRecDepth 20000 in
theorem ggX5_isActive_X5_setWalk : GoodIn wsX5_isActive wsX5_setWalk := goodIn_r _ [18, 2, 19, 20, 21, 6, 22, 1, 23, 3, 4, 5, 7, 8, 9, 10, 11, 12, 13, 14, 24, 25, 26, 27, 28, 29, 50, 51, 52, 53, 54, 55, 56, 57, 58, 59, 60, 61, 62, 63, 64, 65, 66, 67, 68, 69, 70, 71, 72] (by decide +kernel) (by decide +kernel)
set_option maxRecDepth 20000 in
theorem gX5_isActive_X5_setWalk : GoodIn wsX5_isActive (wsV RX5 71 RX5 yX5_setWalk wsX5_setWalk) := goodIn_app (goodIn_of _ (by decide +kernel)) ggX5_isActive_X5_setWalk
set_option maxRecDepth 20000 in
theorem ggX5_isActive_X6_isActive : GoodIn wsX5_isActive wsX6_isActive := goodIn_r _ [33, 34, 35, 36, 37, 12, 38, 39, 40, 10, 11, 13, 14, 41, 42, 43, 44, 45, 46, 47, 48, 27, 49, 29, 68, 69, 70, 71, 72, 59, 60, 61, 62, 63, 64, 65, 66, 67] (by decide +kernel) (by decide +kernel)
set_option maxRecDepth 20000 in
theorem gX5_isActive_X6_isActive : GoodIn wsX5_isActive (wsV RX5 107 RX6 yX6_isActive wsX6_isActive) := goodIn_app (goodIn_of _ (by decide +kernel)) ggX5_isActive_X6_isActive
theorem dX5_isActive_0 : decode cX5_isActive 0 = .ok (.aload_n 0, 1) := by decide +kernel
theorem dX5_isActive_1 : decode cX5_isActive 1 = .ok (.iload_n 1, 1) := by decide +kernel
theorem dX5_isActive_2 : decode cX5_isActive 2 = .ok (.invokevirtual 81, 3) := by decide +kernel
theorem dX5_isActive_5 : decode cX5_isActive 5 = .ok (.ifCond .eq 14, 3) := by decide +kernel
theorem dX5_isActive_8 : decode cX5_isActive 8 = .ok (.aload_n 0, 1) := by decide +kernel
theorem dX5_isActive_9 : decode cX5_isActive 9 = .ok (.getfield 27, 3) := by decide +kernel
theorem dX5_isActive_12 : decode cX5_isActive 12 = .ok (.iload_n 2, 1) := by decide +kernel
theorem dX5_isActive_13 : decode cX5_isActive 13 = .ok (.invokevirtual 102, 3) := by decide +kernel
theorem dX5_isActive_16 : decode cX5_isActive 16 = .ok (.ifCond .ne 5, 3) := by decide +kernel
theorem dX5_isActive_19 : decode cX5_isActive 19 = .ok (.iconst 0, 1) := by decide +kernel
theorem dX5_isActive_20 : decode cX5_isActive 20 = .ok (.ireturn, 1) := by decide +kernel
theorem dX5_isActive_21 : decode cX5_isActive 21 = .ok (.aload_n 0, 1) := by decide +kernel
theorem dX5_isActive_22 : decode cX5_isActive 22 = .ok (.iload_n 1, 1) := by decide +kernel
theorem dX5_isActive_23 : decode cX5_isActive 23 = .ok (.invokevirtual 71, 3) := by decide +kernel
theorem dX5_isActive_26 : decode cX5_isActive 26 = .ok (.aload_n 0, 1) := by decide +kernel
theorem dX5_isActive_27 : decode cX5_isActive 27 = .ok (.getfield 40, 3) := by decide +kernel
theorem dX5_isActive_30 : decode cX5_isActive 30 = .ok (.iload_n 2, 1) := by decide +kernel
theorem dX5_isActive_31 : decode cX5_isActive 31 = .ok (.invokevirtual 107, 3) := by decide +kernel
theorem dX5_isActive_34 : decode cX5_isActive 34 = .ok (.ireturn, 1) := by decide +kernel
set_option maxRecDepth 20000 in
theorem ggX5_currentChild_X5_isConfiguration : GoodIn wsX5_currentChild wsX5_isConfiguration := goodIn_r _ [7, 8, 15, 16, 17, 18, 19, 20, 21, 22, 23] (by decide +kernel) (by decide +kernel)
set_option maxRecDepth 20000 in
theorem gX5_currentChild_X5_isConfiguration : GoodIn wsX5_currentChild (wsV RX5 81 RX5 yX5_isConfiguration wsX5_isConfiguration) := goodIn_app (goodIn_of _ (by decide +kernel)) ggX5_currentChild_X5_isConfiguration
set_option maxRecDepth 20000 in
theorem ggX5_currentChild_X4_isState : GoodIn wsX5_currentChild wsX4_isState := goodIn_r _ [13, 14, 24, 25, 26, 27, 28, 29, 30, 31, 32] (by decide +kernel) (by decide +kernel)
set_option maxRecDepth 20000 in
theorem gX5_currentChild_X4_isState : GoodIn wsX5_currentChild (wsV RX5 102 RX4 yX4_isState wsX4_isState) := goodIn_app (goodIn_of _ (by decide +kernel)) ggX5_currentChild_X4_isState
theorem dX5_currentChild_0 : decode cX5_currentChild 0 = .ok (.aload_n 0, 1) := by decide +kernel
theorem dX5_currentChild_1 : decode cX5_currentChild 1 = .ok (.iload_n 1, 1) := by decide +kernel
theorem dX5_currentChild_2 : decode cX5_currentChild 2 = .ok (.invokevirtual 81, 3) := by decide +kernel
theorem dX5_currentChild_5 : decode cX5_currentChild 5 = .ok (.ifCond .eq 28, 3) := by decide +kernel
theorem dX5_currentChild_8 : decode cX5_currentChild 8 = .ok (.aload_n 0, 1) := by decide +kernel
theorem dX5_currentChild_9 : decode cX5_currentChild 9 = .ok (.getfield 27, 3) := by decide +kernel
theorem dX5_currentChild_12 : decode cX5_currentChild 12 = .ok (.iload_n 2, 1) := by decide +kernel
theorem dX5_currentChild_13 : decode cX5_currentChild 13 = .ok (.invokevirtual 102, 3) := by decide +kernel
theorem dX5_currentChild_16 : decode cX5_currentChild 16 = .ok (.ifCond .eq 17, 3) := by decide +kernel
theorem dX5_currentChild_19 : decode cX5_currentChild 19 = .ok (.aload_n 0, 1) := by decide +kernel
theorem dX5_currentChild_20 : decode cX5_currentChild 20 = .ok (.getfield 20, 3) := by decide +kernel
theorem dX5_currentChild_23 : decode cX5_currentChild 23 = .ok (.iload_n 1, 1) := by decide +kernel
theorem dX5_currentChild_24 : decode cX5_currentChild 24 = .ok (.bipush 14, 2) := by decide +kernel
theorem dX5_currentChild_26 : decode cX5_currentChild 26 = .ok (.imul, 1) := by decide +kernel
theorem dX5_currentChild_27 : decode cX5_currentChild 27 = .ok (.iload_n 2, 1) := by decide +kernel
theorem dX5_currentChild_28 : decode cX5_currentChild 28 = .ok (.iadd, 1) := by decide +kernel
theorem dX5_currentChild_29 : decode cX5_currentChild 29 = .ok (.iaload, 1) := by decide +kernel
theorem dX5_currentChild_30 : decode cX5_currentChild 30 = .ok (.goto 4, 3) := by decide +kernel
theorem dX5_currentChild_33 : decode cX5_currentChild 33 = .ok (.iconst (-1), 1) := by decide +kernel
theorem dX5_currentChild_34 : decode cX5_currentChild 34 = .ok (.ireturn, 1) := by decide +kernel
set_option maxRecDepth 20000 in
theorem ggX5_step_X5_cellOf : GoodIn wsX5_step wsX5_cellOf := goodIn_r _ [9, 10, 11, 12, 13, 8, 14, 15, 16, 17, 18, 19, 20, 21, 33, 34, 35, 36, 37, 38, 39, 40, 41, 42, 43, 44, 45, 46, 47, 48, 49, 50, 51] (by decide +kernel) (by decide +kernel)
set_option maxRecDepth 20000 in
theorem gX5_step_X5_cellOf : GoodIn wsX5_step (wsV RX5 67 RX5 yX5_cellOf wsX5_cellOf) := goodIn_app (goodIn_of _ (by decide +kernel)) ggX5_step_X5_cellOf
set_option maxRecDepth 20000 in
theorem ggX5_step_X1_sizeOf : GoodIn wsX5_step wsX1_sizeOf := goodIn_r _ [26, 27, 28, 29, 30, 25, 31, 32, 52, 53, 54, 55] (by decide +kernel) (by decide +kernel)
set_option maxRecDepth 20000 in
theorem gX5_step_X1_sizeOf : GoodIn wsX5_step (wsV RX5 77 RX1 yX1_sizeOf wsX1_sizeOf) := goodIn_app (goodIn_of _ (by decide +kernel)) ggX5_step_X1_sizeOf
theorem dX5_step_0 : decode cX5_step 0 = .ok (.aload_n 0, 1) := by decide +kernel
theorem dX5_step_1 : decode cX5_step 1 = .ok (.aload_n 0, 1) := by decide +kernel
theorem dX5_step_2 : decode cX5_step 2 = .ok (.getfield 48, 3) := by decide +kernel
theorem dX5_step_5 : decode cX5_step 5 = .ok (.iload_n 1, 1) := by decide +kernel
theorem dX5_step_6 : decode cX5_step 6 = .ok (.invokevirtual 67, 3) := by decide +kernel
theorem dX5_step_9 : decode cX5_step 9 = .ok (.istore_n 2, 1) := by decide +kernel
theorem dX5_step_10 : decode cX5_step 10 = .ok (.iload_n 2, 1) := by decide +kernel
theorem dX5_step_11 : decode cX5_step 11 = .ok (.iconst (-1), 1) := by decide +kernel
theorem dX5_step_12 : decode cX5_step 12 = .ok (.if_icmp .eq 30, 3) := by decide +kernel
theorem dX5_step_15 : decode cX5_step 15 = .ok (.aload_n 0, 1) := by decide +kernel
theorem dX5_step_16 : decode cX5_step 16 = .ok (.aload_n 0, 1) := by decide +kernel
theorem dX5_step_17 : decode cX5_step 17 = .ok (.getfield 24, 3) := by decide +kernel
theorem dX5_step_20 : decode cX5_step 20 = .ok (.iload_n 2, 1) := by decide +kernel
theorem dX5_step_21 : decode cX5_step 21 = .ok (.iaload, 1) := by decide +kernel
theorem dX5_step_22 : decode cX5_step 22 = .ok (.putfield 48, 3) := by decide +kernel
theorem dX5_step_25 : decode cX5_step 25 = .ok (.aload_n 0, 1) := by decide +kernel
theorem dX5_step_26 : decode cX5_step 26 = .ok (.dup, 1) := by decide +kernel
theorem dX5_step_27 : decode cX5_step 27 = .ok (.getfield 51, 3) := by decide +kernel
theorem dX5_step_30 : decode cX5_step 30 = .ok (.aload_n 0, 1) := by decide +kernel
theorem dX5_step_31 : decode cX5_step 31 = .ok (.getfield 14, 3) := by decide +kernel
theorem dX5_step_34 : decode cX5_step 34 = .ok (.iload_n 2, 1) := by decide +kernel
theorem dX5_step_35 : decode cX5_step 35 = .ok (.invokevirtual 77, 3) := by decide +kernel
theorem dX5_step_38 : decode cX5_step 38 = .ok (.iadd, 1) := by decide +kernel
theorem dX5_step_39 : decode cX5_step 39 = .ok (.putfield 51, 3) := by decide +kernel
theorem dX5_step_42 : decode cX5_step 42 = .ok (.aload_n 0, 1) := by decide +kernel
theorem dX5_step_43 : decode cX5_step 43 = .ok (.getfield 48, 3) := by decide +kernel
theorem dX5_step_46 : decode cX5_step 46 = .ok (.ireturn, 1) := by decide +kernel
theorem dX6_init_0 : decode cX6_init 0 = .ok (.aload_n 0, 1) := by decide +kernel
theorem dX6_init_1 : decode cX6_init 1 = .ok (.invokespecial 3, 3) := by decide +kernel
theorem dX6_init_4 : decode cX6_init 4 = .ok (.aload_n 0, 1) := by decide +kernel
theorem dX6_init_5 : decode cX6_init 5 = .ok (.bipush 14, 2) := by decide +kernel
theorem dX6_init_7 : decode cX6_init 7 = .ok (.newarray .int, 2) := by decide +kernel
theorem dX6_init_9 : decode cX6_init 9 = .ok (.putfield 9, 3) := by decide +kernel
theorem dX6_init_12 : decode cX6_init 12 = .ok (.aload_n 0, 1) := by decide +kernel
theorem dX6_init_13 : decode cX6_init 13 = .ok (.aload_n 1, 1) := by decide +kernel
theorem dX6_init_14 : decode cX6_init 14 = .ok (.putfield 15, 3) := by decide +kernel
theorem dX6_init_17 : decode cX6_init 17 = .ok (.aload_n 0, 1) := by decide +kernel
theorem dX6_init_18 : decode cX6_init 18 = .ok (.aload_n 2, 1) := by decide +kernel
theorem dX6_init_19 : decode cX6_init 19 = .ok (.putfield 19, 3) := by decide +kernel
theorem dX6_init_22 : decode cX6_init 22 = .ok (.aload_n 0, 1) := by decide +kernel
theorem dX6_init_23 : decode cX6_init 23 = .ok (.aload_n 3, 1) := by decide +kernel
theorem dX6_init_24 : decode cX6_init 24 = .ok (.putfield 23, 3) := by decide +kernel
theorem dX6_init_27 : decode cX6_init 27 = .ok (.return_, 1) := by decide +kernel
theorem dX6_currentChild_0 : decode cX6_currentChild 0 = .ok (.iload_n 1, 1) := by decide +kernel
theorem dX6_currentChild_1 : decode cX6_currentChild 1 = .ok (.ifCond .lt 18, 3) := by decide +kernel
theorem dX6_currentChild_4 : decode cX6_currentChild 4 = .ok (.iload_n 1, 1) := by decide +kernel
theorem dX6_currentChild_5 : decode cX6_currentChild 5 = .ok (.bipush 14, 2) := by decide +kernel
theorem dX6_currentChild_7 : decode cX6_currentChild 7 = .ok (.if_icmp .ge 12, 3) := by decide +kernel
theorem dX6_currentChild_10 : decode cX6_currentChild 10 = .ok (.aload_n 0, 1) := by decide +kernel
theorem dX6_currentChild_11 : decode cX6_currentChild 11 = .ok (.getfield 9, 3) := by decide +kernel
theorem dX6_currentChild_14 : decode cX6_currentChild 14 = .ok (.iload_n 1, 1) := by decide +kernel
theorem dX6_currentChild_15 : decode cX6_currentChild 15 = .ok (.iaload, 1) := by decide +kernel
theorem dX6_currentChild_16 : decode cX6_currentChild 16 = .ok (.goto 4, 3) := by decide +kernel
theorem dX6_currentChild_19 : decode cX6_currentChild 19 = .ok (.iconst (-1), 1) := by decide +kernel
theorem dX6_currentChild_20 : decode cX6_currentChild 20 = .ok (.ireturn, 1) := by decide +kernel
theorem dX6_makeCurrent_0 : decode cX6_makeCurrent 0 = .ok (.iload_n 1, 1) := by decide +kernel
theorem dX6_makeCurrent_1 : decode cX6_makeCurrent 1 = .ok (.ifCond .lt 16, 3) := by decide +kernel
theorem dX6_makeCurrent_4 : decode cX6_makeCurrent 4 = .ok (.iload_n 1, 1) := by decide +kernel
theorem dX6_makeCurrent_5 : decode cX6_makeCurrent 5 = .ok (.bipush 14, 2) := by decide +kernel
theorem dX6_makeCurrent_7 : decode cX6_makeCurrent 7 = .ok (.if_icmp .ge 10, 3) := by decide +kernel
theorem dX6_makeCurrent_10 : decode cX6_makeCurrent 10 = .ok (.aload_n 0, 1) := by decide +kernel
theorem dX6_makeCurrent_11 : decode cX6_makeCurrent 11 = .ok (.getfield 9, 3) := by decide +kernel
theorem dX6_makeCurrent_14 : decode cX6_makeCurrent 14 = .ok (.iload_n 1, 1) := by decide +kernel
theorem dX6_makeCurrent_15 : decode cX6_makeCurrent 15 = .ok (.iload_n 2, 1) := by decide +kernel
theorem dX6_makeCurrent_16 : decode cX6_makeCurrent 16 = .ok (.iastore, 1) := by decide +kernel
theorem dX6_makeCurrent_17 : decode cX6_makeCurrent 17 = .ok (.return_, 1) := by decide +kernel
set_option maxRecDepth 20000 in
theorem ggX6_start_X4_currentAtFirst : GoodIn wsX6_start wsX4_currentAtFirst := goodIn_r _ [7, 8, 9, 10, 11, 12, 6, 13, 14, 83, 84, 85, 86, 87, 88, 89, 90, 91] (by decide +kernel) (by decide +kernel)
set_option maxRecDepth 20000 in
theorem gX6_start_X4_currentAtFirst : GoodIn wsX6_start (wsV RX6 27 RX4 yX4_currentAtFirst wsX4_currentAtFirst) := goodIn_app (goodIn_of _ (by decide +kernel)) ggX6_start_X4_currentAtFirst
set_option maxRecDepth 20000 in
theorem ggX6_start_X6_noteIn : GoodIn wsX6_start wsX6_noteIn := goodIn_r _ [19, 20, 21, 22, 23, 24, 25, 26, 27, 28, 29, 30, 31, 32, 78, 79, 80, 81, 82, 92, 93, 94, 95] (by decide +kernel) (by decide +kernel)
set_option maxRecDepth 20000 in
theorem gX6_start_X6_noteIn : GoodIn wsX6_start (wsV RX6 33 RX6 yX6_noteIn wsX6_noteIn) := goodIn_app (goodIn_of _ (by decide +kernel)) ggX6_start_X6_noteIn
set_option maxRecDepth 20000 in
theorem ggX6_start_X6_enter : GoodIn wsX6_start wsX6_enter := goodIn_r _ [36, 2, 21, 20, 37, 11, 12, 6, 13, 14, 38, 39, 40, 41, 42, 43, 44, 45, 25, 46, 27, 47, 48, 49, 50, 51, 52, 28, 29, 30, 31, 32, 53, 54, 55, 56, 8, 10, 57, 58, 59, 60, 61, 62, 63, 64, 65, 33, 34, 35, 18, 66, 67, 68, 69, 70, 71, 72, 73, 1, 74, 75, 76, 77, 78, 79, 80, 81, 82, 83, 84, 85, 86, 87, 88, 89, 90, 91, 92, 93, 94, 95] (by decide +kernel) (by decide +kernel)
set_option maxRecDepth 20000 in
theorem gX6_start_X6_enter : GoodIn wsX6_start (wsV RX6 37 RX6 yX6_enter wsX6_enter) := goodIn_app (goodIn_of _ (by decide +kernel)) ggX6_start_X6_enter
theorem dX6_start_0 : decode cX6_start 0 = .ok (.iconst 0, 1) := by decide +kernel
theorem dX6_start_1 : decode cX6_start 1 = .ok (.istore_n 2, 1) := by decide +kernel
theorem dX6_start_2 : decode cX6_start 2 = .ok (.iload_n 2, 1) := by decide +kernel
theorem dX6_start_3 : decode cX6_start 3 = .ok (.bipush 14, 2) := by decide +kernel
theorem dX6_start_5 : decode cX6_start 5 = .ok (.if_icmp .ge 23, 3) := by decide +kernel
theorem dX6_start_8 : decode cX6_start 8 = .ok (.aload_n 0, 1) := by decide +kernel
theorem dX6_start_9 : decode cX6_start 9 = .ok (.getfield 9, 3) := by decide +kernel
theorem dX6_start_12 : decode cX6_start 12 = .ok (.iload_n 2, 1) := by decide +kernel
theorem dX6_start_13 : decode cX6_start 13 = .ok (.aload_n 0, 1) := by decide +kernel
theorem dX6_start_14 : decode cX6_start 14 = .ok (.getfield 15, 3) := by decide +kernel
theorem dX6_start_17 : decode cX6_start 17 = .ok (.iload_n 2, 1) := by decide +kernel
theorem dX6_start_18 : decode cX6_start 18 = .ok (.invokevirtual 27, 3) := by decide +kernel
theorem dX6_start_21 : decode cX6_start 21 = .ok (.iastore, 1) := by decide +kernel
theorem dX6_start_22 : decode cX6_start 22 = .ok (.iinc 2 1, 3) := by decide +kernel
theorem dX6_start_25 : decode cX6_start 25 = .ok (.goto (-23), 3) := by decide +kernel
theorem dX6_start_28 : decode cX6_start 28 = .ok (.aload_n 0, 1) := by decide +kernel
theorem dX6_start_29 : decode cX6_start 29 = .ok (.iload_n 1, 1) := by decide +kernel
theorem dX6_start_30 : decode cX6_start 30 = .ok (.invokevirtual 33, 3) := by decide +kernel
theorem dX6_start_33 : decode cX6_start 33 = .ok (.aload_n 0, 1) := by decide +kernel
theorem dX6_start_34 : decode cX6_start 34 = .ok (.iconst 0, 1) := by decide +kernel
theorem dX6_start_35 : decode cX6_start 35 = .ok (.iconst (-1), 1) := by decide +kernel
theorem dX6_start_36 : decode cX6_start 36 = .ok (.iconst 0, 1) := by decide +kernel
theorem dX6_start_37 : decode cX6_start 37 = .ok (.invokevirtual 37, 3) := by decide +kernel
theorem dX6_start_40 : decode cX6_start 40 = .ok (.return_, 1) := by decide +kernel
set_option maxRecDepth 20000 in
theorem ggX6_receive_X6_noteIn : GoodIn wsX6_receive wsX6_noteIn := goodIn_r _ [5, 6, 7, 8, 9, 10, 11, 12, 13, 14, 15, 16, 17, 18, 157, 158, 159, 160, 161, 162, 163, 164, 165] (by decide +kernel) (by decide +kernel)
set_option maxRecDepth 20000 in
theorem gX6_receive_X6_noteIn : GoodIn wsX6_receive (wsV RX6 33 RX6 yX6_noteIn wsX6_noteIn) := goodIn_app (goodIn_of _ (by decide +kernel)) ggX6_receive_X6_noteIn
set_option maxRecDepth 20000 in
theorem ggX6_receive_X6_offer : GoodIn wsX6_receive wsX6_offer := goodIn_r _ [22, 23, 24, 25, 26, 27, 28, 29, 30, 31, 32, 33, 34, 35, 36, 37, 38, 39, 40, 41, 42, 43, 44, 45, 46, 47, 48, 19, 20, 21, 4, 49, 50, 51, 52, 53, 54, 55, 56, 57, 58, 59, 60, 61, 62, 63, 64, 65, 66, 67, 68, 69, 70, 71, 72, 73, 74, 75, 76, 77, 78, 79, 80, 81, 82, 83, 84, 85, 86, 87, 88, 89, 90, 91, 92, 7, 6, 93, 94, 95, 96, 97, 98, 99, 100, 101, 102, 103, 104, 105, 106, 107, 108, 109, 110, 111, 112, 113, 114, 115, 116, 117, 118, 119, 120, 11, 121, 13, 122, 123, 124, 14, 15, 16, 17, 18, 125, 126, 127, 128, 129, 130, 131, 132, 133, 134, 135, 136, 137, 138, 139, 140, 141, 142, 143, 144, 145, 146, 147, 148, 149, 150, 151, 152, 153, 154, 155, 156, 157, 158, 159, 160, 161, 166, 167, 168, 169, 170, 171, 172, 173, 174, 175, 176, 177, 178, 179, 180, 181, 182, 183, 184, 162, 163, 164, 165] (by decide +kernel) (by decide +kernel)
set_option maxRecDepth 20000 in
theorem gX6_receive_X6_offer : GoodIn wsX6_receive (wsV RX6 41 RX6 yX6_offer wsX6_offer) := goodIn_app (goodIn_of _ (by decide +kernel)) ggX6_receive_X6_offer
theorem dX6_receive_0 : decode cX6_receive 0 = .ok (.aload_n 0, 1) := by decide +kernel
theorem dX6_receive_1 : decode cX6_receive 1 = .ok (.iload_n 2, 1) := by decide +kernel
theorem dX6_receive_2 : decode cX6_receive 2 = .ok (.invokevirtual 33, 3) := by decide +kernel
theorem dX6_receive_5 : decode cX6_receive 5 = .ok (.aload_n 0, 1) := by decide +kernel
theorem dX6_receive_6 : decode cX6_receive 6 = .ok (.iconst 0, 1) := by decide +kernel
theorem dX6_receive_7 : decode cX6_receive 7 = .ok (.iload_n 1, 1) := by decide +kernel
theorem dX6_receive_8 : decode cX6_receive 8 = .ok (.iconst 0, 1) := by decide +kernel
theorem dX6_receive_9 : decode cX6_receive 9 = .ok (.invokevirtual 41, 3) := by decide +kernel
theorem dX6_receive_12 : decode cX6_receive 12 = .ok (.pop, 1) := by decide +kernel
theorem dX6_receive_13 : decode cX6_receive 13 = .ok (.return_, 1) := by decide +kernel
set_option maxRecDepth 20000 in
theorem ggX6_noteIn_X1_empty : GoodIn wsX6_noteIn wsX1_empty := goodIn_r _ [7, 8, 9, 10, 11, 6, 12, 13, 19, 20, 21, 22] (by decide +kernel) (by decide +kernel)
set_option maxRecDepth 20000 in
theorem gX6_noteIn_X1_empty : GoodIn wsX6_noteIn (wsV RX6 49 RX1 yX1_empty wsX1_empty) := goodIn_app (goodIn_of _ (by decide +kernel)) ggX6_noteIn_X1_empty
theorem dX6_noteIn_0 : decode cX6_noteIn 0 = .ok (.aload_n 0, 1) := by decide +kernel
theorem dX6_noteIn_1 : decode cX6_noteIn 1 = .ok (.iload_n 1, 1) := by decide +kernel
theorem dX6_noteIn_2 : decode cX6_noteIn 2 = .ok (.putfield 45, 3) := by decide +kernel
theorem dX6_noteIn_5 : decode cX6_noteIn 5 = .ok (.aload_n 0, 1) := by decide +kernel
theorem dX6_noteIn_6 : decode cX6_noteIn 6 = .ok (.getfield 23, 3) := by decide +kernel
theorem dX6_noteIn_9 : decode cX6_noteIn 9 = .ok (.aload_n 0, 1) := by decide +kernel
theorem dX6_noteIn_10 : decode cX6_noteIn 10 = .ok (.getfield 45, 3) := by decide +kernel
theorem dX6_noteIn_13 : decode cX6_noteIn 13 = .ok (.invokevirtual 49, 3) := by decide +kernel
theorem dX6_noteIn_16 : decode cX6_noteIn 16 = .ok (.return_, 1) := by decide +kernel
set_option maxRecDepth 20000 in
theorem ggX6_isActive_X4_parentOf : GoodIn wsX6_isActive wsX4_parentOf := goodIn_r _ [6, 7, 8, 9, 10, 5, 11, 12, 29, 30, 31, 32, 33, 34, 35, 36, 37] (by decide +kernel) (by decide +kernel)
set_option maxRecDepth 20000 in
theorem gX6_isActive_X4_parentOf : GoodIn wsX6_isActive (wsV RX6 54 RX4 yX4_parentOf wsX4_parentOf) := goodIn_app (goodIn_of _ (by decide +kernel)) ggX6_isActive_X4_parentOf
set_option maxRecDepth 20000 in
theorem ggX6_isActive_X4_isWhole : GoodIn wsX6_isActive wsX4_isWhole := goodIn_r _ [16, 17, 8, 9, 10, 5, 11, 12, 29, 30, 31, 32, 33, 34, 35, 36, 37] (by decide +kernel) (by decide +kernel)
set_option maxRecDepth 20000 in
theorem gX6_isActive_X4_isWhole : GoodIn wsX6_isActive (wsV RX6 57 RX4 yX4_isWhole wsX4_isWhole) := goodIn_app (goodIn_of _ (by decide +kernel)) ggX6_isActive_X4_isWhole
set_option maxRecDepth 20000 in
theorem ggX6_isActive_X6_currentChild : GoodIn wsX6_isActive wsX6_currentChild := goodIn_r _ [22, 23, 24, 25, 26, 27, 28] (by decide +kernel) (by decide +kernel)
set_option maxRecDepth 20000 in
theorem gX6_isActive_X6_currentChild : GoodIn wsX6_isActive (wsV RX6 61 RX6 yX6_currentChild wsX6_currentChild) := goodIn_app (goodIn_of _ (by decide +kernel)) ggX6_isActive_X6_currentChild
theorem dX6_isActive_0 : decode cX6_isActive 0 = .ok (.iload_n 1, 1) := by decide +kernel
theorem dX6_isActive_1 : decode cX6_isActive 1 = .ok (.istore_n 2, 1) := by decide +kernel
theorem dX6_isActive_2 : decode cX6_isActive 2 = .ok (.iconst 0, 1) := by decide +kernel
theorem dX6_isActive_3 : decode cX6_isActive 3 = .ok (.istore_n 3, 1) := by decide +kernel
theorem dX6_isActive_4 : decode cX6_isActive 4 = .ok (.iload_n 3, 1) := by decide +kernel
theorem dX6_isActive_5 : decode cX6_isActive 5 = .ok (.bipush 6, 2) := by decide +kernel
theorem dX6_isActive_7 : decode cX6_isActive 7 = .ok (.if_icmp .gt 50, 3) := by decide +kernel
theorem dX6_isActive_10 : decode cX6_isActive 10 = .ok (.iload_n 2, 1) := by decide +kernel
theorem dX6_isActive_11 : decode cX6_isActive 11 = .ok (.ifCond .le 46, 3) := by decide +kernel
theorem dX6_isActive_14 : decode cX6_isActive 14 = .ok (.aload_n 0, 1) := by decide +kernel
theorem dX6_isActive_15 : decode cX6_isActive 15 = .ok (.getfield 15, 3) := by decide +kernel
theorem dX6_isActive_18 : decode cX6_isActive 18 = .ok (.iload_n 2, 1) := by decide +kernel
theorem dX6_isActive_19 : decode cX6_isActive 19 = .ok (.invokevirtual 54, 3) := by decide +kernel
theorem dX6_isActive_22 : decode cX6_isActive 22 = .ok (.istore 4, 2) := by decide +kernel
theorem dX6_isActive_24 : decode cX6_isActive 24 = .ok (.aload_n 0, 1) := by decide +kernel
theorem dX6_isActive_25 : decode cX6_isActive 25 = .ok (.getfield 15, 3) := by decide +kernel
theorem dX6_isActive_28 : decode cX6_isActive 28 = .ok (.iload 4, 2) := by decide +kernel
theorem dX6_isActive_30 : decode cX6_isActive 30 = .ok (.invokevirtual 57, 3) := by decide +kernel
theorem dX6_isActive_33 : decode cX6_isActive 33 = .ok (.ifCond .ne 15, 3) := by decide +kernel
theorem dX6_isActive_36 : decode cX6_isActive 36 = .ok (.aload_n 0, 1) := by decide +kernel
theorem dX6_isActive_37 : decode cX6_isActive 37 = .ok (.iload 4, 2) := by decide +kernel
theorem dX6_isActive_39 : decode cX6_isActive 39 = .ok (.invokevirtual 61, 3) := by decide +kernel
theorem dX6_isActive_42 : decode cX6_isActive 42 = .ok (.iload_n 2, 1) := by decide +kernel
theorem dX6_isActive_43 : decode cX6_isActive 43 = .ok (.if_icmp .eq 5, 3) := by decide +kernel
theorem dX6_isActive_46 : decode cX6_isActive 46 = .ok (.iconst 0, 1) := by decide +kernel
theorem dX6_isActive_47 : decode cX6_isActive 47 = .ok (.ireturn, 1) := by decide +kernel
theorem dX6_isActive_48 : decode cX6_isActive 48 = .ok (.iload 4, 2) := by decide +kernel
theorem dX6_isActive_50 : decode cX6_isActive 50 = .ok (.istore_n 2, 1) := by decide +kernel
theorem dX6_isActive_51 : decode cX6_isActive 51 = .ok (.iinc 3 1, 3) := by decide +kernel
theorem dX6_isActive_54 : decode cX6_isActive 54 = .ok (.goto (-50), 3) := by decide +kernel
theorem dX6_isActive_57 : decode cX6_isActive 57 = .ok (.iload_n 2, 1) := by decide +kernel
theorem dX6_isActive_58 : decode cX6_isActive 58 = .ok (.ifCond .ne 7, 3) := by decide +kernel
theorem dX6_isActive_61 : decode cX6_isActive 61 = .ok (.iconst 1, 1) := by decide +kernel
theorem dX6_isActive_62 : decode cX6_isActive 62 = .ok (.goto 4, 3) := by decide +kernel
theorem dX6_isActive_65 : decode cX6_isActive 65 = .ok (.iconst 0, 1) := by decide +kernel
theorem dX6_isActive_66 : decode cX6_isActive 66 = .ok (.ireturn, 1) := by decide +kernel
set_option maxRecDepth 20000 in
theorem ggX6_enter_X4_isState : GoodIn wsX6_enter wsX4_isState := goodIn_r _ [8, 9, 69, 70, 71, 72, 73, 74, 75, 76, 77] (by decide +kernel) (by decide +kernel)
set_option maxRecDepth 20000 in
theorem gX6_enter_X4_isState : GoodIn wsX6_enter (wsV RX6 64 RX4 yX4_isState wsX4_isState) := goodIn_app (goodIn_of _ (by decide +kernel)) ggX6_enter_X4_isState
set_option maxRecDepth 20000 in
theorem ggX6_enter_X4_entering : GoodIn wsX6_enter wsX4_entering := goodIn_r _ [13, 14, 69, 70, 71, 72, 73, 74, 75, 76, 77] (by decide +kernel) (by decide +kernel)
set_option maxRecDepth 20000 in
theorem gX6_enter_X4_entering : GoodIn wsX6_enter (wsV RX6 67 RX4 yX4_entering wsX4_entering) := goodIn_app (goodIn_of _ (by decide +kernel)) ggX6_enter_X4_entering
set_option maxRecDepth 20000 in
theorem ggX6_enter_X1_addRow : GoodIn wsX6_enter wsX1_addRow := goodIn_r _ [19, 20, 21, 22, 23, 24, 25, 26, 27, 28, 29, 18, 30, 31, 78, 79, 80, 81] (by decide +kernel) (by decide +kernel)
set_option maxRecDepth 20000 in
theorem gX6_enter_X1_addRow : GoodIn wsX6_enter (wsV RX6 71 RX1 yX1_addRow wsX1_addRow) := goodIn_app (goodIn_of _ (by decide +kernel)) ggX6_enter_X1_addRow
set_option maxRecDepth 20000 in
theorem ggX6_enter_X4_isWhole : GoodIn wsX6_enter wsX4_isWhole := goodIn_r _ [35, 36, 37, 5, 6, 7, 8, 9, 69, 70, 71, 72, 73, 74, 75, 76, 77] (by decide +kernel) (by decide +kernel)
set_option maxRecDepth 20000 in
theorem gX6_enter_X4_isWhole : GoodIn wsX6_enter (wsV RX6 57 RX4 yX4_isWhole wsX4_isWhole) := goodIn_app (goodIn_of _ (by decide +kernel)) ggX6_enter_X4_isWhole
set_option maxRecDepth 20000 in
theorem ggX6_enter_X4_made : GoodIn wsX6_enter wsX4_made := goodIn_r _ [41, 9, 69, 70, 71, 72, 73, 74, 75, 76, 77] (by decide +kernel) (by decide +kernel)
set_option maxRecDepth 20000 in
theorem gX6_enter_X4_made : GoodIn wsX6_enter (wsV RX6 75 RX4 yX4_made wsX4_made) := goodIn_app (goodIn_of _ (by decide +kernel)) ggX6_enter_X4_made
set_option maxRecDepth 20000 in
theorem ggX6_enter_X4_parentOf : GoodIn wsX6_enter wsX4_parentOf := goodIn_r _ [45, 46, 37, 5, 6, 7, 8, 9, 69, 70, 71, 72, 73, 74, 75, 76, 77] (by decide +kernel) (by decide +kernel)
set_option maxRecDepth 20000 in
theorem gX6_enter_X4_parentOf : GoodIn wsX6_enter (wsV RX6 54 RX4 yX4_parentOf wsX4_parentOf) := goodIn_app (goodIn_of _ (by decide +kernel)) ggX6_enter_X4_parentOf
set_option maxRecDepth 20000 in
theorem ggX6_enter_X6_enter : GoodIn wsX6_enter wsX6_enter := goodIn_r _ [0, 1, 2, 3, 4, 5, 6, 7, 8, 9, 10, 11, 12, 13, 14, 15, 16, 17, 18, 19, 20, 21, 22, 23, 24, 25, 26, 27, 28, 29, 30, 31, 32, 33, 34, 35, 36, 37, 38, 39, 40, 41, 42, 43, 44, 45, 46, 47, 48, 49, 50, 51, 52, 53, 54, 55, 56, 57, 58, 59, 60, 61, 62, 63, 64, 65, 66, 67, 68, 69, 70, 71, 72, 73, 74, 75, 76, 77, 78, 79, 80, 81] (by decide +kernel) (by decide +kernel)
set_option maxRecDepth 20000 in
theorem gX6_enter_X6_enter : GoodIn wsX6_enter (wsV RX6 37 RX6 yX6_enter wsX6_enter) := goodIn_app (goodIn_of _ (by decide +kernel)) ggX6_enter_X6_enter
set_option maxRecDepth 20000 in
theorem ggX6_enter_X4_childToward : GoodIn wsX6_enter wsX4_childToward := goodIn_r _ [54, 46, 37, 5, 6, 7, 8, 9, 69, 70, 71, 72, 73, 74, 75, 76, 77] (by decide +kernel) (by decide +kernel)
set_option maxRecDepth 20000 in
theorem gX6_enter_X4_childToward : GoodIn wsX6_enter (wsV RX6 79 RX4 yX4_childToward wsX4_childToward) := goodIn_app (goodIn_of _ (by decide +kernel)) ggX6_enter_X4_childToward
set_option maxRecDepth 20000 in
theorem ggX6_enter_X6_makeCurrent : GoodIn wsX6_enter wsX6_makeCurrent := goodIn_r _ [58, 59, 64, 65, 66, 67, 68] (by decide +kernel) (by decide +kernel)
set_option maxRecDepth 20000 in
theorem gX6_enter_X6_makeCurrent : GoodIn wsX6_enter (wsV RX6 83 RX6 yX6_makeCurrent wsX6_makeCurrent) := goodIn_app (goodIn_of _ (by decide +kernel)) ggX6_enter_X6_makeCurrent
set_option maxRecDepth 20000 in
theorem ggX6_enter_X6_currentChild : GoodIn wsX6_enter wsX6_currentChild := goodIn_r _ [63, 59, 64, 65, 66, 67, 68] (by decide +kernel) (by decide +kernel)
set_option maxRecDepth 20000 in
theorem gX6_enter_X6_currentChild : GoodIn wsX6_enter (wsV RX6 61 RX6 yX6_currentChild wsX6_currentChild) := goodIn_app (goodIn_of _ (by decide +kernel)) ggX6_enter_X6_currentChild
theorem dX6_enter_0 : decode cX6_enter 0 = .ok (.aload_n 0, 1) := by decide +kernel
theorem dX6_enter_1 : decode cX6_enter 1 = .ok (.getfield 15, 3) := by decide +kernel
theorem dX6_enter_4 : decode cX6_enter 4 = .ok (.iload_n 1, 1) := by decide +kernel
theorem dX6_enter_5 : decode cX6_enter 5 = .ok (.invokevirtual 64, 3) := by decide +kernel
theorem dX6_enter_8 : decode cX6_enter 8 = .ok (.ifCond .eq 9, 3) := by decide +kernel
theorem dX6_enter_11 : decode cX6_enter 11 = .ok (.iload_n 3, 1) := by decide +kernel
theorem dX6_enter_12 : decode cX6_enter 12 = .ok (.bipush 6, 2) := by decide +kernel
theorem dX6_enter_14 : decode cX6_enter 14 = .ok (.if_icmp .le 4, 3) := by decide +kernel
theorem dX6_enter_17 : decode cX6_enter 17 = .ok (.return_, 1) := by decide +kernel
theorem dX6_enter_18 : decode cX6_enter 18 = .ok (.aload_n 0, 1) := by decide +kernel
theorem dX6_enter_19 : decode cX6_enter 19 = .ok (.getfield 23, 3) := by decide +kernel
theorem dX6_enter_22 : decode cX6_enter 22 = .ok (.aload_n 0, 1) := by decide +kernel
theorem dX6_enter_23 : decode cX6_enter 23 = .ok (.getfield 45, 3) := by decide +kernel
theorem dX6_enter_26 : decode cX6_enter 26 = .ok (.aload_n 0, 1) := by decide +kernel
theorem dX6_enter_27 : decode cX6_enter 27 = .ok (.getfield 15, 3) := by decide +kernel
theorem dX6_enter_30 : decode cX6_enter 30 = .ok (.invokevirtual 67, 3) := by decide +kernel
theorem dX6_enter_33 : decode cX6_enter 33 = .ok (.iload_n 1, 1) := by decide +kernel
theorem dX6_enter_34 : decode cX6_enter 34 = .ok (.invokevirtual 71, 3) := by decide +kernel
theorem dX6_enter_37 : decode cX6_enter 37 = .ok (.aload_n 0, 1) := by decide +kernel
theorem dX6_enter_38 : decode cX6_enter 38 = .ok (.getfield 15, 3) := by decide +kernel
theorem dX6_enter_41 : decode cX6_enter 41 = .ok (.iload_n 1, 1) := by decide +kernel
theorem dX6_enter_42 : decode cX6_enter 42 = .ok (.invokevirtual 57, 3) := by decide +kernel
theorem dX6_enter_45 : decode cX6_enter 45 = .ok (.ifCond .eq 50, 3) := by decide +kernel
theorem dX6_enter_48 : decode cX6_enter 48 = .ok (.iload_n 1, 1) := by decide +kernel
theorem dX6_enter_49 : decode cX6_enter 49 = .ok (.iconst 1, 1) := by decide +kernel
theorem dX6_enter_50 : decode cX6_enter 50 = .ok (.iadd, 1) := by decide +kernel
theorem dX6_enter_51 : decode cX6_enter 51 = .ok (.istore 4, 2) := by decide +kernel
theorem dX6_enter_53 : decode cX6_enter 53 = .ok (.iload 4, 2) := by decide +kernel
theorem dX6_enter_55 : decode cX6_enter 55 = .ok (.aload_n 0, 1) := by decide +kernel
theorem dX6_enter_56 : decode cX6_enter 56 = .ok (.getfield 15, 3) := by decide +kernel
theorem dX6_enter_59 : decode cX6_enter 59 = .ok (.invokevirtual 75, 3) := by decide +kernel
theorem dX6_enter_62 : decode cX6_enter 62 = .ok (.if_icmp .ge 32, 3) := by decide +kernel
theorem dX6_enter_65 : decode cX6_enter 65 = .ok (.aload_n 0, 1) := by decide +kernel
theorem dX6_enter_66 : decode cX6_enter 66 = .ok (.getfield 15, 3) := by decide +kernel
theorem dX6_enter_69 : decode cX6_enter 69 = .ok (.iload 4, 2) := by decide +kernel
theorem dX6_enter_71 : decode cX6_enter 71 = .ok (.invokevirtual 54, 3) := by decide +kernel
theorem dX6_enter_74 : decode cX6_enter 74 = .ok (.iload_n 1, 1) := by decide +kernel
theorem dX6_enter_75 : decode cX6_enter 75 = .ok (.if_icmp .ne 13, 3) := by decide +kernel
theorem dX6_enter_78 : decode cX6_enter 78 = .ok (.aload_n 0, 1) := by decide +kernel
theorem dX6_enter_79 : decode cX6_enter 79 = .ok (.iload 4, 2) := by decide +kernel
theorem dX6_enter_81 : decode cX6_enter 81 = .ok (.iload_n 2, 1) := by decide +kernel
theorem dX6_enter_82 : decode cX6_enter 82 = .ok (.iload_n 3, 1) := by decide +kernel
theorem dX6_enter_83 : decode cX6_enter 83 = .ok (.iconst 1, 1) := by decide +kernel
theorem dX6_enter_84 : decode cX6_enter 84 = .ok (.iadd, 1) := by decide +kernel
theorem dX6_enter_85 : decode cX6_enter 85 = .ok (.invokevirtual 37, 3) := by decide +kernel
theorem dX6_enter_88 : decode cX6_enter 88 = .ok (.iinc 4 1, 3) := by decide +kernel
theorem dX6_enter_91 : decode cX6_enter 91 = .ok (.goto (-38), 3) := by decide +kernel
theorem dX6_enter_94 : decode cX6_enter 94 = .ok (.return_, 1) := by decide +kernel
theorem dX6_enter_95 : decode cX6_enter 95 = .ok (.aload_n 0, 1) := by decide +kernel
theorem dX6_enter_96 : decode cX6_enter 96 = .ok (.getfield 15, 3) := by decide +kernel
theorem dX6_enter_99 : decode cX6_enter 99 = .ok (.iload_n 1, 1) := by decide +kernel
theorem dX6_enter_100 : decode cX6_enter 100 = .ok (.iload_n 2, 1) := by decide +kernel
theorem dX6_enter_101 : decode cX6_enter 101 = .ok (.invokevirtual 79, 3) := by decide +kernel
theorem dX6_enter_104 : decode cX6_enter 104 = .ok (.istore 4, 2) := by decide +kernel
theorem dX6_enter_106 : decode cX6_enter 106 = .ok (.iload 4, 2) := by decide +kernel
theorem dX6_enter_108 : decode cX6_enter 108 = .ok (.iconst (-1), 1) := by decide +kernel
theorem dX6_enter_109 : decode cX6_enter 109 = .ok (.if_icmp .eq 10, 3) := by decide +kernel
theorem dX6_enter_112 : decode cX6_enter 112 = .ok (.aload_n 0, 1) := by decide +kernel
theorem dX6_enter_113 : decode cX6_enter 113 = .ok (.iload_n 1, 1) := by decide +kernel
theorem dX6_enter_114 : decode cX6_enter 114 = .ok (.iload 4, 2) := by decide +kernel
theorem dX6_enter_116 : decode cX6_enter 116 = .ok (.invokevirtual 83, 3) := by decide +kernel
theorem dX6_enter_119 : decode cX6_enter 119 = .ok (.aload_n 0, 1) := by decide +kernel
theorem dX6_enter_120 : decode cX6_enter 120 = .ok (.aload_n 0, 1) := by decide +kernel
theorem dX6_enter_121 : decode cX6_enter 121 = .ok (.iload_n 1, 1) := by decide +kernel
theorem dX6_enter_122 : decode cX6_enter 122 = .ok (.invokevirtual 61, 3) := by decide +kernel
theorem dX6_enter_125 : decode cX6_enter 125 = .ok (.iload_n 2, 1) := by decide +kernel
theorem dX6_enter_126 : decode cX6_enter 126 = .ok (.iload_n 3, 1) := by decide +kernel
theorem dX6_enter_127 : decode cX6_enter 127 = .ok (.iconst 1, 1) := by decide +kernel
theorem dX6_enter_128 : decode cX6_enter 128 = .ok (.iadd, 1) := by decide +kernel
theorem dX6_enter_129 : decode cX6_enter 129 = .ok (.invokevirtual 37, 3) := by decide +kernel
theorem dX6_enter_132 : decode cX6_enter 132 = .ok (.return_, 1) := by decide +kernel
set_option maxRecDepth 20000 in
theorem ggX6_leave_X4_isState : GoodIn wsX6_leave wsX4_isState := goodIn_r _ [8, 9, 75, 76, 77, 78, 79, 80, 81, 82, 83] (by decide +kernel) (by decide +kernel)
set_option maxRecDepth 20000 in
theorem gX6_leave_X4_isState : GoodIn wsX6_leave (wsV RX6 64 RX4 yX4_isState wsX4_isState) := goodIn_app (goodIn_of _ (by decide +kernel)) ggX6_leave_X4_isState
set_option maxRecDepth 20000 in
theorem ggX6_leave_X4_isWhole : GoodIn wsX6_leave wsX4_isWhole := goodIn_r _ [13, 14, 15, 5, 6, 7, 8, 9, 75, 76, 77, 78, 79, 80, 81, 82, 83] (by decide +kernel) (by decide +kernel)
set_option maxRecDepth 20000 in
theorem gX6_leave_X4_isWhole : GoodIn wsX6_leave (wsV RX6 57 RX4 yX4_isWhole wsX4_isWhole) := goodIn_app (goodIn_of _ (by decide +kernel)) ggX6_leave_X4_isWhole
set_option maxRecDepth 20000 in
theorem ggX6_leave_X4_made : GoodIn wsX6_leave wsX4_made := goodIn_r _ [19, 9, 75, 76, 77, 78, 79, 80, 81, 82, 83] (by decide +kernel) (by decide +kernel)
set_option maxRecDepth 20000 in
theorem gX6_leave_X4_made : GoodIn wsX6_leave (wsV RX6 75 RX4 yX4_made wsX4_made) := goodIn_app (goodIn_of _ (by decide +kernel)) ggX6_leave_X4_made
set_option maxRecDepth 20000 in
theorem ggX6_leave_X4_parentOf : GoodIn wsX6_leave wsX4_parentOf := goodIn_r _ [23, 24, 15, 5, 6, 7, 8, 9, 75, 76, 77, 78, 79, 80, 81, 82, 83] (by decide +kernel) (by decide +kernel)
set_option maxRecDepth 20000 in
theorem gX6_leave_X4_parentOf : GoodIn wsX6_leave (wsV RX6 54 RX4 yX4_parentOf wsX4_parentOf) := goodIn_app (goodIn_of _ (by decide +kernel)) ggX6_leave_X4_parentOf
set_option maxRecDepth 20000 in
theorem ggX6_leave_X6_leave : GoodIn wsX6_leave wsX6_leave := goodIn_r _ [0, 1, 2, 3, 4, 5, 6, 7, 8, 9, 10, 11, 12, 13, 14, 15, 16, 17, 18, 19, 20, 21, 22, 23, 24, 25, 26, 27, 28, 29, 30, 31, 32, 33, 34, 35, 36, 37, 38, 39, 40, 41, 42, 43, 44, 45, 46, 47, 48, 49, 50, 51, 52, 53, 54, 55, 56, 57, 58, 59, 60, 61, 62, 63, 64, 65, 66, 67, 68, 69, 70, 71, 72, 73, 74, 75, 76, 77, 78, 79, 80, 81, 82, 83, 84, 85, 86, 87] (by decide +kernel) (by decide +kernel)
set_option maxRecDepth 20000 in
theorem gX6_leave_X6_leave : GoodIn wsX6_leave (wsV RX6 87 RX6 yX6_leave wsX6_leave) := goodIn_app (goodIn_of _ (by decide +kernel)) ggX6_leave_X6_leave
set_option maxRecDepth 20000 in
theorem ggX6_leave_X6_currentChild : GoodIn wsX6_leave wsX6_currentChild := goodIn_r _ [32, 33, 70, 71, 72, 73, 74] (by decide +kernel) (by decide +kernel)
set_option maxRecDepth 20000 in
theorem gX6_leave_X6_currentChild : GoodIn wsX6_leave (wsV RX6 61 RX6 yX6_currentChild wsX6_currentChild) := goodIn_app (goodIn_of _ (by decide +kernel)) ggX6_leave_X6_currentChild
set_option maxRecDepth 20000 in
theorem ggX6_leave_X4_leaving : GoodIn wsX6_leave wsX4_leaving := goodIn_r _ [37, 38, 75, 76, 77, 78, 79, 80, 81, 82, 83] (by decide +kernel) (by decide +kernel)
set_option maxRecDepth 20000 in
theorem gX6_leave_X4_leaving : GoodIn wsX6_leave (wsV RX6 90 RX4 yX4_leaving wsX4_leaving) := goodIn_app (goodIn_of _ (by decide +kernel)) ggX6_leave_X4_leaving
set_option maxRecDepth 20000 in
theorem ggX6_leave_X1_addRow : GoodIn wsX6_leave wsX1_addRow := goodIn_r _ [43, 44, 45, 46, 47, 48, 49, 50, 51, 52, 53, 42, 54, 55, 84, 85, 86, 87] (by decide +kernel) (by decide +kernel)
set_option maxRecDepth 20000 in
theorem gX6_leave_X1_addRow : GoodIn wsX6_leave (wsV RX6 71 RX1 yX1_addRow wsX1_addRow) := goodIn_app (goodIn_of _ (by decide +kernel)) ggX6_leave_X1_addRow
set_option maxRecDepth 20000 in
theorem ggX6_leave_X4_isRemembering : GoodIn wsX6_leave wsX4_isRemembering := goodIn_r _ [59, 60, 15, 5, 6, 7, 8, 9, 75, 76, 77, 78, 79, 80, 81, 82, 83] (by decide +kernel) (by decide +kernel)
set_option maxRecDepth 20000 in
theorem gX6_leave_X4_isRemembering : GoodIn wsX6_leave (wsV RX6 93 RX4 yX4_isRemembering wsX4_isRemembering) := goodIn_app (goodIn_of _ (by decide +kernel)) ggX6_leave_X4_isRemembering
set_option maxRecDepth 20000 in
theorem ggX6_leave_X4_currentAtFirst : GoodIn wsX6_leave wsX4_currentAtFirst := goodIn_r _ [64, 14, 65, 15, 5, 6, 7, 8, 9, 75, 76, 77, 78, 79, 80, 81, 82, 83] (by decide +kernel) (by decide +kernel)
set_option maxRecDepth 20000 in
theorem gX6_leave_X4_currentAtFirst : GoodIn wsX6_leave (wsV RX6 27 RX4 yX4_currentAtFirst wsX4_currentAtFirst) := goodIn_app (goodIn_of _ (by decide +kernel)) ggX6_leave_X4_currentAtFirst
set_option maxRecDepth 20000 in
theorem ggX6_leave_X6_makeCurrent : GoodIn wsX6_leave wsX6_makeCurrent := goodIn_r _ [69, 33, 70, 71, 72, 73, 74] (by decide +kernel) (by decide +kernel)
set_option maxRecDepth 20000 in
theorem gX6_leave_X6_makeCurrent : GoodIn wsX6_leave (wsV RX6 83 RX6 yX6_makeCurrent wsX6_makeCurrent) := goodIn_app (goodIn_of _ (by decide +kernel)) ggX6_leave_X6_makeCurrent
theorem dX6_leave_0 : decode cX6_leave 0 = .ok (.aload_n 0, 1) := by decide +kernel
theorem dX6_leave_1 : decode cX6_leave 1 = .ok (.getfield 15, 3) := by decide +kernel
theorem dX6_leave_4 : decode cX6_leave 4 = .ok (.iload_n 1, 1) := by decide +kernel
theorem dX6_leave_5 : decode cX6_leave 5 = .ok (.invokevirtual 64, 3) := by decide +kernel
theorem dX6_leave_8 : decode cX6_leave 8 = .ok (.ifCond .eq 9, 3) := by decide +kernel
theorem dX6_leave_11 : decode cX6_leave 11 = .ok (.iload_n 2, 1) := by decide +kernel
theorem dX6_leave_12 : decode cX6_leave 12 = .ok (.bipush 6, 2) := by decide +kernel
theorem dX6_leave_14 : decode cX6_leave 14 = .ok (.if_icmp .le 4, 3) := by decide +kernel
theorem dX6_leave_17 : decode cX6_leave 17 = .ok (.return_, 1) := by decide +kernel
theorem dX6_leave_18 : decode cX6_leave 18 = .ok (.aload_n 0, 1) := by decide +kernel
theorem dX6_leave_19 : decode cX6_leave 19 = .ok (.getfield 15, 3) := by decide +kernel
theorem dX6_leave_22 : decode cX6_leave 22 = .ok (.iload_n 1, 1) := by decide +kernel
theorem dX6_leave_23 : decode cX6_leave 23 = .ok (.invokevirtual 57, 3) := by decide +kernel
theorem dX6_leave_26 : decode cX6_leave 26 = .ok (.ifCond .eq 47, 3) := by decide +kernel
theorem dX6_leave_29 : decode cX6_leave 29 = .ok (.aload_n 0, 1) := by decide +kernel
theorem dX6_leave_30 : decode cX6_leave 30 = .ok (.getfield 15, 3) := by decide +kernel
theorem dX6_leave_33 : decode cX6_leave 33 = .ok (.invokevirtual 75, 3) := by decide +kernel
theorem dX6_leave_36 : decode cX6_leave 36 = .ok (.iconst 1, 1) := by decide +kernel
theorem dX6_leave_37 : decode cX6_leave 37 = .ok (.isub, 1) := by decide +kernel
theorem dX6_leave_38 : decode cX6_leave 38 = .ok (.istore_n 3, 1) := by decide +kernel
theorem dX6_leave_39 : decode cX6_leave 39 = .ok (.iload_n 3, 1) := by decide +kernel
theorem dX6_leave_40 : decode cX6_leave 40 = .ok (.iload_n 1, 1) := by decide +kernel
theorem dX6_leave_41 : decode cX6_leave 41 = .ok (.if_icmp .le 29, 3) := by decide +kernel
theorem dX6_leave_44 : decode cX6_leave 44 = .ok (.aload_n 0, 1) := by decide +kernel
theorem dX6_leave_45 : decode cX6_leave 45 = .ok (.getfield 15, 3) := by decide +kernel
theorem dX6_leave_48 : decode cX6_leave 48 = .ok (.iload_n 3, 1) := by decide +kernel
theorem dX6_leave_49 : decode cX6_leave 49 = .ok (.invokevirtual 54, 3) := by decide +kernel
theorem dX6_leave_52 : decode cX6_leave 52 = .ok (.iload_n 1, 1) := by decide +kernel
theorem dX6_leave_53 : decode cX6_leave 53 = .ok (.if_icmp .ne 11, 3) := by decide +kernel
theorem dX6_leave_56 : decode cX6_leave 56 = .ok (.aload_n 0, 1) := by decide +kernel
theorem dX6_leave_57 : decode cX6_leave 57 = .ok (.iload_n 3, 1) := by decide +kernel
theorem dX6_leave_58 : decode cX6_leave 58 = .ok (.iload_n 2, 1) := by decide +kernel
theorem dX6_leave_59 : decode cX6_leave 59 = .ok (.iconst 1, 1) := by decide +kernel
theorem dX6_leave_60 : decode cX6_leave 60 = .ok (.iadd, 1) := by decide +kernel
theorem dX6_leave_61 : decode cX6_leave 61 = .ok (.invokevirtual 87, 3) := by decide +kernel
theorem dX6_leave_64 : decode cX6_leave 64 = .ok (.iinc 3 (-1), 3) := by decide +kernel
theorem dX6_leave_67 : decode cX6_leave 67 = .ok (.goto (-28), 3) := by decide +kernel
theorem dX6_leave_70 : decode cX6_leave 70 = .ok (.goto 15, 3) := by decide +kernel
theorem dX6_leave_73 : decode cX6_leave 73 = .ok (.aload_n 0, 1) := by decide +kernel
theorem dX6_leave_74 : decode cX6_leave 74 = .ok (.aload_n 0, 1) := by decide +kernel
theorem dX6_leave_75 : decode cX6_leave 75 = .ok (.iload_n 1, 1) := by decide +kernel
theorem dX6_leave_76 : decode cX6_leave 76 = .ok (.invokevirtual 61, 3) := by decide +kernel
theorem dX6_leave_79 : decode cX6_leave 79 = .ok (.iload_n 2, 1) := by decide +kernel
theorem dX6_leave_80 : decode cX6_leave 80 = .ok (.iconst 1, 1) := by decide +kernel
theorem dX6_leave_81 : decode cX6_leave 81 = .ok (.iadd, 1) := by decide +kernel
theorem dX6_leave_82 : decode cX6_leave 82 = .ok (.invokevirtual 87, 3) := by decide +kernel
theorem dX6_leave_85 : decode cX6_leave 85 = .ok (.aload_n 0, 1) := by decide +kernel
theorem dX6_leave_86 : decode cX6_leave 86 = .ok (.getfield 23, 3) := by decide +kernel
theorem dX6_leave_89 : decode cX6_leave 89 = .ok (.aload_n 0, 1) := by decide +kernel
theorem dX6_leave_90 : decode cX6_leave 90 = .ok (.getfield 45, 3) := by decide +kernel
theorem dX6_leave_93 : decode cX6_leave 93 = .ok (.aload_n 0, 1) := by decide +kernel
theorem dX6_leave_94 : decode cX6_leave 94 = .ok (.getfield 15, 3) := by decide +kernel
theorem dX6_leave_97 : decode cX6_leave 97 = .ok (.invokevirtual 90, 3) := by decide +kernel
theorem dX6_leave_100 : decode cX6_leave 100 = .ok (.iload_n 1, 1) := by decide +kernel
theorem dX6_leave_101 : decode cX6_leave 101 = .ok (.invokevirtual 71, 3) := by decide +kernel
theorem dX6_leave_104 : decode cX6_leave 104 = .ok (.aload_n 0, 1) := by decide +kernel
theorem dX6_leave_105 : decode cX6_leave 105 = .ok (.getfield 15, 3) := by decide +kernel
theorem dX6_leave_108 : decode cX6_leave 108 = .ok (.iload_n 1, 1) := by decide +kernel
theorem dX6_leave_109 : decode cX6_leave 109 = .ok (.invokevirtual 93, 3) := by decide +kernel
theorem dX6_leave_112 : decode cX6_leave 112 = .ok (.ifCond .ne 16, 3) := by decide +kernel
theorem dX6_leave_115 : decode cX6_leave 115 = .ok (.aload_n 0, 1) := by decide +kernel
theorem dX6_leave_116 : decode cX6_leave 116 = .ok (.iload_n 1, 1) := by decide +kernel
theorem dX6_leave_117 : decode cX6_leave 117 = .ok (.aload_n 0, 1) := by decide +kernel
theorem dX6_leave_118 : decode cX6_leave 118 = .ok (.getfield 15, 3) := by decide +kernel
theorem dX6_leave_121 : decode cX6_leave 121 = .ok (.iload_n 1, 1) := by decide +kernel
theorem dX6_leave_122 : decode cX6_leave 122 = .ok (.invokevirtual 27, 3) := by decide +kernel
theorem dX6_leave_125 : decode cX6_leave 125 = .ok (.invokevirtual 83, 3) := by decide +kernel
theorem dX6_leave_128 : decode cX6_leave 128 = .ok (.return_, 1) := by decide +kernel
set_option maxRecDepth 20000 in
theorem ggX6_offer_X4_isState : GoodIn wsX6_offer wsX4_isState := goodIn_r _ [10, 11, 153, 154, 155, 156, 157, 158, 159, 160, 161] (by decide +kernel) (by decide +kernel)
set_option maxRecDepth 20000 in
theorem gX6_offer_X4_isState : GoodIn wsX6_offer (wsV RX6 64 RX4 yX4_isState wsX4_isState) := goodIn_app (goodIn_of _ (by decide +kernel)) ggX6_offer_X4_isState
set_option maxRecDepth 20000 in
theorem ggX6_offer_X4_isWhole : GoodIn wsX6_offer wsX4_isWhole := goodIn_r _ [15, 16, 17, 7, 8, 9, 10, 11, 153, 154, 155, 156, 157, 158, 159, 160, 161] (by decide +kernel) (by decide +kernel)
set_option maxRecDepth 20000 in
theorem gX6_offer_X4_isWhole : GoodIn wsX6_offer (wsV RX6 57 RX4 yX4_isWhole wsX4_isWhole) := goodIn_app (goodIn_of _ (by decide +kernel)) ggX6_offer_X4_isWhole
set_option maxRecDepth 20000 in
theorem ggX6_offer_X4_made : GoodIn wsX6_offer wsX4_made := goodIn_r _ [21, 11, 153, 154, 155, 156, 157, 158, 159, 160, 161] (by decide +kernel) (by decide +kernel)
set_option maxRecDepth 20000 in
theorem gX6_offer_X4_made : GoodIn wsX6_offer (wsV RX6 75 RX4 yX4_made wsX4_made) := goodIn_app (goodIn_of _ (by decide +kernel)) ggX6_offer_X4_made
set_option maxRecDepth 20000 in
theorem ggX6_offer_X4_parentOf : GoodIn wsX6_offer wsX4_parentOf := goodIn_r _ [25, 26, 17, 7, 8, 9, 10, 11, 153, 154, 155, 156, 157, 158, 159, 160, 161] (by decide +kernel) (by decide +kernel)
set_option maxRecDepth 20000 in
theorem gX6_offer_X4_parentOf : GoodIn wsX6_offer (wsV RX6 54 RX4 yX4_parentOf wsX4_parentOf) := goodIn_app (goodIn_of _ (by decide +kernel)) ggX6_offer_X4_parentOf
set_option maxRecDepth 20000 in
theorem ggX6_offer_X6_offer : GoodIn wsX6_offer wsX6_offer := goodIn_r _ [0, 1, 2, 3, 4, 5, 6, 7, 8, 9, 10, 11, 12, 13, 14, 15, 16, 17, 18, 19, 20, 21, 22, 23, 24, 25, 26, 27, 28, 29, 30, 31, 32, 33, 34, 35, 36, 37, 38, 39, 40, 41, 42, 43, 44, 45, 46, 47, 48, 49, 50, 51, 52, 53, 54, 55, 56, 57, 58, 59, 60, 61, 62, 63, 64, 65, 66, 67, 68, 69, 70, 71, 72, 73, 74, 75, 76, 77, 78, 79, 80, 81, 82, 83, 84, 85, 86, 87, 88, 89, 90, 91, 92, 93, 94, 95, 96, 97, 98, 99, 100, 101, 102, 103, 104, 105, 106, 107, 108, 109, 110, 111, 112, 113, 114, 115, 116, 117, 118, 119, 120, 121, 122, 123, 124, 125, 126, 127, 128, 129, 130, 131, 132, 133, 134, 135, 136, 137, 138, 139, 140, 141, 142, 143, 144, 145, 146, 147, 148, 149, 150, 151, 152, 153, 154, 155, 156, 157, 158, 159, 160, 161, 162, 163, 164, 165, 166, 167, 168, 169, 170, 171, 172, 173, 174, 175] (by decide +kernel) (by decide +kernel)
set_option maxRecDepth 20000 in
theorem gX6_offer_X6_offer : GoodIn wsX6_offer (wsV RX6 41 RX6 yX6_offer wsX6_offer) := goodIn_app (goodIn_of _ (by decide +kernel)) ggX6_offer_X6_offer
set_option maxRecDepth 20000 in
theorem ggX6_offer_X6_currentChild : GoodIn wsX6_offer wsX6_currentChild := goodIn_r _ [34, 35, 148, 149, 150, 151, 152] (by decide +kernel) (by decide +kernel)
set_option maxRecDepth 20000 in
theorem gX6_offer_X6_currentChild : GoodIn wsX6_offer (wsV RX6 61 RX6 yX6_currentChild wsX6_currentChild) := goodIn_app (goodIn_of _ (by decide +kernel)) ggX6_offer_X6_currentChild
set_option maxRecDepth 20000 in
theorem ggX6_offer_X6_ownRule : GoodIn wsX6_offer wsX6_ownRule := goodIn_r _ [39, 40, 41, 42, 43, 44, 45, 46, 47, 48, 49, 50, 51, 52, 53, 54, 55, 56, 57, 58, 59, 60, 61, 62, 63, 64, 30, 65, 1, 22, 23, 24, 9, 25, 26, 17, 7, 8, 10, 11, 12, 13, 14, 15, 16, 31, 32, 33, 34, 35, 66, 67, 68, 69, 70, 148, 149, 150, 151, 152, 162, 163, 164, 165, 166, 167, 168, 169, 170, 171, 153, 154, 155, 156, 157, 158, 159, 160, 161] (by decide +kernel) (by decide +kernel)
set_option maxRecDepth 20000 in
theorem gX6_offer_X6_ownRule : GoodIn wsX6_offer (wsV RX6 101 RX6 yX6_ownRule wsX6_ownRule) := goodIn_app (goodIn_of _ (by decide +kernel)) ggX6_offer_X6_ownRule
set_option maxRecDepth 20000 in
theorem ggX6_offer_X6_take : GoodIn wsX6_offer wsX6_take := goodIn_r _ [74, 40, 1, 75, 76, 77, 54, 55, 44, 56, 46, 78, 79, 80, 81, 82, 53, 83, 84, 85, 86, 87, 88, 89, 90, 9, 91, 92, 17, 7, 8, 10, 11, 31, 32, 33, 30, 34, 35, 93, 94, 95, 96, 6, 12, 13, 14, 15, 16, 18, 19, 20, 21, 22, 23, 24, 25, 26, 97, 98, 99, 100, 101, 102, 103, 104, 105, 106, 107, 108, 109, 3, 4, 5, 110, 111, 112, 113, 114, 115, 116, 117, 118, 119, 120, 121, 122, 123, 124, 125, 126, 127, 128, 129, 130, 131, 132, 133, 134, 135, 136, 137, 138, 139, 140, 141, 142, 143, 144, 145, 146, 147, 148, 149, 150, 151, 152, 162, 163, 164, 165, 166, 167, 168, 169, 170, 171, 153, 154, 155, 156, 157, 158, 159, 160, 161, 172, 173, 174, 175] (by decide +kernel) (by decide +kernel)
set_option maxRecDepth 20000 in
theorem gX6_offer_X6_take : GoodIn wsX6_offer (wsV RX6 104 RX6 yX6_take wsX6_take) := goodIn_app (goodIn_of _ (by decide +kernel)) ggX6_offer_X6_take
theorem dX6_offer_0 : decode cX6_offer 0 = .ok (.aload_n 0, 1) := by decide +kernel
theorem dX6_offer_1 : decode cX6_offer 1 = .ok (.getfield 15, 3) := by decide +kernel
theorem dX6_offer_4 : decode cX6_offer 4 = .ok (.iload_n 1, 1) := by decide +kernel
theorem dX6_offer_5 : decode cX6_offer 5 = .ok (.invokevirtual 64, 3) := by decide +kernel
theorem dX6_offer_8 : decode cX6_offer 8 = .ok (.ifCond .eq 9, 3) := by decide +kernel
theorem dX6_offer_11 : decode cX6_offer 11 = .ok (.iload_n 3, 1) := by decide +kernel
theorem dX6_offer_12 : decode cX6_offer 12 = .ok (.bipush 6, 2) := by decide +kernel
theorem dX6_offer_14 : decode cX6_offer 14 = .ok (.if_icmp .le 6, 3) := by decide +kernel
theorem dX6_offer_17 : decode cX6_offer 17 = .ok (.bipush 7, 2) := by decide +kernel
theorem dX6_offer_19 : decode cX6_offer 19 = .ok (.ireturn, 1) := by decide +kernel
theorem dX6_offer_20 : decode cX6_offer 20 = .ok (.bipush 7, 2) := by decide +kernel
theorem dX6_offer_22 : decode cX6_offer 22 = .ok (.istore 4, 2) := by decide +kernel
theorem dX6_offer_24 : decode cX6_offer 24 = .ok (.aload_n 0, 1) := by decide +kernel
theorem dX6_offer_25 : decode cX6_offer 25 = .ok (.getfield 15, 3) := by decide +kernel
theorem dX6_offer_28 : decode cX6_offer 28 = .ok (.iload_n 1, 1) := by decide +kernel
theorem dX6_offer_29 : decode cX6_offer 29 = .ok (.invokevirtual 57, 3) := by decide +kernel
theorem dX6_offer_32 : decode cX6_offer 32 = .ok (.ifCond .eq 65, 3) := by decide +kernel
theorem dX6_offer_35 : decode cX6_offer 35 = .ok (.iload_n 1, 1) := by decide +kernel
theorem dX6_offer_36 : decode cX6_offer 36 = .ok (.iconst 1, 1) := by decide +kernel
theorem dX6_offer_37 : decode cX6_offer 37 = .ok (.iadd, 1) := by decide +kernel
theorem dX6_offer_38 : decode cX6_offer 38 = .ok (.istore 5, 2) := by decide +kernel
theorem dX6_offer_40 : decode cX6_offer 40 = .ok (.iload 5, 2) := by decide +kernel
theorem dX6_offer_42 : decode cX6_offer 42 = .ok (.aload_n 0, 1) := by decide +kernel
theorem dX6_offer_43 : decode cX6_offer 43 = .ok (.getfield 15, 3) := by decide +kernel
theorem dX6_offer_46 : decode cX6_offer 46 = .ok (.invokevirtual 75, 3) := by decide +kernel
theorem dX6_offer_49 : decode cX6_offer 49 = .ok (.if_icmp .ge 45, 3) := by decide +kernel
theorem dX6_offer_52 : decode cX6_offer 52 = .ok (.iload 4, 2) := by decide +kernel
theorem dX6_offer_54 : decode cX6_offer 54 = .ok (.iload_n 3, 1) := by decide +kernel
theorem dX6_offer_55 : decode cX6_offer 55 = .ok (.if_icmp .le 39, 3) := by decide +kernel
theorem dX6_offer_58 : decode cX6_offer 58 = .ok (.aload_n 0, 1) := by decide +kernel
theorem dX6_offer_59 : decode cX6_offer 59 = .ok (.getfield 15, 3) := by decide +kernel
theorem dX6_offer_62 : decode cX6_offer 62 = .ok (.iload 5, 2) := by decide +kernel
theorem dX6_offer_64 : decode cX6_offer 64 = .ok (.invokevirtual 54, 3) := by decide +kernel
theorem dX6_offer_67 : decode cX6_offer 67 = .ok (.iload_n 1, 1) := by decide +kernel
theorem dX6_offer_68 : decode cX6_offer 68 = .ok (.if_icmp .ne 20, 3) := by decide +kernel
theorem dX6_offer_71 : decode cX6_offer 71 = .ok (.iload 4, 2) := by decide +kernel
theorem dX6_offer_73 : decode cX6_offer 73 = .ok (.aload_n 0, 1) := by decide +kernel
theorem dX6_offer_74 : decode cX6_offer 74 = .ok (.iload 5, 2) := by decide +kernel
theorem dX6_offer_76 : decode cX6_offer 76 = .ok (.iload_n 2, 1) := by decide +kernel
theorem dX6_offer_77 : decode cX6_offer 77 = .ok (.iload_n 3, 1) := by decide +kernel
theorem dX6_offer_78 : decode cX6_offer 78 = .ok (.iconst 1, 1) := by decide +kernel
theorem dX6_offer_79 : decode cX6_offer 79 = .ok (.iadd, 1) := by decide +kernel
theorem dX6_offer_80 : decode cX6_offer 80 = .ok (.invokevirtual 41, 3) := by decide +kernel
theorem dX6_offer_83 : decode cX6_offer 83 = .ok (.invokestatic 96, 3) := by decide +kernel
theorem dX6_offer_86 : decode cX6_offer 86 = .ok (.istore 4, 2) := by decide +kernel
theorem dX6_offer_88 : decode cX6_offer 88 = .ok (.iinc 5 1, 3) := by decide +kernel
theorem dX6_offer_91 : decode cX6_offer 91 = .ok (.goto (-51), 3) := by decide +kernel
theorem dX6_offer_94 : decode cX6_offer 94 = .ok (.goto 18, 3) := by decide +kernel
theorem dX6_offer_97 : decode cX6_offer 97 = .ok (.aload_n 0, 1) := by decide +kernel
theorem dX6_offer_98 : decode cX6_offer 98 = .ok (.aload_n 0, 1) := by decide +kernel
theorem dX6_offer_99 : decode cX6_offer 99 = .ok (.iload_n 1, 1) := by decide +kernel
theorem dX6_offer_100 : decode cX6_offer 100 = .ok (.invokevirtual 61, 3) := by decide +kernel
theorem dX6_offer_103 : decode cX6_offer 103 = .ok (.iload_n 2, 1) := by decide +kernel
theorem dX6_offer_104 : decode cX6_offer 104 = .ok (.iload_n 3, 1) := by decide +kernel
theorem dX6_offer_105 : decode cX6_offer 105 = .ok (.iconst 1, 1) := by decide +kernel
theorem dX6_offer_106 : decode cX6_offer 106 = .ok (.iadd, 1) := by decide +kernel
theorem dX6_offer_107 : decode cX6_offer 107 = .ok (.invokevirtual 41, 3) := by decide +kernel
theorem dX6_offer_110 : decode cX6_offer 110 = .ok (.istore 4, 2) := by decide +kernel
theorem dX6_offer_112 : decode cX6_offer 112 = .ok (.iload 4, 2) := by decide +kernel
theorem dX6_offer_114 : decode cX6_offer 114 = .ok (.bipush 7, 2) := by decide +kernel
theorem dX6_offer_116 : decode cX6_offer 116 = .ok (.if_icmp .ne 16, 3) := by decide +kernel
theorem dX6_offer_119 : decode cX6_offer 119 = .ok (.aload_n 0, 1) := by decide +kernel
theorem dX6_offer_120 : decode cX6_offer 120 = .ok (.aload_n 0, 1) := by decide +kernel
theorem dX6_offer_121 : decode cX6_offer 121 = .ok (.iload_n 1, 1) := by decide +kernel
theorem dX6_offer_122 : decode cX6_offer 122 = .ok (.iload_n 2, 1) := by decide +kernel
theorem dX6_offer_123 : decode cX6_offer 123 = .ok (.invokevirtual 101, 3) := by decide +kernel
theorem dX6_offer_126 : decode cX6_offer 126 = .ok (.invokevirtual 104, 3) := by decide +kernel
theorem dX6_offer_129 : decode cX6_offer 129 = .ok (.goto 5, 3) := by decide +kernel
theorem dX6_offer_132 : decode cX6_offer 132 = .ok (.iload 4, 2) := by decide +kernel
theorem dX6_offer_134 : decode cX6_offer 134 = .ok (.ireturn, 1) := by decide +kernel
set_option maxRecDepth 20000 in
theorem ggX6_ownRule_X3_made : GoodIn wsX6_ownRule wsX3_made := goodIn_r _ [6, 7, 60, 61, 62, 63, 64, 65, 66, 67, 68, 69] (by decide +kernel) (by decide +kernel)
set_option maxRecDepth 20000 in
theorem gX6_ownRule_X3_made : GoodIn wsX6_ownRule (wsV RX6 107 RX3 yX3_made wsX3_made) := goodIn_app (goodIn_of _ (by decide +kernel)) ggX6_ownRule_X3_made
set_option maxRecDepth 20000 in
theorem ggX6_ownRule_X3_isFor : GoodIn wsX6_ownRule wsX3_isFor := goodIn_r _ [11, 12, 13, 14, 15, 16, 5, 17, 7, 60, 61, 62, 63, 64, 65, 66, 67, 68, 69] (by decide +kernel) (by decide +kernel)
set_option maxRecDepth 20000 in
theorem gX6_ownRule_X3_isFor : GoodIn wsX6_ownRule (wsV RX6 110 RX3 yX3_isFor wsX3_isFor) := goodIn_app (goodIn_of _ (by decide +kernel)) ggX6_ownRule_X3_isFor
set_option maxRecDepth 20000 in
theorem ggX6_ownRule_X3_askedOf : GoodIn wsX6_ownRule wsX3_askedOf := goodIn_r _ [21, 22, 14, 15, 16, 5, 17, 7, 60, 61, 62, 63, 64, 65, 66, 67, 68, 69] (by decide +kernel) (by decide +kernel)
set_option maxRecDepth 20000 in
theorem gX6_ownRule_X3_askedOf : GoodIn wsX6_ownRule (wsV RX6 114 RX3 yX3_askedOf wsX3_askedOf) := goodIn_app (goodIn_of _ (by decide +kernel)) ggX6_ownRule_X3_askedOf
set_option maxRecDepth 20000 in
theorem ggX6_ownRule_X6_isActive : GoodIn wsX6_ownRule wsX6_isActive := goodIn_r _ [27, 28, 29, 30, 31, 32, 33, 34, 35, 36, 37, 38, 39, 40, 41, 42, 43, 44, 45, 46, 47, 26, 48, 49, 55, 56, 57, 58, 59, 70, 71, 72, 73, 74, 75, 76, 77, 78] (by decide +kernel) (by decide +kernel)
set_option maxRecDepth 20000 in
theorem gX6_ownRule_X6_isActive : GoodIn wsX6_ownRule (wsV RX6 117 RX6 yX6_isActive wsX6_isActive) := goodIn_app (goodIn_of _ (by decide +kernel)) ggX6_ownRule_X6_isActive
set_option maxRecDepth 20000 in
theorem ggX6_ownRule_X3_isWantedActive : GoodIn wsX6_ownRule wsX3_isWantedActive := goodIn_r _ [53, 54, 14, 15, 16, 5, 17, 7, 60, 61, 62, 63, 64, 65, 66, 67, 68, 69] (by decide +kernel) (by decide +kernel)
set_option maxRecDepth 20000 in
theorem gX6_ownRule_X3_isWantedActive : GoodIn wsX6_ownRule (wsV RX6 120 RX3 yX3_isWantedActive wsX3_isWantedActive) := goodIn_app (goodIn_of _ (by decide +kernel)) ggX6_ownRule_X3_isWantedActive
theorem dX6_ownRule_0 : decode cX6_ownRule 0 = .ok (.iconst 0, 1) := by decide +kernel
theorem dX6_ownRule_1 : decode cX6_ownRule 1 = .ok (.istore_n 3, 1) := by decide +kernel
theorem dX6_ownRule_2 : decode cX6_ownRule 2 = .ok (.iload_n 3, 1) := by decide +kernel
theorem dX6_ownRule_3 : decode cX6_ownRule 3 = .ok (.aload_n 0, 1) := by decide +kernel
theorem dX6_ownRule_4 : decode cX6_ownRule 4 = .ok (.getfield 19, 3) := by decide +kernel
theorem dX6_ownRule_7 : decode cX6_ownRule 7 = .ok (.invokevirtual 107, 3) := by decide +kernel
theorem dX6_ownRule_10 : decode cX6_ownRule 10 = .ok (.if_icmp .ge 47, 3) := by decide +kernel
theorem dX6_ownRule_13 : decode cX6_ownRule 13 = .ok (.aload_n 0, 1) := by decide +kernel
theorem dX6_ownRule_14 : decode cX6_ownRule 14 = .ok (.getfield 19, 3) := by decide +kernel
theorem dX6_ownRule_17 : decode cX6_ownRule 17 = .ok (.iload_n 3, 1) := by decide +kernel
theorem dX6_ownRule_18 : decode cX6_ownRule 18 = .ok (.iload_n 2, 1) := by decide +kernel
theorem dX6_ownRule_19 : decode cX6_ownRule 19 = .ok (.iload_n 1, 1) := by decide +kernel
theorem dX6_ownRule_20 : decode cX6_ownRule 20 = .ok (.invokevirtual 110, 3) := by decide +kernel
theorem dX6_ownRule_23 : decode cX6_ownRule 23 = .ok (.ifCond .eq 28, 3) := by decide +kernel
theorem dX6_ownRule_26 : decode cX6_ownRule 26 = .ok (.aload_n 0, 1) := by decide +kernel
theorem dX6_ownRule_27 : decode cX6_ownRule 27 = .ok (.aload_n 0, 1) := by decide +kernel
theorem dX6_ownRule_28 : decode cX6_ownRule 28 = .ok (.getfield 19, 3) := by decide +kernel
theorem dX6_ownRule_31 : decode cX6_ownRule 31 = .ok (.iload_n 3, 1) := by decide +kernel
theorem dX6_ownRule_32 : decode cX6_ownRule 32 = .ok (.invokevirtual 114, 3) := by decide +kernel
theorem dX6_ownRule_35 : decode cX6_ownRule 35 = .ok (.invokevirtual 117, 3) := by decide +kernel
theorem dX6_ownRule_38 : decode cX6_ownRule 38 = .ok (.aload_n 0, 1) := by decide +kernel
theorem dX6_ownRule_39 : decode cX6_ownRule 39 = .ok (.getfield 19, 3) := by decide +kernel
theorem dX6_ownRule_42 : decode cX6_ownRule 42 = .ok (.iload_n 3, 1) := by decide +kernel
theorem dX6_ownRule_43 : decode cX6_ownRule 43 = .ok (.invokevirtual 120, 3) := by decide +kernel
theorem dX6_ownRule_46 : decode cX6_ownRule 46 = .ok (.if_icmp .ne 5, 3) := by decide +kernel
theorem dX6_ownRule_49 : decode cX6_ownRule 49 = .ok (.iload_n 3, 1) := by decide +kernel
theorem dX6_ownRule_50 : decode cX6_ownRule 50 = .ok (.ireturn, 1) := by decide +kernel
theorem dX6_ownRule_51 : decode cX6_ownRule 51 = .ok (.iinc 3 1, 3) := by decide +kernel
theorem dX6_ownRule_54 : decode cX6_ownRule 54 = .ok (.goto (-52), 3) := by decide +kernel
theorem dX6_ownRule_57 : decode cX6_ownRule 57 = .ok (.iconst (-1), 1) := by decide +kernel
theorem dX6_ownRule_58 : decode cX6_ownRule 58 = .ok (.ireturn, 1) := by decide +kernel
set_option maxRecDepth 20000 in
theorem ggX6_take_X3_isRule : GoodIn wsX6_take wsX3_isRule := goodIn_r _ [9, 10, 117, 118, 119, 120, 121, 122, 123, 124, 125, 126] (by decide +kernel) (by decide +kernel)
set_option maxRecDepth 20000 in
theorem gX6_take_X3_isRule : GoodIn wsX6_take (wsV RX6 123 RX3 yX3_isRule wsX3_isRule) := goodIn_app (goodIn_of _ (by decide +kernel)) ggX6_take_X3_isRule
set_option maxRecDepth 20000 in
theorem ggX6_take_X3_scopeOf : GoodIn wsX6_take wsX3_scopeOf := goodIn_r _ [14, 15, 16, 6, 7, 8, 9, 10, 117, 118, 119, 120, 121, 122, 123, 124, 125, 126] (by decide +kernel) (by decide +kernel)
set_option maxRecDepth 20000 in
theorem gX6_take_X3_scopeOf : GoodIn wsX6_take (wsV RX6 126 RX3 yX3_scopeOf wsX3_scopeOf) := goodIn_app (goodIn_of _ (by decide +kernel)) ggX6_take_X3_scopeOf
set_option maxRecDepth 20000 in
theorem ggX6_take_X3_targetOf : GoodIn wsX6_take wsX3_targetOf := goodIn_r _ [20, 21, 16, 6, 7, 8, 9, 10, 117, 118, 119, 120, 121, 122, 123, 124, 125, 126] (by decide +kernel) (by decide +kernel)
set_option maxRecDepth 20000 in
theorem gX6_take_X3_targetOf : GoodIn wsX6_take (wsV RX6 129 RX3 yX3_targetOf wsX3_targetOf) := goodIn_app (goodIn_of _ (by decide +kernel)) ggX6_take_X3_targetOf
set_option maxRecDepth 20000 in
theorem ggX6_take_X4_depthOf : GoodIn wsX6_take wsX4_depthOf := goodIn_r _ [26, 27, 28, 29, 30, 25, 31, 32, 127, 128, 129, 130, 131, 132, 133, 134, 135] (by decide +kernel) (by decide +kernel)
set_option maxRecDepth 20000 in
theorem gX6_take_X4_depthOf : GoodIn wsX6_take (wsV RX6 132 RX4 yX4_depthOf wsX4_depthOf) := goodIn_app (goodIn_of _ (by decide +kernel)) ggX6_take_X4_depthOf
set_option maxRecDepth 20000 in
theorem ggX6_take_X6_currentChild : GoodIn wsX6_take wsX6_currentChild := goodIn_r _ [37, 38, 112, 113, 114, 115, 116] (by decide +kernel) (by decide +kernel)
set_option maxRecDepth 20000 in
theorem gX6_take_X6_currentChild : GoodIn wsX6_take (wsV RX6 61 RX6 yX6_currentChild wsX6_currentChild) := goodIn_app (goodIn_of _ (by decide +kernel)) ggX6_take_X6_currentChild
set_option maxRecDepth 20000 in
theorem ggX6_take_X6_leave : GoodIn wsX6_take wsX6_leave := goodIn_r _ [42, 2, 3, 4, 43, 29, 30, 25, 31, 32, 44, 45, 46, 47, 48, 28, 49, 50, 51, 52, 53, 54, 55, 56, 57, 39, 40, 41, 36, 33, 34, 35, 37, 38, 58, 59, 60, 61, 62, 63, 64, 65, 66, 67, 68, 69, 70, 71, 72, 73, 74, 75, 76, 77, 78, 79, 80, 81, 82, 83, 84, 85, 86, 87, 88, 89, 90, 91, 92, 93, 112, 113, 114, 115, 116, 127, 128, 129, 130, 131, 132, 133, 134, 135, 136, 137, 138, 139] (by decide +kernel) (by decide +kernel)
set_option maxRecDepth 20000 in
theorem gX6_take_X6_leave : GoodIn wsX6_take (wsV RX6 87 RX6 yX6_leave wsX6_leave) := goodIn_app (goodIn_of _ (by decide +kernel)) ggX6_take_X6_leave
set_option maxRecDepth 20000 in
theorem ggX6_take_X3_marks : GoodIn wsX6_take wsX3_marks := goodIn_r _ [97, 98, 117, 118, 119, 120, 121, 122, 123, 124, 125, 126] (by decide +kernel) (by decide +kernel)
set_option maxRecDepth 20000 in
theorem gX6_take_X3_marks : GoodIn wsX6_take (wsV RX6 135 RX3 yX3_marks wsX3_marks) := goodIn_app (goodIn_of _ (by decide +kernel)) ggX6_take_X3_marks
set_option maxRecDepth 20000 in
theorem ggX6_take_X1_addRow : GoodIn wsX6_take wsX1_addRow := goodIn_r _ [67, 68, 69, 70, 71, 72, 73, 74, 75, 76, 77, 66, 78, 79, 136, 137, 138, 139] (by decide +kernel) (by decide +kernel)
set_option maxRecDepth 20000 in
theorem gX6_take_X1_addRow : GoodIn wsX6_take (wsV RX6 71 RX1 yX1_addRow wsX1_addRow) := goodIn_app (goodIn_of _ (by decide +kernel)) ggX6_take_X1_addRow
set_option maxRecDepth 20000 in
theorem ggX6_take_X4_childToward : GoodIn wsX6_take wsX4_childToward := goodIn_r _ [102, 57, 28, 29, 30, 25, 31, 32, 127, 128, 129, 130, 131, 132, 133, 134, 135] (by decide +kernel) (by decide +kernel)
set_option maxRecDepth 20000 in
theorem gX6_take_X4_childToward : GoodIn wsX6_take (wsV RX6 79 RX4 yX4_childToward wsX4_childToward) := goodIn_app (goodIn_of _ (by decide +kernel)) ggX6_take_X4_childToward
set_option maxRecDepth 20000 in
theorem ggX6_take_X6_makeCurrent : GoodIn wsX6_take wsX6_makeCurrent := goodIn_r _ [93, 38, 112, 113, 114, 115, 116] (by decide +kernel) (by decide +kernel)
set_option maxRecDepth 20000 in
theorem gX6_take_X6_makeCurrent : GoodIn wsX6_take (wsV RX6 83 RX6 yX6_makeCurrent wsX6_makeCurrent) := goodIn_app (goodIn_of _ (by decide +kernel)) ggX6_take_X6_makeCurrent
set_option maxRecDepth 20000 in
theorem ggX6_take_X6_enter : GoodIn wsX6_take wsX6_enter := goodIn_r _ [106, 2, 3, 4, 43, 29, 30, 25, 31, 32, 107, 108, 109, 110, 111, 63, 64, 65, 66, 67, 68, 69, 70, 71, 72, 73, 74, 75, 76, 77, 78, 79, 44, 45, 46, 47, 48, 28, 49, 50, 51, 52, 53, 54, 55, 56, 57, 103, 104, 105, 36, 99, 100, 101, 102, 90, 91, 92, 93, 38, 33, 34, 35, 37, 112, 113, 114, 115, 116, 127, 128, 129, 130, 131, 132, 133, 134, 135, 136, 137, 138, 139] (by decide +kernel) (by decide +kernel)
set_option maxRecDepth 20000 in
theorem gX6_take_X6_enter : GoodIn wsX6_take (wsV RX6 37 RX6 yX6_enter wsX6_enter) := goodIn_app (goodIn_of _ (by decide +kernel)) ggX6_take_X6_enter
theorem dX6_take_0 : decode cX6_take 0 = .ok (.aload_n 0, 1) := by decide +kernel
theorem dX6_take_1 : decode cX6_take 1 = .ok (.getfield 19, 3) := by decide +kernel
theorem dX6_take_4 : decode cX6_take 4 = .ok (.iload_n 1, 1) := by decide +kernel
theorem dX6_take_5 : decode cX6_take 5 = .ok (.invokevirtual 123, 3) := by decide +kernel
theorem dX6_take_8 : decode cX6_take 8 = .ok (.ifCond .ne 6, 3) := by decide +kernel
theorem dX6_take_11 : decode cX6_take 11 = .ok (.bipush 7, 2) := by decide +kernel
theorem dX6_take_13 : decode cX6_take 13 = .ok (.ireturn, 1) := by decide +kernel
theorem dX6_take_14 : decode cX6_take 14 = .ok (.aload_n 0, 1) := by decide +kernel
theorem dX6_take_15 : decode cX6_take 15 = .ok (.getfield 19, 3) := by decide +kernel
theorem dX6_take_18 : decode cX6_take 18 = .ok (.iload_n 1, 1) := by decide +kernel
theorem dX6_take_19 : decode cX6_take 19 = .ok (.invokevirtual 126, 3) := by decide +kernel
theorem dX6_take_22 : decode cX6_take 22 = .ok (.istore_n 2, 1) := by decide +kernel
theorem dX6_take_23 : decode cX6_take 23 = .ok (.aload_n 0, 1) := by decide +kernel
theorem dX6_take_24 : decode cX6_take 24 = .ok (.getfield 19, 3) := by decide +kernel
theorem dX6_take_27 : decode cX6_take 27 = .ok (.iload_n 1, 1) := by decide +kernel
theorem dX6_take_28 : decode cX6_take 28 = .ok (.invokevirtual 129, 3) := by decide +kernel
theorem dX6_take_31 : decode cX6_take 31 = .ok (.istore_n 3, 1) := by decide +kernel
theorem dX6_take_32 : decode cX6_take 32 = .ok (.aload_n 0, 1) := by decide +kernel
theorem dX6_take_33 : decode cX6_take 33 = .ok (.getfield 15, 3) := by decide +kernel
theorem dX6_take_36 : decode cX6_take 36 = .ok (.iload_n 2, 1) := by decide +kernel
theorem dX6_take_37 : decode cX6_take 37 = .ok (.invokevirtual 132, 3) := by decide +kernel
theorem dX6_take_40 : decode cX6_take 40 = .ok (.istore 4, 2) := by decide +kernel
theorem dX6_take_42 : decode cX6_take 42 = .ok (.aload_n 0, 1) := by decide +kernel
theorem dX6_take_43 : decode cX6_take 43 = .ok (.aload_n 0, 1) := by decide +kernel
theorem dX6_take_44 : decode cX6_take 44 = .ok (.iload_n 2, 1) := by decide +kernel
theorem dX6_take_45 : decode cX6_take 45 = .ok (.invokevirtual 61, 3) := by decide +kernel
theorem dX6_take_48 : decode cX6_take 48 = .ok (.iload 4, 2) := by decide +kernel
theorem dX6_take_50 : decode cX6_take 50 = .ok (.iconst 1, 1) := by decide +kernel
theorem dX6_take_51 : decode cX6_take 51 = .ok (.iadd, 1) := by decide +kernel
theorem dX6_take_52 : decode cX6_take 52 = .ok (.invokevirtual 87, 3) := by decide +kernel
theorem dX6_take_55 : decode cX6_take 55 = .ok (.aload_n 0, 1) := by decide +kernel
theorem dX6_take_56 : decode cX6_take 56 = .ok (.getfield 23, 3) := by decide +kernel
theorem dX6_take_59 : decode cX6_take 59 = .ok (.aload_n 0, 1) := by decide +kernel
theorem dX6_take_60 : decode cX6_take 60 = .ok (.getfield 45, 3) := by decide +kernel
theorem dX6_take_63 : decode cX6_take 63 = .ok (.aload_n 0, 1) := by decide +kernel
theorem dX6_take_64 : decode cX6_take 64 = .ok (.getfield 19, 3) := by decide +kernel
theorem dX6_take_67 : decode cX6_take 67 = .ok (.invokevirtual 135, 3) := by decide +kernel
theorem dX6_take_70 : decode cX6_take 70 = .ok (.iload_n 1, 1) := by decide +kernel
theorem dX6_take_71 : decode cX6_take 71 = .ok (.invokevirtual 71, 3) := by decide +kernel
theorem dX6_take_74 : decode cX6_take 74 = .ok (.aload_n 0, 1) := by decide +kernel
theorem dX6_take_75 : decode cX6_take 75 = .ok (.iload_n 2, 1) := by decide +kernel
theorem dX6_take_76 : decode cX6_take 76 = .ok (.aload_n 0, 1) := by decide +kernel
theorem dX6_take_77 : decode cX6_take 77 = .ok (.getfield 15, 3) := by decide +kernel
theorem dX6_take_80 : decode cX6_take 80 = .ok (.iload_n 2, 1) := by decide +kernel
theorem dX6_take_81 : decode cX6_take 81 = .ok (.iload_n 3, 1) := by decide +kernel
theorem dX6_take_82 : decode cX6_take 82 = .ok (.invokevirtual 79, 3) := by decide +kernel
theorem dX6_take_85 : decode cX6_take 85 = .ok (.invokevirtual 83, 3) := by decide +kernel
theorem dX6_take_88 : decode cX6_take 88 = .ok (.aload_n 0, 1) := by decide +kernel
theorem dX6_take_89 : decode cX6_take 89 = .ok (.aload_n 0, 1) := by decide +kernel
theorem dX6_take_90 : decode cX6_take 90 = .ok (.iload_n 2, 1) := by decide +kernel
theorem dX6_take_91 : decode cX6_take 91 = .ok (.invokevirtual 61, 3) := by decide +kernel
theorem dX6_take_94 : decode cX6_take 94 = .ok (.iload_n 3, 1) := by decide +kernel
theorem dX6_take_95 : decode cX6_take 95 = .ok (.iload 4, 2) := by decide +kernel
theorem dX6_take_97 : decode cX6_take 97 = .ok (.iconst 1, 1) := by decide +kernel
theorem dX6_take_98 : decode cX6_take 98 = .ok (.iadd, 1) := by decide +kernel
theorem dX6_take_99 : decode cX6_take 99 = .ok (.invokevirtual 37, 3) := by decide +kernel
theorem dX6_take_102 : decode cX6_take 102 = .ok (.iload 4, 2) := by decide +kernel
theorem dX6_take_104 : decode cX6_take 104 = .ok (.ireturn, 1) := by decide +kernel
set_option maxRecDepth 20000 in
theorem ggX7_init_X0_init : GoodIn wsX7_init wsX0_init := goodIn_r _ [25, 26, 2, 3, 27, 28, 29, 30, 31, 104, 105, 106, 107, 108] (by decide +kernel) (by decide +kernel)
set_option maxRecDepth 20000 in
theorem gX7_init_X0_init_n11 : GoodIn wsX7_init (wsX0_init) := ggX7_init_X0_init
set_option maxRecDepth 20000 in
theorem ggX7_init_X4_init : GoodIn wsX7_init wsX4_init := goodIn_r _ [34, 35, 2, 3, 29, 36, 37, 38, 39, 40, 41, 42, 43, 44, 45, 46, 47, 48, 49, 50, 51, 52, 53, 54, 55, 56, 57, 58, 27, 59, 60, 114, 115, 116, 117, 118, 119, 120, 121, 122, 145, 146, 147, 148] (by decide +kernel) (by decide +kernel)
set_option maxRecDepth 20000 in
theorem gX7_init_X4_init : GoodIn wsX7_init (wsX4_init) := ggX7_init_X4_init
set_option maxRecDepth 20000 in
theorem ggX7_init_X3_init : GoodIn wsX7_init wsX3_init := goodIn_r _ [62, 63, 2, 3, 29, 64, 65, 66, 67, 68, 69, 40, 70, 71, 44, 45, 72, 73, 50, 51, 52, 53, 54, 55, 56, 57, 58, 27, 59, 60, 123, 124, 125, 126, 127, 128, 129, 130, 131, 132, 145, 146, 147, 148] (by decide +kernel) (by decide +kernel)
set_option maxRecDepth 20000 in
theorem gX7_init_X3_init_n25 : GoodIn wsX7_init (wsX3_init) := ggX7_init_X3_init
set_option maxRecDepth 20000 in
theorem ggX7_init_X2_init : GoodIn wsX7_init wsX2_init := goodIn_r _ [76, 77, 2, 3, 78, 79, 80, 133, 134, 135] (by decide +kernel) (by decide +kernel)
set_option maxRecDepth 20000 in
theorem gX7_init_X2_init : GoodIn wsX7_init (wsX2_init) := ggX7_init_X2_init
set_option maxRecDepth 20000 in
theorem ggX7_init_X5_init : GoodIn wsX7_init wsX5_init := goodIn_r _ [83, 84, 2, 3, 85, 44, 45, 86, 29, 87, 88, 89, 90, 91, 92, 93, 94, 95, 50, 51, 52, 53, 54, 55, 56, 57, 58, 27, 59, 60, 96, 97, 98, 99, 100, 101, 102, 103, 145, 146, 147, 148, 136, 137, 138, 139, 140, 141, 142, 143, 144, 149, 150, 151, 152, 153] (by decide +kernel) (by decide +kernel)
set_option maxRecDepth 20000 in
theorem gX7_init_X5_init : GoodIn wsX7_init (wsX5_init) := ggX7_init_X5_init
theorem dX7_init_0 : decode cX7_init 0 = .ok (.aload_n 0, 1) := by decide +kernel
theorem dX7_init_1 : decode cX7_init 1 = .ok (.invokespecial 3, 3) := by decide +kernel
theorem dX7_init_4 : decode cX7_init 4 = .ok (.aload_n 0, 1) := by decide +kernel
theorem dX7_init_5 : decode cX7_init 5 = .ok (.new 9, 3) := by decide +kernel
theorem dX7_init_8 : decode cX7_init 8 = .ok (.dup, 1) := by decide +kernel
theorem dX7_init_9 : decode cX7_init 9 = .ok (.invokespecial 11, 3) := by decide +kernel
theorem dX7_init_12 : decode cX7_init 12 = .ok (.putfield 12, 3) := by decide +kernel
theorem dX7_init_15 : decode cX7_init 15 = .ok (.aload_n 0, 1) := by decide +kernel
theorem dX7_init_16 : decode cX7_init 16 = .ok (.new 16, 3) := by decide +kernel
theorem dX7_init_19 : decode cX7_init 19 = .ok (.dup, 1) := by decide +kernel
theorem dX7_init_20 : decode cX7_init 20 = .ok (.invokespecial 18, 3) := by decide +kernel
theorem dX7_init_23 : decode cX7_init 23 = .ok (.putfield 19, 3) := by decide +kernel
theorem dX7_init_26 : decode cX7_init 26 = .ok (.aload_n 0, 1) := by decide +kernel
theorem dX7_init_27 : decode cX7_init 27 = .ok (.new 23, 3) := by decide +kernel
theorem dX7_init_30 : decode cX7_init 30 = .ok (.dup, 1) := by decide +kernel
theorem dX7_init_31 : decode cX7_init 31 = .ok (.invokespecial 25, 3) := by decide +kernel
theorem dX7_init_34 : decode cX7_init 34 = .ok (.putfield 26, 3) := by decide +kernel
theorem dX7_init_37 : decode cX7_init 37 = .ok (.aload_n 0, 1) := by decide +kernel
theorem dX7_init_38 : decode cX7_init 38 = .ok (.new 30, 3) := by decide +kernel
theorem dX7_init_41 : decode cX7_init 41 = .ok (.dup, 1) := by decide +kernel
theorem dX7_init_42 : decode cX7_init 42 = .ok (.aload_n 0, 1) := by decide +kernel
theorem dX7_init_43 : decode cX7_init 43 = .ok (.getfield 12, 3) := by decide +kernel
theorem dX7_init_46 : decode cX7_init 46 = .ok (.aload_n 0, 1) := by decide +kernel
theorem dX7_init_47 : decode cX7_init 47 = .ok (.getfield 19, 3) := by decide +kernel
theorem dX7_init_50 : decode cX7_init 50 = .ok (.aload_n 0, 1) := by decide +kernel
theorem dX7_init_51 : decode cX7_init 51 = .ok (.getfield 26, 3) := by decide +kernel
theorem dX7_init_54 : decode cX7_init 54 = .ok (.invokespecial 32, 3) := by decide +kernel
theorem dX7_init_57 : decode cX7_init 57 = .ok (.putfield 35, 3) := by decide +kernel
theorem dX7_init_60 : decode cX7_init 60 = .ok (.aload_n 0, 1) := by decide +kernel
theorem dX7_init_61 : decode cX7_init 61 = .ok (.new 39, 3) := by decide +kernel
theorem dX7_init_64 : decode cX7_init 64 = .ok (.dup, 1) := by decide +kernel
theorem dX7_init_65 : decode cX7_init 65 = .ok (.aload_n 0, 1) := by decide +kernel
theorem dX7_init_66 : decode cX7_init 66 = .ok (.getfield 19, 3) := by decide +kernel
theorem dX7_init_69 : decode cX7_init 69 = .ok (.aload_n 0, 1) := by decide +kernel
theorem dX7_init_70 : decode cX7_init 70 = .ok (.getfield 26, 3) := by decide +kernel
theorem dX7_init_73 : decode cX7_init 73 = .ok (.invokespecial 41, 3) := by decide +kernel
theorem dX7_init_76 : decode cX7_init 76 = .ok (.putfield 44, 3) := by decide +kernel
theorem dX7_init_79 : decode cX7_init 79 = .ok (.return_, 1) := by decide +kernel
set_option maxRecDepth 20000 in
theorem ggX7_write_X0_append : GoodIn wsX7_write wsX0_append := goodIn_r _ [6, 7, 8, 14, 15, 16, 17, 18] (by decide +kernel) (by decide +kernel)
set_option maxRecDepth 20000 in
theorem gX7_write_X0_append : GoodIn wsX7_write (wsV RX7 48 RX0 yX0_append wsX0_append) := goodIn_app (goodIn_of _ (by decide +kernel)) ggX7_write_X0_append
theorem dX7_write_0 : decode cX7_write 0 = .ok (.aload_n 0, 1) := by decide +kernel
theorem dX7_write_1 : decode cX7_write 1 = .ok (.getfield 12, 3) := by decide +kernel
theorem dX7_write_4 : decode cX7_write 4 = .ok (.iload_n 1, 1) := by decide +kernel
theorem dX7_write_5 : decode cX7_write 5 = .ok (.invokevirtual 48, 3) := by decide +kernel
theorem dX7_write_8 : decode cX7_write 8 = .ok (.ireturn, 1) := by decide +kernel
set_option maxRecDepth 20000 in
theorem ggX7_line_X2_read : GoodIn wsX7_line wsX2_read := goodIn_r _ [11, 12, 13, 14, 15, 16, 17, 18, 19, 20, 21, 22, 23, 24, 25, 26, 27, 28, 29, 30, 31, 32, 33, 34, 35, 36, 37, 38, 39, 40, 41, 42, 43, 44, 45, 46, 47, 48, 49, 50, 51, 52, 53, 54, 55, 56, 57, 58, 59, 60, 61, 62, 63, 64, 65, 66, 67, 68, 69, 70, 71, 72, 73, 74, 75, 76, 77, 78, 79, 80, 81, 82, 83, 84, 85, 86, 87, 88, 89, 90, 91, 10, 92, 93, 94, 95, 96, 97, 98, 99, 100, 101, 102, 103, 104, 105, 106, 107, 108, 109, 110, 111, 112, 113, 114, 115, 116, 117, 118, 119, 120, 121, 122, 123, 124, 125, 126, 127, 128, 129, 130, 131, 132, 133, 134, 135, 136, 137, 138, 139, 140, 141, 142, 143, 144, 145, 146, 147, 148, 149, 150, 151, 152, 153, 154, 155, 156, 157, 158, 159, 160, 161, 162, 163, 164, 165, 166, 167, 168, 169, 170, 171, 172, 173, 174, 175, 176, 177, 178, 179, 180, 181, 182, 183, 184, 185, 186, 187, 188, 189, 190, 191, 192, 193, 194, 195, 196, 197, 198, 199, 200, 201, 202, 203, 204, 205, 206, 207, 208, 209, 210, 211, 212, 213, 214, 215, 216, 217, 218, 219, 220, 221, 222, 223, 224, 236, 237, 238, 239, 240, 241, 242, 243, 244, 245, 246, 247, 248, 249, 250, 251, 252, 253, 254, 255, 256, 257, 258, 259, 260, 261, 262, 263, 264, 265, 266] (by decide +kernel) (by decide +kernel)
set_option maxRecDepth 20000 in
theorem gX7_line_X2_read : GoodIn wsX7_line (wsV RX7 52 RX2 yX2_read wsX2_read) := goodIn_app (goodIn_of _ (by decide +kernel)) ggX7_line_X2_read
set_option maxRecDepth 20000 in
theorem ggX7_line_X5_drop : GoodIn wsX7_line wsX5_drop := goodIn_r _ [229, 230, 267, 268, 269, 270, 271, 272, 273, 274, 275] (by decide +kernel) (by decide +kernel)
set_option maxRecDepth 20000 in
theorem gX7_line_X5_drop : GoodIn wsX7_line (wsV RX7 68 RX5 yX5_drop wsX5_drop) := goodIn_app (goodIn_of _ (by decide +kernel)) ggX7_line_X5_drop
theorem dX7_line_0 : decode cX7_line 0 = .ok (.aload_n 0, 1) := by decide +kernel
theorem dX7_line_1 : decode cX7_line 1 = .ok (.getfield 35, 3) := by decide +kernel
theorem dX7_line_4 : decode cX7_line 4 = .ok (.invokevirtual 52, 3) := by decide +kernel
theorem dX7_line_7 : decode cX7_line 7 = .ok (.istore_n 1, 1) := by decide +kernel
theorem dX7_line_8 : decode cX7_line 8 = .ok (.iload_n 1, 1) := by decide +kernel
theorem dX7_line_9 : decode cX7_line 9 = .ok (.iconst (-1), 1) := by decide +kernel
theorem dX7_line_10 : decode cX7_line 10 = .ok (.if_icmp .ne 13, 3) := by decide +kernel
theorem dX7_line_13 : decode cX7_line 13 = .ok (.new 56, 3) := by decide +kernel
theorem dX7_line_16 : decode cX7_line 16 = .ok (.dup, 1) := by decide +kernel
theorem dX7_line_17 : decode cX7_line 17 = .ok (.ldc 58, 2) := by decide +kernel
theorem dX7_line_19 : decode cX7_line 19 = .ok (.invokespecial 60, 3) := by decide +kernel
theorem dX7_line_22 : decode cX7_line 22 = .ok (.athrow, 1) := by decide +kernel
theorem dX7_line_23 : decode cX7_line 23 = .ok (.iload_n 1, 1) := by decide +kernel
theorem dX7_line_24 : decode cX7_line 24 = .ok (.bipush (-2), 2) := by decide +kernel
theorem dX7_line_26 : decode cX7_line 26 = .ok (.if_icmp .ne 13, 3) := by decide +kernel
theorem dX7_line_29 : decode cX7_line 29 = .ok (.new 63, 3) := by decide +kernel
theorem dX7_line_32 : decode cX7_line 32 = .ok (.dup, 1) := by decide +kernel
theorem dX7_line_33 : decode cX7_line 33 = .ok (.ldc 65, 2) := by decide +kernel
theorem dX7_line_35 : decode cX7_line 35 = .ok (.invokespecial 67, 3) := by decide +kernel
theorem dX7_line_38 : decode cX7_line 38 = .ok (.athrow, 1) := by decide +kernel
theorem dX7_line_39 : decode cX7_line 39 = .ok (.iload_n 1, 1) := by decide +kernel
theorem dX7_line_40 : decode cX7_line 40 = .ok (.ifCond .eq 10, 3) := by decide +kernel
theorem dX7_line_43 : decode cX7_line 43 = .ok (.aload_n 0, 1) := by decide +kernel
theorem dX7_line_44 : decode cX7_line 44 = .ok (.getfield 44, 3) := by decide +kernel
theorem dX7_line_47 : decode cX7_line 47 = .ok (.invokevirtual 68, 3) := by decide +kernel
theorem dX7_line_50 : decode cX7_line 50 = .ok (.iload_n 1, 1) := by decide +kernel
theorem dX7_line_51 : decode cX7_line 51 = .ok (.ireturn, 1) := by decide +kernel
set_option maxRecDepth 20000 in
theorem ggX7_compile_X5_build : GoodIn wsX7_compile wsX5_build := goodIn_r _ [8, 9, 10, 11, 12, 13, 14, 15, 16, 17, 18, 19, 20, 21, 22, 23, 24, 25, 26, 27, 28, 29, 30, 31, 32, 33, 34, 35, 36, 37, 38, 39, 40, 41, 42, 43, 44, 45, 46, 47, 48, 49, 50, 51, 52, 53, 54, 55, 56, 57, 58, 59, 60, 61, 62, 63, 64, 65, 66, 67, 68, 69, 70, 71, 72, 73, 74, 75, 76, 77, 78, 79, 80, 81, 82, 83, 84, 85, 86, 87, 88, 89, 90, 91, 92, 93, 94, 95, 96, 97, 98, 99, 7, 100, 101, 102, 103, 104, 105, 106, 107, 108, 109, 110, 111, 112, 113, 114, 115, 116, 117, 118, 119, 120, 121, 122, 123, 124, 125, 126, 127, 128, 129, 130, 131, 132, 133, 134, 135, 136, 137, 138, 139, 140, 141, 142, 143, 144, 145, 146, 147, 148, 149, 150, 151, 152, 153, 154, 155, 156, 157, 158, 159, 160, 161, 162, 163, 164, 165, 166, 167, 168, 169, 170, 171, 172, 173, 174, 175, 176, 177, 178, 179, 180, 181, 182, 183, 184, 185, 186, 187, 188, 189, 190, 191, 192, 193, 194, 195, 196, 197, 198, 199, 200, 201, 202, 203, 204, 205, 206, 207, 208, 209, 210, 211, 212, 213, 214, 215, 216, 217, 218, 219, 220, 221, 231, 232, 233, 234, 235, 236, 237, 238, 239, 240, 241, 242, 243, 244, 245, 246, 247, 248, 249, 250, 251, 252, 253, 254, 255, 256, 257, 258, 259, 260, 261, 262, 263, 264, 265, 266, 267] (by decide +kernel) (by decide +kernel)
set_option maxRecDepth 20000 in
theorem gX7_compile_X5_build : GoodIn wsX7_compile (wsV RX7 71 RX5 yX5_build wsX5_build) := goodIn_app (goodIn_of _ (by decide +kernel)) ggX7_compile_X5_build
set_option maxRecDepth 20000 in
theorem ggX7_compile_X5_size : GoodIn wsX7_compile wsX5_size := goodIn_r _ [225, 9, 231, 232, 233, 234, 235, 236, 237, 238, 239] (by decide +kernel) (by decide +kernel)
set_option maxRecDepth 20000 in
theorem gX7_compile_X5_size : GoodIn wsX7_compile (wsV RX7 77 RX5 yX5_size wsX5_size) := goodIn_app (goodIn_of _ (by decide +kernel)) ggX7_compile_X5_size
theorem dX7_compile_0 : decode cX7_compile 0 = .ok (.aload_n 0, 1) := by decide +kernel
theorem dX7_compile_1 : decode cX7_compile 1 = .ok (.getfield 44, 3) := by decide +kernel
theorem dX7_compile_4 : decode cX7_compile 4 = .ok (.invokevirtual 71, 3) := by decide +kernel
theorem dX7_compile_7 : decode cX7_compile 7 = .ok (.ifCond .ne 13, 3) := by decide +kernel
theorem dX7_compile_10 : decode cX7_compile 10 = .ok (.new 63, 3) := by decide +kernel
theorem dX7_compile_13 : decode cX7_compile 13 = .ok (.dup, 1) := by decide +kernel
theorem dX7_compile_14 : decode cX7_compile 14 = .ok (.ldc 75, 2) := by decide +kernel
theorem dX7_compile_16 : decode cX7_compile 16 = .ok (.invokespecial 67, 3) := by decide +kernel
theorem dX7_compile_19 : decode cX7_compile 19 = .ok (.athrow, 1) := by decide +kernel
theorem dX7_compile_20 : decode cX7_compile 20 = .ok (.aload_n 0, 1) := by decide +kernel
theorem dX7_compile_21 : decode cX7_compile 21 = .ok (.getfield 44, 3) := by decide +kernel
theorem dX7_compile_24 : decode cX7_compile 24 = .ok (.invokevirtual 77, 3) := by decide +kernel
theorem dX7_compile_27 : decode cX7_compile 27 = .ok (.ireturn, 1) := by decide +kernel
set_option maxRecDepth 20000 in
theorem ggX7_configurations_X5_size : GoodIn wsX7_configurations wsX5_size := goodIn_r _ [6, 7, 13, 14, 15, 16, 17, 18, 19, 20, 21] (by decide +kernel) (by decide +kernel)
set_option maxRecDepth 20000 in
theorem gX7_configurations_X5_size : GoodIn wsX7_configurations (wsV RX7 77 RX5 yX5_size wsX5_size) := goodIn_app (goodIn_of _ (by decide +kernel)) ggX7_configurations_X5_size
theorem dX7_configurations_0 : decode cX7_configurations 0 = .ok (.aload_n 0, 1) := by decide +kernel
theorem dX7_configurations_1 : decode cX7_configurations 1 = .ok (.getfield 44, 3) := by decide +kernel
theorem dX7_configurations_4 : decode cX7_configurations 4 = .ok (.invokevirtual 77, 3) := by decide +kernel
theorem dX7_configurations_7 : decode cX7_configurations 7 = .ok (.ireturn, 1) := by decide +kernel
set_option maxRecDepth 20000 in
theorem ggX7_count_X4_made : GoodIn wsX7_count wsX4_made := goodIn_r _ [8, 9, 33, 34, 35, 36, 37, 38, 39, 40, 41] (by decide +kernel) (by decide +kernel)
set_option maxRecDepth 20000 in
theorem gX7_count_X4_made : GoodIn wsX7_count (wsV RX7 80 RX4 yX4_made wsX4_made) := goodIn_app (goodIn_of _ (by decide +kernel)) ggX7_count_X4_made
set_option maxRecDepth 20000 in
theorem ggX7_count_X3_made : GoodIn wsX7_count wsX3_made := goodIn_r _ [14, 15, 42, 43, 44, 45, 46, 47, 48, 49, 50, 51] (by decide +kernel) (by decide +kernel)
set_option maxRecDepth 20000 in
theorem gX7_count_X3_made : GoodIn wsX7_count (wsV RX7 83 RX3 yX3_made wsX3_made) := goodIn_app (goodIn_of _ (by decide +kernel)) ggX7_count_X3_made
set_option maxRecDepth 20000 in
theorem ggX7_count_X3_events : GoodIn wsX7_count wsX3_events := goodIn_r _ [19, 20, 42, 43, 44, 45, 46, 47, 48, 49, 50, 51] (by decide +kernel) (by decide +kernel)
set_option maxRecDepth 20000 in
theorem gX7_count_X3_events : GoodIn wsX7_count (wsV RX7 84 RX3 yX3_events wsX3_events) := goodIn_app (goodIn_of _ (by decide +kernel)) ggX7_count_X3_events
set_option maxRecDepth 20000 in
theorem ggX7_count_X5_place : GoodIn wsX7_count wsX5_place := goodIn_r _ [25, 26, 27, 52, 53, 54, 55, 56, 57, 58, 59, 60] (by decide +kernel) (by decide +kernel)
set_option maxRecDepth 20000 in
theorem gX7_count_X5_place : GoodIn wsX7_count (wsV RX7 87 RX5 yX5_place wsX5_place) := goodIn_app (goodIn_of _ (by decide +kernel)) ggX7_count_X5_place
theorem dX7_count_0 : decode cX7_count 0 = .ok (.iload_n 1, 1) := by decide +kernel
theorem dX7_count_1 : decode cX7_count 1 = .ok (.tableswitch 63 0 3 #[31, 39, 47, 55], 31) := by decide +kernel
theorem dX7_count_32 : decode cX7_count 32 = .ok (.aload_n 0, 1) := by decide +kernel
theorem dX7_count_33 : decode cX7_count 33 = .ok (.getfield 19, 3) := by decide +kernel
theorem dX7_count_36 : decode cX7_count 36 = .ok (.invokevirtual 80, 3) := by decide +kernel
theorem dX7_count_39 : decode cX7_count 39 = .ok (.ireturn, 1) := by decide +kernel
theorem dX7_count_40 : decode cX7_count 40 = .ok (.aload_n 0, 1) := by decide +kernel
theorem dX7_count_41 : decode cX7_count 41 = .ok (.getfield 26, 3) := by decide +kernel
theorem dX7_count_44 : decode cX7_count 44 = .ok (.invokevirtual 83, 3) := by decide +kernel
theorem dX7_count_47 : decode cX7_count 47 = .ok (.ireturn, 1) := by decide +kernel
theorem dX7_count_48 : decode cX7_count 48 = .ok (.aload_n 0, 1) := by decide +kernel
theorem dX7_count_49 : decode cX7_count 49 = .ok (.getfield 26, 3) := by decide +kernel
theorem dX7_count_52 : decode cX7_count 52 = .ok (.invokevirtual 84, 3) := by decide +kernel
theorem dX7_count_55 : decode cX7_count 55 = .ok (.ireturn, 1) := by decide +kernel
theorem dX7_count_56 : decode cX7_count 56 = .ok (.aload_n 0, 1) := by decide +kernel
theorem dX7_count_57 : decode cX7_count 57 = .ok (.getfield 44, 3) := by decide +kernel
theorem dX7_count_60 : decode cX7_count 60 = .ok (.invokevirtual 87, 3) := by decide +kernel
theorem dX7_count_63 : decode cX7_count 63 = .ok (.ireturn, 1) := by decide +kernel
theorem dX7_count_64 : decode cX7_count 64 = .ok (.iconst (-1), 1) := by decide +kernel
theorem dX7_count_65 : decode cX7_count 65 = .ok (.ireturn, 1) := by decide +kernel
set_option maxRecDepth 20000 in
theorem ggX7_named_X0_split : GoodIn wsX7_named wsX0_split := goodIn_r _ [9, 10, 11, 12, 13, 14, 47, 48, 49, 50, 51] (by decide +kernel) (by decide +kernel)
set_option maxRecDepth 20000 in
theorem gX7_named_X0_split : GoodIn wsX7_named (wsV RX7 90 RX0 yX0_split wsX0_split) := goodIn_app (goodIn_of _ (by decide +kernel)) ggX7_named_X0_split
set_option maxRecDepth 20000 in
theorem ggX7_named_X0_words : GoodIn wsX7_named wsX0_words := goodIn_r _ [18, 10, 47, 48, 49, 50, 51] (by decide +kernel) (by decide +kernel)
set_option maxRecDepth 20000 in
theorem gX7_named_X0_words : GoodIn wsX7_named (wsV RX7 93 RX0 yX0_words wsX0_words) := goodIn_app (goodIn_of _ (by decide +kernel)) ggX7_named_X0_words
set_option maxRecDepth 20000 in
theorem ggX7_named_X0_nameAt : GoodIn wsX7_named wsX0_nameAt := goodIn_r _ [22, 23, 24, 25, 8, 26, 27, 28, 29, 30, 10, 14, 13, 31, 32, 33, 34, 12, 47, 48, 49, 50, 51] (by decide +kernel) (by decide +kernel)
set_option maxRecDepth 20000 in
theorem gX7_named_X0_nameAt : GoodIn wsX7_named (wsV RX7 96 RX0 yX0_nameAt wsX0_nameAt) := goodIn_app (goodIn_of _ (by decide +kernel)) ggX7_named_X0_nameAt
set_option maxRecDepth 20000 in
theorem ggX7_named_X4_find : GoodIn wsX7_named wsX4_find := goodIn_r _ [39, 40, 41, 52, 53, 54, 55, 56, 57, 58, 59, 60] (by decide +kernel) (by decide +kernel)
set_option maxRecDepth 20000 in
theorem gX7_named_X4_find : GoodIn wsX7_named (wsV RX7 100 RX4 yX4_find wsX4_find) := goodIn_app (goodIn_of _ (by decide +kernel)) ggX7_named_X4_find
theorem dX7_named_0 : decode cX7_named 0 = .ok (.aload_n 0, 1) := by decide +kernel
theorem dX7_named_1 : decode cX7_named 1 = .ok (.getfield 12, 3) := by decide +kernel
theorem dX7_named_4 : decode cX7_named 4 = .ok (.invokevirtual 90, 3) := by decide +kernel
theorem dX7_named_7 : decode cX7_named 7 = .ok (.aload_n 0, 1) := by decide +kernel
theorem dX7_named_8 : decode cX7_named 8 = .ok (.getfield 12, 3) := by decide +kernel
theorem dX7_named_11 : decode cX7_named 11 = .ok (.invokevirtual 93, 3) := by decide +kernel
theorem dX7_named_14 : decode cX7_named 14 = .ok (.iconst 1, 1) := by decide +kernel
theorem dX7_named_15 : decode cX7_named 15 = .ok (.if_icmp .ne 21, 3) := by decide +kernel
theorem dX7_named_18 : decode cX7_named 18 = .ok (.aload_n 0, 1) := by decide +kernel
theorem dX7_named_19 : decode cX7_named 19 = .ok (.getfield 19, 3) := by decide +kernel
theorem dX7_named_22 : decode cX7_named 22 = .ok (.aload_n 0, 1) := by decide +kernel
theorem dX7_named_23 : decode cX7_named 23 = .ok (.getfield 12, 3) := by decide +kernel
theorem dX7_named_26 : decode cX7_named 26 = .ok (.iconst 0, 1) := by decide +kernel
theorem dX7_named_27 : decode cX7_named 27 = .ok (.invokevirtual 96, 3) := by decide +kernel
theorem dX7_named_30 : decode cX7_named 30 = .ok (.invokevirtual 100, 3) := by decide +kernel
theorem dX7_named_33 : decode cX7_named 33 = .ok (.goto 4, 3) := by decide +kernel
theorem dX7_named_36 : decode cX7_named 36 = .ok (.iconst (-1), 1) := by decide +kernel
theorem dX7_named_37 : decode cX7_named 37 = .ok (.istore_n 1, 1) := by decide +kernel
theorem dX7_named_38 : decode cX7_named 38 = .ok (.iload_n 1, 1) := by decide +kernel
theorem dX7_named_39 : decode cX7_named 39 = .ok (.iconst (-1), 1) := by decide +kernel
theorem dX7_named_40 : decode cX7_named 40 = .ok (.if_icmp .ne 13, 3) := by decide +kernel
theorem dX7_named_43 : decode cX7_named 43 = .ok (.new 103, 3) := by decide +kernel
theorem dX7_named_46 : decode cX7_named 46 = .ok (.dup, 1) := by decide +kernel
theorem dX7_named_47 : decode cX7_named 47 = .ok (.ldc 105, 2) := by decide +kernel
theorem dX7_named_49 : decode cX7_named 49 = .ok (.invokespecial 107, 3) := by decide +kernel
theorem dX7_named_52 : decode cX7_named 52 = .ok (.athrow, 1) := by decide +kernel
theorem dX7_named_53 : decode cX7_named 53 = .ok (.iload_n 1, 1) := by decide +kernel
theorem dX7_named_54 : decode cX7_named 54 = .ok (.ireturn, 1) := by decide +kernel
set_option maxRecDepth 20000 in
theorem ggX7_next_X5_following : GoodIn wsX7_next wsX5_following := goodIn_r _ [8, 9, 10, 11, 12, 7, 13, 14, 15, 16, 17, 18, 19, 20, 21, 22, 23, 24, 25, 31, 32, 33, 34, 35, 36, 37, 38, 39, 40, 41, 42, 43, 44, 45, 46, 47, 48, 49] (by decide +kernel) (by decide +kernel)
set_option maxRecDepth 20000 in
theorem gX7_next_X5_following : GoodIn wsX7_next (wsV RX7 108 RX5 yX5_following wsX5_following) := goodIn_app (goodIn_of _ (by decide +kernel)) ggX7_next_X5_following
theorem dX7_next_0 : decode cX7_next 0 = .ok (.aload_n 0, 1) := by decide +kernel
theorem dX7_next_1 : decode cX7_next 1 = .ok (.getfield 44, 3) := by decide +kernel
theorem dX7_next_4 : decode cX7_next 4 = .ok (.iload_n 1, 1) := by decide +kernel
theorem dX7_next_5 : decode cX7_next 5 = .ok (.iload_n 2, 1) := by decide +kernel
theorem dX7_next_6 : decode cX7_next 6 = .ok (.invokevirtual 108, 3) := by decide +kernel
theorem dX7_next_9 : decode cX7_next 9 = .ok (.istore_n 3, 1) := by decide +kernel
theorem dX7_next_10 : decode cX7_next 10 = .ok (.iload_n 3, 1) := by decide +kernel
theorem dX7_next_11 : decode cX7_next 11 = .ok (.iconst (-1), 1) := by decide +kernel
theorem dX7_next_12 : decode cX7_next 12 = .ok (.if_icmp .ne 13, 3) := by decide +kernel
theorem dX7_next_15 : decode cX7_next 15 = .ok (.new 103, 3) := by decide +kernel
theorem dX7_next_18 : decode cX7_next 18 = .ok (.dup, 1) := by decide +kernel
theorem dX7_next_19 : decode cX7_next 19 = .ok (.ldc 112, 2) := by decide +kernel
theorem dX7_next_21 : decode cX7_next 21 = .ok (.invokespecial 107, 3) := by decide +kernel
theorem dX7_next_24 : decode cX7_next 24 = .ok (.athrow, 1) := by decide +kernel
theorem dX7_next_25 : decode cX7_next 25 = .ok (.iload_n 3, 1) := by decide +kernel
theorem dX7_next_26 : decode cX7_next 26 = .ok (.ireturn, 1) := by decide +kernel
set_option maxRecDepth 20000 in
theorem ggX7_trace_X5_traceLetter : GoodIn wsX7_trace wsX5_traceLetter := goodIn_r _ [6, 7, 8, 9, 10, 11, 5, 12, 13, 14, 15, 16, 17, 18, 19, 20, 21, 22, 23, 24, 25, 26, 27, 28, 29, 30, 31, 32, 33, 34, 35, 36, 37, 38, 39, 40, 46, 47, 48, 49, 50, 51, 52, 53, 54, 55, 56, 57, 58, 59, 60, 61, 62, 63, 64, 65, 66, 67, 68] (by decide +kernel) (by decide +kernel)
set_option maxRecDepth 20000 in
theorem gX7_trace_X5_traceLetter : GoodIn wsX7_trace (wsV RX7 114 RX5 yX5_traceLetter wsX5_traceLetter) := goodIn_app (goodIn_of _ (by decide +kernel)) ggX7_trace_X5_traceLetter
theorem dX7_trace_0 : decode cX7_trace 0 = .ok (.aload_n 0, 1) := by decide +kernel
theorem dX7_trace_1 : decode cX7_trace 1 = .ok (.getfield 44, 3) := by decide +kernel
theorem dX7_trace_4 : decode cX7_trace 4 = .ok (.iload_n 1, 1) := by decide +kernel
theorem dX7_trace_5 : decode cX7_trace 5 = .ok (.iload_n 2, 1) := by decide +kernel
theorem dX7_trace_6 : decode cX7_trace 6 = .ok (.iload_n 3, 1) := by decide +kernel
theorem dX7_trace_7 : decode cX7_trace 7 = .ok (.invokevirtual 114, 3) := by decide +kernel
theorem dX7_trace_10 : decode cX7_trace 10 = .ok (.ireturn, 1) := by decide +kernel
set_option maxRecDepth 20000 in
theorem ggX7_active_X5_isActive : GoodIn wsX7_active wsX5_isActive := goodIn_r _ [6, 7, 8, 9, 10, 11, 5, 12, 13, 14, 15, 16, 17, 18, 19, 20, 21, 22, 23, 24, 25, 26, 27, 28, 29, 30, 31, 32, 33, 34, 35, 36, 37, 38, 39, 40, 41, 42, 43, 44, 45, 46, 47, 48, 49, 50, 51, 52, 53, 54, 60, 61, 62, 63, 64, 65, 66, 67, 68, 69, 70, 71, 72, 73, 74, 75, 76, 77, 78, 79, 80, 81, 82] (by decide +kernel) (by decide +kernel)
set_option maxRecDepth 20000 in
theorem gX7_active_X5_isActive : GoodIn wsX7_active (wsV RX7 118 RX5 yX5_isActive wsX5_isActive) := goodIn_app (goodIn_of _ (by decide +kernel)) ggX7_active_X5_isActive
theorem dX7_active_0 : decode cX7_active 0 = .ok (.aload_n 0, 1) := by decide +kernel
theorem dX7_active_1 : decode cX7_active 1 = .ok (.getfield 44, 3) := by decide +kernel
theorem dX7_active_4 : decode cX7_active 4 = .ok (.iload_n 1, 1) := by decide +kernel
theorem dX7_active_5 : decode cX7_active 5 = .ok (.iload_n 2, 1) := by decide +kernel
theorem dX7_active_6 : decode cX7_active 6 = .ok (.invokevirtual 118, 3) := by decide +kernel
theorem dX7_active_9 : decode cX7_active 9 = .ok (.ireturn, 1) := by decide +kernel
set_option maxRecDepth 20000 in
theorem ggX7_current_X5_currentChild : GoodIn wsX7_current wsX5_currentChild := goodIn_r _ [6, 7, 8, 9, 10, 11, 5, 12, 13, 14, 15, 16, 17, 18, 19, 25, 26, 27, 28, 29, 30, 31, 32, 33, 34, 35, 36, 37, 38, 39, 40, 41, 42] (by decide +kernel) (by decide +kernel)
set_option maxRecDepth 20000 in
theorem gX7_current_X5_currentChild : GoodIn wsX7_current (wsV RX7 122 RX5 yX5_currentChild wsX5_currentChild) := goodIn_app (goodIn_of _ (by decide +kernel)) ggX7_current_X5_currentChild
theorem dX7_current_0 : decode cX7_current 0 = .ok (.aload_n 0, 1) := by decide +kernel
theorem dX7_current_1 : decode cX7_current 1 = .ok (.getfield 44, 3) := by decide +kernel
theorem dX7_current_4 : decode cX7_current 4 = .ok (.iload_n 1, 1) := by decide +kernel
theorem dX7_current_5 : decode cX7_current 5 = .ok (.iload_n 2, 1) := by decide +kernel
theorem dX7_current_6 : decode cX7_current 6 = .ok (.invokevirtual 122, 3) := by decide +kernel
theorem dX7_current_9 : decode cX7_current 9 = .ok (.ireturn, 1) := by decide +kernel
set_option maxRecDepth 20000 in
theorem ggX7_event_X5_size : GoodIn wsX7_event wsX5_size := goodIn_r _ [11, 12, 53, 54, 55, 56, 57, 58, 59, 60, 61] (by decide +kernel) (by decide +kernel)
set_option maxRecDepth 20000 in
theorem gX7_event_X5_size : GoodIn wsX7_event (wsV RX7 77 RX5 yX5_size wsX5_size) := goodIn_app (goodIn_of _ (by decide +kernel)) ggX7_event_X5_size
set_option maxRecDepth 20000 in
theorem ggX7_event_X3_isEvent : GoodIn wsX7_event wsX3_isEvent := goodIn_r _ [17, 18, 62, 63, 64, 65, 66, 67, 68, 69, 70, 71] (by decide +kernel) (by decide +kernel)
set_option maxRecDepth 20000 in
theorem gX7_event_X3_isEvent : GoodIn wsX7_event (wsV RX7 127 RX3 yX3_isEvent wsX3_isEvent) := goodIn_app (goodIn_of _ (by decide +kernel)) ggX7_event_X3_isEvent
set_option maxRecDepth 20000 in
theorem ggX7_event_X5_step : GoodIn wsX7_event wsX5_step := goodIn_r _ [22, 23, 24, 25, 26, 27, 28, 29, 10, 30, 31, 32, 33, 34, 35, 12, 36, 14, 15, 16, 17, 18, 37, 38, 39, 40, 41, 42, 43, 44, 45, 46, 47, 53, 54, 55, 56, 57, 58, 59, 60, 61, 62, 63, 64, 65, 66, 67, 68, 69, 70, 71, 72, 73, 74, 75] (by decide +kernel) (by decide +kernel)
set_option maxRecDepth 20000 in
theorem gX7_event_X5_step : GoodIn wsX7_event (wsV RX7 133 RX5 yX5_step wsX5_step) := goodIn_app (goodIn_of _ (by decide +kernel)) ggX7_event_X5_step
theorem dX7_event_0 : decode cX7_event 0 = .ok (.aload_n 0, 1) := by decide +kernel
theorem dX7_event_1 : decode cX7_event 1 = .ok (.getfield 44, 3) := by decide +kernel
theorem dX7_event_4 : decode cX7_event 4 = .ok (.invokevirtual 77, 3) := by decide +kernel
theorem dX7_event_7 : decode cX7_event 7 = .ok (.ifCond .ne 13, 3) := by decide +kernel
theorem dX7_event_10 : decode cX7_event 10 = .ok (.new 63, 3) := by decide +kernel
theorem dX7_event_13 : decode cX7_event 13 = .ok (.dup, 1) := by decide +kernel
theorem dX7_event_14 : decode cX7_event 14 = .ok (.ldc 125, 2) := by decide +kernel
theorem dX7_event_16 : decode cX7_event 16 = .ok (.invokespecial 67, 3) := by decide +kernel
theorem dX7_event_19 : decode cX7_event 19 = .ok (.athrow, 1) := by decide +kernel
theorem dX7_event_20 : decode cX7_event 20 = .ok (.aload_n 0, 1) := by decide +kernel
theorem dX7_event_21 : decode cX7_event 21 = .ok (.getfield 26, 3) := by decide +kernel
theorem dX7_event_24 : decode cX7_event 24 = .ok (.iload_n 1, 1) := by decide +kernel
theorem dX7_event_25 : decode cX7_event 25 = .ok (.invokevirtual 127, 3) := by decide +kernel
theorem dX7_event_28 : decode cX7_event 28 = .ok (.ifCond .ne 13, 3) := by decide +kernel
theorem dX7_event_31 : decode cX7_event 31 = .ok (.new 56, 3) := by decide +kernel
theorem dX7_event_34 : decode cX7_event 34 = .ok (.dup, 1) := by decide +kernel
theorem dX7_event_35 : decode cX7_event 35 = .ok (.ldc 131, 2) := by decide +kernel
theorem dX7_event_37 : decode cX7_event 37 = .ok (.invokespecial 60, 3) := by decide +kernel
theorem dX7_event_40 : decode cX7_event 40 = .ok (.athrow, 1) := by decide +kernel
theorem dX7_event_41 : decode cX7_event 41 = .ok (.aload_n 0, 1) := by decide +kernel
theorem dX7_event_42 : decode cX7_event 42 = .ok (.getfield 44, 3) := by decide +kernel
theorem dX7_event_45 : decode cX7_event 45 = .ok (.iload_n 1, 1) := by decide +kernel
theorem dX7_event_46 : decode cX7_event 46 = .ok (.invokevirtual 133, 3) := by decide +kernel
theorem dX7_event_49 : decode cX7_event 49 = .ok (.ireturn, 1) := by decide +kernel
set_option maxRecDepth 20000 in
theorem ggX7_noted_X5_marksNoted : GoodIn wsX7_noted wsX5_marksNoted := goodIn_r _ [6, 7, 8, 14, 15, 16, 17, 18, 19, 20, 21, 22] (by decide +kernel) (by decide +kernel)
set_option maxRecDepth 20000 in
theorem gX7_noted_X5_marksNoted : GoodIn wsX7_noted (wsV RX7 136 RX5 yX5_marksNoted wsX5_marksNoted) := goodIn_app (goodIn_of _ (by decide +kernel)) ggX7_noted_X5_marksNoted
theorem dX7_noted_0 : decode cX7_noted 0 = .ok (.aload_n 0, 1) := by decide +kernel
theorem dX7_noted_1 : decode cX7_noted 1 = .ok (.getfield 44, 3) := by decide +kernel
theorem dX7_noted_4 : decode cX7_noted 4 = .ok (.invokevirtual 136, 3) := by decide +kernel
theorem dX7_noted_7 : decode cX7_noted 7 = .ok (.ireturn, 1) := by decide +kernel
end
section
theorem dX8_init_0 : decode cX8_init 0 = .ok (.aload_n 0, 1) := by decide +kernel
theorem dX8_init_1 : decode cX8_init 1 = .ok (.invokespecial 1, 3) := by decide +kernel
theorem dX8_init_4 : decode cX8_init 4 = .ok (.aload_n 0, 1) := by decide +kernel
theorem dX8_init_5 : decode cX8_init 5 = .ok (.bipush 50, 2) := by decide +kernel
theorem dX8_init_7 : decode cX8_init 7 = .ok (.newarray .char, 2) := by decide +kernel
theorem dX8_init_9 : decode cX8_init 9 = .ok (.putfield 7, 3) := by decide +kernel
theorem dX8_init_12 : decode cX8_init 12 = .ok (.aload_n 0, 1) := by decide +kernel
theorem dX8_init_13 : decode cX8_init 13 = .ok (.bipush 26, 2) := by decide +kernel
theorem dX8_init_15 : decode cX8_init 15 = .ok (.newarray .int, 2) := by decide +kernel
theorem dX8_init_17 : decode cX8_init 17 = .ok (.putfield 13, 3) := by decide +kernel
theorem dX8_init_20 : decode cX8_init 20 = .ok (.aload_n 0, 1) := by decide +kernel
theorem dX8_init_21 : decode cX8_init 21 = .ok (.bipush 26, 2) := by decide +kernel
theorem dX8_init_23 : decode cX8_init 23 = .ok (.newarray .int, 2) := by decide +kernel
theorem dX8_init_25 : decode cX8_init 25 = .ok (.putfield 17, 3) := by decide +kernel
theorem dX8_init_28 : decode cX8_init 28 = .ok (.aload_n 0, 1) := by decide +kernel
theorem dX8_init_29 : decode cX8_init 29 = .ok (.iconst 1, 1) := by decide +kernel
theorem dX8_init_30 : decode cX8_init 30 = .ok (.putfield 20, 3) := by decide +kernel
theorem dX8_init_33 : decode cX8_init 33 = .ok (.aload_n 0, 1) := by decide +kernel
theorem dX8_init_34 : decode cX8_init 34 = .ok (.bipush 56, 2) := by decide +kernel
theorem dX8_init_36 : decode cX8_init 36 = .ok (.newarray .char, 2) := by decide +kernel
theorem dX8_init_38 : decode cX8_init 38 = .ok (.putfield 24, 3) := by decide +kernel
theorem dX8_init_41 : decode cX8_init 41 = .ok (.aload_n 0, 1) := by decide +kernel
theorem dX8_init_42 : decode cX8_init 42 = .ok (.sipush 168, 3) := by decide +kernel
theorem dX8_init_45 : decode cX8_init 45 = .ok (.newarray .char, 2) := by decide +kernel
theorem dX8_init_47 : decode cX8_init 47 = .ok (.putfield 27, 3) := by decide +kernel
theorem dX8_init_50 : decode cX8_init 50 = .ok (.aload_n 0, 1) := by decide +kernel
theorem dX8_init_51 : decode cX8_init 51 = .ok (.bipush 14, 2) := by decide +kernel
theorem dX8_init_53 : decode cX8_init 53 = .ok (.newarray .int, 2) := by decide +kernel
theorem dX8_init_55 : decode cX8_init 55 = .ok (.putfield 30, 3) := by decide +kernel
theorem dX8_init_58 : decode cX8_init 58 = .ok (.aload_n 0, 1) := by decide +kernel
theorem dX8_init_59 : decode cX8_init 59 = .ok (.bipush 14, 2) := by decide +kernel
theorem dX8_init_61 : decode cX8_init 61 = .ok (.newarray .int, 2) := by decide +kernel
theorem dX8_init_63 : decode cX8_init 63 = .ok (.putfield 33, 3) := by decide +kernel
theorem dX8_init_66 : decode cX8_init 66 = .ok (.aload_n 0, 1) := by decide +kernel
theorem dX8_init_67 : decode cX8_init 67 = .ok (.bipush 28, 2) := by decide +kernel
theorem dX8_init_69 : decode cX8_init 69 = .ok (.newarray .int, 2) := by decide +kernel
theorem dX8_init_71 : decode cX8_init 71 = .ok (.putfield 36, 3) := by decide +kernel
theorem dX8_init_74 : decode cX8_init 74 = .ok (.aload_n 0, 1) := by decide +kernel
theorem dX8_init_75 : decode cX8_init 75 = .ok (.bipush 14, 2) := by decide +kernel
theorem dX8_init_77 : decode cX8_init 77 = .ok (.newarray .boolean, 2) := by decide +kernel
theorem dX8_init_79 : decode cX8_init 79 = .ok (.putfield 39, 3) := by decide +kernel
theorem dX8_init_82 : decode cX8_init 82 = .ok (.aload_n 0, 1) := by decide +kernel
theorem dX8_init_83 : decode cX8_init 83 = .ok (.bipush 14, 2) := by decide +kernel
theorem dX8_init_85 : decode cX8_init 85 = .ok (.newarray .boolean, 2) := by decide +kernel
theorem dX8_init_87 : decode cX8_init 87 = .ok (.putfield 43, 3) := by decide +kernel
theorem dX8_init_90 : decode cX8_init 90 = .ok (.aload_n 0, 1) := by decide +kernel
theorem dX8_init_91 : decode cX8_init 91 = .ok (.bipush 24, 2) := by decide +kernel
theorem dX8_init_93 : decode cX8_init 93 = .ok (.newarray .char, 2) := by decide +kernel
theorem dX8_init_95 : decode cX8_init 95 = .ok (.putfield 46, 3) := by decide +kernel
theorem dX8_init_98 : decode cX8_init 98 = .ok (.aload_n 0, 1) := by decide +kernel
theorem dX8_init_99 : decode cX8_init 99 = .ok (.bipush 60, 2) := by decide +kernel
theorem dX8_init_101 : decode cX8_init 101 = .ok (.newarray .char, 2) := by decide +kernel
theorem dX8_init_103 : decode cX8_init 103 = .ok (.putfield 49, 3) := by decide +kernel
theorem dX8_init_106 : decode cX8_init 106 = .ok (.aload_n 0, 1) := by decide +kernel
theorem dX8_init_107 : decode cX8_init 107 = .ok (.bipush 20, 2) := by decide +kernel
theorem dX8_init_109 : decode cX8_init 109 = .ok (.newarray .int, 2) := by decide +kernel
theorem dX8_init_111 : decode cX8_init 111 = .ok (.putfield 52, 3) := by decide +kernel
theorem dX8_init_114 : decode cX8_init 114 = .ok (.aload_n 0, 1) := by decide +kernel
theorem dX8_init_115 : decode cX8_init 115 = .ok (.bipush 20, 2) := by decide +kernel
theorem dX8_init_117 : decode cX8_init 117 = .ok (.newarray .int, 2) := by decide +kernel
theorem dX8_init_119 : decode cX8_init 119 = .ok (.putfield 55, 3) := by decide +kernel
theorem dX8_init_122 : decode cX8_init 122 = .ok (.aload_n 0, 1) := by decide +kernel
theorem dX8_init_123 : decode cX8_init 123 = .ok (.bipush 20, 2) := by decide +kernel
theorem dX8_init_125 : decode cX8_init 125 = .ok (.newarray .int, 2) := by decide +kernel
theorem dX8_init_127 : decode cX8_init 127 = .ok (.putfield 58, 3) := by decide +kernel
theorem dX8_init_130 : decode cX8_init 130 = .ok (.aload_n 0, 1) := by decide +kernel
theorem dX8_init_131 : decode cX8_init 131 = .ok (.bipush 20, 2) := by decide +kernel
theorem dX8_init_133 : decode cX8_init 133 = .ok (.newarray .int, 2) := by decide +kernel
theorem dX8_init_135 : decode cX8_init 135 = .ok (.putfield 61, 3) := by decide +kernel
theorem dX8_init_138 : decode cX8_init 138 = .ok (.aload_n 0, 1) := by decide +kernel
theorem dX8_init_139 : decode cX8_init 139 = .ok (.bipush 20, 2) := by decide +kernel
theorem dX8_init_141 : decode cX8_init 141 = .ok (.newarray .int, 2) := by decide +kernel
theorem dX8_init_143 : decode cX8_init 143 = .ok (.putfield 64, 3) := by decide +kernel
theorem dX8_init_146 : decode cX8_init 146 = .ok (.aload_n 0, 1) := by decide +kernel
theorem dX8_init_147 : decode cX8_init 147 = .ok (.bipush 20, 2) := by decide +kernel
theorem dX8_init_149 : decode cX8_init 149 = .ok (.newarray .int, 2) := by decide +kernel
theorem dX8_init_151 : decode cX8_init 151 = .ok (.putfield 67, 3) := by decide +kernel
theorem dX8_init_154 : decode cX8_init 154 = .ok (.aload_n 0, 1) := by decide +kernel
theorem dX8_init_155 : decode cX8_init 155 = .ok (.bipush 14, 2) := by decide +kernel
theorem dX8_init_157 : decode cX8_init 157 = .ok (.newarray .int, 2) := by decide +kernel
theorem dX8_init_159 : decode cX8_init 159 = .ok (.putfield 70, 3) := by decide +kernel
theorem dX8_init_162 : decode cX8_init 162 = .ok (.aload_n 0, 1) := by decide +kernel
theorem dX8_init_163 : decode cX8_init 163 = .ok (.bipush 40, 2) := by decide +kernel
theorem dX8_init_165 : decode cX8_init 165 = .ok (.newarray .char, 2) := by decide +kernel
theorem dX8_init_167 : decode cX8_init 167 = .ok (.putfield 73, 3) := by decide +kernel
theorem dX8_init_170 : decode cX8_init 170 = .ok (.aload_n 0, 1) := by decide +kernel
theorem dX8_init_171 : decode cX8_init 171 = .ok (.sipush 420, 3) := by decide +kernel
theorem dX8_init_174 : decode cX8_init 174 = .ok (.newarray .int, 2) := by decide +kernel
theorem dX8_init_176 : decode cX8_init 176 = .ok (.putfield 76, 3) := by decide +kernel
theorem dX8_init_179 : decode cX8_init 179 = .ok (.aload_n 0, 1) := by decide +kernel
theorem dX8_init_180 : decode cX8_init 180 = .ok (.sipush 180, 3) := by decide +kernel
theorem dX8_init_183 : decode cX8_init 183 = .ok (.newarray .int, 2) := by decide +kernel
theorem dX8_init_185 : decode cX8_init 185 = .ok (.putfield 79, 3) := by decide +kernel
theorem dX8_init_188 : decode cX8_init 188 = .ok (.aload_n 0, 1) := by decide +kernel
theorem dX8_init_189 : decode cX8_init 189 = .ok (.sipush 181, 3) := by decide +kernel
theorem dX8_init_192 : decode cX8_init 192 = .ok (.newarray .int, 2) := by decide +kernel
theorem dX8_init_194 : decode cX8_init 194 = .ok (.putfield 82, 3) := by decide +kernel
theorem dX8_init_197 : decode cX8_init 197 = .ok (.aload_n 0, 1) := by decide +kernel
theorem dX8_init_198 : decode cX8_init 198 = .ok (.sipush 7240, 3) := by decide +kernel
theorem dX8_init_201 : decode cX8_init 201 = .ok (.newarray .char, 2) := by decide +kernel
theorem dX8_init_203 : decode cX8_init 203 = .ok (.putfield 85, 3) := by decide +kernel
theorem dX8_init_206 : decode cX8_init 206 = .ok (.aload_n 0, 1) := by decide +kernel
theorem dX8_init_207 : decode cX8_init 207 = .ok (.bipush 20, 2) := by decide +kernel
theorem dX8_init_209 : decode cX8_init 209 = .ok (.newarray .int, 2) := by decide +kernel
theorem dX8_init_211 : decode cX8_init 211 = .ok (.putfield 88, 3) := by decide +kernel
theorem dX8_init_214 : decode cX8_init 214 = .ok (.aload_n 0, 1) := by decide +kernel
theorem dX8_init_215 : decode cX8_init 215 = .ok (.bipush 20, 2) := by decide +kernel
theorem dX8_init_217 : decode cX8_init 217 = .ok (.newarray .int, 2) := by decide +kernel
theorem dX8_init_219 : decode cX8_init 219 = .ok (.putfield 91, 3) := by decide +kernel
theorem dX8_init_222 : decode cX8_init 222 = .ok (.aload_n 0, 1) := by decide +kernel
theorem dX8_init_223 : decode cX8_init 223 = .ok (.bipush 10, 2) := by decide +kernel
theorem dX8_init_225 : decode cX8_init 225 = .ok (.newarray .int, 2) := by decide +kernel
theorem dX8_init_227 : decode cX8_init 227 = .ok (.putfield 94, 3) := by decide +kernel
theorem dX8_init_230 : decode cX8_init 230 = .ok (.aload_n 0, 1) := by decide +kernel
theorem dX8_init_231 : decode cX8_init 231 = .ok (.bipush 10, 2) := by decide +kernel
theorem dX8_init_233 : decode cX8_init 233 = .ok (.newarray .int, 2) := by decide +kernel
theorem dX8_init_235 : decode cX8_init 235 = .ok (.putfield 97, 3) := by decide +kernel
theorem dX8_init_238 : decode cX8_init 238 = .ok (.aload_n 0, 1) := by decide +kernel
theorem dX8_init_239 : decode cX8_init 239 = .ok (.bipush 10, 2) := by decide +kernel
theorem dX8_init_241 : decode cX8_init 241 = .ok (.newarray .int, 2) := by decide +kernel
theorem dX8_init_243 : decode cX8_init 243 = .ok (.putfield 100, 3) := by decide +kernel
theorem dX8_init_246 : decode cX8_init 246 = .ok (.aload_n 0, 1) := by decide +kernel
theorem dX8_init_247 : decode cX8_init 247 = .ok (.getfield 30, 3) := by decide +kernel
theorem dX8_init_250 : decode cX8_init 250 = .ok (.iconst 0, 1) := by decide +kernel
theorem dX8_init_251 : decode cX8_init 251 = .ok (.iconst (-1), 1) := by decide +kernel
theorem dX8_init_252 : decode cX8_init 252 = .ok (.iastore, 1) := by decide +kernel
theorem dX8_init_253 : decode cX8_init 253 = .ok (.aload_n 0, 1) := by decide +kernel
theorem dX8_init_254 : decode cX8_init 254 = .ok (.getfield 24, 3) := by decide +kernel
theorem dX8_init_257 : decode cX8_init 257 = .ok (.iconst 0, 1) := by decide +kernel
theorem dX8_init_258 : decode cX8_init 258 = .ok (.bipush 116, 2) := by decide +kernel
theorem dX8_init_260 : decode cX8_init 260 = .ok (.castore, 1) := by decide +kernel
theorem dX8_init_261 : decode cX8_init 261 = .ok (.aload_n 0, 1) := by decide +kernel
theorem dX8_init_262 : decode cX8_init 262 = .ok (.getfield 24, 3) := by decide +kernel
theorem dX8_init_265 : decode cX8_init 265 = .ok (.iconst 1, 1) := by decide +kernel
theorem dX8_init_266 : decode cX8_init 266 = .ok (.bipush 111, 2) := by decide +kernel
theorem dX8_init_268 : decode cX8_init 268 = .ok (.castore, 1) := by decide +kernel
theorem dX8_init_269 : decode cX8_init 269 = .ok (.aload_n 0, 1) := by decide +kernel
theorem dX8_init_270 : decode cX8_init 270 = .ok (.getfield 24, 3) := by decide +kernel
theorem dX8_init_273 : decode cX8_init 273 = .ok (.iconst 2, 1) := by decide +kernel
theorem dX8_init_274 : decode cX8_init 274 = .ok (.bipush 112, 2) := by decide +kernel
theorem dX8_init_276 : decode cX8_init 276 = .ok (.castore, 1) := by decide +kernel
theorem dX8_init_277 : decode cX8_init 277 = .ok (.return_, 1) := by decide +kernel
theorem dX8_thrown_0 : decode cX8_thrown 0 = .ok (.aload_n 0, 1) := by decide +kernel
theorem dX8_thrown_1 : decode cX8_thrown 1 = .ok (.getfield 103, 3) := by decide +kernel
theorem dX8_thrown_4 : decode cX8_thrown 4 = .ok (.ireturn, 1) := by decide +kernel
theorem dX8_fails_0 : decode cX8_fails 0 = .ok (.aload_n 0, 1) := by decide +kernel
theorem dX8_fails_1 : decode cX8_fails 1 = .ok (.iload_n 1, 1) := by decide +kernel
theorem dX8_fails_2 : decode cX8_fails 2 = .ok (.putfield 103, 3) := by decide +kernel
theorem dX8_fails_5 : decode cX8_fails 5 = .ok (.iconst 0, 1) := by decide +kernel
theorem dX8_fails_6 : decode cX8_fails 6 = .ok (.ireturn, 1) := by decide +kernel
theorem dX8_write_0 : decode cX8_write 0 = .ok (.aload_n 0, 1) := by decide +kernel
theorem dX8_write_1 : decode cX8_write 1 = .ok (.iconst 0, 1) := by decide +kernel
theorem dX8_write_2 : decode cX8_write 2 = .ok (.putfield 103, 3) := by decide +kernel
theorem dX8_write_5 : decode cX8_write 5 = .ok (.iload_n 1, 1) := by decide +kernel
theorem dX8_write_6 : decode cX8_write 6 = .ok (.bipush 32, 2) := by decide +kernel
theorem dX8_write_8 : decode cX8_write 8 = .ok (.if_icmp .lt 18, 3) := by decide +kernel
theorem dX8_write_11 : decode cX8_write 11 = .ok (.iload_n 1, 1) := by decide +kernel
theorem dX8_write_12 : decode cX8_write 12 = .ok (.bipush 126, 2) := by decide +kernel
theorem dX8_write_14 : decode cX8_write 14 = .ok (.if_icmp .gt 12, 3) := by decide +kernel
theorem dX8_write_17 : decode cX8_write 17 = .ok (.aload_n 0, 1) := by decide +kernel
theorem dX8_write_18 : decode cX8_write 18 = .ok (.getfield 106, 3) := by decide +kernel
theorem dX8_write_21 : decode cX8_write 21 = .ok (.bipush 50, 2) := by decide +kernel
theorem dX8_write_23 : decode cX8_write 23 = .ok (.if_icmp .lt 5, 3) := by decide +kernel
theorem dX8_write_26 : decode cX8_write 26 = .ok (.iconst 0, 1) := by decide +kernel
theorem dX8_write_27 : decode cX8_write 27 = .ok (.ireturn, 1) := by decide +kernel
theorem dX8_write_28 : decode cX8_write 28 = .ok (.aload_n 0, 1) := by decide +kernel
theorem dX8_write_29 : decode cX8_write 29 = .ok (.getfield 7, 3) := by decide +kernel
theorem dX8_write_32 : decode cX8_write 32 = .ok (.aload_n 0, 1) := by decide +kernel
theorem dX8_write_33 : decode cX8_write 33 = .ok (.getfield 106, 3) := by decide +kernel
theorem dX8_write_36 : decode cX8_write 36 = .ok (.iload_n 1, 1) := by decide +kernel
theorem dX8_write_37 : decode cX8_write 37 = .ok (.castore, 1) := by decide +kernel
theorem dX8_write_38 : decode cX8_write 38 = .ok (.aload_n 0, 1) := by decide +kernel
theorem dX8_write_39 : decode cX8_write 39 = .ok (.dup, 1) := by decide +kernel
theorem dX8_write_40 : decode cX8_write 40 = .ok (.getfield 106, 3) := by decide +kernel
theorem dX8_write_43 : decode cX8_write 43 = .ok (.iconst 1, 1) := by decide +kernel
theorem dX8_write_44 : decode cX8_write 44 = .ok (.iadd, 1) := by decide +kernel
theorem dX8_write_45 : decode cX8_write 45 = .ok (.putfield 106, 3) := by decide +kernel
theorem dX8_write_48 : decode cX8_write 48 = .ok (.iconst 1, 1) := by decide +kernel
theorem dX8_write_49 : decode cX8_write 49 = .ok (.ireturn, 1) := by decide +kernel
theorem dX8_split_0 : decode cX8_split 0 = .ok (.aload_n 0, 1) := by decide +kernel
theorem dX8_split_1 : decode cX8_split 1 = .ok (.iconst 0, 1) := by decide +kernel
theorem dX8_split_2 : decode cX8_split 2 = .ok (.putfield 109, 3) := by decide +kernel
theorem dX8_split_5 : decode cX8_split 5 = .ok (.iconst 0, 1) := by decide +kernel
theorem dX8_split_6 : decode cX8_split 6 = .ok (.istore_n 1, 1) := by decide +kernel
theorem dX8_split_7 : decode cX8_split 7 = .ok (.iload_n 1, 1) := by decide +kernel
theorem dX8_split_8 : decode cX8_split 8 = .ok (.aload_n 0, 1) := by decide +kernel
theorem dX8_split_9 : decode cX8_split 9 = .ok (.getfield 106, 3) := by decide +kernel
theorem dX8_split_12 : decode cX8_split 12 = .ok (.if_icmp .ge 94, 3) := by decide +kernel
theorem dX8_split_15 : decode cX8_split 15 = .ok (.iload_n 1, 1) := by decide +kernel
theorem dX8_split_16 : decode cX8_split 16 = .ok (.aload_n 0, 1) := by decide +kernel
theorem dX8_split_17 : decode cX8_split 17 = .ok (.getfield 106, 3) := by decide +kernel
theorem dX8_split_20 : decode cX8_split 20 = .ok (.if_icmp .ge 20, 3) := by decide +kernel
theorem dX8_split_23 : decode cX8_split 23 = .ok (.aload_n 0, 1) := by decide +kernel
theorem dX8_split_24 : decode cX8_split 24 = .ok (.getfield 7, 3) := by decide +kernel
theorem dX8_split_27 : decode cX8_split 27 = .ok (.iload_n 1, 1) := by decide +kernel
theorem dX8_split_28 : decode cX8_split 28 = .ok (.caload, 1) := by decide +kernel
theorem dX8_split_29 : decode cX8_split 29 = .ok (.bipush 32, 2) := by decide +kernel
theorem dX8_split_31 : decode cX8_split 31 = .ok (.if_icmp .ne 9, 3) := by decide +kernel
theorem dX8_split_34 : decode cX8_split 34 = .ok (.iinc 1 1, 3) := by decide +kernel
theorem dX8_split_37 : decode cX8_split 37 = .ok (.goto (-22), 3) := by decide +kernel
theorem dX8_split_40 : decode cX8_split 40 = .ok (.iload_n 1, 1) := by decide +kernel
theorem dX8_split_41 : decode cX8_split 41 = .ok (.aload_n 0, 1) := by decide +kernel
theorem dX8_split_42 : decode cX8_split 42 = .ok (.getfield 106, 3) := by decide +kernel
theorem dX8_split_45 : decode cX8_split 45 = .ok (.if_icmp .ge (-38), 3) := by decide +kernel
theorem dX8_split_48 : decode cX8_split 48 = .ok (.aload_n 0, 1) := by decide +kernel
theorem dX8_split_49 : decode cX8_split 49 = .ok (.getfield 13, 3) := by decide +kernel
theorem dX8_split_52 : decode cX8_split 52 = .ok (.aload_n 0, 1) := by decide +kernel
theorem dX8_split_53 : decode cX8_split 53 = .ok (.getfield 109, 3) := by decide +kernel
theorem dX8_split_56 : decode cX8_split 56 = .ok (.iload_n 1, 1) := by decide +kernel
theorem dX8_split_57 : decode cX8_split 57 = .ok (.iastore, 1) := by decide +kernel
theorem dX8_split_58 : decode cX8_split 58 = .ok (.iload_n 1, 1) := by decide +kernel
theorem dX8_split_59 : decode cX8_split 59 = .ok (.aload_n 0, 1) := by decide +kernel
theorem dX8_split_60 : decode cX8_split 60 = .ok (.getfield 106, 3) := by decide +kernel
theorem dX8_split_63 : decode cX8_split 63 = .ok (.if_icmp .ge 20, 3) := by decide +kernel
theorem dX8_split_66 : decode cX8_split 66 = .ok (.aload_n 0, 1) := by decide +kernel
theorem dX8_split_67 : decode cX8_split 67 = .ok (.getfield 7, 3) := by decide +kernel
theorem dX8_split_70 : decode cX8_split 70 = .ok (.iload_n 1, 1) := by decide +kernel
theorem dX8_split_71 : decode cX8_split 71 = .ok (.caload, 1) := by decide +kernel
theorem dX8_split_72 : decode cX8_split 72 = .ok (.bipush 32, 2) := by decide +kernel
theorem dX8_split_74 : decode cX8_split 74 = .ok (.if_icmp .eq 9, 3) := by decide +kernel
theorem dX8_split_77 : decode cX8_split 77 = .ok (.iinc 1 1, 3) := by decide +kernel
theorem dX8_split_80 : decode cX8_split 80 = .ok (.goto (-22), 3) := by decide +kernel
theorem dX8_split_83 : decode cX8_split 83 = .ok (.aload_n 0, 1) := by decide +kernel
theorem dX8_split_84 : decode cX8_split 84 = .ok (.getfield 17, 3) := by decide +kernel
theorem dX8_split_87 : decode cX8_split 87 = .ok (.aload_n 0, 1) := by decide +kernel
theorem dX8_split_88 : decode cX8_split 88 = .ok (.getfield 109, 3) := by decide +kernel
theorem dX8_split_91 : decode cX8_split 91 = .ok (.iload_n 1, 1) := by decide +kernel
theorem dX8_split_92 : decode cX8_split 92 = .ok (.iastore, 1) := by decide +kernel
theorem dX8_split_93 : decode cX8_split 93 = .ok (.aload_n 0, 1) := by decide +kernel
theorem dX8_split_94 : decode cX8_split 94 = .ok (.dup, 1) := by decide +kernel
theorem dX8_split_95 : decode cX8_split 95 = .ok (.getfield 109, 3) := by decide +kernel
theorem dX8_split_98 : decode cX8_split 98 = .ok (.iconst 1, 1) := by decide +kernel
theorem dX8_split_99 : decode cX8_split 99 = .ok (.iadd, 1) := by decide +kernel
theorem dX8_split_100 : decode cX8_split 100 = .ok (.putfield 109, 3) := by decide +kernel
theorem dX8_split_103 : decode cX8_split 103 = .ok (.goto (-96), 3) := by decide +kernel
theorem dX8_split_106 : decode cX8_split 106 = .ok (.return_, 1) := by decide +kernel
theorem dX8_letter_0 : decode cX8_letter 0 = .ok (.aload_n 0, 1) := by decide +kernel
theorem dX8_letter_1 : decode cX8_letter 1 = .ok (.getfield 13, 3) := by decide +kernel
theorem dX8_letter_4 : decode cX8_letter 4 = .ok (.iload_n 1, 1) := by decide +kernel
theorem dX8_letter_5 : decode cX8_letter 5 = .ok (.iaload, 1) := by decide +kernel
theorem dX8_letter_6 : decode cX8_letter 6 = .ok (.iload_n 2, 1) := by decide +kernel
theorem dX8_letter_7 : decode cX8_letter 7 = .ok (.iadd, 1) := by decide +kernel
theorem dX8_letter_8 : decode cX8_letter 8 = .ok (.aload_n 0, 1) := by decide +kernel
theorem dX8_letter_9 : decode cX8_letter 9 = .ok (.getfield 17, 3) := by decide +kernel
theorem dX8_letter_12 : decode cX8_letter 12 = .ok (.iload_n 1, 1) := by decide +kernel
theorem dX8_letter_13 : decode cX8_letter 13 = .ok (.iaload, 1) := by decide +kernel
theorem dX8_letter_14 : decode cX8_letter 14 = .ok (.if_icmp .ge 19, 3) := by decide +kernel
theorem dX8_letter_17 : decode cX8_letter 17 = .ok (.aload_n 0, 1) := by decide +kernel
theorem dX8_letter_18 : decode cX8_letter 18 = .ok (.getfield 7, 3) := by decide +kernel
theorem dX8_letter_21 : decode cX8_letter 21 = .ok (.aload_n 0, 1) := by decide +kernel
theorem dX8_letter_22 : decode cX8_letter 22 = .ok (.getfield 13, 3) := by decide +kernel
theorem dX8_letter_25 : decode cX8_letter 25 = .ok (.iload_n 1, 1) := by decide +kernel
theorem dX8_letter_26 : decode cX8_letter 26 = .ok (.iaload, 1) := by decide +kernel
theorem dX8_letter_27 : decode cX8_letter 27 = .ok (.iload_n 2, 1) := by decide +kernel
theorem dX8_letter_28 : decode cX8_letter 28 = .ok (.iadd, 1) := by decide +kernel
theorem dX8_letter_29 : decode cX8_letter 29 = .ok (.caload, 1) := by decide +kernel
theorem dX8_letter_30 : decode cX8_letter 30 = .ok (.goto 4, 3) := by decide +kernel
theorem dX8_letter_33 : decode cX8_letter 33 = .ok (.iconst 0, 1) := by decide +kernel
theorem dX8_letter_34 : decode cX8_letter 34 = .ok (.ireturn, 1) := by decide +kernel
theorem dX8_length_0 : decode cX8_length 0 = .ok (.aload_n 0, 1) := by decide +kernel
theorem dX8_length_1 : decode cX8_length 1 = .ok (.getfield 17, 3) := by decide +kernel
theorem dX8_length_4 : decode cX8_length 4 = .ok (.iload_n 1, 1) := by decide +kernel
theorem dX8_length_5 : decode cX8_length 5 = .ok (.iaload, 1) := by decide +kernel
theorem dX8_length_6 : decode cX8_length 6 = .ok (.aload_n 0, 1) := by decide +kernel
theorem dX8_length_7 : decode cX8_length 7 = .ok (.getfield 13, 3) := by decide +kernel
theorem dX8_length_10 : decode cX8_length 10 = .ok (.iload_n 1, 1) := by decide +kernel
theorem dX8_length_11 : decode cX8_length 11 = .ok (.iaload, 1) := by decide +kernel
theorem dX8_length_12 : decode cX8_length 12 = .ok (.isub, 1) := by decide +kernel
theorem dX8_length_13 : decode cX8_length 13 = .ok (.ireturn, 1) := by decide +kernel
set_option maxRecDepth 20000 in
theorem ggX8_isWord_X8_length : GoodIn wsX8_isWord wsX8_length := goodIn_r _ [5, 6, 7, 13, 14, 15, 16, 17, 18, 19, 20, 21, 22, 23, 24, 25, 26, 27, 28, 29, 30, 31, 32, 33, 34, 35, 36, 37, 38, 39, 40, 41, 42, 43, 44, 45, 46, 47, 48, 49, 50, 51] (by decide +kernel) (by decide +kernel)
set_option maxRecDepth 20000 in
theorem gX8_isWord_X8_length : GoodIn wsX8_isWord (wsV RX8 112 RX8 yX8_length wsX8_length) := goodIn_app (goodIn_of _ (by decide +kernel)) ggX8_isWord_X8_length
set_option maxRecDepth 20000 in
theorem ggX8_isWord_X8_letter : GoodIn wsX8_isWord wsX8_letter := goodIn_r _ [11, 7, 6, 12, 13, 14, 15, 16, 17, 18, 19, 20, 21, 22, 23, 24, 25, 26, 27, 28, 29, 30, 31, 32, 33, 34, 35, 36, 37, 38, 39, 40, 41, 42, 43, 44, 45, 46, 47, 48, 49, 50, 51] (by decide +kernel) (by decide +kernel)
set_option maxRecDepth 20000 in
theorem gX8_isWord_X8_letter : GoodIn wsX8_isWord (wsV RX8 116 RX8 yX8_letter wsX8_letter) := goodIn_app (goodIn_of _ (by decide +kernel)) ggX8_isWord_X8_letter
theorem dX8_isWord_0 : decode cX8_isWord 0 = .ok (.aload_n 0, 1) := by decide +kernel
theorem dX8_isWord_1 : decode cX8_isWord 1 = .ok (.iload_n 1, 1) := by decide +kernel
theorem dX8_isWord_2 : decode cX8_isWord 2 = .ok (.invokevirtual 112, 3) := by decide +kernel
theorem dX8_isWord_5 : decode cX8_isWord 5 = .ok (.iload_n 2, 1) := by decide +kernel
theorem dX8_isWord_6 : decode cX8_isWord 6 = .ok (.if_icmp .gt 7, 3) := by decide +kernel
theorem dX8_isWord_9 : decode cX8_isWord 9 = .ok (.iconst 1, 1) := by decide +kernel
theorem dX8_isWord_10 : decode cX8_isWord 10 = .ok (.goto 4, 3) := by decide +kernel
theorem dX8_isWord_13 : decode cX8_isWord 13 = .ok (.iconst 0, 1) := by decide +kernel
theorem dX8_isWord_14 : decode cX8_isWord 14 = .ok (.istore_n 3, 1) := by decide +kernel
theorem dX8_isWord_15 : decode cX8_isWord 15 = .ok (.iconst 0, 1) := by decide +kernel
theorem dX8_isWord_16 : decode cX8_isWord 16 = .ok (.istore 4, 2) := by decide +kernel
theorem dX8_isWord_18 : decode cX8_isWord 18 = .ok (.iload 4, 2) := by decide +kernel
theorem dX8_isWord_20 : decode cX8_isWord 20 = .ok (.aload_n 0, 1) := by decide +kernel
theorem dX8_isWord_21 : decode cX8_isWord 21 = .ok (.iload_n 1, 1) := by decide +kernel
theorem dX8_isWord_22 : decode cX8_isWord 22 = .ok (.invokevirtual 112, 3) := by decide +kernel
theorem dX8_isWord_25 : decode cX8_isWord 25 = .ok (.if_icmp .ge 43, 3) := by decide +kernel
theorem dX8_isWord_28 : decode cX8_isWord 28 = .ok (.iload_n 3, 1) := by decide +kernel
theorem dX8_isWord_29 : decode cX8_isWord 29 = .ok (.ifCond .eq 39, 3) := by decide +kernel
theorem dX8_isWord_32 : decode cX8_isWord 32 = .ok (.aload_n 0, 1) := by decide +kernel
theorem dX8_isWord_33 : decode cX8_isWord 33 = .ok (.iload_n 1, 1) := by decide +kernel
theorem dX8_isWord_34 : decode cX8_isWord 34 = .ok (.iload 4, 2) := by decide +kernel
theorem dX8_isWord_36 : decode cX8_isWord 36 = .ok (.invokevirtual 116, 3) := by decide +kernel
theorem dX8_isWord_39 : decode cX8_isWord 39 = .ok (.bipush 97, 2) := by decide +kernel
theorem dX8_isWord_41 : decode cX8_isWord 41 = .ok (.if_icmp .lt 19, 3) := by decide +kernel
theorem dX8_isWord_44 : decode cX8_isWord 44 = .ok (.aload_n 0, 1) := by decide +kernel
theorem dX8_isWord_45 : decode cX8_isWord 45 = .ok (.iload_n 1, 1) := by decide +kernel
theorem dX8_isWord_46 : decode cX8_isWord 46 = .ok (.iload 4, 2) := by decide +kernel
theorem dX8_isWord_48 : decode cX8_isWord 48 = .ok (.invokevirtual 116, 3) := by decide +kernel
theorem dX8_isWord_51 : decode cX8_isWord 51 = .ok (.bipush 122, 2) := by decide +kernel
theorem dX8_isWord_53 : decode cX8_isWord 53 = .ok (.if_icmp .gt 7, 3) := by decide +kernel
theorem dX8_isWord_56 : decode cX8_isWord 56 = .ok (.iconst 1, 1) := by decide +kernel
theorem dX8_isWord_57 : decode cX8_isWord 57 = .ok (.goto 4, 3) := by decide +kernel
theorem dX8_isWord_60 : decode cX8_isWord 60 = .ok (.iconst 0, 1) := by decide +kernel
theorem dX8_isWord_61 : decode cX8_isWord 61 = .ok (.istore_n 3, 1) := by decide +kernel
theorem dX8_isWord_62 : decode cX8_isWord 62 = .ok (.iinc 4 1, 3) := by decide +kernel
theorem dX8_isWord_65 : decode cX8_isWord 65 = .ok (.goto (-47), 3) := by decide +kernel
theorem dX8_isWord_68 : decode cX8_isWord 68 = .ok (.iload_n 3, 1) := by decide +kernel
theorem dX8_isWord_69 : decode cX8_isWord 69 = .ok (.ireturn, 1) := by decide +kernel
set_option maxRecDepth 20000 in
theorem ggX8_says_X8_letter : GoodIn wsX8_says wsX8_letter := goodIn_r _ [5, 6, 7, 8, 13, 14, 15, 16, 17, 18, 19, 20, 21, 22, 23, 24, 25, 26, 27, 28, 29, 30, 31, 32, 33, 34, 35, 36, 37, 38, 39, 40, 41, 42, 43, 44, 45, 46, 47, 48, 49, 50, 51] (by decide +kernel) (by decide +kernel)
set_option maxRecDepth 20000 in
theorem gX8_says_X8_letter : GoodIn wsX8_says (wsV RX8 116 RX8 yX8_letter wsX8_letter) := goodIn_app (goodIn_of _ (by decide +kernel)) ggX8_says_X8_letter
set_option maxRecDepth 20000 in
theorem ggX8_says_X8_length : GoodIn wsX8_says wsX8_length := goodIn_r _ [12, 7, 6, 13, 14, 15, 16, 17, 18, 19, 20, 21, 22, 23, 24, 25, 26, 27, 28, 29, 30, 31, 32, 33, 34, 35, 36, 37, 38, 39, 40, 41, 42, 43, 44, 45, 46, 47, 48, 49, 50, 51] (by decide +kernel) (by decide +kernel)
set_option maxRecDepth 20000 in
theorem gX8_says_X8_length : GoodIn wsX8_says (wsV RX8 112 RX8 yX8_length wsX8_length) := goodIn_app (goodIn_of _ (by decide +kernel)) ggX8_says_X8_length
theorem dX8_says_0 : decode cX8_says 0 = .ok (.aload_n 0, 1) := by decide +kernel
theorem dX8_says_1 : decode cX8_says 1 = .ok (.iload_n 1, 1) := by decide +kernel
theorem dX8_says_2 : decode cX8_says 2 = .ok (.iconst 0, 1) := by decide +kernel
theorem dX8_says_3 : decode cX8_says 3 = .ok (.invokevirtual 116, 3) := by decide +kernel
theorem dX8_says_6 : decode cX8_says 6 = .ok (.iload_n 2, 1) := by decide +kernel
theorem dX8_says_7 : decode cX8_says 7 = .ok (.if_icmp .ne 71, 3) := by decide +kernel
theorem dX8_says_10 : decode cX8_says 10 = .ok (.aload_n 0, 1) := by decide +kernel
theorem dX8_says_11 : decode cX8_says 11 = .ok (.iload_n 1, 1) := by decide +kernel
theorem dX8_says_12 : decode cX8_says 12 = .ok (.iconst 1, 1) := by decide +kernel
theorem dX8_says_13 : decode cX8_says 13 = .ok (.invokevirtual 116, 3) := by decide +kernel
theorem dX8_says_16 : decode cX8_says 16 = .ok (.iload_n 3, 1) := by decide +kernel
theorem dX8_says_17 : decode cX8_says 17 = .ok (.if_icmp .ne 61, 3) := by decide +kernel
theorem dX8_says_20 : decode cX8_says 20 = .ok (.aload_n 0, 1) := by decide +kernel
theorem dX8_says_21 : decode cX8_says 21 = .ok (.iload_n 1, 1) := by decide +kernel
theorem dX8_says_22 : decode cX8_says 22 = .ok (.iconst 2, 1) := by decide +kernel
theorem dX8_says_23 : decode cX8_says 23 = .ok (.invokevirtual 116, 3) := by decide +kernel
theorem dX8_says_26 : decode cX8_says 26 = .ok (.iload 4, 2) := by decide +kernel
theorem dX8_says_28 : decode cX8_says 28 = .ok (.if_icmp .ne 50, 3) := by decide +kernel
theorem dX8_says_31 : decode cX8_says 31 = .ok (.aload_n 0, 1) := by decide +kernel
theorem dX8_says_32 : decode cX8_says 32 = .ok (.iload_n 1, 1) := by decide +kernel
theorem dX8_says_33 : decode cX8_says 33 = .ok (.iconst 3, 1) := by decide +kernel
theorem dX8_says_34 : decode cX8_says 34 = .ok (.invokevirtual 116, 3) := by decide +kernel
theorem dX8_says_37 : decode cX8_says 37 = .ok (.iload 5, 2) := by decide +kernel
theorem dX8_says_39 : decode cX8_says 39 = .ok (.if_icmp .ne 39, 3) := by decide +kernel
theorem dX8_says_42 : decode cX8_says 42 = .ok (.aload_n 0, 1) := by decide +kernel
theorem dX8_says_43 : decode cX8_says 43 = .ok (.iload_n 1, 1) := by decide +kernel
theorem dX8_says_44 : decode cX8_says 44 = .ok (.iconst 4, 1) := by decide +kernel
theorem dX8_says_45 : decode cX8_says 45 = .ok (.invokevirtual 116, 3) := by decide +kernel
theorem dX8_says_48 : decode cX8_says 48 = .ok (.iload 6, 2) := by decide +kernel
theorem dX8_says_50 : decode cX8_says 50 = .ok (.if_icmp .ne 28, 3) := by decide +kernel
theorem dX8_says_53 : decode cX8_says 53 = .ok (.aload_n 0, 1) := by decide +kernel
theorem dX8_says_54 : decode cX8_says 54 = .ok (.iload_n 1, 1) := by decide +kernel
theorem dX8_says_55 : decode cX8_says 55 = .ok (.iconst 5, 1) := by decide +kernel
theorem dX8_says_56 : decode cX8_says 56 = .ok (.invokevirtual 116, 3) := by decide +kernel
theorem dX8_says_59 : decode cX8_says 59 = .ok (.iload 7, 2) := by decide +kernel
theorem dX8_says_61 : decode cX8_says 61 = .ok (.if_icmp .ne 17, 3) := by decide +kernel
theorem dX8_says_64 : decode cX8_says 64 = .ok (.aload_n 0, 1) := by decide +kernel
theorem dX8_says_65 : decode cX8_says 65 = .ok (.iload_n 1, 1) := by decide +kernel
theorem dX8_says_66 : decode cX8_says 66 = .ok (.invokevirtual 112, 3) := by decide +kernel
theorem dX8_says_69 : decode cX8_says 69 = .ok (.bipush 8, 2) := by decide +kernel
theorem dX8_says_71 : decode cX8_says 71 = .ok (.if_icmp .gt 7, 3) := by decide +kernel
theorem dX8_says_74 : decode cX8_says 74 = .ok (.iconst 1, 1) := by decide +kernel
theorem dX8_says_75 : decode cX8_says 75 = .ok (.goto 4, 3) := by decide +kernel
theorem dX8_says_78 : decode cX8_says 78 = .ok (.iconst 0, 1) := by decide +kernel
theorem dX8_says_79 : decode cX8_says 79 = .ok (.ireturn, 1) := by decide +kernel
set_option maxRecDepth 20000 in
theorem ggX8_stateOf_X8_length : GoodIn wsX8_stateOf wsX8_length := goodIn_r _ [7, 8, 9, 15, 16, 17, 18, 19, 20, 21, 22, 23, 24, 25, 26, 27, 28, 29, 30, 31, 32, 33, 34, 35, 36, 37, 38, 39, 40, 41, 42, 43, 44, 45, 46, 47, 48, 49, 50, 51, 52, 53] (by decide +kernel) (by decide +kernel)
set_option maxRecDepth 20000 in
theorem gX8_stateOf_X8_length : GoodIn wsX8_stateOf (wsV RX8 112 RX8 yX8_length wsX8_length) := goodIn_app (goodIn_of _ (by decide +kernel)) ggX8_stateOf_X8_length
set_option maxRecDepth 20000 in
theorem ggX8_stateOf_X8_letter : GoodIn wsX8_stateOf wsX8_letter := goodIn_r _ [13, 9, 8, 14, 15, 16, 17, 18, 19, 20, 21, 22, 23, 24, 25, 26, 27, 28, 29, 30, 31, 32, 33, 34, 35, 36, 37, 38, 39, 40, 41, 42, 43, 44, 45, 46, 47, 48, 49, 50, 51, 52, 53] (by decide +kernel) (by decide +kernel)
set_option maxRecDepth 20000 in
theorem gX8_stateOf_X8_letter : GoodIn wsX8_stateOf (wsV RX8 116 RX8 yX8_letter wsX8_letter) := goodIn_app (goodIn_of _ (by decide +kernel)) ggX8_stateOf_X8_letter
theorem dX8_stateOf_0 : decode cX8_stateOf 0 = .ok (.iconst 0, 1) := by decide +kernel
theorem dX8_stateOf_1 : decode cX8_stateOf 1 = .ok (.istore_n 2, 1) := by decide +kernel
theorem dX8_stateOf_2 : decode cX8_stateOf 2 = .ok (.iload_n 2, 1) := by decide +kernel
theorem dX8_stateOf_3 : decode cX8_stateOf 3 = .ok (.aload_n 0, 1) := by decide +kernel
theorem dX8_stateOf_4 : decode cX8_stateOf 4 = .ok (.getfield 20, 3) := by decide +kernel
theorem dX8_stateOf_7 : decode cX8_stateOf 7 = .ok (.if_icmp .ge 72, 3) := by decide +kernel
theorem dX8_stateOf_10 : decode cX8_stateOf 10 = .ok (.aload_n 0, 1) := by decide +kernel
theorem dX8_stateOf_11 : decode cX8_stateOf 11 = .ok (.iload_n 1, 1) := by decide +kernel
theorem dX8_stateOf_12 : decode cX8_stateOf 12 = .ok (.invokevirtual 112, 3) := by decide +kernel
theorem dX8_stateOf_15 : decode cX8_stateOf 15 = .ok (.iconst 4, 1) := by decide +kernel
theorem dX8_stateOf_16 : decode cX8_stateOf 16 = .ok (.if_icmp .gt 63, 3) := by decide +kernel
theorem dX8_stateOf_19 : decode cX8_stateOf 19 = .ok (.iconst 1, 1) := by decide +kernel
theorem dX8_stateOf_20 : decode cX8_stateOf 20 = .ok (.istore_n 3, 1) := by decide +kernel
theorem dX8_stateOf_21 : decode cX8_stateOf 21 = .ok (.iconst 0, 1) := by decide +kernel
theorem dX8_stateOf_22 : decode cX8_stateOf 22 = .ok (.istore 4, 2) := by decide +kernel
theorem dX8_stateOf_24 : decode cX8_stateOf 24 = .ok (.iload 4, 2) := by decide +kernel
theorem dX8_stateOf_26 : decode cX8_stateOf 26 = .ok (.iconst 4, 1) := by decide +kernel
theorem dX8_stateOf_27 : decode cX8_stateOf 27 = .ok (.if_icmp .ge 40, 3) := by decide +kernel
theorem dX8_stateOf_30 : decode cX8_stateOf 30 = .ok (.iload_n 3, 1) := by decide +kernel
theorem dX8_stateOf_31 : decode cX8_stateOf 31 = .ok (.ifCond .eq 28, 3) := by decide +kernel
theorem dX8_stateOf_34 : decode cX8_stateOf 34 = .ok (.aload_n 0, 1) := by decide +kernel
theorem dX8_stateOf_35 : decode cX8_stateOf 35 = .ok (.getfield 24, 3) := by decide +kernel
theorem dX8_stateOf_38 : decode cX8_stateOf 38 = .ok (.iconst 4, 1) := by decide +kernel
theorem dX8_stateOf_39 : decode cX8_stateOf 39 = .ok (.iload_n 2, 1) := by decide +kernel
theorem dX8_stateOf_40 : decode cX8_stateOf 40 = .ok (.imul, 1) := by decide +kernel
theorem dX8_stateOf_41 : decode cX8_stateOf 41 = .ok (.iload 4, 2) := by decide +kernel
theorem dX8_stateOf_43 : decode cX8_stateOf 43 = .ok (.iadd, 1) := by decide +kernel
theorem dX8_stateOf_44 : decode cX8_stateOf 44 = .ok (.caload, 1) := by decide +kernel
theorem dX8_stateOf_45 : decode cX8_stateOf 45 = .ok (.aload_n 0, 1) := by decide +kernel
theorem dX8_stateOf_46 : decode cX8_stateOf 46 = .ok (.iload_n 1, 1) := by decide +kernel
theorem dX8_stateOf_47 : decode cX8_stateOf 47 = .ok (.iload 4, 2) := by decide +kernel
theorem dX8_stateOf_49 : decode cX8_stateOf 49 = .ok (.invokevirtual 116, 3) := by decide +kernel
theorem dX8_stateOf_52 : decode cX8_stateOf 52 = .ok (.if_icmp .ne 7, 3) := by decide +kernel
theorem dX8_stateOf_55 : decode cX8_stateOf 55 = .ok (.iconst 1, 1) := by decide +kernel
theorem dX8_stateOf_56 : decode cX8_stateOf 56 = .ok (.goto 4, 3) := by decide +kernel
theorem dX8_stateOf_59 : decode cX8_stateOf 59 = .ok (.iconst 0, 1) := by decide +kernel
theorem dX8_stateOf_60 : decode cX8_stateOf 60 = .ok (.istore_n 3, 1) := by decide +kernel
theorem dX8_stateOf_61 : decode cX8_stateOf 61 = .ok (.iinc 4 1, 3) := by decide +kernel
theorem dX8_stateOf_64 : decode cX8_stateOf 64 = .ok (.goto (-40), 3) := by decide +kernel
theorem dX8_stateOf_67 : decode cX8_stateOf 67 = .ok (.iload_n 3, 1) := by decide +kernel
theorem dX8_stateOf_68 : decode cX8_stateOf 68 = .ok (.ifCond .eq 5, 3) := by decide +kernel
theorem dX8_stateOf_71 : decode cX8_stateOf 71 = .ok (.iload_n 2, 1) := by decide +kernel
theorem dX8_stateOf_72 : decode cX8_stateOf 72 = .ok (.ireturn, 1) := by decide +kernel
theorem dX8_stateOf_73 : decode cX8_stateOf 73 = .ok (.iinc 2 1, 3) := by decide +kernel
theorem dX8_stateOf_76 : decode cX8_stateOf 76 = .ok (.goto (-74), 3) := by decide +kernel
theorem dX8_stateOf_79 : decode cX8_stateOf 79 = .ok (.iconst (-1), 1) := by decide +kernel
theorem dX8_stateOf_80 : decode cX8_stateOf 80 = .ok (.ireturn, 1) := by decide +kernel
set_option maxRecDepth 20000 in
theorem ggX8_eventOf_X8_letter : GoodIn wsX8_eventOf wsX8_letter := goodIn_r _ [7, 8, 9, 10, 11, 12, 13, 14, 15, 16, 17, 18, 19, 20, 21, 22, 23, 24, 25, 26, 27, 28, 29, 30, 31, 32, 33, 34, 35, 36, 37, 38, 39, 40, 41, 42, 43, 44, 45, 46, 47, 48, 49] (by decide +kernel) (by decide +kernel)
set_option maxRecDepth 20000 in
theorem gX8_eventOf_X8_letter : GoodIn wsX8_eventOf (wsV RX8 116 RX8 yX8_letter wsX8_letter) := goodIn_app (goodIn_of _ (by decide +kernel)) ggX8_eventOf_X8_letter
theorem dX8_eventOf_0 : decode cX8_eventOf 0 = .ok (.iconst 0, 1) := by decide +kernel
theorem dX8_eventOf_1 : decode cX8_eventOf 1 = .ok (.istore_n 2, 1) := by decide +kernel
theorem dX8_eventOf_2 : decode cX8_eventOf 2 = .ok (.iload_n 2, 1) := by decide +kernel
theorem dX8_eventOf_3 : decode cX8_eventOf 3 = .ok (.aload_n 0, 1) := by decide +kernel
theorem dX8_eventOf_4 : decode cX8_eventOf 4 = .ok (.getfield 120, 3) := by decide +kernel
theorem dX8_eventOf_7 : decode cX8_eventOf 7 = .ok (.if_icmp .ge 63, 3) := by decide +kernel
theorem dX8_eventOf_10 : decode cX8_eventOf 10 = .ok (.iconst 1, 1) := by decide +kernel
theorem dX8_eventOf_11 : decode cX8_eventOf 11 = .ok (.istore_n 3, 1) := by decide +kernel
theorem dX8_eventOf_12 : decode cX8_eventOf 12 = .ok (.iconst 0, 1) := by decide +kernel
theorem dX8_eventOf_13 : decode cX8_eventOf 13 = .ok (.istore 4, 2) := by decide +kernel
theorem dX8_eventOf_15 : decode cX8_eventOf 15 = .ok (.iload 4, 2) := by decide +kernel
theorem dX8_eventOf_17 : decode cX8_eventOf 17 = .ok (.iconst 4, 1) := by decide +kernel
theorem dX8_eventOf_18 : decode cX8_eventOf 18 = .ok (.if_icmp .ge 40, 3) := by decide +kernel
theorem dX8_eventOf_21 : decode cX8_eventOf 21 = .ok (.iload_n 3, 1) := by decide +kernel
theorem dX8_eventOf_22 : decode cX8_eventOf 22 = .ok (.ifCond .eq 28, 3) := by decide +kernel
theorem dX8_eventOf_25 : decode cX8_eventOf 25 = .ok (.aload_n 0, 1) := by decide +kernel
theorem dX8_eventOf_26 : decode cX8_eventOf 26 = .ok (.getfield 46, 3) := by decide +kernel
theorem dX8_eventOf_29 : decode cX8_eventOf 29 = .ok (.iconst 4, 1) := by decide +kernel
theorem dX8_eventOf_30 : decode cX8_eventOf 30 = .ok (.iload_n 2, 1) := by decide +kernel
theorem dX8_eventOf_31 : decode cX8_eventOf 31 = .ok (.imul, 1) := by decide +kernel
theorem dX8_eventOf_32 : decode cX8_eventOf 32 = .ok (.iload 4, 2) := by decide +kernel
theorem dX8_eventOf_34 : decode cX8_eventOf 34 = .ok (.iadd, 1) := by decide +kernel
theorem dX8_eventOf_35 : decode cX8_eventOf 35 = .ok (.caload, 1) := by decide +kernel
theorem dX8_eventOf_36 : decode cX8_eventOf 36 = .ok (.aload_n 0, 1) := by decide +kernel
theorem dX8_eventOf_37 : decode cX8_eventOf 37 = .ok (.iload_n 1, 1) := by decide +kernel
theorem dX8_eventOf_38 : decode cX8_eventOf 38 = .ok (.iload 4, 2) := by decide +kernel
theorem dX8_eventOf_40 : decode cX8_eventOf 40 = .ok (.invokevirtual 116, 3) := by decide +kernel
theorem dX8_eventOf_43 : decode cX8_eventOf 43 = .ok (.if_icmp .ne 7, 3) := by decide +kernel
theorem dX8_eventOf_46 : decode cX8_eventOf 46 = .ok (.iconst 1, 1) := by decide +kernel
theorem dX8_eventOf_47 : decode cX8_eventOf 47 = .ok (.goto 4, 3) := by decide +kernel
theorem dX8_eventOf_50 : decode cX8_eventOf 50 = .ok (.iconst 0, 1) := by decide +kernel
theorem dX8_eventOf_51 : decode cX8_eventOf 51 = .ok (.istore_n 3, 1) := by decide +kernel
theorem dX8_eventOf_52 : decode cX8_eventOf 52 = .ok (.iinc 4 1, 3) := by decide +kernel
theorem dX8_eventOf_55 : decode cX8_eventOf 55 = .ok (.goto (-40), 3) := by decide +kernel
theorem dX8_eventOf_58 : decode cX8_eventOf 58 = .ok (.iload_n 3, 1) := by decide +kernel
theorem dX8_eventOf_59 : decode cX8_eventOf 59 = .ok (.ifCond .eq 5, 3) := by decide +kernel
theorem dX8_eventOf_62 : decode cX8_eventOf 62 = .ok (.iload_n 2, 1) := by decide +kernel
theorem dX8_eventOf_63 : decode cX8_eventOf 63 = .ok (.ireturn, 1) := by decide +kernel
theorem dX8_eventOf_64 : decode cX8_eventOf 64 = .ok (.iinc 2 1, 3) := by decide +kernel
theorem dX8_eventOf_67 : decode cX8_eventOf 67 = .ok (.goto (-65), 3) := by decide +kernel
theorem dX8_eventOf_70 : decode cX8_eventOf 70 = .ok (.iconst (-1), 1) := by decide +kernel
theorem dX8_eventOf_71 : decode cX8_eventOf 71 = .ok (.ireturn, 1) := by decide +kernel
set_option maxRecDepth 20000 in
theorem ggX8_line_X8_split : GoodIn wsX8_line wsX8_split := goodIn_r _ [9, 3, 2, 10, 11, 12, 71, 72, 73, 74, 75, 76, 77, 78, 79, 80, 81, 82, 83, 84, 85, 86, 87, 88, 89, 90, 91, 92, 93, 94, 95, 96, 97, 98, 99, 100, 101, 102, 103, 104, 105, 106, 107, 108, 109] (by decide +kernel) (by decide +kernel)
set_option maxRecDepth 20000 in
theorem gX8_line_X8_split : GoodIn wsX8_line (wsV RX8 123 RX8 yX8_split wsX8_split) := goodIn_app (goodIn_of _ (by decide +kernel)) ggX8_line_X8_split
set_option maxRecDepth 20000 in
theorem ggX8_line_X8_says : GoodIn wsX8_line wsX8_says := goodIn_r _ [16, 17, 18, 19, 8, 20, 11, 12, 10, 21, 22, 23, 24, 71, 72, 73, 74, 75, 76, 77, 78, 79, 80, 81, 82, 83, 84, 85, 86, 87, 88, 89, 90, 91, 92, 93, 94, 95, 96, 97, 98, 99, 100, 101, 102, 103, 104, 105, 106, 107, 108, 109] (by decide +kernel) (by decide +kernel)
set_option maxRecDepth 20000 in
theorem gX8_line_X8_says : GoodIn wsX8_line (wsV RX8 126 RX8 yX8_says wsX8_says) := goodIn_app (goodIn_of _ (by decide +kernel)) ggX8_line_X8_says
set_option maxRecDepth 20000 in
theorem ggX8_line_X8_length : GoodIn wsX8_line wsX8_length := goodIn_r _ [24, 12, 11, 71, 72, 73, 74, 75, 76, 77, 78, 79, 80, 81, 82, 83, 84, 85, 86, 87, 88, 89, 90, 91, 92, 93, 94, 95, 96, 97, 98, 99, 100, 101, 102, 103, 104, 105, 106, 107, 108, 109] (by decide +kernel) (by decide +kernel)
set_option maxRecDepth 20000 in
theorem gX8_line_X8_length : GoodIn wsX8_line (wsV RX8 112 RX8 yX8_length wsX8_length) := goodIn_app (goodIn_of _ (by decide +kernel)) ggX8_line_X8_length
set_option maxRecDepth 20000 in
theorem ggX8_line_X8_newState : GoodIn wsX8_line wsX8_newState := goodIn_r _ [28, 3, 29, 30, 31, 32, 33, 34, 35, 36, 37, 8, 38, 21, 22, 23, 24, 12, 11, 17, 18, 19, 20, 10, 39, 40, 41, 42, 13, 14, 15, 16, 71, 72, 73, 74, 75, 76, 77, 78, 79, 80, 81, 82, 83, 84, 85, 86, 87, 88, 89, 90, 91, 92, 93, 94, 95, 96, 97, 98, 99, 100, 101, 102, 103, 104, 105, 106, 107, 108, 109] (by decide +kernel) (by decide +kernel)
set_option maxRecDepth 20000 in
theorem gX8_line_X8_newState : GoodIn wsX8_line (wsV RX8 130 RX8 yX8_newState wsX8_newState) := goodIn_app (goodIn_of _ (by decide +kernel)) ggX8_line_X8_newState
set_option maxRecDepth 20000 in
theorem ggX8_line_X8_newMarks : GoodIn wsX8_line wsX8_newMarks := goodIn_r _ [46, 3, 47, 48, 35, 36, 37, 8, 38, 21, 22, 23, 24, 12, 11, 17, 18, 19, 20, 10, 39, 40, 41, 42, 30, 31, 71, 72, 73, 74, 75, 76, 77, 78, 79, 80, 81, 82, 83, 84, 85, 86, 87, 88, 89, 90, 91, 92, 93, 94, 95, 96, 97, 98, 99, 100, 101, 102, 103, 104, 105, 106, 107, 108, 109] (by decide +kernel) (by decide +kernel)
set_option maxRecDepth 20000 in
theorem gX8_line_X8_newMarks : GoodIn wsX8_line (wsV RX8 134 RX8 yX8_newMarks wsX8_newMarks) := goodIn_app (goodIn_of _ (by decide +kernel)) ggX8_line_X8_newMarks
set_option maxRecDepth 20000 in
theorem ggX8_line_X8_newRule : GoodIn wsX8_line wsX8_newRule := goodIn_r _ [52, 3, 53, 54, 55, 56, 57, 58, 59, 60, 61, 62, 35, 36, 37, 8, 38, 21, 22, 23, 24, 12, 11, 17, 18, 19, 20, 10, 13, 14, 15, 16, 39, 40, 41, 42, 30, 31, 63, 64, 65, 66, 71, 72, 73, 74, 75, 76, 77, 78, 79, 80, 81, 82, 83, 84, 85, 86, 87, 88, 89, 90, 91, 92, 93, 94, 95, 96, 97, 98, 99, 100, 101, 102, 103, 104, 105, 106, 107, 108, 109] (by decide +kernel) (by decide +kernel)
set_option maxRecDepth 20000 in
theorem gX8_line_X8_newRule : GoodIn wsX8_line (wsV RX8 137 RX8 yX8_newRule wsX8_newRule) := goodIn_app (goodIn_of _ (by decide +kernel)) ggX8_line_X8_newRule
set_option maxRecDepth 20000 in
theorem ggX8_line_X8_fails : GoodIn wsX8_line wsX8_fails := goodIn_r _ [70, 1, 71, 72, 73, 74, 75, 76, 77, 78, 79, 80, 81, 82, 83, 84, 85, 86, 87, 88, 89, 90, 91, 92, 93, 94, 95, 96, 97, 98, 99, 100, 101, 102, 103, 104, 105, 106, 107, 108, 109] (by decide +kernel) (by decide +kernel)
set_option maxRecDepth 20000 in
theorem gX8_line_X8_fails : GoodIn wsX8_line (wsV RX8 140 RX8 yX8_fails wsX8_fails) := goodIn_app (goodIn_of _ (by decide +kernel)) ggX8_line_X8_fails
theorem dX8_line_0 : decode cX8_line 0 = .ok (.aload_n 0, 1) := by decide +kernel
theorem dX8_line_1 : decode cX8_line 1 = .ok (.iconst 0, 1) := by decide +kernel
theorem dX8_line_2 : decode cX8_line 2 = .ok (.putfield 103, 3) := by decide +kernel
theorem dX8_line_5 : decode cX8_line 5 = .ok (.aload_n 0, 1) := by decide +kernel
theorem dX8_line_6 : decode cX8_line 6 = .ok (.invokevirtual 123, 3) := by decide +kernel
theorem dX8_line_9 : decode cX8_line 9 = .ok (.aload_n 0, 1) := by decide +kernel
theorem dX8_line_10 : decode cX8_line 10 = .ok (.iconst 0, 1) := by decide +kernel
theorem dX8_line_11 : decode cX8_line 11 = .ok (.putfield 106, 3) := by decide +kernel
theorem dX8_line_14 : decode cX8_line 14 = .ok (.aload_n 0, 1) := by decide +kernel
theorem dX8_line_15 : decode cX8_line 15 = .ok (.getfield 109, 3) := by decide +kernel
theorem dX8_line_18 : decode cX8_line 18 = .ok (.ifCond .ne 5, 3) := by decide +kernel
theorem dX8_line_21 : decode cX8_line 21 = .ok (.iconst 0, 1) := by decide +kernel
theorem dX8_line_22 : decode cX8_line 22 = .ok (.ireturn, 1) := by decide +kernel
theorem dX8_line_23 : decode cX8_line 23 = .ok (.iconst (-1), 1) := by decide +kernel
theorem dX8_line_24 : decode cX8_line 24 = .ok (.istore_n 1, 1) := by decide +kernel
theorem dX8_line_25 : decode cX8_line 25 = .ok (.aload_n 0, 1) := by decide +kernel
theorem dX8_line_26 : decode cX8_line 26 = .ok (.iconst 0, 1) := by decide +kernel
theorem dX8_line_27 : decode cX8_line 27 = .ok (.bipush 115, 2) := by decide +kernel
theorem dX8_line_29 : decode cX8_line 29 = .ok (.bipush 116, 2) := by decide +kernel
theorem dX8_line_31 : decode cX8_line 31 = .ok (.bipush 97, 2) := by decide +kernel
theorem dX8_line_33 : decode cX8_line 33 = .ok (.bipush 116, 2) := by decide +kernel
theorem dX8_line_35 : decode cX8_line 35 = .ok (.bipush 101, 2) := by decide +kernel
theorem dX8_line_37 : decode cX8_line 37 = .ok (.iconst 0, 1) := by decide +kernel
theorem dX8_line_38 : decode cX8_line 38 = .ok (.invokevirtual 126, 3) := by decide +kernel
theorem dX8_line_41 : decode cX8_line 41 = .ok (.ifCond .eq 20, 3) := by decide +kernel
theorem dX8_line_44 : decode cX8_line 44 = .ok (.aload_n 0, 1) := by decide +kernel
theorem dX8_line_45 : decode cX8_line 45 = .ok (.iconst 0, 1) := by decide +kernel
theorem dX8_line_46 : decode cX8_line 46 = .ok (.invokevirtual 112, 3) := by decide +kernel
theorem dX8_line_49 : decode cX8_line 49 = .ok (.iconst 5, 1) := by decide +kernel
theorem dX8_line_50 : decode cX8_line 50 = .ok (.if_icmp .ne 11, 3) := by decide +kernel
theorem dX8_line_53 : decode cX8_line 53 = .ok (.aload_n 0, 1) := by decide +kernel
theorem dX8_line_54 : decode cX8_line 54 = .ok (.invokevirtual 130, 3) := by decide +kernel
theorem dX8_line_57 : decode cX8_line 57 = .ok (.istore_n 1, 1) := by decide +kernel
theorem dX8_line_58 : decode cX8_line 58 = .ok (.goto 97, 3) := by decide +kernel
theorem dX8_line_61 : decode cX8_line 61 = .ok (.aload_n 0, 1) := by decide +kernel
theorem dX8_line_62 : decode cX8_line 62 = .ok (.iconst 0, 1) := by decide +kernel
theorem dX8_line_63 : decode cX8_line 63 = .ok (.bipush 101, 2) := by decide +kernel
theorem dX8_line_65 : decode cX8_line 65 = .ok (.bipush 110, 2) := by decide +kernel
theorem dX8_line_67 : decode cX8_line 67 = .ok (.bipush 116, 2) := by decide +kernel
theorem dX8_line_69 : decode cX8_line 69 = .ok (.bipush 101, 2) := by decide +kernel
theorem dX8_line_71 : decode cX8_line 71 = .ok (.bipush 114, 2) := by decide +kernel
theorem dX8_line_73 : decode cX8_line 73 = .ok (.iconst 0, 1) := by decide +kernel
theorem dX8_line_74 : decode cX8_line 74 = .ok (.invokevirtual 126, 3) := by decide +kernel
theorem dX8_line_77 : decode cX8_line 77 = .ok (.ifCond .eq 21, 3) := by decide +kernel
theorem dX8_line_80 : decode cX8_line 80 = .ok (.aload_n 0, 1) := by decide +kernel
theorem dX8_line_81 : decode cX8_line 81 = .ok (.iconst 0, 1) := by decide +kernel
theorem dX8_line_82 : decode cX8_line 82 = .ok (.invokevirtual 112, 3) := by decide +kernel
theorem dX8_line_85 : decode cX8_line 85 = .ok (.iconst 5, 1) := by decide +kernel
theorem dX8_line_86 : decode cX8_line 86 = .ok (.if_icmp .ne 12, 3) := by decide +kernel
theorem dX8_line_89 : decode cX8_line 89 = .ok (.aload_n 0, 1) := by decide +kernel
theorem dX8_line_90 : decode cX8_line 90 = .ok (.iconst 0, 1) := by decide +kernel
theorem dX8_line_91 : decode cX8_line 91 = .ok (.invokevirtual 134, 3) := by decide +kernel
theorem dX8_line_94 : decode cX8_line 94 = .ok (.istore_n 1, 1) := by decide +kernel
theorem dX8_line_95 : decode cX8_line 95 = .ok (.goto 60, 3) := by decide +kernel
theorem dX8_line_98 : decode cX8_line 98 = .ok (.aload_n 0, 1) := by decide +kernel
theorem dX8_line_99 : decode cX8_line 99 = .ok (.iconst 0, 1) := by decide +kernel
theorem dX8_line_100 : decode cX8_line 100 = .ok (.bipush 101, 2) := by decide +kernel
theorem dX8_line_102 : decode cX8_line 102 = .ok (.bipush 120, 2) := by decide +kernel
theorem dX8_line_104 : decode cX8_line 104 = .ok (.bipush 105, 2) := by decide +kernel
theorem dX8_line_106 : decode cX8_line 106 = .ok (.bipush 116, 2) := by decide +kernel
theorem dX8_line_108 : decode cX8_line 108 = .ok (.iconst 0, 1) := by decide +kernel
theorem dX8_line_109 : decode cX8_line 109 = .ok (.iconst 0, 1) := by decide +kernel
theorem dX8_line_110 : decode cX8_line 110 = .ok (.invokevirtual 126, 3) := by decide +kernel
theorem dX8_line_113 : decode cX8_line 113 = .ok (.ifCond .eq 21, 3) := by decide +kernel
theorem dX8_line_116 : decode cX8_line 116 = .ok (.aload_n 0, 1) := by decide +kernel
theorem dX8_line_117 : decode cX8_line 117 = .ok (.iconst 0, 1) := by decide +kernel
theorem dX8_line_118 : decode cX8_line 118 = .ok (.invokevirtual 112, 3) := by decide +kernel
theorem dX8_line_121 : decode cX8_line 121 = .ok (.iconst 4, 1) := by decide +kernel
theorem dX8_line_122 : decode cX8_line 122 = .ok (.if_icmp .ne 12, 3) := by decide +kernel
theorem dX8_line_125 : decode cX8_line 125 = .ok (.aload_n 0, 1) := by decide +kernel
theorem dX8_line_126 : decode cX8_line 126 = .ok (.iconst 1, 1) := by decide +kernel
theorem dX8_line_127 : decode cX8_line 127 = .ok (.invokevirtual 134, 3) := by decide +kernel
theorem dX8_line_130 : decode cX8_line 130 = .ok (.istore_n 1, 1) := by decide +kernel
theorem dX8_line_131 : decode cX8_line 131 = .ok (.goto 24, 3) := by decide +kernel
theorem dX8_line_134 : decode cX8_line 134 = .ok (.aload_n 0, 1) := by decide +kernel
theorem dX8_line_135 : decode cX8_line 135 = .ok (.iconst 0, 1) := by decide +kernel
theorem dX8_line_136 : decode cX8_line 136 = .ok (.bipush 111, 2) := by decide +kernel
theorem dX8_line_138 : decode cX8_line 138 = .ok (.bipush 110, 2) := by decide +kernel
theorem dX8_line_140 : decode cX8_line 140 = .ok (.iconst 0, 1) := by decide +kernel
theorem dX8_line_141 : decode cX8_line 141 = .ok (.iconst 0, 1) := by decide +kernel
theorem dX8_line_142 : decode cX8_line 142 = .ok (.iconst 0, 1) := by decide +kernel
theorem dX8_line_143 : decode cX8_line 143 = .ok (.iconst 0, 1) := by decide +kernel
theorem dX8_line_144 : decode cX8_line 144 = .ok (.invokevirtual 126, 3) := by decide +kernel
theorem dX8_line_147 : decode cX8_line 147 = .ok (.ifCond .eq 8, 3) := by decide +kernel
theorem dX8_line_150 : decode cX8_line 150 = .ok (.aload_n 0, 1) := by decide +kernel
theorem dX8_line_151 : decode cX8_line 151 = .ok (.invokevirtual 137, 3) := by decide +kernel
theorem dX8_line_154 : decode cX8_line 154 = .ok (.istore_n 1, 1) := by decide +kernel
theorem dX8_line_155 : decode cX8_line 155 = .ok (.iload_n 1, 1) := by decide +kernel
theorem dX8_line_156 : decode cX8_line 156 = .ok (.ifCond .ge 19, 3) := by decide +kernel
theorem dX8_line_159 : decode cX8_line 159 = .ok (.aload_n 0, 1) := by decide +kernel
theorem dX8_line_160 : decode cX8_line 160 = .ok (.iload_n 1, 1) := by decide +kernel
theorem dX8_line_161 : decode cX8_line 161 = .ok (.bipush (-2), 2) := by decide +kernel
theorem dX8_line_163 : decode cX8_line 163 = .ok (.if_icmp .ne 7, 3) := by decide +kernel
theorem dX8_line_166 : decode cX8_line 166 = .ok (.iconst 2, 1) := by decide +kernel
theorem dX8_line_167 : decode cX8_line 167 = .ok (.goto 4, 3) := by decide +kernel
theorem dX8_line_170 : decode cX8_line 170 = .ok (.iconst 1, 1) := by decide +kernel
theorem dX8_line_171 : decode cX8_line 171 = .ok (.invokevirtual 140, 3) := by decide +kernel
theorem dX8_line_174 : decode cX8_line 174 = .ok (.ireturn, 1) := by decide +kernel
theorem dX8_line_175 : decode cX8_line 175 = .ok (.aload_n 0, 1) := by decide +kernel
theorem dX8_line_176 : decode cX8_line 176 = .ok (.iconst 0, 1) := by decide +kernel
theorem dX8_line_177 : decode cX8_line 177 = .ok (.putfield 143, 3) := by decide +kernel
theorem dX8_line_180 : decode cX8_line 180 = .ok (.iload_n 1, 1) := by decide +kernel
theorem dX8_line_181 : decode cX8_line 181 = .ok (.ireturn, 1) := by decide +kernel
set_option maxRecDepth 20000 in
theorem ggX8_newState_X8_isWord : GoodIn wsX8_newState wsX8_isWord := goodIn_r _ [12, 13, 14, 15, 11, 16, 17, 18, 19, 20, 21, 22, 23, 32, 33, 34, 35, 36, 37, 38, 39, 40, 41, 42, 43, 44, 45, 46, 47, 48, 49, 50, 51, 52, 53, 54, 55, 56, 57, 58, 59, 60, 61, 62, 63, 64, 65, 66, 67, 68, 69, 70] (by decide +kernel) (by decide +kernel)
set_option maxRecDepth 20000 in
theorem gX8_newState_X8_isWord : GoodIn wsX8_newState (wsV RX8 146 RX8 yX8_isWord wsX8_isWord) := goodIn_app (goodIn_of _ (by decide +kernel)) ggX8_newState_X8_isWord
set_option maxRecDepth 20000 in
theorem ggX8_newState_X8_stateOf : GoodIn wsX8_newState wsX8_stateOf := goodIn_r _ [27, 3, 4, 13, 14, 15, 11, 16, 17, 18, 19, 20, 21, 22, 23, 32, 33, 34, 35, 36, 37, 38, 39, 40, 41, 42, 43, 44, 45, 46, 47, 48, 49, 50, 51, 52, 53, 54, 55, 56, 57, 58, 59, 60, 61, 62, 63, 64, 65, 66, 67, 68, 69, 70] (by decide +kernel) (by decide +kernel)
set_option maxRecDepth 20000 in
theorem gX8_newState_X8_stateOf : GoodIn wsX8_newState (wsV RX8 150 RX8 yX8_stateOf wsX8_stateOf) := goodIn_app (goodIn_of _ (by decide +kernel)) ggX8_newState_X8_stateOf
set_option maxRecDepth 20000 in
theorem ggX8_newState_X8_says : GoodIn wsX8_newState wsX8_says := goodIn_r _ [31, 19, 20, 21, 11, 22, 18, 17, 23, 13, 14, 15, 16, 32, 33, 34, 35, 36, 37, 38, 39, 40, 41, 42, 43, 44, 45, 46, 47, 48, 49, 50, 51, 52, 53, 54, 55, 56, 57, 58, 59, 60, 61, 62, 63, 64, 65, 66, 67, 68, 69, 70] (by decide +kernel) (by decide +kernel)
set_option maxRecDepth 20000 in
theorem gX8_newState_X8_says : GoodIn wsX8_newState (wsV RX8 126 RX8 yX8_says wsX8_says) := goodIn_app (goodIn_of _ (by decide +kernel)) ggX8_newState_X8_says
set_option maxRecDepth 20000 in
theorem ggX8_newState_X8_length : GoodIn wsX8_newState wsX8_length := goodIn_r _ [16, 17, 18, 32, 33, 34, 35, 36, 37, 38, 39, 40, 41, 42, 43, 44, 45, 46, 47, 48, 49, 50, 51, 52, 53, 54, 55, 56, 57, 58, 59, 60, 61, 62, 63, 64, 65, 66, 67, 68, 69, 70] (by decide +kernel) (by decide +kernel)
set_option maxRecDepth 20000 in
theorem gX8_newState_X8_length : GoodIn wsX8_newState (wsV RX8 112 RX8 yX8_length wsX8_length) := goodIn_app (goodIn_of _ (by decide +kernel)) ggX8_newState_X8_length
set_option maxRecDepth 20000 in
theorem ggX8_newState_X8_letter : GoodIn wsX8_newState wsX8_letter := goodIn_r _ [22, 18, 17, 23, 32, 33, 34, 35, 36, 37, 38, 39, 40, 41, 42, 43, 44, 45, 46, 47, 48, 49, 50, 51, 52, 53, 54, 55, 56, 57, 58, 59, 60, 61, 62, 63, 64, 65, 66, 67, 68, 69, 70] (by decide +kernel) (by decide +kernel)
set_option maxRecDepth 20000 in
theorem gX8_newState_X8_letter : GoodIn wsX8_newState (wsV RX8 116 RX8 yX8_letter wsX8_letter) := goodIn_app (goodIn_of _ (by decide +kernel)) ggX8_newState_X8_letter
theorem dX8_newState_0 : decode cX8_newState 0 = .ok (.aload_n 0, 1) := by decide +kernel
theorem dX8_newState_1 : decode cX8_newState 1 = .ok (.getfield 109, 3) := by decide +kernel
theorem dX8_newState_4 : decode cX8_newState 4 = .ok (.iconst 4, 1) := by decide +kernel
theorem dX8_newState_5 : decode cX8_newState 5 = .ok (.if_icmp .lt 44, 3) := by decide +kernel
theorem dX8_newState_8 : decode cX8_newState 8 = .ok (.aload_n 0, 1) := by decide +kernel
theorem dX8_newState_9 : decode cX8_newState 9 = .ok (.getfield 109, 3) := by decide +kernel
theorem dX8_newState_12 : decode cX8_newState 12 = .ok (.iconst 5, 1) := by decide +kernel
theorem dX8_newState_13 : decode cX8_newState 13 = .ok (.if_icmp .gt 36, 3) := by decide +kernel
theorem dX8_newState_16 : decode cX8_newState 16 = .ok (.aload_n 0, 1) := by decide +kernel
theorem dX8_newState_17 : decode cX8_newState 17 = .ok (.iconst 1, 1) := by decide +kernel
theorem dX8_newState_18 : decode cX8_newState 18 = .ok (.iconst 4, 1) := by decide +kernel
theorem dX8_newState_19 : decode cX8_newState 19 = .ok (.invokevirtual 146, 3) := by decide +kernel
theorem dX8_newState_22 : decode cX8_newState 22 = .ok (.ifCond .eq 27, 3) := by decide +kernel
theorem dX8_newState_25 : decode cX8_newState 25 = .ok (.aload_n 0, 1) := by decide +kernel
theorem dX8_newState_26 : decode cX8_newState 26 = .ok (.iconst 1, 1) := by decide +kernel
theorem dX8_newState_27 : decode cX8_newState 27 = .ok (.invokevirtual 150, 3) := by decide +kernel
theorem dX8_newState_30 : decode cX8_newState 30 = .ok (.ifCond .ge 19, 3) := by decide +kernel
theorem dX8_newState_33 : decode cX8_newState 33 = .ok (.aload_n 0, 1) := by decide +kernel
theorem dX8_newState_34 : decode cX8_newState 34 = .ok (.iconst 2, 1) := by decide +kernel
theorem dX8_newState_35 : decode cX8_newState 35 = .ok (.bipush 105, 2) := by decide +kernel
theorem dX8_newState_37 : decode cX8_newState 37 = .ok (.bipush 110, 2) := by decide +kernel
theorem dX8_newState_39 : decode cX8_newState 39 = .ok (.iconst 0, 1) := by decide +kernel
theorem dX8_newState_40 : decode cX8_newState 40 = .ok (.iconst 0, 1) := by decide +kernel
theorem dX8_newState_41 : decode cX8_newState 41 = .ok (.iconst 0, 1) := by decide +kernel
theorem dX8_newState_42 : decode cX8_newState 42 = .ok (.iconst 0, 1) := by decide +kernel
theorem dX8_newState_43 : decode cX8_newState 43 = .ok (.invokevirtual 126, 3) := by decide +kernel
theorem dX8_newState_46 : decode cX8_newState 46 = .ok (.ifCond .ne 5, 3) := by decide +kernel
theorem dX8_newState_49 : decode cX8_newState 49 = .ok (.iconst (-1), 1) := by decide +kernel
theorem dX8_newState_50 : decode cX8_newState 50 = .ok (.ireturn, 1) := by decide +kernel
theorem dX8_newState_51 : decode cX8_newState 51 = .ok (.aload_n 0, 1) := by decide +kernel
theorem dX8_newState_52 : decode cX8_newState 52 = .ok (.iconst 3, 1) := by decide +kernel
theorem dX8_newState_53 : decode cX8_newState 53 = .ok (.invokevirtual 150, 3) := by decide +kernel
theorem dX8_newState_56 : decode cX8_newState 56 = .ok (.istore_n 1, 1) := by decide +kernel
theorem dX8_newState_57 : decode cX8_newState 57 = .ok (.aload_n 0, 1) := by decide +kernel
theorem dX8_newState_58 : decode cX8_newState 58 = .ok (.getfield 109, 3) := by decide +kernel
theorem dX8_newState_61 : decode cX8_newState 61 = .ok (.iconst 5, 1) := by decide +kernel
theorem dX8_newState_62 : decode cX8_newState 62 = .ok (.if_icmp .ne 35, 3) := by decide +kernel
theorem dX8_newState_65 : decode cX8_newState 65 = .ok (.aload_n 0, 1) := by decide +kernel
theorem dX8_newState_66 : decode cX8_newState 66 = .ok (.iconst 4, 1) := by decide +kernel
theorem dX8_newState_67 : decode cX8_newState 67 = .ok (.bipush 119, 2) := by decide +kernel
theorem dX8_newState_69 : decode cX8_newState 69 = .ok (.bipush 104, 2) := by decide +kernel
theorem dX8_newState_71 : decode cX8_newState 71 = .ok (.bipush 111, 2) := by decide +kernel
theorem dX8_newState_73 : decode cX8_newState 73 = .ok (.bipush 108, 2) := by decide +kernel
theorem dX8_newState_75 : decode cX8_newState 75 = .ok (.bipush 101, 2) := by decide +kernel
theorem dX8_newState_77 : decode cX8_newState 77 = .ok (.iconst 0, 1) := by decide +kernel
theorem dX8_newState_78 : decode cX8_newState 78 = .ok (.invokevirtual 126, 3) := by decide +kernel
theorem dX8_newState_81 : decode cX8_newState 81 = .ok (.ifCond .eq 16, 3) := by decide +kernel
theorem dX8_newState_84 : decode cX8_newState 84 = .ok (.aload_n 0, 1) := by decide +kernel
theorem dX8_newState_85 : decode cX8_newState 85 = .ok (.iconst 4, 1) := by decide +kernel
theorem dX8_newState_86 : decode cX8_newState 86 = .ok (.invokevirtual 112, 3) := by decide +kernel
theorem dX8_newState_89 : decode cX8_newState 89 = .ok (.iconst 5, 1) := by decide +kernel
theorem dX8_newState_90 : decode cX8_newState 90 = .ok (.if_icmp .ne 7, 3) := by decide +kernel
theorem dX8_newState_93 : decode cX8_newState 93 = .ok (.iconst 1, 1) := by decide +kernel
theorem dX8_newState_94 : decode cX8_newState 94 = .ok (.goto 4, 3) := by decide +kernel
theorem dX8_newState_97 : decode cX8_newState 97 = .ok (.iconst 0, 1) := by decide +kernel
theorem dX8_newState_98 : decode cX8_newState 98 = .ok (.istore_n 2, 1) := by decide +kernel
theorem dX8_newState_99 : decode cX8_newState 99 = .ok (.aload_n 0, 1) := by decide +kernel
theorem dX8_newState_100 : decode cX8_newState 100 = .ok (.getfield 109, 3) := by decide +kernel
theorem dX8_newState_103 : decode cX8_newState 103 = .ok (.iconst 5, 1) := by decide +kernel
theorem dX8_newState_104 : decode cX8_newState 104 = .ok (.if_icmp .ne 61, 3) := by decide +kernel
theorem dX8_newState_107 : decode cX8_newState 107 = .ok (.aload_n 0, 1) := by decide +kernel
theorem dX8_newState_108 : decode cX8_newState 108 = .ok (.iconst 4, 1) := by decide +kernel
theorem dX8_newState_109 : decode cX8_newState 109 = .ok (.bipush 114, 2) := by decide +kernel
theorem dX8_newState_111 : decode cX8_newState 111 = .ok (.bipush 101, 2) := by decide +kernel
theorem dX8_newState_113 : decode cX8_newState 113 = .ok (.bipush 109, 2) := by decide +kernel
theorem dX8_newState_115 : decode cX8_newState 115 = .ok (.bipush 101, 2) := by decide +kernel
theorem dX8_newState_117 : decode cX8_newState 117 = .ok (.bipush 109, 2) := by decide +kernel
theorem dX8_newState_119 : decode cX8_newState 119 = .ok (.bipush 98, 2) := by decide +kernel
theorem dX8_newState_121 : decode cX8_newState 121 = .ok (.invokevirtual 126, 3) := by decide +kernel
theorem dX8_newState_124 : decode cX8_newState 124 = .ok (.ifCond .eq 41, 3) := by decide +kernel
theorem dX8_newState_127 : decode cX8_newState 127 = .ok (.aload_n 0, 1) := by decide +kernel
theorem dX8_newState_128 : decode cX8_newState 128 = .ok (.iconst 4, 1) := by decide +kernel
theorem dX8_newState_129 : decode cX8_newState 129 = .ok (.invokevirtual 112, 3) := by decide +kernel
theorem dX8_newState_132 : decode cX8_newState 132 = .ok (.bipush 8, 2) := by decide +kernel
theorem dX8_newState_134 : decode cX8_newState 134 = .ok (.if_icmp .ne 31, 3) := by decide +kernel
theorem dX8_newState_137 : decode cX8_newState 137 = .ok (.aload_n 0, 1) := by decide +kernel
theorem dX8_newState_138 : decode cX8_newState 138 = .ok (.iconst 4, 1) := by decide +kernel
theorem dX8_newState_139 : decode cX8_newState 139 = .ok (.bipush 6, 2) := by decide +kernel
theorem dX8_newState_141 : decode cX8_newState 141 = .ok (.invokevirtual 116, 3) := by decide +kernel
theorem dX8_newState_144 : decode cX8_newState 144 = .ok (.bipush 101, 2) := by decide +kernel
theorem dX8_newState_146 : decode cX8_newState 146 = .ok (.if_icmp .ne 19, 3) := by decide +kernel
theorem dX8_newState_149 : decode cX8_newState 149 = .ok (.aload_n 0, 1) := by decide +kernel
theorem dX8_newState_150 : decode cX8_newState 150 = .ok (.iconst 4, 1) := by decide +kernel
theorem dX8_newState_151 : decode cX8_newState 151 = .ok (.bipush 7, 2) := by decide +kernel
theorem dX8_newState_153 : decode cX8_newState 153 = .ok (.invokevirtual 116, 3) := by decide +kernel
theorem dX8_newState_156 : decode cX8_newState 156 = .ok (.bipush 114, 2) := by decide +kernel
theorem dX8_newState_158 : decode cX8_newState 158 = .ok (.if_icmp .ne 7, 3) := by decide +kernel
theorem dX8_newState_161 : decode cX8_newState 161 = .ok (.iconst 1, 1) := by decide +kernel
theorem dX8_newState_162 : decode cX8_newState 162 = .ok (.goto 4, 3) := by decide +kernel
theorem dX8_newState_165 : decode cX8_newState 165 = .ok (.iconst 0, 1) := by decide +kernel
theorem dX8_newState_166 : decode cX8_newState 166 = .ok (.istore_n 3, 1) := by decide +kernel
theorem dX8_newState_167 : decode cX8_newState 167 = .ok (.iload_n 1, 1) := by decide +kernel
theorem dX8_newState_168 : decode cX8_newState 168 = .ok (.ifCond .lt 30, 3) := by decide +kernel
theorem dX8_newState_171 : decode cX8_newState 171 = .ok (.aload_n 0, 1) := by decide +kernel
theorem dX8_newState_172 : decode cX8_newState 172 = .ok (.getfield 33, 3) := by decide +kernel
theorem dX8_newState_175 : decode cX8_newState 175 = .ok (.iload_n 1, 1) := by decide +kernel
theorem dX8_newState_176 : decode cX8_newState 176 = .ok (.iaload, 1) := by decide +kernel
theorem dX8_newState_177 : decode cX8_newState 177 = .ok (.bipush 6, 2) := by decide +kernel
theorem dX8_newState_179 : decode cX8_newState 179 = .ok (.if_icmp .eq 19, 3) := by decide +kernel
theorem dX8_newState_182 : decode cX8_newState 182 = .ok (.aload_n 0, 1) := by decide +kernel
theorem dX8_newState_183 : decode cX8_newState 183 = .ok (.getfield 109, 3) := by decide +kernel
theorem dX8_newState_186 : decode cX8_newState 186 = .ok (.iconst 5, 1) := by decide +kernel
theorem dX8_newState_187 : decode cX8_newState 187 = .ok (.if_icmp .ne 13, 3) := by decide +kernel
theorem dX8_newState_190 : decode cX8_newState 190 = .ok (.iload_n 2, 1) := by decide +kernel
theorem dX8_newState_191 : decode cX8_newState 191 = .ok (.ifCond .ne 9, 3) := by decide +kernel
theorem dX8_newState_194 : decode cX8_newState 194 = .ok (.iload_n 3, 1) := by decide +kernel
theorem dX8_newState_195 : decode cX8_newState 195 = .ok (.ifCond .ne 5, 3) := by decide +kernel
theorem dX8_newState_198 : decode cX8_newState 198 = .ok (.iconst (-1), 1) := by decide +kernel
theorem dX8_newState_199 : decode cX8_newState 199 = .ok (.ireturn, 1) := by decide +kernel
theorem dX8_newState_200 : decode cX8_newState 200 = .ok (.aload_n 0, 1) := by decide +kernel
theorem dX8_newState_201 : decode cX8_newState 201 = .ok (.getfield 20, 3) := by decide +kernel
theorem dX8_newState_204 : decode cX8_newState 204 = .ok (.bipush 14, 2) := by decide +kernel
theorem dX8_newState_206 : decode cX8_newState 206 = .ok (.if_icmp .ne 6, 3) := by decide +kernel
theorem dX8_newState_209 : decode cX8_newState 209 = .ok (.bipush (-2), 2) := by decide +kernel
theorem dX8_newState_211 : decode cX8_newState 211 = .ok (.ireturn, 1) := by decide +kernel
theorem dX8_newState_212 : decode cX8_newState 212 = .ok (.iconst 0, 1) := by decide +kernel
theorem dX8_newState_213 : decode cX8_newState 213 = .ok (.istore 4, 2) := by decide +kernel
theorem dX8_newState_215 : decode cX8_newState 215 = .ok (.iload 4, 2) := by decide +kernel
theorem dX8_newState_217 : decode cX8_newState 217 = .ok (.iconst 4, 1) := by decide +kernel
theorem dX8_newState_218 : decode cX8_newState 218 = .ok (.if_icmp .ge 30, 3) := by decide +kernel
theorem dX8_newState_221 : decode cX8_newState 221 = .ok (.aload_n 0, 1) := by decide +kernel
theorem dX8_newState_222 : decode cX8_newState 222 = .ok (.getfield 24, 3) := by decide +kernel
theorem dX8_newState_225 : decode cX8_newState 225 = .ok (.iconst 4, 1) := by decide +kernel
theorem dX8_newState_226 : decode cX8_newState 226 = .ok (.aload_n 0, 1) := by decide +kernel
theorem dX8_newState_227 : decode cX8_newState 227 = .ok (.getfield 20, 3) := by decide +kernel
theorem dX8_newState_230 : decode cX8_newState 230 = .ok (.imul, 1) := by decide +kernel
theorem dX8_newState_231 : decode cX8_newState 231 = .ok (.iload 4, 2) := by decide +kernel
theorem dX8_newState_233 : decode cX8_newState 233 = .ok (.iadd, 1) := by decide +kernel
theorem dX8_newState_234 : decode cX8_newState 234 = .ok (.aload_n 0, 1) := by decide +kernel
theorem dX8_newState_235 : decode cX8_newState 235 = .ok (.iconst 1, 1) := by decide +kernel
theorem dX8_newState_236 : decode cX8_newState 236 = .ok (.iload 4, 2) := by decide +kernel
theorem dX8_newState_238 : decode cX8_newState 238 = .ok (.invokevirtual 116, 3) := by decide +kernel
theorem dX8_newState_241 : decode cX8_newState 241 = .ok (.castore, 1) := by decide +kernel
theorem dX8_newState_242 : decode cX8_newState 242 = .ok (.iinc 4 1, 3) := by decide +kernel
theorem dX8_newState_245 : decode cX8_newState 245 = .ok (.goto (-30), 3) := by decide +kernel
theorem dX8_newState_248 : decode cX8_newState 248 = .ok (.aload_n 0, 1) := by decide +kernel
theorem dX8_newState_249 : decode cX8_newState 249 = .ok (.getfield 30, 3) := by decide +kernel
theorem dX8_newState_252 : decode cX8_newState 252 = .ok (.aload_n 0, 1) := by decide +kernel
theorem dX8_newState_253 : decode cX8_newState 253 = .ok (.getfield 20, 3) := by decide +kernel
theorem dX8_newState_256 : decode cX8_newState 256 = .ok (.iload_n 1, 1) := by decide +kernel
theorem dX8_newState_257 : decode cX8_newState 257 = .ok (.iastore, 1) := by decide +kernel
theorem dX8_newState_258 : decode cX8_newState 258 = .ok (.aload_n 0, 1) := by decide +kernel
theorem dX8_newState_259 : decode cX8_newState 259 = .ok (.getfield 33, 3) := by decide +kernel
theorem dX8_newState_262 : decode cX8_newState 262 = .ok (.aload_n 0, 1) := by decide +kernel
theorem dX8_newState_263 : decode cX8_newState 263 = .ok (.getfield 20, 3) := by decide +kernel
theorem dX8_newState_266 : decode cX8_newState 266 = .ok (.aload_n 0, 1) := by decide +kernel
theorem dX8_newState_267 : decode cX8_newState 267 = .ok (.getfield 33, 3) := by decide +kernel
theorem dX8_newState_270 : decode cX8_newState 270 = .ok (.iload_n 1, 1) := by decide +kernel
theorem dX8_newState_271 : decode cX8_newState 271 = .ok (.iaload, 1) := by decide +kernel
theorem dX8_newState_272 : decode cX8_newState 272 = .ok (.iconst 1, 1) := by decide +kernel
theorem dX8_newState_273 : decode cX8_newState 273 = .ok (.iadd, 1) := by decide +kernel
theorem dX8_newState_274 : decode cX8_newState 274 = .ok (.iastore, 1) := by decide +kernel
theorem dX8_newState_275 : decode cX8_newState 275 = .ok (.aload_n 0, 1) := by decide +kernel
theorem dX8_newState_276 : decode cX8_newState 276 = .ok (.getfield 39, 3) := by decide +kernel
theorem dX8_newState_279 : decode cX8_newState 279 = .ok (.aload_n 0, 1) := by decide +kernel
theorem dX8_newState_280 : decode cX8_newState 280 = .ok (.getfield 20, 3) := by decide +kernel
theorem dX8_newState_283 : decode cX8_newState 283 = .ok (.iload_n 2, 1) := by decide +kernel
theorem dX8_newState_284 : decode cX8_newState 284 = .ok (.bastore, 1) := by decide +kernel
theorem dX8_newState_285 : decode cX8_newState 285 = .ok (.aload_n 0, 1) := by decide +kernel
theorem dX8_newState_286 : decode cX8_newState 286 = .ok (.getfield 43, 3) := by decide +kernel
theorem dX8_newState_289 : decode cX8_newState 289 = .ok (.aload_n 0, 1) := by decide +kernel
theorem dX8_newState_290 : decode cX8_newState 290 = .ok (.getfield 20, 3) := by decide +kernel
theorem dX8_newState_293 : decode cX8_newState 293 = .ok (.iload_n 3, 1) := by decide +kernel
theorem dX8_newState_294 : decode cX8_newState 294 = .ok (.bastore, 1) := by decide +kernel
theorem dX8_newState_295 : decode cX8_newState 295 = .ok (.aload_n 0, 1) := by decide +kernel
theorem dX8_newState_296 : decode cX8_newState 296 = .ok (.dup, 1) := by decide +kernel
theorem dX8_newState_297 : decode cX8_newState 297 = .ok (.getfield 20, 3) := by decide +kernel
theorem dX8_newState_300 : decode cX8_newState 300 = .ok (.iconst 1, 1) := by decide +kernel
theorem dX8_newState_301 : decode cX8_newState 301 = .ok (.iadd, 1) := by decide +kernel
theorem dX8_newState_302 : decode cX8_newState 302 = .ok (.putfield 20, 3) := by decide +kernel
theorem dX8_newState_305 : decode cX8_newState 305 = .ok (.iconst 1, 1) := by decide +kernel
theorem dX8_newState_306 : decode cX8_newState 306 = .ok (.ireturn, 1) := by decide +kernel
set_option maxRecDepth 20000 in
theorem ggX8_newMarks_X8_isWord : GoodIn wsX8_newMarks wsX8_isWord := goodIn_r _ [8, 9, 10, 11, 7, 12, 13, 14, 15, 16, 17, 18, 19, 26, 27, 28, 29, 30, 31, 32, 33, 34, 35, 36, 37, 38, 39, 40, 41, 42, 43, 44, 45, 46, 47, 48, 49, 50, 51, 52, 53, 54, 55, 56, 57, 58, 59, 60, 61, 62, 63, 64] (by decide +kernel) (by decide +kernel)
set_option maxRecDepth 20000 in
theorem gX8_newMarks_X8_isWord : GoodIn wsX8_newMarks (wsV RX8 146 RX8 yX8_isWord wsX8_isWord) := goodIn_app (goodIn_of _ (by decide +kernel)) ggX8_newMarks_X8_isWord
set_option maxRecDepth 20000 in
theorem ggX8_newMarks_X8_stateOf : GoodIn wsX8_newMarks wsX8_stateOf := goodIn_r _ [23, 24, 25, 9, 10, 11, 7, 12, 13, 14, 15, 16, 17, 18, 19, 26, 27, 28, 29, 30, 31, 32, 33, 34, 35, 36, 37, 38, 39, 40, 41, 42, 43, 44, 45, 46, 47, 48, 49, 50, 51, 52, 53, 54, 55, 56, 57, 58, 59, 60, 61, 62, 63, 64] (by decide +kernel) (by decide +kernel)
set_option maxRecDepth 20000 in
theorem gX8_newMarks_X8_stateOf : GoodIn wsX8_newMarks (wsV RX8 150 RX8 yX8_stateOf wsX8_stateOf) := goodIn_app (goodIn_of _ (by decide +kernel)) ggX8_newMarks_X8_stateOf
set_option maxRecDepth 20000 in
theorem ggX8_newMarks_X8_length : GoodIn wsX8_newMarks wsX8_length := goodIn_r _ [12, 13, 14, 26, 27, 28, 29, 30, 31, 32, 33, 34, 35, 36, 37, 38, 39, 40, 41, 42, 43, 44, 45, 46, 47, 48, 49, 50, 51, 52, 53, 54, 55, 56, 57, 58, 59, 60, 61, 62, 63, 64] (by decide +kernel) (by decide +kernel)
set_option maxRecDepth 20000 in
theorem gX8_newMarks_X8_length : GoodIn wsX8_newMarks (wsV RX8 112 RX8 yX8_length wsX8_length) := goodIn_app (goodIn_of _ (by decide +kernel)) ggX8_newMarks_X8_length
set_option maxRecDepth 20000 in
theorem ggX8_newMarks_X8_letter : GoodIn wsX8_newMarks wsX8_letter := goodIn_r _ [18, 14, 13, 19, 26, 27, 28, 29, 30, 31, 32, 33, 34, 35, 36, 37, 38, 39, 40, 41, 42, 43, 44, 45, 46, 47, 48, 49, 50, 51, 52, 53, 54, 55, 56, 57, 58, 59, 60, 61, 62, 63, 64] (by decide +kernel) (by decide +kernel)
set_option maxRecDepth 20000 in
theorem gX8_newMarks_X8_letter : GoodIn wsX8_newMarks (wsV RX8 116 RX8 yX8_letter wsX8_letter) := goodIn_app (goodIn_of _ (by decide +kernel)) ggX8_newMarks_X8_letter
theorem dX8_newMarks_0 : decode cX8_newMarks 0 = .ok (.aload_n 0, 1) := by decide +kernel
theorem dX8_newMarks_1 : decode cX8_newMarks 1 = .ok (.getfield 109, 3) := by decide +kernel
theorem dX8_newMarks_4 : decode cX8_newMarks 4 = .ok (.iconst 3, 1) := by decide +kernel
theorem dX8_newMarks_5 : decode cX8_newMarks 5 = .ok (.if_icmp .ne 12, 3) := by decide +kernel
theorem dX8_newMarks_8 : decode cX8_newMarks 8 = .ok (.aload_n 0, 1) := by decide +kernel
theorem dX8_newMarks_9 : decode cX8_newMarks 9 = .ok (.iconst 2, 1) := by decide +kernel
theorem dX8_newMarks_10 : decode cX8_newMarks 10 = .ok (.iconst 3, 1) := by decide +kernel
theorem dX8_newMarks_11 : decode cX8_newMarks 11 = .ok (.invokevirtual 146, 3) := by decide +kernel
theorem dX8_newMarks_14 : decode cX8_newMarks 14 = .ok (.ifCond .ne 5, 3) := by decide +kernel
theorem dX8_newMarks_17 : decode cX8_newMarks 17 = .ok (.iconst (-1), 1) := by decide +kernel
theorem dX8_newMarks_18 : decode cX8_newMarks 18 = .ok (.ireturn, 1) := by decide +kernel
theorem dX8_newMarks_19 : decode cX8_newMarks 19 = .ok (.aload_n 0, 1) := by decide +kernel
theorem dX8_newMarks_20 : decode cX8_newMarks 20 = .ok (.iconst 1, 1) := by decide +kernel
theorem dX8_newMarks_21 : decode cX8_newMarks 21 = .ok (.invokevirtual 150, 3) := by decide +kernel
theorem dX8_newMarks_24 : decode cX8_newMarks 24 = .ok (.istore_n 2, 1) := by decide +kernel
theorem dX8_newMarks_25 : decode cX8_newMarks 25 = .ok (.iload_n 2, 1) := by decide +kernel
theorem dX8_newMarks_26 : decode cX8_newMarks 26 = .ok (.ifCond .ge 5, 3) := by decide +kernel
theorem dX8_newMarks_29 : decode cX8_newMarks 29 = .ok (.iconst (-1), 1) := by decide +kernel
theorem dX8_newMarks_30 : decode cX8_newMarks 30 = .ok (.ireturn, 1) := by decide +kernel
theorem dX8_newMarks_31 : decode cX8_newMarks 31 = .ok (.iconst 2, 1) := by decide +kernel
theorem dX8_newMarks_32 : decode cX8_newMarks 32 = .ok (.iload_n 2, 1) := by decide +kernel
theorem dX8_newMarks_33 : decode cX8_newMarks 33 = .ok (.imul, 1) := by decide +kernel
theorem dX8_newMarks_34 : decode cX8_newMarks 34 = .ok (.iload_n 1, 1) := by decide +kernel
theorem dX8_newMarks_35 : decode cX8_newMarks 35 = .ok (.iadd, 1) := by decide +kernel
theorem dX8_newMarks_36 : decode cX8_newMarks 36 = .ok (.istore_n 3, 1) := by decide +kernel
theorem dX8_newMarks_37 : decode cX8_newMarks 37 = .ok (.aload_n 0, 1) := by decide +kernel
theorem dX8_newMarks_38 : decode cX8_newMarks 38 = .ok (.getfield 36, 3) := by decide +kernel
theorem dX8_newMarks_41 : decode cX8_newMarks 41 = .ok (.iload_n 3, 1) := by decide +kernel
theorem dX8_newMarks_42 : decode cX8_newMarks 42 = .ok (.iaload, 1) := by decide +kernel
theorem dX8_newMarks_43 : decode cX8_newMarks 43 = .ok (.aload_n 0, 1) := by decide +kernel
theorem dX8_newMarks_44 : decode cX8_newMarks 44 = .ok (.iconst 2, 1) := by decide +kernel
theorem dX8_newMarks_45 : decode cX8_newMarks 45 = .ok (.invokevirtual 112, 3) := by decide +kernel
theorem dX8_newMarks_48 : decode cX8_newMarks 48 = .ok (.iadd, 1) := by decide +kernel
theorem dX8_newMarks_49 : decode cX8_newMarks 49 = .ok (.bipush 6, 2) := by decide +kernel
theorem dX8_newMarks_51 : decode cX8_newMarks 51 = .ok (.if_icmp .le 6, 3) := by decide +kernel
theorem dX8_newMarks_54 : decode cX8_newMarks 54 = .ok (.bipush (-2), 2) := by decide +kernel
theorem dX8_newMarks_56 : decode cX8_newMarks 56 = .ok (.ireturn, 1) := by decide +kernel
theorem dX8_newMarks_57 : decode cX8_newMarks 57 = .ok (.iconst 0, 1) := by decide +kernel
theorem dX8_newMarks_58 : decode cX8_newMarks 58 = .ok (.istore 4, 2) := by decide +kernel
theorem dX8_newMarks_60 : decode cX8_newMarks 60 = .ok (.iload 4, 2) := by decide +kernel
theorem dX8_newMarks_62 : decode cX8_newMarks 62 = .ok (.aload_n 0, 1) := by decide +kernel
theorem dX8_newMarks_63 : decode cX8_newMarks 63 = .ok (.iconst 2, 1) := by decide +kernel
theorem dX8_newMarks_64 : decode cX8_newMarks 64 = .ok (.invokevirtual 112, 3) := by decide +kernel
theorem dX8_newMarks_67 : decode cX8_newMarks 67 = .ok (.if_icmp .ge 35, 3) := by decide +kernel
theorem dX8_newMarks_70 : decode cX8_newMarks 70 = .ok (.aload_n 0, 1) := by decide +kernel
theorem dX8_newMarks_71 : decode cX8_newMarks 71 = .ok (.getfield 27, 3) := by decide +kernel
theorem dX8_newMarks_74 : decode cX8_newMarks 74 = .ok (.bipush 6, 2) := by decide +kernel
theorem dX8_newMarks_76 : decode cX8_newMarks 76 = .ok (.iload_n 3, 1) := by decide +kernel
theorem dX8_newMarks_77 : decode cX8_newMarks 77 = .ok (.imul, 1) := by decide +kernel
theorem dX8_newMarks_78 : decode cX8_newMarks 78 = .ok (.aload_n 0, 1) := by decide +kernel
theorem dX8_newMarks_79 : decode cX8_newMarks 79 = .ok (.getfield 36, 3) := by decide +kernel
theorem dX8_newMarks_82 : decode cX8_newMarks 82 = .ok (.iload_n 3, 1) := by decide +kernel
theorem dX8_newMarks_83 : decode cX8_newMarks 83 = .ok (.iaload, 1) := by decide +kernel
theorem dX8_newMarks_84 : decode cX8_newMarks 84 = .ok (.iadd, 1) := by decide +kernel
theorem dX8_newMarks_85 : decode cX8_newMarks 85 = .ok (.iload 4, 2) := by decide +kernel
theorem dX8_newMarks_87 : decode cX8_newMarks 87 = .ok (.iadd, 1) := by decide +kernel
theorem dX8_newMarks_88 : decode cX8_newMarks 88 = .ok (.aload_n 0, 1) := by decide +kernel
theorem dX8_newMarks_89 : decode cX8_newMarks 89 = .ok (.iconst 2, 1) := by decide +kernel
theorem dX8_newMarks_90 : decode cX8_newMarks 90 = .ok (.iload 4, 2) := by decide +kernel
theorem dX8_newMarks_92 : decode cX8_newMarks 92 = .ok (.invokevirtual 116, 3) := by decide +kernel
theorem dX8_newMarks_95 : decode cX8_newMarks 95 = .ok (.castore, 1) := by decide +kernel
theorem dX8_newMarks_96 : decode cX8_newMarks 96 = .ok (.iinc 4 1, 3) := by decide +kernel
theorem dX8_newMarks_99 : decode cX8_newMarks 99 = .ok (.goto (-39), 3) := by decide +kernel
theorem dX8_newMarks_102 : decode cX8_newMarks 102 = .ok (.aload_n 0, 1) := by decide +kernel
theorem dX8_newMarks_103 : decode cX8_newMarks 103 = .ok (.getfield 36, 3) := by decide +kernel
theorem dX8_newMarks_106 : decode cX8_newMarks 106 = .ok (.iload_n 3, 1) := by decide +kernel
theorem dX8_newMarks_107 : decode cX8_newMarks 107 = .ok (.aload_n 0, 1) := by decide +kernel
theorem dX8_newMarks_108 : decode cX8_newMarks 108 = .ok (.getfield 36, 3) := by decide +kernel
theorem dX8_newMarks_111 : decode cX8_newMarks 111 = .ok (.iload_n 3, 1) := by decide +kernel
theorem dX8_newMarks_112 : decode cX8_newMarks 112 = .ok (.iaload, 1) := by decide +kernel
theorem dX8_newMarks_113 : decode cX8_newMarks 113 = .ok (.aload_n 0, 1) := by decide +kernel
theorem dX8_newMarks_114 : decode cX8_newMarks 114 = .ok (.iconst 2, 1) := by decide +kernel
theorem dX8_newMarks_115 : decode cX8_newMarks 115 = .ok (.invokevirtual 112, 3) := by decide +kernel
theorem dX8_newMarks_118 : decode cX8_newMarks 118 = .ok (.iadd, 1) := by decide +kernel
theorem dX8_newMarks_119 : decode cX8_newMarks 119 = .ok (.iastore, 1) := by decide +kernel
theorem dX8_newMarks_120 : decode cX8_newMarks 120 = .ok (.iconst 2, 1) := by decide +kernel
theorem dX8_newMarks_121 : decode cX8_newMarks 121 = .ok (.ireturn, 1) := by decide +kernel
set_option maxRecDepth 20000 in
theorem ggX8_newRule_X8_isWord : GoodIn wsX8_newRule wsX8_isWord := goodIn_r _ [16, 17, 18, 19, 15, 20, 21, 22, 23, 24, 25, 26, 27, 42, 43, 44, 45, 46, 47, 48, 49, 50, 51, 52, 53, 54, 55, 56, 57, 58, 59, 60, 61, 62, 63, 64, 65, 66, 67, 68, 69, 70, 71, 72, 73, 74, 75, 76, 77, 78, 79, 80] (by decide +kernel) (by decide +kernel)
set_option maxRecDepth 20000 in
theorem gX8_newRule_X8_isWord : GoodIn wsX8_newRule (wsV RX8 146 RX8 yX8_isWord wsX8_isWord) := goodIn_app (goodIn_of _ (by decide +kernel)) ggX8_newRule_X8_isWord
set_option maxRecDepth 20000 in
theorem ggX8_newRule_X8_says : GoodIn wsX8_newRule wsX8_says := goodIn_r _ [31, 23, 24, 25, 15, 26, 22, 21, 27, 17, 18, 19, 20, 42, 43, 44, 45, 46, 47, 48, 49, 50, 51, 52, 53, 54, 55, 56, 57, 58, 59, 60, 61, 62, 63, 64, 65, 66, 67, 68, 69, 70, 71, 72, 73, 74, 75, 76, 77, 78, 79, 80] (by decide +kernel) (by decide +kernel)
set_option maxRecDepth 20000 in
theorem gX8_newRule_X8_says : GoodIn wsX8_newRule (wsV RX8 126 RX8 yX8_says wsX8_says) := goodIn_app (goodIn_of _ (by decide +kernel)) ggX8_newRule_X8_says
set_option maxRecDepth 20000 in
theorem ggX8_newRule_X8_stateOf : GoodIn wsX8_newRule wsX8_stateOf := goodIn_r _ [35, 36, 37, 17, 18, 19, 15, 20, 21, 22, 23, 24, 25, 26, 27, 42, 43, 44, 45, 46, 47, 48, 49, 50, 51, 52, 53, 54, 55, 56, 57, 58, 59, 60, 61, 62, 63, 64, 65, 66, 67, 68, 69, 70, 71, 72, 73, 74, 75, 76, 77, 78, 79, 80] (by decide +kernel) (by decide +kernel)
set_option maxRecDepth 20000 in
theorem gX8_newRule_X8_stateOf : GoodIn wsX8_newRule (wsV RX8 150 RX8 yX8_stateOf wsX8_stateOf) := goodIn_app (goodIn_of _ (by decide +kernel)) ggX8_newRule_X8_stateOf
set_option maxRecDepth 20000 in
theorem ggX8_newRule_X8_length : GoodIn wsX8_newRule wsX8_length := goodIn_r _ [20, 21, 22, 42, 43, 44, 45, 46, 47, 48, 49, 50, 51, 52, 53, 54, 55, 56, 57, 58, 59, 60, 61, 62, 63, 64, 65, 66, 67, 68, 69, 70, 71, 72, 73, 74, 75, 76, 77, 78, 79, 80] (by decide +kernel) (by decide +kernel)
set_option maxRecDepth 20000 in
theorem gX8_newRule_X8_length : GoodIn wsX8_newRule (wsV RX8 112 RX8 yX8_length wsX8_length) := goodIn_app (goodIn_of _ (by decide +kernel)) ggX8_newRule_X8_length
set_option maxRecDepth 20000 in
theorem ggX8_newRule_X8_eventOf : GoodIn wsX8_newRule wsX8_eventOf := goodIn_r _ [41, 3, 4, 23, 24, 25, 15, 26, 22, 21, 27, 42, 43, 44, 45, 46, 47, 48, 49, 50, 51, 52, 53, 54, 55, 56, 57, 58, 59, 60, 61, 62, 63, 64, 65, 66, 67, 68, 69, 70, 71, 72, 73, 74, 75, 76, 77, 78, 79, 80] (by decide +kernel) (by decide +kernel)
set_option maxRecDepth 20000 in
theorem gX8_newRule_X8_eventOf : GoodIn wsX8_newRule (wsV RX8 153 RX8 yX8_eventOf wsX8_eventOf) := goodIn_app (goodIn_of _ (by decide +kernel)) ggX8_newRule_X8_eventOf
set_option maxRecDepth 20000 in
theorem ggX8_newRule_X8_letter : GoodIn wsX8_newRule wsX8_letter := goodIn_r _ [26, 22, 21, 27, 42, 43, 44, 45, 46, 47, 48, 49, 50, 51, 52, 53, 54, 55, 56, 57, 58, 59, 60, 61, 62, 63, 64, 65, 66, 67, 68, 69, 70, 71, 72, 73, 74, 75, 76, 77, 78, 79, 80] (by decide +kernel) (by decide +kernel)
set_option maxRecDepth 20000 in
theorem gX8_newRule_X8_letter : GoodIn wsX8_newRule (wsV RX8 116 RX8 yX8_letter wsX8_letter) := goodIn_app (goodIn_of _ (by decide +kernel)) ggX8_newRule_X8_letter
theorem dX8_newRule_0 : decode cX8_newRule 0 = .ok (.aload_n 0, 1) := by decide +kernel
theorem dX8_newRule_1 : decode cX8_newRule 1 = .ok (.getfield 109, 3) := by decide +kernel
theorem dX8_newRule_4 : decode cX8_newRule 4 = .ok (.istore_n 1, 1) := by decide +kernel
theorem dX8_newRule_5 : decode cX8_newRule 5 = .ok (.iload_n 1, 1) := by decide +kernel
theorem dX8_newRule_6 : decode cX8_newRule 6 = .ok (.bipush 6, 2) := by decide +kernel
theorem dX8_newRule_8 : decode cX8_newRule 8 = .ok (.if_icmp .eq 15, 3) := by decide +kernel
theorem dX8_newRule_11 : decode cX8_newRule 11 = .ok (.iload_n 1, 1) := by decide +kernel
theorem dX8_newRule_12 : decode cX8_newRule 12 = .ok (.bipush 8, 2) := by decide +kernel
theorem dX8_newRule_14 : decode cX8_newRule 14 = .ok (.if_icmp .eq 9, 3) := by decide +kernel
theorem dX8_newRule_17 : decode cX8_newRule 17 = .ok (.iload_n 1, 1) := by decide +kernel
theorem dX8_newRule_18 : decode cX8_newRule 18 = .ok (.bipush 10, 2) := by decide +kernel
theorem dX8_newRule_20 : decode cX8_newRule 20 = .ok (.if_icmp .ne 46, 3) := by decide +kernel
theorem dX8_newRule_23 : decode cX8_newRule 23 = .ok (.aload_n 0, 1) := by decide +kernel
theorem dX8_newRule_24 : decode cX8_newRule 24 = .ok (.iconst 1, 1) := by decide +kernel
theorem dX8_newRule_25 : decode cX8_newRule 25 = .ok (.iconst 4, 1) := by decide +kernel
theorem dX8_newRule_26 : decode cX8_newRule 26 = .ok (.invokevirtual 146, 3) := by decide +kernel
theorem dX8_newRule_29 : decode cX8_newRule 29 = .ok (.ifCond .eq 37, 3) := by decide +kernel
theorem dX8_newRule_32 : decode cX8_newRule 32 = .ok (.aload_n 0, 1) := by decide +kernel
theorem dX8_newRule_33 : decode cX8_newRule 33 = .ok (.iconst 2, 1) := by decide +kernel
theorem dX8_newRule_34 : decode cX8_newRule 34 = .ok (.bipush 102, 2) := by decide +kernel
theorem dX8_newRule_36 : decode cX8_newRule 36 = .ok (.bipush 114, 2) := by decide +kernel
theorem dX8_newRule_38 : decode cX8_newRule 38 = .ok (.bipush 111, 2) := by decide +kernel
theorem dX8_newRule_40 : decode cX8_newRule 40 = .ok (.bipush 109, 2) := by decide +kernel
theorem dX8_newRule_42 : decode cX8_newRule 42 = .ok (.iconst 0, 1) := by decide +kernel
theorem dX8_newRule_43 : decode cX8_newRule 43 = .ok (.iconst 0, 1) := by decide +kernel
theorem dX8_newRule_44 : decode cX8_newRule 44 = .ok (.invokevirtual 126, 3) := by decide +kernel
theorem dX8_newRule_47 : decode cX8_newRule 47 = .ok (.ifCond .eq 19, 3) := by decide +kernel
theorem dX8_newRule_50 : decode cX8_newRule 50 = .ok (.aload_n 0, 1) := by decide +kernel
theorem dX8_newRule_51 : decode cX8_newRule 51 = .ok (.iconst 4, 1) := by decide +kernel
theorem dX8_newRule_52 : decode cX8_newRule 52 = .ok (.bipush 116, 2) := by decide +kernel
theorem dX8_newRule_54 : decode cX8_newRule 54 = .ok (.bipush 111, 2) := by decide +kernel
theorem dX8_newRule_56 : decode cX8_newRule 56 = .ok (.iconst 0, 1) := by decide +kernel
theorem dX8_newRule_57 : decode cX8_newRule 57 = .ok (.iconst 0, 1) := by decide +kernel
theorem dX8_newRule_58 : decode cX8_newRule 58 = .ok (.iconst 0, 1) := by decide +kernel
theorem dX8_newRule_59 : decode cX8_newRule 59 = .ok (.iconst 0, 1) := by decide +kernel
theorem dX8_newRule_60 : decode cX8_newRule 60 = .ok (.invokevirtual 126, 3) := by decide +kernel
theorem dX8_newRule_63 : decode cX8_newRule 63 = .ok (.ifCond .ne 5, 3) := by decide +kernel
theorem dX8_newRule_66 : decode cX8_newRule 66 = .ok (.iconst (-1), 1) := by decide +kernel
theorem dX8_newRule_67 : decode cX8_newRule 67 = .ok (.ireturn, 1) := by decide +kernel
theorem dX8_newRule_68 : decode cX8_newRule 68 = .ok (.aload_n 0, 1) := by decide +kernel
theorem dX8_newRule_69 : decode cX8_newRule 69 = .ok (.iconst 3, 1) := by decide +kernel
theorem dX8_newRule_70 : decode cX8_newRule 70 = .ok (.invokevirtual 150, 3) := by decide +kernel
theorem dX8_newRule_73 : decode cX8_newRule 73 = .ok (.istore_n 2, 1) := by decide +kernel
theorem dX8_newRule_74 : decode cX8_newRule 74 = .ok (.aload_n 0, 1) := by decide +kernel
theorem dX8_newRule_75 : decode cX8_newRule 75 = .ok (.iconst 5, 1) := by decide +kernel
theorem dX8_newRule_76 : decode cX8_newRule 76 = .ok (.invokevirtual 150, 3) := by decide +kernel
theorem dX8_newRule_79 : decode cX8_newRule 79 = .ok (.istore_n 3, 1) := by decide +kernel
theorem dX8_newRule_80 : decode cX8_newRule 80 = .ok (.iconst 0, 1) := by decide +kernel
theorem dX8_newRule_81 : decode cX8_newRule 81 = .ok (.istore 4, 2) := by decide +kernel
theorem dX8_newRule_83 : decode cX8_newRule 83 = .ok (.iconst 0, 1) := by decide +kernel
theorem dX8_newRule_84 : decode cX8_newRule 84 = .ok (.istore 5, 2) := by decide +kernel
theorem dX8_newRule_86 : decode cX8_newRule 86 = .ok (.iload_n 1, 1) := by decide +kernel
theorem dX8_newRule_87 : decode cX8_newRule 87 = .ok (.bipush 6, 2) := by decide +kernel
theorem dX8_newRule_89 : decode cX8_newRule 89 = .ok (.if_icmp .le 80, 3) := by decide +kernel
theorem dX8_newRule_92 : decode cX8_newRule 92 = .ok (.aload_n 0, 1) := by decide +kernel
theorem dX8_newRule_93 : decode cX8_newRule 93 = .ok (.bipush 6, 2) := by decide +kernel
theorem dX8_newRule_95 : decode cX8_newRule 95 = .ok (.bipush 105, 2) := by decide +kernel
theorem dX8_newRule_97 : decode cX8_newRule 97 = .ok (.bipush 102, 2) := by decide +kernel
theorem dX8_newRule_99 : decode cX8_newRule 99 = .ok (.iconst 0, 1) := by decide +kernel
theorem dX8_newRule_100 : decode cX8_newRule 100 = .ok (.iconst 0, 1) := by decide +kernel
theorem dX8_newRule_101 : decode cX8_newRule 101 = .ok (.iconst 0, 1) := by decide +kernel
theorem dX8_newRule_102 : decode cX8_newRule 102 = .ok (.iconst 0, 1) := by decide +kernel
theorem dX8_newRule_103 : decode cX8_newRule 103 = .ok (.invokevirtual 126, 3) := by decide +kernel
theorem dX8_newRule_106 : decode cX8_newRule 106 = .ok (.ifCond .eq 7, 3) := by decide +kernel
theorem dX8_newRule_109 : decode cX8_newRule 109 = .ok (.iconst 1, 1) := by decide +kernel
theorem dX8_newRule_110 : decode cX8_newRule 110 = .ok (.goto 40, 3) := by decide +kernel
theorem dX8_newRule_113 : decode cX8_newRule 113 = .ok (.aload_n 0, 1) := by decide +kernel
theorem dX8_newRule_114 : decode cX8_newRule 114 = .ok (.bipush 6, 2) := by decide +kernel
theorem dX8_newRule_116 : decode cX8_newRule 116 = .ok (.bipush 117, 2) := by decide +kernel
theorem dX8_newRule_118 : decode cX8_newRule 118 = .ok (.bipush 110, 2) := by decide +kernel
theorem dX8_newRule_120 : decode cX8_newRule 120 = .ok (.bipush 108, 2) := by decide +kernel
theorem dX8_newRule_122 : decode cX8_newRule 122 = .ok (.bipush 101, 2) := by decide +kernel
theorem dX8_newRule_124 : decode cX8_newRule 124 = .ok (.bipush 115, 2) := by decide +kernel
theorem dX8_newRule_126 : decode cX8_newRule 126 = .ok (.bipush 115, 2) := by decide +kernel
theorem dX8_newRule_128 : decode cX8_newRule 128 = .ok (.invokevirtual 126, 3) := by decide +kernel
theorem dX8_newRule_131 : decode cX8_newRule 131 = .ok (.ifCond .eq 18, 3) := by decide +kernel
theorem dX8_newRule_134 : decode cX8_newRule 134 = .ok (.aload_n 0, 1) := by decide +kernel
theorem dX8_newRule_135 : decode cX8_newRule 135 = .ok (.bipush 6, 2) := by decide +kernel
theorem dX8_newRule_137 : decode cX8_newRule 137 = .ok (.invokevirtual 112, 3) := by decide +kernel
theorem dX8_newRule_140 : decode cX8_newRule 140 = .ok (.bipush 6, 2) := by decide +kernel
theorem dX8_newRule_142 : decode cX8_newRule 142 = .ok (.if_icmp .ne 7, 3) := by decide +kernel
theorem dX8_newRule_145 : decode cX8_newRule 145 = .ok (.iconst 2, 1) := by decide +kernel
theorem dX8_newRule_146 : decode cX8_newRule 146 = .ok (.goto 4, 3) := by decide +kernel
theorem dX8_newRule_149 : decode cX8_newRule 149 = .ok (.iconst 0, 1) := by decide +kernel
theorem dX8_newRule_150 : decode cX8_newRule 150 = .ok (.istore 4, 2) := by decide +kernel
theorem dX8_newRule_152 : decode cX8_newRule 152 = .ok (.iload 4, 2) := by decide +kernel
theorem dX8_newRule_154 : decode cX8_newRule 154 = .ok (.ifCond .le 12, 3) := by decide +kernel
theorem dX8_newRule_157 : decode cX8_newRule 157 = .ok (.aload_n 0, 1) := by decide +kernel
theorem dX8_newRule_158 : decode cX8_newRule 158 = .ok (.bipush 7, 2) := by decide +kernel
theorem dX8_newRule_160 : decode cX8_newRule 160 = .ok (.invokevirtual 150, 3) := by decide +kernel
theorem dX8_newRule_163 : decode cX8_newRule 163 = .ok (.goto 4, 3) := by decide +kernel
theorem dX8_newRule_166 : decode cX8_newRule 166 = .ok (.iconst 0, 1) := by decide +kernel
theorem dX8_newRule_167 : decode cX8_newRule 167 = .ok (.istore 5, 2) := by decide +kernel
theorem dX8_newRule_169 : decode cX8_newRule 169 = .ok (.iload 4, 2) := by decide +kernel
theorem dX8_newRule_171 : decode cX8_newRule 171 = .ok (.ifCond .le 8, 3) := by decide +kernel
theorem dX8_newRule_174 : decode cX8_newRule 174 = .ok (.bipush 8, 2) := by decide +kernel
theorem dX8_newRule_176 : decode cX8_newRule 176 = .ok (.goto 5, 3) := by decide +kernel
theorem dX8_newRule_179 : decode cX8_newRule 179 = .ok (.bipush 6, 2) := by decide +kernel
theorem dX8_newRule_181 : decode cX8_newRule 181 = .ok (.istore 6, 2) := by decide +kernel
theorem dX8_newRule_183 : decode cX8_newRule 183 = .ok (.iload_n 1, 1) := by decide +kernel
theorem dX8_newRule_184 : decode cX8_newRule 184 = .ok (.iload 6, 2) := by decide +kernel
theorem dX8_newRule_186 : decode cX8_newRule 186 = .ok (.if_icmp .le 36, 3) := by decide +kernel
theorem dX8_newRule_189 : decode cX8_newRule 189 = .ok (.aload_n 0, 1) := by decide +kernel
theorem dX8_newRule_190 : decode cX8_newRule 190 = .ok (.iload 6, 2) := by decide +kernel
theorem dX8_newRule_192 : decode cX8_newRule 192 = .ok (.bipush 100, 2) := by decide +kernel
theorem dX8_newRule_194 : decode cX8_newRule 194 = .ok (.bipush 111, 2) := by decide +kernel
theorem dX8_newRule_196 : decode cX8_newRule 196 = .ok (.iconst 0, 1) := by decide +kernel
theorem dX8_newRule_197 : decode cX8_newRule 197 = .ok (.iconst 0, 1) := by decide +kernel
theorem dX8_newRule_198 : decode cX8_newRule 198 = .ok (.iconst 0, 1) := by decide +kernel
theorem dX8_newRule_199 : decode cX8_newRule 199 = .ok (.iconst 0, 1) := by decide +kernel
theorem dX8_newRule_200 : decode cX8_newRule 200 = .ok (.invokevirtual 126, 3) := by decide +kernel
theorem dX8_newRule_203 : decode cX8_newRule 203 = .ok (.ifCond .eq 19, 3) := by decide +kernel
theorem dX8_newRule_206 : decode cX8_newRule 206 = .ok (.aload_n 0, 1) := by decide +kernel
theorem dX8_newRule_207 : decode cX8_newRule 207 = .ok (.iload 6, 2) := by decide +kernel
theorem dX8_newRule_209 : decode cX8_newRule 209 = .ok (.iconst 1, 1) := by decide +kernel
theorem dX8_newRule_210 : decode cX8_newRule 210 = .ok (.iadd, 1) := by decide +kernel
theorem dX8_newRule_211 : decode cX8_newRule 211 = .ok (.iconst 3, 1) := by decide +kernel
theorem dX8_newRule_212 : decode cX8_newRule 212 = .ok (.invokevirtual 146, 3) := by decide +kernel
theorem dX8_newRule_215 : decode cX8_newRule 215 = .ok (.ifCond .eq 7, 3) := by decide +kernel
theorem dX8_newRule_218 : decode cX8_newRule 218 = .ok (.iconst 1, 1) := by decide +kernel
theorem dX8_newRule_219 : decode cX8_newRule 219 = .ok (.goto 4, 3) := by decide +kernel
theorem dX8_newRule_222 : decode cX8_newRule 222 = .ok (.iconst 0, 1) := by decide +kernel
theorem dX8_newRule_223 : decode cX8_newRule 223 = .ok (.istore 7, 2) := by decide +kernel
theorem dX8_newRule_225 : decode cX8_newRule 225 = .ok (.iload_n 2, 1) := by decide +kernel
theorem dX8_newRule_226 : decode cX8_newRule 226 = .ok (.iconst 1, 1) := by decide +kernel
theorem dX8_newRule_227 : decode cX8_newRule 227 = .ok (.if_icmp .lt 32, 3) := by decide +kernel
theorem dX8_newRule_230 : decode cX8_newRule 230 = .ok (.iload_n 3, 1) := by decide +kernel
theorem dX8_newRule_231 : decode cX8_newRule 231 = .ok (.iconst 1, 1) := by decide +kernel
theorem dX8_newRule_232 : decode cX8_newRule 232 = .ok (.if_icmp .lt 27, 3) := by decide +kernel
theorem dX8_newRule_235 : decode cX8_newRule 235 = .ok (.iload 5, 2) := by decide +kernel
theorem dX8_newRule_237 : decode cX8_newRule 237 = .ok (.ifCond .lt 22, 3) := by decide +kernel
theorem dX8_newRule_240 : decode cX8_newRule 240 = .ok (.iload_n 1, 1) := by decide +kernel
theorem dX8_newRule_241 : decode cX8_newRule 241 = .ok (.iload 6, 2) := by decide +kernel
theorem dX8_newRule_243 : decode cX8_newRule 243 = .ok (.if_icmp .le 8, 3) := by decide +kernel
theorem dX8_newRule_246 : decode cX8_newRule 246 = .ok (.iload 7, 2) := by decide +kernel
theorem dX8_newRule_248 : decode cX8_newRule 248 = .ok (.ifCond .eq 11, 3) := by decide +kernel
theorem dX8_newRule_251 : decode cX8_newRule 251 = .ok (.iload_n 1, 1) := by decide +kernel
theorem dX8_newRule_252 : decode cX8_newRule 252 = .ok (.iload 6, 2) := by decide +kernel
theorem dX8_newRule_254 : decode cX8_newRule 254 = .ok (.iconst 2, 1) := by decide +kernel
theorem dX8_newRule_255 : decode cX8_newRule 255 = .ok (.iadd, 1) := by decide +kernel
theorem dX8_newRule_256 : decode cX8_newRule 256 = .ok (.if_icmp .le 5, 3) := by decide +kernel
theorem dX8_newRule_259 : decode cX8_newRule 259 = .ok (.iconst (-1), 1) := by decide +kernel
theorem dX8_newRule_260 : decode cX8_newRule 260 = .ok (.ireturn, 1) := by decide +kernel
theorem dX8_newRule_261 : decode cX8_newRule 261 = .ok (.aload_n 0, 1) := by decide +kernel
theorem dX8_newRule_262 : decode cX8_newRule 262 = .ok (.iconst 1, 1) := by decide +kernel
theorem dX8_newRule_263 : decode cX8_newRule 263 = .ok (.invokevirtual 153, 3) := by decide +kernel
theorem dX8_newRule_266 : decode cX8_newRule 266 = .ok (.istore 8, 2) := by decide +kernel
theorem dX8_newRule_268 : decode cX8_newRule 268 = .ok (.aload_n 0, 1) := by decide +kernel
theorem dX8_newRule_269 : decode cX8_newRule 269 = .ok (.getfield 156, 3) := by decide +kernel
theorem dX8_newRule_272 : decode cX8_newRule 272 = .ok (.bipush 20, 2) := by decide +kernel
theorem dX8_newRule_274 : decode cX8_newRule 274 = .ok (.if_icmp .eq 17, 3) := by decide +kernel
theorem dX8_newRule_277 : decode cX8_newRule 277 = .ok (.iload 8, 2) := by decide +kernel
theorem dX8_newRule_279 : decode cX8_newRule 279 = .ok (.ifCond .ge 15, 3) := by decide +kernel
theorem dX8_newRule_282 : decode cX8_newRule 282 = .ok (.aload_n 0, 1) := by decide +kernel
theorem dX8_newRule_283 : decode cX8_newRule 283 = .ok (.getfield 120, 3) := by decide +kernel
theorem dX8_newRule_286 : decode cX8_newRule 286 = .ok (.bipush 6, 2) := by decide +kernel
theorem dX8_newRule_288 : decode cX8_newRule 288 = .ok (.if_icmp .ne 6, 3) := by decide +kernel
theorem dX8_newRule_291 : decode cX8_newRule 291 = .ok (.bipush (-2), 2) := by decide +kernel
theorem dX8_newRule_293 : decode cX8_newRule 293 = .ok (.ireturn, 1) := by decide +kernel
theorem dX8_newRule_294 : decode cX8_newRule 294 = .ok (.iload 8, 2) := by decide +kernel
theorem dX8_newRule_296 : decode cX8_newRule 296 = .ok (.ifCond .ge 53, 3) := by decide +kernel
theorem dX8_newRule_299 : decode cX8_newRule 299 = .ok (.aload_n 0, 1) := by decide +kernel
theorem dX8_newRule_300 : decode cX8_newRule 300 = .ok (.getfield 120, 3) := by decide +kernel
theorem dX8_newRule_303 : decode cX8_newRule 303 = .ok (.istore 8, 2) := by decide +kernel
theorem dX8_newRule_305 : decode cX8_newRule 305 = .ok (.aload_n 0, 1) := by decide +kernel
theorem dX8_newRule_306 : decode cX8_newRule 306 = .ok (.dup, 1) := by decide +kernel
theorem dX8_newRule_307 : decode cX8_newRule 307 = .ok (.getfield 120, 3) := by decide +kernel
theorem dX8_newRule_310 : decode cX8_newRule 310 = .ok (.iconst 1, 1) := by decide +kernel
theorem dX8_newRule_311 : decode cX8_newRule 311 = .ok (.iadd, 1) := by decide +kernel
theorem dX8_newRule_312 : decode cX8_newRule 312 = .ok (.putfield 120, 3) := by decide +kernel
theorem dX8_newRule_315 : decode cX8_newRule 315 = .ok (.iconst 0, 1) := by decide +kernel
theorem dX8_newRule_316 : decode cX8_newRule 316 = .ok (.istore 9, 2) := by decide +kernel
theorem dX8_newRule_318 : decode cX8_newRule 318 = .ok (.iload 9, 2) := by decide +kernel
theorem dX8_newRule_320 : decode cX8_newRule 320 = .ok (.iconst 4, 1) := by decide +kernel
theorem dX8_newRule_321 : decode cX8_newRule 321 = .ok (.if_icmp .ge 28, 3) := by decide +kernel
theorem dX8_newRule_324 : decode cX8_newRule 324 = .ok (.aload_n 0, 1) := by decide +kernel
theorem dX8_newRule_325 : decode cX8_newRule 325 = .ok (.getfield 46, 3) := by decide +kernel
theorem dX8_newRule_328 : decode cX8_newRule 328 = .ok (.iconst 4, 1) := by decide +kernel
theorem dX8_newRule_329 : decode cX8_newRule 329 = .ok (.iload 8, 2) := by decide +kernel
theorem dX8_newRule_331 : decode cX8_newRule 331 = .ok (.imul, 1) := by decide +kernel
theorem dX8_newRule_332 : decode cX8_newRule 332 = .ok (.iload 9, 2) := by decide +kernel
theorem dX8_newRule_334 : decode cX8_newRule 334 = .ok (.iadd, 1) := by decide +kernel
theorem dX8_newRule_335 : decode cX8_newRule 335 = .ok (.aload_n 0, 1) := by decide +kernel
theorem dX8_newRule_336 : decode cX8_newRule 336 = .ok (.iconst 1, 1) := by decide +kernel
theorem dX8_newRule_337 : decode cX8_newRule 337 = .ok (.iload 9, 2) := by decide +kernel
theorem dX8_newRule_339 : decode cX8_newRule 339 = .ok (.invokevirtual 116, 3) := by decide +kernel
theorem dX8_newRule_342 : decode cX8_newRule 342 = .ok (.castore, 1) := by decide +kernel
theorem dX8_newRule_343 : decode cX8_newRule 343 = .ok (.iinc 9 1, 3) := by decide +kernel
theorem dX8_newRule_346 : decode cX8_newRule 346 = .ok (.goto (-28), 3) := by decide +kernel
theorem dX8_newRule_349 : decode cX8_newRule 349 = .ok (.aload_n 0, 1) := by decide +kernel
theorem dX8_newRule_350 : decode cX8_newRule 350 = .ok (.getfield 52, 3) := by decide +kernel
theorem dX8_newRule_353 : decode cX8_newRule 353 = .ok (.aload_n 0, 1) := by decide +kernel
theorem dX8_newRule_354 : decode cX8_newRule 354 = .ok (.getfield 156, 3) := by decide +kernel
theorem dX8_newRule_357 : decode cX8_newRule 357 = .ok (.iload 8, 2) := by decide +kernel
theorem dX8_newRule_359 : decode cX8_newRule 359 = .ok (.iastore, 1) := by decide +kernel
theorem dX8_newRule_360 : decode cX8_newRule 360 = .ok (.aload_n 0, 1) := by decide +kernel
theorem dX8_newRule_361 : decode cX8_newRule 361 = .ok (.getfield 55, 3) := by decide +kernel
theorem dX8_newRule_364 : decode cX8_newRule 364 = .ok (.aload_n 0, 1) := by decide +kernel
theorem dX8_newRule_365 : decode cX8_newRule 365 = .ok (.getfield 156, 3) := by decide +kernel
theorem dX8_newRule_368 : decode cX8_newRule 368 = .ok (.iload_n 2, 1) := by decide +kernel
theorem dX8_newRule_369 : decode cX8_newRule 369 = .ok (.iastore, 1) := by decide +kernel
theorem dX8_newRule_370 : decode cX8_newRule 370 = .ok (.aload_n 0, 1) := by decide +kernel
theorem dX8_newRule_371 : decode cX8_newRule 371 = .ok (.getfield 58, 3) := by decide +kernel
theorem dX8_newRule_374 : decode cX8_newRule 374 = .ok (.aload_n 0, 1) := by decide +kernel
theorem dX8_newRule_375 : decode cX8_newRule 375 = .ok (.getfield 156, 3) := by decide +kernel
theorem dX8_newRule_378 : decode cX8_newRule 378 = .ok (.iload_n 3, 1) := by decide +kernel
theorem dX8_newRule_379 : decode cX8_newRule 379 = .ok (.iastore, 1) := by decide +kernel
theorem dX8_newRule_380 : decode cX8_newRule 380 = .ok (.aload_n 0, 1) := by decide +kernel
theorem dX8_newRule_381 : decode cX8_newRule 381 = .ok (.getfield 61, 3) := by decide +kernel
theorem dX8_newRule_384 : decode cX8_newRule 384 = .ok (.aload_n 0, 1) := by decide +kernel
theorem dX8_newRule_385 : decode cX8_newRule 385 = .ok (.getfield 156, 3) := by decide +kernel
theorem dX8_newRule_388 : decode cX8_newRule 388 = .ok (.iload 4, 2) := by decide +kernel
theorem dX8_newRule_390 : decode cX8_newRule 390 = .ok (.iastore, 1) := by decide +kernel
theorem dX8_newRule_391 : decode cX8_newRule 391 = .ok (.aload_n 0, 1) := by decide +kernel
theorem dX8_newRule_392 : decode cX8_newRule 392 = .ok (.getfield 64, 3) := by decide +kernel
theorem dX8_newRule_395 : decode cX8_newRule 395 = .ok (.aload_n 0, 1) := by decide +kernel
theorem dX8_newRule_396 : decode cX8_newRule 396 = .ok (.getfield 156, 3) := by decide +kernel
theorem dX8_newRule_399 : decode cX8_newRule 399 = .ok (.iload 5, 2) := by decide +kernel
theorem dX8_newRule_401 : decode cX8_newRule 401 = .ok (.iastore, 1) := by decide +kernel
theorem dX8_newRule_402 : decode cX8_newRule 402 = .ok (.aload_n 0, 1) := by decide +kernel
theorem dX8_newRule_403 : decode cX8_newRule 403 = .ok (.getfield 67, 3) := by decide +kernel
theorem dX8_newRule_406 : decode cX8_newRule 406 = .ok (.aload_n 0, 1) := by decide +kernel
theorem dX8_newRule_407 : decode cX8_newRule 407 = .ok (.getfield 156, 3) := by decide +kernel
theorem dX8_newRule_410 : decode cX8_newRule 410 = .ok (.iload 7, 2) := by decide +kernel
theorem dX8_newRule_412 : decode cX8_newRule 412 = .ok (.ifCond .eq 14, 3) := by decide +kernel
theorem dX8_newRule_415 : decode cX8_newRule 415 = .ok (.aload_n 0, 1) := by decide +kernel
theorem dX8_newRule_416 : decode cX8_newRule 416 = .ok (.iload 6, 2) := by decide +kernel
theorem dX8_newRule_418 : decode cX8_newRule 418 = .ok (.iconst 1, 1) := by decide +kernel
theorem dX8_newRule_419 : decode cX8_newRule 419 = .ok (.iadd, 1) := by decide +kernel
theorem dX8_newRule_420 : decode cX8_newRule 420 = .ok (.invokevirtual 112, 3) := by decide +kernel
theorem dX8_newRule_423 : decode cX8_newRule 423 = .ok (.goto 4, 3) := by decide +kernel
theorem dX8_newRule_426 : decode cX8_newRule 426 = .ok (.iconst 0, 1) := by decide +kernel
theorem dX8_newRule_427 : decode cX8_newRule 427 = .ok (.iastore, 1) := by decide +kernel
theorem dX8_newRule_428 : decode cX8_newRule 428 = .ok (.iconst 0, 1) := by decide +kernel
theorem dX8_newRule_429 : decode cX8_newRule 429 = .ok (.istore 9, 2) := by decide +kernel
theorem dX8_newRule_431 : decode cX8_newRule 431 = .ok (.iload 9, 2) := by decide +kernel
theorem dX8_newRule_433 : decode cX8_newRule 433 = .ok (.aload_n 0, 1) := by decide +kernel
theorem dX8_newRule_434 : decode cX8_newRule 434 = .ok (.getfield 67, 3) := by decide +kernel
theorem dX8_newRule_437 : decode cX8_newRule 437 = .ok (.aload_n 0, 1) := by decide +kernel
theorem dX8_newRule_438 : decode cX8_newRule 438 = .ok (.getfield 156, 3) := by decide +kernel
theorem dX8_newRule_441 : decode cX8_newRule 441 = .ok (.iaload, 1) := by decide +kernel
theorem dX8_newRule_442 : decode cX8_newRule 442 = .ok (.if_icmp .ge 33, 3) := by decide +kernel
theorem dX8_newRule_445 : decode cX8_newRule 445 = .ok (.aload_n 0, 1) := by decide +kernel
theorem dX8_newRule_446 : decode cX8_newRule 446 = .ok (.getfield 49, 3) := by decide +kernel
theorem dX8_newRule_449 : decode cX8_newRule 449 = .ok (.iconst 3, 1) := by decide +kernel
theorem dX8_newRule_450 : decode cX8_newRule 450 = .ok (.aload_n 0, 1) := by decide +kernel
theorem dX8_newRule_451 : decode cX8_newRule 451 = .ok (.getfield 156, 3) := by decide +kernel
theorem dX8_newRule_454 : decode cX8_newRule 454 = .ok (.imul, 1) := by decide +kernel
theorem dX8_newRule_455 : decode cX8_newRule 455 = .ok (.iload 9, 2) := by decide +kernel
theorem dX8_newRule_457 : decode cX8_newRule 457 = .ok (.iadd, 1) := by decide +kernel
theorem dX8_newRule_458 : decode cX8_newRule 458 = .ok (.aload_n 0, 1) := by decide +kernel
theorem dX8_newRule_459 : decode cX8_newRule 459 = .ok (.iload 6, 2) := by decide +kernel
theorem dX8_newRule_461 : decode cX8_newRule 461 = .ok (.iconst 1, 1) := by decide +kernel
theorem dX8_newRule_462 : decode cX8_newRule 462 = .ok (.iadd, 1) := by decide +kernel
theorem dX8_newRule_463 : decode cX8_newRule 463 = .ok (.iload 9, 2) := by decide +kernel
theorem dX8_newRule_465 : decode cX8_newRule 465 = .ok (.invokevirtual 116, 3) := by decide +kernel
theorem dX8_newRule_468 : decode cX8_newRule 468 = .ok (.castore, 1) := by decide +kernel
theorem dX8_newRule_469 : decode cX8_newRule 469 = .ok (.iinc 9 1, 3) := by decide +kernel
theorem dX8_newRule_472 : decode cX8_newRule 472 = .ok (.goto (-41), 3) := by decide +kernel
theorem dX8_newRule_475 : decode cX8_newRule 475 = .ok (.aload_n 0, 1) := by decide +kernel
theorem dX8_newRule_476 : decode cX8_newRule 476 = .ok (.dup, 1) := by decide +kernel
theorem dX8_newRule_477 : decode cX8_newRule 477 = .ok (.getfield 156, 3) := by decide +kernel
theorem dX8_newRule_480 : decode cX8_newRule 480 = .ok (.iconst 1, 1) := by decide +kernel
theorem dX8_newRule_481 : decode cX8_newRule 481 = .ok (.iadd, 1) := by decide +kernel
theorem dX8_newRule_482 : decode cX8_newRule 482 = .ok (.putfield 156, 3) := by decide +kernel
theorem dX8_newRule_485 : decode cX8_newRule 485 = .ok (.iconst 3, 1) := by decide +kernel
theorem dX8_newRule_486 : decode cX8_newRule 486 = .ok (.ireturn, 1) := by decide +kernel
set_option maxRecDepth 20000 in
theorem ggX8_named_X8_split : GoodIn wsX8_named wsX8_split := goodIn_r _ [8, 3, 2, 9, 10, 11, 30, 31, 32, 33, 34, 35, 36, 37, 38, 39, 40, 41, 42, 43, 44, 45, 46, 47, 48, 49, 50, 51, 52, 53, 54, 55, 56, 57, 58, 59, 60, 61, 62, 63, 64, 65, 66, 67, 68] (by decide +kernel) (by decide +kernel)
set_option maxRecDepth 20000 in
theorem gX8_named_X8_split : GoodIn wsX8_named (wsV RX8 123 RX8 yX8_split wsX8_split) := goodIn_app (goodIn_of _ (by decide +kernel)) ggX8_named_X8_split
set_option maxRecDepth 20000 in
theorem ggX8_named_X8_stateOf : GoodIn wsX8_named wsX8_stateOf := goodIn_r _ [15, 16, 17, 18, 19, 20, 7, 21, 11, 10, 22, 23, 24, 25, 9, 30, 31, 32, 33, 34, 35, 36, 37, 38, 39, 40, 41, 42, 43, 44, 45, 46, 47, 48, 49, 50, 51, 52, 53, 54, 55, 56, 57, 58, 59, 60, 61, 62, 63, 64, 65, 66, 67, 68] (by decide +kernel) (by decide +kernel)
set_option maxRecDepth 20000 in
theorem gX8_named_X8_stateOf : GoodIn wsX8_named (wsV RX8 150 RX8 yX8_stateOf wsX8_stateOf) := goodIn_app (goodIn_of _ (by decide +kernel)) ggX8_named_X8_stateOf
set_option maxRecDepth 20000 in
theorem ggX8_named_X8_fails : GoodIn wsX8_named wsX8_fails := goodIn_r _ [29, 1, 30, 31, 32, 33, 34, 35, 36, 37, 38, 39, 40, 41, 42, 43, 44, 45, 46, 47, 48, 49, 50, 51, 52, 53, 54, 55, 56, 57, 58, 59, 60, 61, 62, 63, 64, 65, 66, 67, 68] (by decide +kernel) (by decide +kernel)
set_option maxRecDepth 20000 in
theorem gX8_named_X8_fails : GoodIn wsX8_named (wsV RX8 140 RX8 yX8_fails wsX8_fails) := goodIn_app (goodIn_of _ (by decide +kernel)) ggX8_named_X8_fails
theorem dX8_named_0 : decode cX8_named 0 = .ok (.aload_n 0, 1) := by decide +kernel
theorem dX8_named_1 : decode cX8_named 1 = .ok (.iconst 0, 1) := by decide +kernel
theorem dX8_named_2 : decode cX8_named 2 = .ok (.putfield 103, 3) := by decide +kernel
theorem dX8_named_5 : decode cX8_named 5 = .ok (.aload_n 0, 1) := by decide +kernel
theorem dX8_named_6 : decode cX8_named 6 = .ok (.invokevirtual 123, 3) := by decide +kernel
theorem dX8_named_9 : decode cX8_named 9 = .ok (.aload_n 0, 1) := by decide +kernel
theorem dX8_named_10 : decode cX8_named 10 = .ok (.iconst 0, 1) := by decide +kernel
theorem dX8_named_11 : decode cX8_named 11 = .ok (.putfield 106, 3) := by decide +kernel
theorem dX8_named_14 : decode cX8_named 14 = .ok (.aload_n 0, 1) := by decide +kernel
theorem dX8_named_15 : decode cX8_named 15 = .ok (.getfield 109, 3) := by decide +kernel
theorem dX8_named_18 : decode cX8_named 18 = .ok (.iconst 1, 1) := by decide +kernel
theorem dX8_named_19 : decode cX8_named 19 = .ok (.if_icmp .ne 11, 3) := by decide +kernel
theorem dX8_named_22 : decode cX8_named 22 = .ok (.aload_n 0, 1) := by decide +kernel
theorem dX8_named_23 : decode cX8_named 23 = .ok (.iconst 0, 1) := by decide +kernel
theorem dX8_named_24 : decode cX8_named 24 = .ok (.invokevirtual 150, 3) := by decide +kernel
theorem dX8_named_27 : decode cX8_named 27 = .ok (.goto 4, 3) := by decide +kernel
theorem dX8_named_30 : decode cX8_named 30 = .ok (.iconst (-1), 1) := by decide +kernel
theorem dX8_named_31 : decode cX8_named 31 = .ok (.istore_n 1, 1) := by decide +kernel
theorem dX8_named_32 : decode cX8_named 32 = .ok (.iload_n 1, 1) := by decide +kernel
theorem dX8_named_33 : decode cX8_named 33 = .ok (.ifCond .ge 11, 3) := by decide +kernel
theorem dX8_named_36 : decode cX8_named 36 = .ok (.aload_n 0, 1) := by decide +kernel
theorem dX8_named_37 : decode cX8_named 37 = .ok (.iconst 1, 1) := by decide +kernel
theorem dX8_named_38 : decode cX8_named 38 = .ok (.invokevirtual 140, 3) := by decide +kernel
theorem dX8_named_41 : decode cX8_named 41 = .ok (.goto 4, 3) := by decide +kernel
theorem dX8_named_44 : decode cX8_named 44 = .ok (.iload_n 1, 1) := by decide +kernel
theorem dX8_named_45 : decode cX8_named 45 = .ok (.ireturn, 1) := by decide +kernel
theorem dX8_firstChild_0 : decode cX8_firstChild 0 = .ok (.iload_n 1, 1) := by decide +kernel
theorem dX8_firstChild_1 : decode cX8_firstChild 1 = .ok (.iconst 1, 1) := by decide +kernel
theorem dX8_firstChild_2 : decode cX8_firstChild 2 = .ok (.iadd, 1) := by decide +kernel
theorem dX8_firstChild_3 : decode cX8_firstChild 3 = .ok (.istore_n 2, 1) := by decide +kernel
theorem dX8_firstChild_4 : decode cX8_firstChild 4 = .ok (.iload_n 2, 1) := by decide +kernel
theorem dX8_firstChild_5 : decode cX8_firstChild 5 = .ok (.aload_n 0, 1) := by decide +kernel
theorem dX8_firstChild_6 : decode cX8_firstChild 6 = .ok (.getfield 20, 3) := by decide +kernel
theorem dX8_firstChild_9 : decode cX8_firstChild 9 = .ok (.if_icmp .ge 21, 3) := by decide +kernel
theorem dX8_firstChild_12 : decode cX8_firstChild 12 = .ok (.aload_n 0, 1) := by decide +kernel
theorem dX8_firstChild_13 : decode cX8_firstChild 13 = .ok (.getfield 30, 3) := by decide +kernel
theorem dX8_firstChild_16 : decode cX8_firstChild 16 = .ok (.iload_n 2, 1) := by decide +kernel
theorem dX8_firstChild_17 : decode cX8_firstChild 17 = .ok (.iaload, 1) := by decide +kernel
theorem dX8_firstChild_18 : decode cX8_firstChild 18 = .ok (.iload_n 1, 1) := by decide +kernel
theorem dX8_firstChild_19 : decode cX8_firstChild 19 = .ok (.if_icmp .ne 5, 3) := by decide +kernel
theorem dX8_firstChild_22 : decode cX8_firstChild 22 = .ok (.iload_n 2, 1) := by decide +kernel
theorem dX8_firstChild_23 : decode cX8_firstChild 23 = .ok (.ireturn, 1) := by decide +kernel
theorem dX8_firstChild_24 : decode cX8_firstChild 24 = .ok (.iinc 2 1, 3) := by decide +kernel
theorem dX8_firstChild_27 : decode cX8_firstChild 27 = .ok (.goto (-23), 3) := by decide +kernel
theorem dX8_firstChild_30 : decode cX8_firstChild 30 = .ok (.iconst (-1), 1) := by decide +kernel
theorem dX8_firstChild_31 : decode cX8_firstChild 31 = .ok (.ireturn, 1) := by decide +kernel
theorem dX8_within_0 : decode cX8_within 0 = .ok (.iload_n 1, 1) := by decide +kernel
theorem dX8_within_1 : decode cX8_within 1 = .ok (.istore_n 3, 1) := by decide +kernel
theorem dX8_within_2 : decode cX8_within 2 = .ok (.iload_n 3, 1) := by decide +kernel
theorem dX8_within_3 : decode cX8_within 3 = .ok (.iload_n 2, 1) := by decide +kernel
theorem dX8_within_4 : decode cX8_within 4 = .ok (.if_icmp .le 13, 3) := by decide +kernel
theorem dX8_within_7 : decode cX8_within 7 = .ok (.aload_n 0, 1) := by decide +kernel
theorem dX8_within_8 : decode cX8_within 8 = .ok (.getfield 30, 3) := by decide +kernel
theorem dX8_within_11 : decode cX8_within 11 = .ok (.iload_n 3, 1) := by decide +kernel
theorem dX8_within_12 : decode cX8_within 12 = .ok (.iaload, 1) := by decide +kernel
theorem dX8_within_13 : decode cX8_within 13 = .ok (.istore_n 3, 1) := by decide +kernel
theorem dX8_within_14 : decode cX8_within 14 = .ok (.goto (-12), 3) := by decide +kernel
theorem dX8_within_17 : decode cX8_within 17 = .ok (.iload_n 3, 1) := by decide +kernel
theorem dX8_within_18 : decode cX8_within 18 = .ok (.iload_n 2, 1) := by decide +kernel
theorem dX8_within_19 : decode cX8_within 19 = .ok (.if_icmp .ne 7, 3) := by decide +kernel
theorem dX8_within_22 : decode cX8_within 22 = .ok (.iconst 1, 1) := by decide +kernel
theorem dX8_within_23 : decode cX8_within 23 = .ok (.goto 4, 3) := by decide +kernel
theorem dX8_within_26 : decode cX8_within 26 = .ok (.iconst 0, 1) := by decide +kernel
theorem dX8_within_27 : decode cX8_within 27 = .ok (.ireturn, 1) := by decide +kernel
theorem dX8_isActive_0 : decode cX8_isActive 0 = .ok (.iconst 1, 1) := by decide +kernel
theorem dX8_isActive_1 : decode cX8_isActive 1 = .ok (.istore_n 2, 1) := by decide +kernel
theorem dX8_isActive_2 : decode cX8_isActive 2 = .ok (.iload_n 1, 1) := by decide +kernel
theorem dX8_isActive_3 : decode cX8_isActive 3 = .ok (.istore_n 3, 1) := by decide +kernel
theorem dX8_isActive_4 : decode cX8_isActive 4 = .ok (.iload_n 3, 1) := by decide +kernel
theorem dX8_isActive_5 : decode cX8_isActive 5 = .ok (.ifCond .le 52, 3) := by decide +kernel
theorem dX8_isActive_8 : decode cX8_isActive 8 = .ok (.iload_n 2, 1) := by decide +kernel
theorem dX8_isActive_9 : decode cX8_isActive 9 = .ok (.ifCond .eq 36, 3) := by decide +kernel
theorem dX8_isActive_12 : decode cX8_isActive 12 = .ok (.aload_n 0, 1) := by decide +kernel
theorem dX8_isActive_13 : decode cX8_isActive 13 = .ok (.getfield 39, 3) := by decide +kernel
theorem dX8_isActive_16 : decode cX8_isActive 16 = .ok (.aload_n 0, 1) := by decide +kernel
theorem dX8_isActive_17 : decode cX8_isActive 17 = .ok (.getfield 30, 3) := by decide +kernel
theorem dX8_isActive_20 : decode cX8_isActive 20 = .ok (.iload_n 3, 1) := by decide +kernel
theorem dX8_isActive_21 : decode cX8_isActive 21 = .ok (.iaload, 1) := by decide +kernel
theorem dX8_isActive_22 : decode cX8_isActive 22 = .ok (.baload, 1) := by decide +kernel
theorem dX8_isActive_23 : decode cX8_isActive 23 = .ok (.ifCond .ne 18, 3) := by decide +kernel
theorem dX8_isActive_26 : decode cX8_isActive 26 = .ok (.aload_n 0, 1) := by decide +kernel
theorem dX8_isActive_27 : decode cX8_isActive 27 = .ok (.getfield 70, 3) := by decide +kernel
theorem dX8_isActive_30 : decode cX8_isActive 30 = .ok (.aload_n 0, 1) := by decide +kernel
theorem dX8_isActive_31 : decode cX8_isActive 31 = .ok (.getfield 30, 3) := by decide +kernel
theorem dX8_isActive_34 : decode cX8_isActive 34 = .ok (.iload_n 3, 1) := by decide +kernel
theorem dX8_isActive_35 : decode cX8_isActive 35 = .ok (.iaload, 1) := by decide +kernel
theorem dX8_isActive_36 : decode cX8_isActive 36 = .ok (.iaload, 1) := by decide +kernel
theorem dX8_isActive_37 : decode cX8_isActive 37 = .ok (.iload_n 3, 1) := by decide +kernel
theorem dX8_isActive_38 : decode cX8_isActive 38 = .ok (.if_icmp .ne 7, 3) := by decide +kernel
theorem dX8_isActive_41 : decode cX8_isActive 41 = .ok (.iconst 1, 1) := by decide +kernel
theorem dX8_isActive_42 : decode cX8_isActive 42 = .ok (.goto 4, 3) := by decide +kernel
theorem dX8_isActive_45 : decode cX8_isActive 45 = .ok (.iconst 0, 1) := by decide +kernel
theorem dX8_isActive_46 : decode cX8_isActive 46 = .ok (.istore_n 2, 1) := by decide +kernel
theorem dX8_isActive_47 : decode cX8_isActive 47 = .ok (.aload_n 0, 1) := by decide +kernel
theorem dX8_isActive_48 : decode cX8_isActive 48 = .ok (.getfield 30, 3) := by decide +kernel
theorem dX8_isActive_51 : decode cX8_isActive 51 = .ok (.iload_n 3, 1) := by decide +kernel
theorem dX8_isActive_52 : decode cX8_isActive 52 = .ok (.iaload, 1) := by decide +kernel
theorem dX8_isActive_53 : decode cX8_isActive 53 = .ok (.istore_n 3, 1) := by decide +kernel
theorem dX8_isActive_54 : decode cX8_isActive 54 = .ok (.goto (-50), 3) := by decide +kernel
theorem dX8_isActive_57 : decode cX8_isActive 57 = .ok (.iload_n 2, 1) := by decide +kernel
theorem dX8_isActive_58 : decode cX8_isActive 58 = .ok (.ireturn, 1) := by decide +kernel
set_option maxRecDepth 20000 in
theorem ggX8_notes_X8_put : GoodIn wsX8_notes wsX8_put := goodIn_r _ [7, 8, 9, 10, 11, 12, 13, 14, 15, 16, 17, 18, 19, 20, 21, 22, 23, 24, 25, 26, 27, 28, 29, 30, 31, 32, 33, 34, 35, 36, 37, 38, 39, 40, 41, 42, 43, 44, 45, 46, 47, 48] (by decide +kernel) (by decide +kernel)
set_option maxRecDepth 20000 in
theorem gX8_notes_X8_put : GoodIn wsX8_notes (wsV RX8 159 RX8 yX8_put wsX8_put) := goodIn_app (goodIn_of _ (by decide +kernel)) ggX8_notes_X8_put
theorem dX8_notes_0 : decode cX8_notes 0 = .ok (.iconst 0, 1) := by decide +kernel
theorem dX8_notes_1 : decode cX8_notes 1 = .ok (.istore_n 2, 1) := by decide +kernel
theorem dX8_notes_2 : decode cX8_notes 2 = .ok (.iload_n 2, 1) := by decide +kernel
theorem dX8_notes_3 : decode cX8_notes 3 = .ok (.aload_n 0, 1) := by decide +kernel
theorem dX8_notes_4 : decode cX8_notes 4 = .ok (.getfield 36, 3) := by decide +kernel
theorem dX8_notes_7 : decode cX8_notes 7 = .ok (.iload_n 1, 1) := by decide +kernel
theorem dX8_notes_8 : decode cX8_notes 8 = .ok (.iaload, 1) := by decide +kernel
theorem dX8_notes_9 : decode cX8_notes 9 = .ok (.if_icmp .ge 24, 3) := by decide +kernel
theorem dX8_notes_12 : decode cX8_notes 12 = .ok (.aload_n 0, 1) := by decide +kernel
theorem dX8_notes_13 : decode cX8_notes 13 = .ok (.aload_n 0, 1) := by decide +kernel
theorem dX8_notes_14 : decode cX8_notes 14 = .ok (.getfield 27, 3) := by decide +kernel
theorem dX8_notes_17 : decode cX8_notes 17 = .ok (.bipush 6, 2) := by decide +kernel
theorem dX8_notes_19 : decode cX8_notes 19 = .ok (.iload_n 1, 1) := by decide +kernel
theorem dX8_notes_20 : decode cX8_notes 20 = .ok (.imul, 1) := by decide +kernel
theorem dX8_notes_21 : decode cX8_notes 21 = .ok (.iload_n 2, 1) := by decide +kernel
theorem dX8_notes_22 : decode cX8_notes 22 = .ok (.iadd, 1) := by decide +kernel
theorem dX8_notes_23 : decode cX8_notes 23 = .ok (.caload, 1) := by decide +kernel
theorem dX8_notes_24 : decode cX8_notes 24 = .ok (.invokevirtual 159, 3) := by decide +kernel
theorem dX8_notes_27 : decode cX8_notes 27 = .ok (.iinc 2 1, 3) := by decide +kernel
theorem dX8_notes_30 : decode cX8_notes 30 = .ok (.goto (-28), 3) := by decide +kernel
theorem dX8_notes_33 : decode cX8_notes 33 = .ok (.return_, 1) := by decide +kernel
theorem dX8_put_0 : decode cX8_put 0 = .ok (.aload_n 0, 1) := by decide +kernel
theorem dX8_put_1 : decode cX8_put 1 = .ok (.getfield 163, 3) := by decide +kernel
theorem dX8_put_4 : decode cX8_put 4 = .ok (.bipush 40, 2) := by decide +kernel
theorem dX8_put_6 : decode cX8_put 6 = .ok (.if_icmp .ge 13, 3) := by decide +kernel
theorem dX8_put_9 : decode cX8_put 9 = .ok (.aload_n 0, 1) := by decide +kernel
theorem dX8_put_10 : decode cX8_put 10 = .ok (.getfield 73, 3) := by decide +kernel
theorem dX8_put_13 : decode cX8_put 13 = .ok (.aload_n 0, 1) := by decide +kernel
theorem dX8_put_14 : decode cX8_put 14 = .ok (.getfield 163, 3) := by decide +kernel
theorem dX8_put_17 : decode cX8_put 17 = .ok (.iload_n 1, 1) := by decide +kernel
theorem dX8_put_18 : decode cX8_put 18 = .ok (.castore, 1) := by decide +kernel
theorem dX8_put_19 : decode cX8_put 19 = .ok (.aload_n 0, 1) := by decide +kernel
theorem dX8_put_20 : decode cX8_put 20 = .ok (.aload_n 0, 1) := by decide +kernel
theorem dX8_put_21 : decode cX8_put 21 = .ok (.getfield 163, 3) := by decide +kernel
theorem dX8_put_24 : decode cX8_put 24 = .ok (.bipush 40, 2) := by decide +kernel
theorem dX8_put_26 : decode cX8_put 26 = .ok (.if_icmp .ge 12, 3) := by decide +kernel
theorem dX8_put_29 : decode cX8_put 29 = .ok (.aload_n 0, 1) := by decide +kernel
theorem dX8_put_30 : decode cX8_put 30 = .ok (.getfield 163, 3) := by decide +kernel
theorem dX8_put_33 : decode cX8_put 33 = .ok (.iconst 1, 1) := by decide +kernel
theorem dX8_put_34 : decode cX8_put 34 = .ok (.iadd, 1) := by decide +kernel
theorem dX8_put_35 : decode cX8_put 35 = .ok (.goto 5, 3) := by decide +kernel
theorem dX8_put_38 : decode cX8_put 38 = .ok (.bipush 40, 2) := by decide +kernel
theorem dX8_put_40 : decode cX8_put 40 = .ok (.putfield 163, 3) := by decide +kernel
theorem dX8_put_43 : decode cX8_put 43 = .ok (.return_, 1) := by decide +kernel
set_option maxRecDepth 20000 in
theorem ggX8_enter_X8_notes : GoodIn wsX8_enter wsX8_notes := goodIn_r _ [10, 11, 12, 13, 14, 15, 9, 16, 17, 18, 23, 24, 25, 26, 27, 28, 29, 30, 31, 32, 33, 34, 35, 36, 37, 38, 39, 40, 41, 42, 43, 44, 45, 46, 47, 48, 49, 50, 51, 52, 53, 54, 55, 56, 57, 58, 59, 60, 61] (by decide +kernel) (by decide +kernel)
set_option maxRecDepth 20000 in
theorem gX8_enter_X8_notes : GoodIn wsX8_enter (wsV RX8 166 RX8 yX8_notes wsX8_notes) := goodIn_app (goodIn_of _ (by decide +kernel)) ggX8_enter_X8_notes
set_option maxRecDepth 20000 in
theorem ggX8_enter_X8_within : GoodIn wsX8_enter wsX8_within := goodIn_r _ [22, 3, 23, 24, 25, 26, 27, 28, 29, 30, 31, 32, 33, 34, 35, 36, 37, 38, 39, 40, 41, 42, 43, 44, 45, 46, 47, 48, 49, 50, 51, 52, 53, 54, 55, 56, 57, 58, 59, 60, 61] (by decide +kernel) (by decide +kernel)
set_option maxRecDepth 20000 in
theorem gX8_enter_X8_within : GoodIn wsX8_enter (wsV RX8 169 RX8 yX8_within wsX8_within) := goodIn_app (goodIn_of _ (by decide +kernel)) ggX8_enter_X8_within
theorem dX8_enter_0 : decode cX8_enter 0 = .ok (.iconst 1, 1) := by decide +kernel
theorem dX8_enter_1 : decode cX8_enter 1 = .ok (.istore_n 3, 1) := by decide +kernel
theorem dX8_enter_2 : decode cX8_enter 2 = .ok (.aload_n 0, 1) := by decide +kernel
theorem dX8_enter_3 : decode cX8_enter 3 = .ok (.getfield 88, 3) := by decide +kernel
theorem dX8_enter_6 : decode cX8_enter 6 = .ok (.iconst 0, 1) := by decide +kernel
theorem dX8_enter_7 : decode cX8_enter 7 = .ok (.iload_n 1, 1) := by decide +kernel
theorem dX8_enter_8 : decode cX8_enter 8 = .ok (.iastore, 1) := by decide +kernel
theorem dX8_enter_9 : decode cX8_enter 9 = .ok (.iload_n 3, 1) := by decide +kernel
theorem dX8_enter_10 : decode cX8_enter 10 = .ok (.ifCond .le 197, 3) := by decide +kernel
theorem dX8_enter_13 : decode cX8_enter 13 = .ok (.iinc 3 (-1), 3) := by decide +kernel
theorem dX8_enter_16 : decode cX8_enter 16 = .ok (.aload_n 0, 1) := by decide +kernel
theorem dX8_enter_17 : decode cX8_enter 17 = .ok (.getfield 88, 3) := by decide +kernel
theorem dX8_enter_20 : decode cX8_enter 20 = .ok (.iload_n 3, 1) := by decide +kernel
theorem dX8_enter_21 : decode cX8_enter 21 = .ok (.iaload, 1) := by decide +kernel
theorem dX8_enter_22 : decode cX8_enter 22 = .ok (.istore 4, 2) := by decide +kernel
theorem dX8_enter_24 : decode cX8_enter 24 = .ok (.aload_n 0, 1) := by decide +kernel
theorem dX8_enter_25 : decode cX8_enter 25 = .ok (.iconst 2, 1) := by decide +kernel
theorem dX8_enter_26 : decode cX8_enter 26 = .ok (.iload 4, 2) := by decide +kernel
theorem dX8_enter_28 : decode cX8_enter 28 = .ok (.imul, 1) := by decide +kernel
theorem dX8_enter_29 : decode cX8_enter 29 = .ok (.invokevirtual 166, 3) := by decide +kernel
theorem dX8_enter_32 : decode cX8_enter 32 = .ok (.iload_n 2, 1) := by decide +kernel
theorem dX8_enter_33 : decode cX8_enter 33 = .ok (.ifCond .lt 23, 3) := by decide +kernel
theorem dX8_enter_36 : decode cX8_enter 36 = .ok (.iload_n 2, 1) := by decide +kernel
theorem dX8_enter_37 : decode cX8_enter 37 = .ok (.iload 4, 2) := by decide +kernel
theorem dX8_enter_39 : decode cX8_enter 39 = .ok (.if_icmp .eq 17, 3) := by decide +kernel
theorem dX8_enter_42 : decode cX8_enter 42 = .ok (.aload_n 0, 1) := by decide +kernel
theorem dX8_enter_43 : decode cX8_enter 43 = .ok (.iload_n 2, 1) := by decide +kernel
theorem dX8_enter_44 : decode cX8_enter 44 = .ok (.iload 4, 2) := by decide +kernel
theorem dX8_enter_46 : decode cX8_enter 46 = .ok (.invokevirtual 169, 3) := by decide +kernel
theorem dX8_enter_49 : decode cX8_enter 49 = .ok (.ifCond .eq 7, 3) := by decide +kernel
theorem dX8_enter_52 : decode cX8_enter 52 = .ok (.iconst 1, 1) := by decide +kernel
theorem dX8_enter_53 : decode cX8_enter 53 = .ok (.goto 4, 3) := by decide +kernel
theorem dX8_enter_56 : decode cX8_enter 56 = .ok (.iconst 0, 1) := by decide +kernel
theorem dX8_enter_57 : decode cX8_enter 57 = .ok (.istore 5, 2) := by decide +kernel
theorem dX8_enter_59 : decode cX8_enter 59 = .ok (.aload_n 0, 1) := by decide +kernel
theorem dX8_enter_60 : decode cX8_enter 60 = .ok (.getfield 20, 3) := by decide +kernel
theorem dX8_enter_63 : decode cX8_enter 63 = .ok (.iconst 1, 1) := by decide +kernel
theorem dX8_enter_64 : decode cX8_enter 64 = .ok (.isub, 1) := by decide +kernel
theorem dX8_enter_65 : decode cX8_enter 65 = .ok (.istore 6, 2) := by decide +kernel
theorem dX8_enter_67 : decode cX8_enter 67 = .ok (.iload 6, 2) := by decide +kernel
theorem dX8_enter_69 : decode cX8_enter 69 = .ok (.iload 4, 2) := by decide +kernel
theorem dX8_enter_71 : decode cX8_enter 71 = .ok (.if_icmp .le 67, 3) := by decide +kernel
theorem dX8_enter_74 : decode cX8_enter 74 = .ok (.iload 5, 2) := by decide +kernel
theorem dX8_enter_76 : decode cX8_enter 76 = .ok (.ifCond .eq 17, 3) := by decide +kernel
theorem dX8_enter_79 : decode cX8_enter 79 = .ok (.aload_n 0, 1) := by decide +kernel
theorem dX8_enter_80 : decode cX8_enter 80 = .ok (.iload_n 2, 1) := by decide +kernel
theorem dX8_enter_81 : decode cX8_enter 81 = .ok (.iload 6, 2) := by decide +kernel
theorem dX8_enter_83 : decode cX8_enter 83 = .ok (.invokevirtual 169, 3) := by decide +kernel
theorem dX8_enter_86 : decode cX8_enter 86 = .ok (.ifCond .eq 7, 3) := by decide +kernel
theorem dX8_enter_89 : decode cX8_enter 89 = .ok (.iconst 1, 1) := by decide +kernel
theorem dX8_enter_90 : decode cX8_enter 90 = .ok (.goto 4, 3) := by decide +kernel
theorem dX8_enter_93 : decode cX8_enter 93 = .ok (.iconst 0, 1) := by decide +kernel
theorem dX8_enter_94 : decode cX8_enter 94 = .ok (.istore 7, 2) := by decide +kernel
theorem dX8_enter_96 : decode cX8_enter 96 = .ok (.aload_n 0, 1) := by decide +kernel
theorem dX8_enter_97 : decode cX8_enter 97 = .ok (.getfield 30, 3) := by decide +kernel
theorem dX8_enter_100 : decode cX8_enter 100 = .ok (.iload 6, 2) := by decide +kernel
theorem dX8_enter_102 : decode cX8_enter 102 = .ok (.iaload, 1) := by decide +kernel
theorem dX8_enter_103 : decode cX8_enter 103 = .ok (.iload 4, 2) := by decide +kernel
theorem dX8_enter_105 : decode cX8_enter 105 = .ok (.if_icmp .ne 27, 3) := by decide +kernel
theorem dX8_enter_108 : decode cX8_enter 108 = .ok (.aload_n 0, 1) := by decide +kernel
theorem dX8_enter_109 : decode cX8_enter 109 = .ok (.getfield 39, 3) := by decide +kernel
theorem dX8_enter_112 : decode cX8_enter 112 = .ok (.iload 4, 2) := by decide +kernel
theorem dX8_enter_114 : decode cX8_enter 114 = .ok (.baload, 1) := by decide +kernel
theorem dX8_enter_115 : decode cX8_enter 115 = .ok (.ifCond .ne 17, 3) := by decide +kernel
theorem dX8_enter_118 : decode cX8_enter 118 = .ok (.iload 7, 2) := by decide +kernel
theorem dX8_enter_120 : decode cX8_enter 120 = .ok (.ifCond .eq 12, 3) := by decide +kernel
theorem dX8_enter_123 : decode cX8_enter 123 = .ok (.aload_n 0, 1) := by decide +kernel
theorem dX8_enter_124 : decode cX8_enter 124 = .ok (.getfield 70, 3) := by decide +kernel
theorem dX8_enter_127 : decode cX8_enter 127 = .ok (.iload 4, 2) := by decide +kernel
theorem dX8_enter_129 : decode cX8_enter 129 = .ok (.iload 6, 2) := by decide +kernel
theorem dX8_enter_131 : decode cX8_enter 131 = .ok (.iastore, 1) := by decide +kernel
theorem dX8_enter_132 : decode cX8_enter 132 = .ok (.iinc 6 (-1), 3) := by decide +kernel
theorem dX8_enter_135 : decode cX8_enter 135 = .ok (.goto (-68), 3) := by decide +kernel
theorem dX8_enter_138 : decode cX8_enter 138 = .ok (.aload_n 0, 1) := by decide +kernel
theorem dX8_enter_139 : decode cX8_enter 139 = .ok (.getfield 20, 3) := by decide +kernel
theorem dX8_enter_142 : decode cX8_enter 142 = .ok (.iconst 1, 1) := by decide +kernel
theorem dX8_enter_143 : decode cX8_enter 143 = .ok (.isub, 1) := by decide +kernel
theorem dX8_enter_144 : decode cX8_enter 144 = .ok (.istore 6, 2) := by decide +kernel
theorem dX8_enter_146 : decode cX8_enter 146 = .ok (.iload 6, 2) := by decide +kernel
theorem dX8_enter_148 : decode cX8_enter 148 = .ok (.iload 4, 2) := by decide +kernel
theorem dX8_enter_150 : decode cX8_enter 150 = .ok (.if_icmp .le 54, 3) := by decide +kernel
theorem dX8_enter_153 : decode cX8_enter 153 = .ok (.aload_n 0, 1) := by decide +kernel
theorem dX8_enter_154 : decode cX8_enter 154 = .ok (.getfield 30, 3) := by decide +kernel
theorem dX8_enter_157 : decode cX8_enter 157 = .ok (.iload 6, 2) := by decide +kernel
theorem dX8_enter_159 : decode cX8_enter 159 = .ok (.iaload, 1) := by decide +kernel
theorem dX8_enter_160 : decode cX8_enter 160 = .ok (.iload 4, 2) := by decide +kernel
theorem dX8_enter_162 : decode cX8_enter 162 = .ok (.if_icmp .ne 36, 3) := by decide +kernel
theorem dX8_enter_165 : decode cX8_enter 165 = .ok (.aload_n 0, 1) := by decide +kernel
theorem dX8_enter_166 : decode cX8_enter 166 = .ok (.getfield 39, 3) := by decide +kernel
theorem dX8_enter_169 : decode cX8_enter 169 = .ok (.iload 4, 2) := by decide +kernel
theorem dX8_enter_171 : decode cX8_enter 171 = .ok (.baload, 1) := by decide +kernel
theorem dX8_enter_172 : decode cX8_enter 172 = .ok (.ifCond .ne 15, 3) := by decide +kernel
theorem dX8_enter_175 : decode cX8_enter 175 = .ok (.aload_n 0, 1) := by decide +kernel
theorem dX8_enter_176 : decode cX8_enter 176 = .ok (.getfield 70, 3) := by decide +kernel
theorem dX8_enter_179 : decode cX8_enter 179 = .ok (.iload 4, 2) := by decide +kernel
theorem dX8_enter_181 : decode cX8_enter 181 = .ok (.iaload, 1) := by decide +kernel
theorem dX8_enter_182 : decode cX8_enter 182 = .ok (.iload 6, 2) := by decide +kernel
theorem dX8_enter_184 : decode cX8_enter 184 = .ok (.if_icmp .ne 14, 3) := by decide +kernel
theorem dX8_enter_187 : decode cX8_enter 187 = .ok (.aload_n 0, 1) := by decide +kernel
theorem dX8_enter_188 : decode cX8_enter 188 = .ok (.getfield 88, 3) := by decide +kernel
theorem dX8_enter_191 : decode cX8_enter 191 = .ok (.iload_n 3, 1) := by decide +kernel
theorem dX8_enter_192 : decode cX8_enter 192 = .ok (.iload 6, 2) := by decide +kernel
theorem dX8_enter_194 : decode cX8_enter 194 = .ok (.iastore, 1) := by decide +kernel
theorem dX8_enter_195 : decode cX8_enter 195 = .ok (.iinc 3 1, 3) := by decide +kernel
theorem dX8_enter_198 : decode cX8_enter 198 = .ok (.iinc 6 (-1), 3) := by decide +kernel
theorem dX8_enter_201 : decode cX8_enter 201 = .ok (.goto (-55), 3) := by decide +kernel
theorem dX8_enter_204 : decode cX8_enter 204 = .ok (.goto (-195), 3) := by decide +kernel
theorem dX8_enter_207 : decode cX8_enter 207 = .ok (.return_, 1) := by decide +kernel
set_option maxRecDepth 20000 in
theorem ggX8_leave_X8_notes : GoodIn wsX8_leave wsX8_notes := goodIn_r _ [12, 13, 14, 15, 16, 17, 11, 18, 19, 20, 29, 30, 31, 32, 33, 34, 35, 36, 37, 38, 39, 40, 41, 42, 43, 44, 45, 46, 47, 48, 49, 50, 51, 52, 53, 54, 55, 56, 57, 58, 59, 60, 61, 62, 63, 64, 65, 66, 67] (by decide +kernel) (by decide +kernel)
set_option maxRecDepth 20000 in
theorem gX8_leave_X8_notes : GoodIn wsX8_leave (wsV RX8 166 RX8 yX8_notes wsX8_notes) := goodIn_app (goodIn_of _ (by decide +kernel)) ggX8_leave_X8_notes
set_option maxRecDepth 20000 in
theorem ggX8_leave_X8_firstOf : GoodIn wsX8_leave wsX8_firstOf := goodIn_r _ [24, 5, 25, 26, 27, 11, 28, 3, 4, 29, 30, 31, 32, 33, 34, 35, 36, 37, 38, 39, 40, 41, 42, 43, 44, 45, 46, 47, 48, 49, 50, 51, 52, 53, 54, 55, 56, 57, 58, 59, 60, 61, 62, 63, 64, 65, 66, 67] (by decide +kernel) (by decide +kernel)
set_option maxRecDepth 20000 in
theorem gX8_leave_X8_firstOf : GoodIn wsX8_leave (wsV RX8 172 RX8 yX8_firstOf wsX8_firstOf) := goodIn_app (goodIn_of _ (by decide +kernel)) ggX8_leave_X8_firstOf
theorem dX8_leave_0 : decode cX8_leave 0 = .ok (.iconst 0, 1) := by decide +kernel
theorem dX8_leave_1 : decode cX8_leave 1 = .ok (.istore_n 2, 1) := by decide +kernel
theorem dX8_leave_2 : decode cX8_leave 2 = .ok (.iconst 1, 1) := by decide +kernel
theorem dX8_leave_3 : decode cX8_leave 3 = .ok (.istore_n 3, 1) := by decide +kernel
theorem dX8_leave_4 : decode cX8_leave 4 = .ok (.aload_n 0, 1) := by decide +kernel
theorem dX8_leave_5 : decode cX8_leave 5 = .ok (.getfield 88, 3) := by decide +kernel
theorem dX8_leave_8 : decode cX8_leave 8 = .ok (.iconst 0, 1) := by decide +kernel
theorem dX8_leave_9 : decode cX8_leave 9 = .ok (.iload_n 1, 1) := by decide +kernel
theorem dX8_leave_10 : decode cX8_leave 10 = .ok (.iastore, 1) := by decide +kernel
theorem dX8_leave_11 : decode cX8_leave 11 = .ok (.iload_n 3, 1) := by decide +kernel
theorem dX8_leave_12 : decode cX8_leave 12 = .ok (.ifCond .le 94, 3) := by decide +kernel
theorem dX8_leave_15 : decode cX8_leave 15 = .ok (.iinc 3 (-1), 3) := by decide +kernel
theorem dX8_leave_18 : decode cX8_leave 18 = .ok (.aload_n 0, 1) := by decide +kernel
theorem dX8_leave_19 : decode cX8_leave 19 = .ok (.getfield 88, 3) := by decide +kernel
theorem dX8_leave_22 : decode cX8_leave 22 = .ok (.iload_n 3, 1) := by decide +kernel
theorem dX8_leave_23 : decode cX8_leave 23 = .ok (.iaload, 1) := by decide +kernel
theorem dX8_leave_24 : decode cX8_leave 24 = .ok (.istore 4, 2) := by decide +kernel
theorem dX8_leave_26 : decode cX8_leave 26 = .ok (.aload_n 0, 1) := by decide +kernel
theorem dX8_leave_27 : decode cX8_leave 27 = .ok (.getfield 91, 3) := by decide +kernel
theorem dX8_leave_30 : decode cX8_leave 30 = .ok (.iload_n 2, 1) := by decide +kernel
theorem dX8_leave_31 : decode cX8_leave 31 = .ok (.iload 4, 2) := by decide +kernel
theorem dX8_leave_33 : decode cX8_leave 33 = .ok (.iastore, 1) := by decide +kernel
theorem dX8_leave_34 : decode cX8_leave 34 = .ok (.iinc 2 1, 3) := by decide +kernel
theorem dX8_leave_37 : decode cX8_leave 37 = .ok (.aload_n 0, 1) := by decide +kernel
theorem dX8_leave_38 : decode cX8_leave 38 = .ok (.getfield 20, 3) := by decide +kernel
theorem dX8_leave_41 : decode cX8_leave 41 = .ok (.iconst 1, 1) := by decide +kernel
theorem dX8_leave_42 : decode cX8_leave 42 = .ok (.isub, 1) := by decide +kernel
theorem dX8_leave_43 : decode cX8_leave 43 = .ok (.istore 5, 2) := by decide +kernel
theorem dX8_leave_45 : decode cX8_leave 45 = .ok (.iload 5, 2) := by decide +kernel
theorem dX8_leave_47 : decode cX8_leave 47 = .ok (.iload 4, 2) := by decide +kernel
theorem dX8_leave_49 : decode cX8_leave 49 = .ok (.if_icmp .le 54, 3) := by decide +kernel
theorem dX8_leave_52 : decode cX8_leave 52 = .ok (.aload_n 0, 1) := by decide +kernel
theorem dX8_leave_53 : decode cX8_leave 53 = .ok (.getfield 30, 3) := by decide +kernel
theorem dX8_leave_56 : decode cX8_leave 56 = .ok (.iload 5, 2) := by decide +kernel
theorem dX8_leave_58 : decode cX8_leave 58 = .ok (.iaload, 1) := by decide +kernel
theorem dX8_leave_59 : decode cX8_leave 59 = .ok (.iload 4, 2) := by decide +kernel
theorem dX8_leave_61 : decode cX8_leave 61 = .ok (.if_icmp .ne 36, 3) := by decide +kernel
theorem dX8_leave_64 : decode cX8_leave 64 = .ok (.aload_n 0, 1) := by decide +kernel
theorem dX8_leave_65 : decode cX8_leave 65 = .ok (.getfield 39, 3) := by decide +kernel
theorem dX8_leave_68 : decode cX8_leave 68 = .ok (.iload 4, 2) := by decide +kernel
theorem dX8_leave_70 : decode cX8_leave 70 = .ok (.baload, 1) := by decide +kernel
theorem dX8_leave_71 : decode cX8_leave 71 = .ok (.ifCond .ne 15, 3) := by decide +kernel
theorem dX8_leave_74 : decode cX8_leave 74 = .ok (.aload_n 0, 1) := by decide +kernel
theorem dX8_leave_75 : decode cX8_leave 75 = .ok (.getfield 70, 3) := by decide +kernel
theorem dX8_leave_78 : decode cX8_leave 78 = .ok (.iload 4, 2) := by decide +kernel
theorem dX8_leave_80 : decode cX8_leave 80 = .ok (.iaload, 1) := by decide +kernel
theorem dX8_leave_81 : decode cX8_leave 81 = .ok (.iload 5, 2) := by decide +kernel
theorem dX8_leave_83 : decode cX8_leave 83 = .ok (.if_icmp .ne 14, 3) := by decide +kernel
theorem dX8_leave_86 : decode cX8_leave 86 = .ok (.aload_n 0, 1) := by decide +kernel
theorem dX8_leave_87 : decode cX8_leave 87 = .ok (.getfield 88, 3) := by decide +kernel
theorem dX8_leave_90 : decode cX8_leave 90 = .ok (.iload_n 3, 1) := by decide +kernel
theorem dX8_leave_91 : decode cX8_leave 91 = .ok (.iload 5, 2) := by decide +kernel
theorem dX8_leave_93 : decode cX8_leave 93 = .ok (.iastore, 1) := by decide +kernel
theorem dX8_leave_94 : decode cX8_leave 94 = .ok (.iinc 3 1, 3) := by decide +kernel
theorem dX8_leave_97 : decode cX8_leave 97 = .ok (.iinc 5 (-1), 3) := by decide +kernel
theorem dX8_leave_100 : decode cX8_leave 100 = .ok (.goto (-55), 3) := by decide +kernel
theorem dX8_leave_103 : decode cX8_leave 103 = .ok (.goto (-92), 3) := by decide +kernel
theorem dX8_leave_106 : decode cX8_leave 106 = .ok (.iload_n 2, 1) := by decide +kernel
theorem dX8_leave_107 : decode cX8_leave 107 = .ok (.iconst 1, 1) := by decide +kernel
theorem dX8_leave_108 : decode cX8_leave 108 = .ok (.isub, 1) := by decide +kernel
theorem dX8_leave_109 : decode cX8_leave 109 = .ok (.istore 4, 2) := by decide +kernel
theorem dX8_leave_111 : decode cX8_leave 111 = .ok (.iload 4, 2) := by decide +kernel
theorem dX8_leave_113 : decode cX8_leave 113 = .ok (.ifCond .lt 62, 3) := by decide +kernel
theorem dX8_leave_116 : decode cX8_leave 116 = .ok (.aload_n 0, 1) := by decide +kernel
theorem dX8_leave_117 : decode cX8_leave 117 = .ok (.iconst 2, 1) := by decide +kernel
theorem dX8_leave_118 : decode cX8_leave 118 = .ok (.aload_n 0, 1) := by decide +kernel
theorem dX8_leave_119 : decode cX8_leave 119 = .ok (.getfield 91, 3) := by decide +kernel
theorem dX8_leave_122 : decode cX8_leave 122 = .ok (.iload 4, 2) := by decide +kernel
theorem dX8_leave_124 : decode cX8_leave 124 = .ok (.iaload, 1) := by decide +kernel
theorem dX8_leave_125 : decode cX8_leave 125 = .ok (.imul, 1) := by decide +kernel
theorem dX8_leave_126 : decode cX8_leave 126 = .ok (.iconst 1, 1) := by decide +kernel
theorem dX8_leave_127 : decode cX8_leave 127 = .ok (.iadd, 1) := by decide +kernel
theorem dX8_leave_128 : decode cX8_leave 128 = .ok (.invokevirtual 166, 3) := by decide +kernel
theorem dX8_leave_131 : decode cX8_leave 131 = .ok (.aload_n 0, 1) := by decide +kernel
theorem dX8_leave_132 : decode cX8_leave 132 = .ok (.getfield 43, 3) := by decide +kernel
theorem dX8_leave_135 : decode cX8_leave 135 = .ok (.aload_n 0, 1) := by decide +kernel
theorem dX8_leave_136 : decode cX8_leave 136 = .ok (.getfield 91, 3) := by decide +kernel
theorem dX8_leave_139 : decode cX8_leave 139 = .ok (.iload 4, 2) := by decide +kernel
theorem dX8_leave_141 : decode cX8_leave 141 = .ok (.iaload, 1) := by decide +kernel
theorem dX8_leave_142 : decode cX8_leave 142 = .ok (.baload, 1) := by decide +kernel
theorem dX8_leave_143 : decode cX8_leave 143 = .ok (.ifCond .ne 26, 3) := by decide +kernel
theorem dX8_leave_146 : decode cX8_leave 146 = .ok (.aload_n 0, 1) := by decide +kernel
theorem dX8_leave_147 : decode cX8_leave 147 = .ok (.getfield 70, 3) := by decide +kernel
theorem dX8_leave_150 : decode cX8_leave 150 = .ok (.aload_n 0, 1) := by decide +kernel
theorem dX8_leave_151 : decode cX8_leave 151 = .ok (.getfield 91, 3) := by decide +kernel
theorem dX8_leave_154 : decode cX8_leave 154 = .ok (.iload 4, 2) := by decide +kernel
theorem dX8_leave_156 : decode cX8_leave 156 = .ok (.iaload, 1) := by decide +kernel
theorem dX8_leave_157 : decode cX8_leave 157 = .ok (.aload_n 0, 1) := by decide +kernel
theorem dX8_leave_158 : decode cX8_leave 158 = .ok (.aload_n 0, 1) := by decide +kernel
theorem dX8_leave_159 : decode cX8_leave 159 = .ok (.getfield 91, 3) := by decide +kernel
theorem dX8_leave_162 : decode cX8_leave 162 = .ok (.iload 4, 2) := by decide +kernel
theorem dX8_leave_164 : decode cX8_leave 164 = .ok (.iaload, 1) := by decide +kernel
theorem dX8_leave_165 : decode cX8_leave 165 = .ok (.invokevirtual 172, 3) := by decide +kernel
theorem dX8_leave_168 : decode cX8_leave 168 = .ok (.iastore, 1) := by decide +kernel
theorem dX8_leave_169 : decode cX8_leave 169 = .ok (.iinc 4 (-1), 3) := by decide +kernel
theorem dX8_leave_172 : decode cX8_leave 172 = .ok (.goto (-61), 3) := by decide +kernel
theorem dX8_leave_175 : decode cX8_leave 175 = .ok (.return_, 1) := by decide +kernel
set_option maxRecDepth 20000 in
theorem ggX8_firstOf_X8_firstChild : GoodIn wsX8_firstOf wsX8_firstChild := goodIn_r _ [6, 7, 8, 9, 10, 11, 12, 13, 14, 15, 16, 17, 18, 19, 20, 21, 22, 23, 24, 25, 26, 27, 28, 29, 30, 31, 32, 33, 34, 35, 36, 37, 38, 39, 40, 41, 42, 43, 44, 45, 46, 47] (by decide +kernel) (by decide +kernel)
set_option maxRecDepth 20000 in
theorem gX8_firstOf_X8_firstChild : GoodIn wsX8_firstOf (wsV RX8 175 RX8 yX8_firstChild wsX8_firstChild) := goodIn_app (goodIn_of _ (by decide +kernel)) ggX8_firstOf_X8_firstChild
theorem dX8_firstOf_0 : decode cX8_firstOf 0 = .ok (.aload_n 0, 1) := by decide +kernel
theorem dX8_firstOf_1 : decode cX8_firstOf 1 = .ok (.getfield 39, 3) := by decide +kernel
theorem dX8_firstOf_4 : decode cX8_firstOf 4 = .ok (.iload_n 1, 1) := by decide +kernel
theorem dX8_firstOf_5 : decode cX8_firstOf 5 = .ok (.baload, 1) := by decide +kernel
theorem dX8_firstOf_6 : decode cX8_firstOf 6 = .ok (.ifCond .eq 7, 3) := by decide +kernel
theorem dX8_firstOf_9 : decode cX8_firstOf 9 = .ok (.iconst (-1), 1) := by decide +kernel
theorem dX8_firstOf_10 : decode cX8_firstOf 10 = .ok (.goto 8, 3) := by decide +kernel
theorem dX8_firstOf_13 : decode cX8_firstOf 13 = .ok (.aload_n 0, 1) := by decide +kernel
theorem dX8_firstOf_14 : decode cX8_firstOf 14 = .ok (.iload_n 1, 1) := by decide +kernel
theorem dX8_firstOf_15 : decode cX8_firstOf 15 = .ok (.invokevirtual 175, 3) := by decide +kernel
theorem dX8_firstOf_18 : decode cX8_firstOf 18 = .ok (.ireturn, 1) := by decide +kernel
set_option maxRecDepth 20000 in
theorem ggX8_own_X8_isActive : GoodIn wsX8_own wsX8_isActive := goodIn_r _ [10, 11, 12, 13, 58, 59, 60, 61, 62, 63, 64, 65, 66, 67, 68, 69, 70, 71, 72, 73, 74, 75, 76, 77, 78, 79, 80, 81, 82, 83, 84, 85, 86, 87, 88, 89, 90, 91, 92, 93, 94, 95, 96] (by decide +kernel) (by decide +kernel)
set_option maxRecDepth 20000 in
theorem gX8_own_X8_isActive : GoodIn wsX8_own (wsV RX8 178 RX8 yX8_isActive wsX8_isActive) := goodIn_app (goodIn_of _ (by decide +kernel)) ggX8_own_X8_isActive
set_option maxRecDepth 20000 in
theorem ggX8_own_X8_take : GoodIn wsX8_own wsX8_take := goodIn_r _ [17, 18, 12, 4, 11, 13, 19, 20, 21, 22, 23, 24, 9, 25, 26, 27, 28, 29, 30, 31, 32, 33, 34, 35, 36, 37, 38, 39, 40, 41, 42, 43, 44, 45, 46, 47, 48, 49, 50, 51, 52, 53, 54, 55, 56, 57, 58, 59, 60, 61, 62, 63, 64, 65, 66, 67, 68, 69, 70, 71, 72, 73, 74, 75, 76, 77, 78, 79, 80, 81, 82, 83, 84, 85, 86, 87, 88, 89, 90, 91, 92, 93, 94, 95, 96] (by decide +kernel) (by decide +kernel)
set_option maxRecDepth 20000 in
theorem gX8_own_X8_take : GoodIn wsX8_own (wsV RX8 182 RX8 yX8_take wsX8_take) := goodIn_app (goodIn_of _ (by decide +kernel)) ggX8_own_X8_take
theorem dX8_own_0 : decode cX8_own 0 = .ok (.iconst 0, 1) := by decide +kernel
theorem dX8_own_1 : decode cX8_own 1 = .ok (.istore_n 3, 1) := by decide +kernel
theorem dX8_own_2 : decode cX8_own 2 = .ok (.iload_n 3, 1) := by decide +kernel
theorem dX8_own_3 : decode cX8_own 3 = .ok (.aload_n 0, 1) := by decide +kernel
theorem dX8_own_4 : decode cX8_own 4 = .ok (.getfield 156, 3) := by decide +kernel
theorem dX8_own_7 : decode cX8_own 7 = .ok (.if_icmp .ge 84, 3) := by decide +kernel
theorem dX8_own_10 : decode cX8_own 10 = .ok (.aload_n 0, 1) := by decide +kernel
theorem dX8_own_11 : decode cX8_own 11 = .ok (.getfield 61, 3) := by decide +kernel
theorem dX8_own_14 : decode cX8_own 14 = .ok (.iload_n 3, 1) := by decide +kernel
theorem dX8_own_15 : decode cX8_own 15 = .ok (.iaload, 1) := by decide +kernel
theorem dX8_own_16 : decode cX8_own 16 = .ok (.ifCond .eq 31, 3) := by decide +kernel
theorem dX8_own_19 : decode cX8_own 19 = .ok (.aload_n 0, 1) := by decide +kernel
theorem dX8_own_20 : decode cX8_own 20 = .ok (.aload_n 0, 1) := by decide +kernel
theorem dX8_own_21 : decode cX8_own 21 = .ok (.getfield 64, 3) := by decide +kernel
theorem dX8_own_24 : decode cX8_own 24 = .ok (.iload_n 3, 1) := by decide +kernel
theorem dX8_own_25 : decode cX8_own 25 = .ok (.iaload, 1) := by decide +kernel
theorem dX8_own_26 : decode cX8_own 26 = .ok (.invokevirtual 178, 3) := by decide +kernel
theorem dX8_own_29 : decode cX8_own 29 = .ok (.aload_n 0, 1) := by decide +kernel
theorem dX8_own_30 : decode cX8_own 30 = .ok (.getfield 61, 3) := by decide +kernel
theorem dX8_own_33 : decode cX8_own 33 = .ok (.iload_n 3, 1) := by decide +kernel
theorem dX8_own_34 : decode cX8_own 34 = .ok (.iaload, 1) := by decide +kernel
theorem dX8_own_35 : decode cX8_own 35 = .ok (.iconst 1, 1) := by decide +kernel
theorem dX8_own_36 : decode cX8_own 36 = .ok (.if_icmp .ne 7, 3) := by decide +kernel
theorem dX8_own_39 : decode cX8_own 39 = .ok (.iconst 1, 1) := by decide +kernel
theorem dX8_own_40 : decode cX8_own 40 = .ok (.goto 4, 3) := by decide +kernel
theorem dX8_own_43 : decode cX8_own 43 = .ok (.iconst 0, 1) := by decide +kernel
theorem dX8_own_44 : decode cX8_own 44 = .ok (.if_icmp .ne 7, 3) := by decide +kernel
theorem dX8_own_47 : decode cX8_own 47 = .ok (.iconst 1, 1) := by decide +kernel
theorem dX8_own_48 : decode cX8_own 48 = .ok (.goto 4, 3) := by decide +kernel
theorem dX8_own_51 : decode cX8_own 51 = .ok (.iconst 0, 1) := by decide +kernel
theorem dX8_own_52 : decode cX8_own 52 = .ok (.istore 4, 2) := by decide +kernel
theorem dX8_own_54 : decode cX8_own 54 = .ok (.aload_n 0, 1) := by decide +kernel
theorem dX8_own_55 : decode cX8_own 55 = .ok (.getfield 55, 3) := by decide +kernel
theorem dX8_own_58 : decode cX8_own 58 = .ok (.iload_n 3, 1) := by decide +kernel
theorem dX8_own_59 : decode cX8_own 59 = .ok (.iaload, 1) := by decide +kernel
theorem dX8_own_60 : decode cX8_own 60 = .ok (.iload_n 1, 1) := by decide +kernel
theorem dX8_own_61 : decode cX8_own 61 = .ok (.if_icmp .ne 24, 3) := by decide +kernel
theorem dX8_own_64 : decode cX8_own 64 = .ok (.aload_n 0, 1) := by decide +kernel
theorem dX8_own_65 : decode cX8_own 65 = .ok (.getfield 52, 3) := by decide +kernel
theorem dX8_own_68 : decode cX8_own 68 = .ok (.iload_n 3, 1) := by decide +kernel
theorem dX8_own_69 : decode cX8_own 69 = .ok (.iaload, 1) := by decide +kernel
theorem dX8_own_70 : decode cX8_own 70 = .ok (.iload_n 2, 1) := by decide +kernel
theorem dX8_own_71 : decode cX8_own 71 = .ok (.if_icmp .ne 14, 3) := by decide +kernel
theorem dX8_own_74 : decode cX8_own 74 = .ok (.iload 4, 2) := by decide +kernel
theorem dX8_own_76 : decode cX8_own 76 = .ok (.ifCond .eq 9, 3) := by decide +kernel
theorem dX8_own_79 : decode cX8_own 79 = .ok (.aload_n 0, 1) := by decide +kernel
theorem dX8_own_80 : decode cX8_own 80 = .ok (.iload_n 3, 1) := by decide +kernel
theorem dX8_own_81 : decode cX8_own 81 = .ok (.invokevirtual 182, 3) := by decide +kernel
theorem dX8_own_84 : decode cX8_own 84 = .ok (.ireturn, 1) := by decide +kernel
theorem dX8_own_85 : decode cX8_own 85 = .ok (.iinc 3 1, 3) := by decide +kernel
theorem dX8_own_88 : decode cX8_own 88 = .ok (.goto (-86), 3) := by decide +kernel
theorem dX8_own_91 : decode cX8_own 91 = .ok (.bipush 99, 2) := by decide +kernel
theorem dX8_own_93 : decode cX8_own 93 = .ok (.ireturn, 1) := by decide +kernel
set_option maxRecDepth 20000 in
theorem ggX8_take_X8_within : GoodIn wsX8_take wsX8_within := goodIn_r _ [13, 2, 46, 47, 48, 49, 50, 51, 52, 53, 54, 55, 56, 57, 58, 59, 60, 61, 62, 63, 64, 65, 66, 67, 68, 69, 70, 71, 72, 73, 74, 75, 76, 77, 78, 79, 80, 81, 82, 83, 84] (by decide +kernel) (by decide +kernel)
set_option maxRecDepth 20000 in
theorem gX8_take_X8_within : GoodIn wsX8_take (wsV RX8 169 RX8 yX8_within wsX8_within) := goodIn_app (goodIn_of _ (by decide +kernel)) ggX8_take_X8_within
set_option maxRecDepth 20000 in
theorem ggX8_take_X8_leave : GoodIn wsX8_take wsX8_leave := goodIn_r _ [17, 18, 19, 20, 2, 4, 5, 21, 22, 23, 24, 12, 25, 26, 27, 28, 29, 30, 31, 32, 33, 34, 35, 36, 37, 38, 39, 40, 41, 46, 47, 48, 49, 50, 51, 52, 53, 54, 55, 56, 57, 58, 59, 60, 61, 62, 63, 64, 65, 66, 67, 68, 69, 70, 71, 72, 73, 74, 75, 76, 77, 78, 79, 80, 81, 82, 83, 84] (by decide +kernel) (by decide +kernel)
set_option maxRecDepth 20000 in
theorem gX8_take_X8_leave : GoodIn wsX8_take (wsV RX8 185 RX8 yX8_leave wsX8_leave) := goodIn_app (goodIn_of _ (by decide +kernel)) ggX8_take_X8_leave
set_option maxRecDepth 20000 in
theorem ggX8_take_X8_put : GoodIn wsX8_take wsX8_put := goodIn_r _ [31, 32, 33, 46, 47, 48, 49, 50, 51, 52, 53, 54, 55, 56, 57, 58, 59, 60, 61, 62, 63, 64, 65, 66, 67, 68, 69, 70, 71, 72, 73, 74, 75, 76, 77, 78, 79, 80, 81, 82, 83, 84] (by decide +kernel) (by decide +kernel)
set_option maxRecDepth 20000 in
theorem gX8_take_X8_put : GoodIn wsX8_take (wsV RX8 159 RX8 yX8_put wsX8_put) := goodIn_app (goodIn_of _ (by decide +kernel)) ggX8_take_X8_put
set_option maxRecDepth 20000 in
theorem ggX8_take_X8_enter : GoodIn wsX8_take wsX8_enter := goodIn_r _ [45, 18, 20, 2, 4, 5, 22, 23, 24, 12, 25, 26, 27, 28, 29, 30, 31, 32, 33, 9, 10, 11, 13, 46, 47, 48, 49, 50, 51, 52, 53, 54, 55, 56, 57, 58, 59, 60, 61, 62, 63, 64, 65, 66, 67, 68, 69, 70, 71, 72, 73, 74, 75, 76, 77, 78, 79, 80, 81, 82, 83, 84] (by decide +kernel) (by decide +kernel)
set_option maxRecDepth 20000 in
theorem gX8_take_X8_enter : GoodIn wsX8_take (wsV RX8 188 RX8 yX8_enter wsX8_enter) := goodIn_app (goodIn_of _ (by decide +kernel)) ggX8_take_X8_enter
theorem dX8_take_0 : decode cX8_take 0 = .ok (.aload_n 0, 1) := by decide +kernel
theorem dX8_take_1 : decode cX8_take 1 = .ok (.getfield 58, 3) := by decide +kernel
theorem dX8_take_4 : decode cX8_take 4 = .ok (.iload_n 1, 1) := by decide +kernel
theorem dX8_take_5 : decode cX8_take 5 = .ok (.iaload, 1) := by decide +kernel
theorem dX8_take_6 : decode cX8_take 6 = .ok (.istore_n 2, 1) := by decide +kernel
theorem dX8_take_7 : decode cX8_take 7 = .ok (.aload_n 0, 1) := by decide +kernel
theorem dX8_take_8 : decode cX8_take 8 = .ok (.getfield 30, 3) := by decide +kernel
theorem dX8_take_11 : decode cX8_take 11 = .ok (.aload_n 0, 1) := by decide +kernel
theorem dX8_take_12 : decode cX8_take 12 = .ok (.getfield 55, 3) := by decide +kernel
theorem dX8_take_15 : decode cX8_take 15 = .ok (.iload_n 1, 1) := by decide +kernel
theorem dX8_take_16 : decode cX8_take 16 = .ok (.iaload, 1) := by decide +kernel
theorem dX8_take_17 : decode cX8_take 17 = .ok (.iaload, 1) := by decide +kernel
theorem dX8_take_18 : decode cX8_take 18 = .ok (.istore_n 3, 1) := by decide +kernel
theorem dX8_take_19 : decode cX8_take 19 = .ok (.aload_n 0, 1) := by decide +kernel
theorem dX8_take_20 : decode cX8_take 20 = .ok (.getfield 39, 3) := by decide +kernel
theorem dX8_take_23 : decode cX8_take 23 = .ok (.iload_n 3, 1) := by decide +kernel
theorem dX8_take_24 : decode cX8_take 24 = .ok (.baload, 1) := by decide +kernel
theorem dX8_take_25 : decode cX8_take 25 = .ok (.ifCond .ne 17, 3) := by decide +kernel
theorem dX8_take_28 : decode cX8_take 28 = .ok (.iload_n 3, 1) := by decide +kernel
theorem dX8_take_29 : decode cX8_take 29 = .ok (.iload_n 2, 1) := by decide +kernel
theorem dX8_take_30 : decode cX8_take 30 = .ok (.if_icmp .eq 12, 3) := by decide +kernel
theorem dX8_take_33 : decode cX8_take 33 = .ok (.aload_n 0, 1) := by decide +kernel
theorem dX8_take_34 : decode cX8_take 34 = .ok (.iload_n 2, 1) := by decide +kernel
theorem dX8_take_35 : decode cX8_take 35 = .ok (.iload_n 3, 1) := by decide +kernel
theorem dX8_take_36 : decode cX8_take 36 = .ok (.invokevirtual 169, 3) := by decide +kernel
theorem dX8_take_39 : decode cX8_take 39 = .ok (.ifCond .ne 13, 3) := by decide +kernel
theorem dX8_take_42 : decode cX8_take 42 = .ok (.aload_n 0, 1) := by decide +kernel
theorem dX8_take_43 : decode cX8_take 43 = .ok (.getfield 30, 3) := by decide +kernel
theorem dX8_take_46 : decode cX8_take 46 = .ok (.iload_n 3, 1) := by decide +kernel
theorem dX8_take_47 : decode cX8_take 47 = .ok (.iaload, 1) := by decide +kernel
theorem dX8_take_48 : decode cX8_take 48 = .ok (.istore_n 3, 1) := by decide +kernel
theorem dX8_take_49 : decode cX8_take 49 = .ok (.goto (-30), 3) := by decide +kernel
theorem dX8_take_52 : decode cX8_take 52 = .ok (.aload_n 0, 1) := by decide +kernel
theorem dX8_take_53 : decode cX8_take 53 = .ok (.aload_n 0, 1) := by decide +kernel
theorem dX8_take_54 : decode cX8_take 54 = .ok (.getfield 70, 3) := by decide +kernel
theorem dX8_take_57 : decode cX8_take 57 = .ok (.iload_n 3, 1) := by decide +kernel
theorem dX8_take_58 : decode cX8_take 58 = .ok (.iaload, 1) := by decide +kernel
theorem dX8_take_59 : decode cX8_take 59 = .ok (.invokevirtual 185, 3) := by decide +kernel
theorem dX8_take_62 : decode cX8_take 62 = .ok (.iconst 0, 1) := by decide +kernel
theorem dX8_take_63 : decode cX8_take 63 = .ok (.istore 4, 2) := by decide +kernel
theorem dX8_take_65 : decode cX8_take 65 = .ok (.iload 4, 2) := by decide +kernel
theorem dX8_take_67 : decode cX8_take 67 = .ok (.aload_n 0, 1) := by decide +kernel
theorem dX8_take_68 : decode cX8_take 68 = .ok (.getfield 67, 3) := by decide +kernel
theorem dX8_take_71 : decode cX8_take 71 = .ok (.iload_n 1, 1) := by decide +kernel
theorem dX8_take_72 : decode cX8_take 72 = .ok (.iaload, 1) := by decide +kernel
theorem dX8_take_73 : decode cX8_take 73 = .ok (.if_icmp .ge 24, 3) := by decide +kernel
theorem dX8_take_76 : decode cX8_take 76 = .ok (.aload_n 0, 1) := by decide +kernel
theorem dX8_take_77 : decode cX8_take 77 = .ok (.aload_n 0, 1) := by decide +kernel
theorem dX8_take_78 : decode cX8_take 78 = .ok (.getfield 49, 3) := by decide +kernel
theorem dX8_take_81 : decode cX8_take 81 = .ok (.iconst 3, 1) := by decide +kernel
theorem dX8_take_82 : decode cX8_take 82 = .ok (.iload_n 1, 1) := by decide +kernel
theorem dX8_take_83 : decode cX8_take 83 = .ok (.imul, 1) := by decide +kernel
theorem dX8_take_84 : decode cX8_take 84 = .ok (.iload 4, 2) := by decide +kernel
theorem dX8_take_86 : decode cX8_take 86 = .ok (.iadd, 1) := by decide +kernel
theorem dX8_take_87 : decode cX8_take 87 = .ok (.caload, 1) := by decide +kernel
theorem dX8_take_88 : decode cX8_take 88 = .ok (.invokevirtual 159, 3) := by decide +kernel
theorem dX8_take_91 : decode cX8_take 91 = .ok (.iinc 4 1, 3) := by decide +kernel
theorem dX8_take_94 : decode cX8_take 94 = .ok (.goto (-29), 3) := by decide +kernel
theorem dX8_take_97 : decode cX8_take 97 = .ok (.iload_n 2, 1) := by decide +kernel
theorem dX8_take_98 : decode cX8_take 98 = .ok (.istore 4, 2) := by decide +kernel
theorem dX8_take_100 : decode cX8_take 100 = .ok (.aload_n 0, 1) := by decide +kernel
theorem dX8_take_101 : decode cX8_take 101 = .ok (.getfield 30, 3) := by decide +kernel
theorem dX8_take_104 : decode cX8_take 104 = .ok (.iload 4, 2) := by decide +kernel
theorem dX8_take_106 : decode cX8_take 106 = .ok (.iaload, 1) := by decide +kernel
theorem dX8_take_107 : decode cX8_take 107 = .ok (.iload_n 3, 1) := by decide +kernel
theorem dX8_take_108 : decode cX8_take 108 = .ok (.if_icmp .eq 15, 3) := by decide +kernel
theorem dX8_take_111 : decode cX8_take 111 = .ok (.aload_n 0, 1) := by decide +kernel
theorem dX8_take_112 : decode cX8_take 112 = .ok (.getfield 30, 3) := by decide +kernel
theorem dX8_take_115 : decode cX8_take 115 = .ok (.iload 4, 2) := by decide +kernel
theorem dX8_take_117 : decode cX8_take 117 = .ok (.iaload, 1) := by decide +kernel
theorem dX8_take_118 : decode cX8_take 118 = .ok (.istore 4, 2) := by decide +kernel
theorem dX8_take_120 : decode cX8_take 120 = .ok (.goto (-20), 3) := by decide +kernel
theorem dX8_take_123 : decode cX8_take 123 = .ok (.aload_n 0, 1) := by decide +kernel
theorem dX8_take_124 : decode cX8_take 124 = .ok (.getfield 70, 3) := by decide +kernel
theorem dX8_take_127 : decode cX8_take 127 = .ok (.iload_n 3, 1) := by decide +kernel
theorem dX8_take_128 : decode cX8_take 128 = .ok (.iload 4, 2) := by decide +kernel
theorem dX8_take_130 : decode cX8_take 130 = .ok (.iastore, 1) := by decide +kernel
theorem dX8_take_131 : decode cX8_take 131 = .ok (.aload_n 0, 1) := by decide +kernel
theorem dX8_take_132 : decode cX8_take 132 = .ok (.iload 4, 2) := by decide +kernel
theorem dX8_take_134 : decode cX8_take 134 = .ok (.iload_n 2, 1) := by decide +kernel
theorem dX8_take_135 : decode cX8_take 135 = .ok (.invokevirtual 188, 3) := by decide +kernel
theorem dX8_take_138 : decode cX8_take 138 = .ok (.aload_n 0, 1) := by decide +kernel
theorem dX8_take_139 : decode cX8_take 139 = .ok (.getfield 33, 3) := by decide +kernel
theorem dX8_take_142 : decode cX8_take 142 = .ok (.iload_n 3, 1) := by decide +kernel
theorem dX8_take_143 : decode cX8_take 143 = .ok (.iaload, 1) := by decide +kernel
theorem dX8_take_144 : decode cX8_take 144 = .ok (.ireturn, 1) := by decide +kernel
theorem dX8_following_0 : decode cX8_following 0 = .ok (.aload_n 0, 1) := by decide +kernel
theorem dX8_following_1 : decode cX8_following 1 = .ok (.getfield 39, 3) := by decide +kernel
theorem dX8_following_4 : decode cX8_following 4 = .ok (.iload_n 1, 1) := by decide +kernel
theorem dX8_following_5 : decode cX8_following 5 = .ok (.baload, 1) := by decide +kernel
theorem dX8_following_6 : decode cX8_following 6 = .ok (.ifCond .ne 18, 3) := by decide +kernel
theorem dX8_following_9 : decode cX8_following 9 = .ok (.iload_n 2, 1) := by decide +kernel
theorem dX8_following_10 : decode cX8_following 10 = .ok (.ifCond .ge 12, 3) := by decide +kernel
theorem dX8_following_13 : decode cX8_following 13 = .ok (.aload_n 0, 1) := by decide +kernel
theorem dX8_following_14 : decode cX8_following 14 = .ok (.getfield 70, 3) := by decide +kernel
theorem dX8_following_17 : decode cX8_following 17 = .ok (.iload_n 1, 1) := by decide +kernel
theorem dX8_following_18 : decode cX8_following 18 = .ok (.iaload, 1) := by decide +kernel
theorem dX8_following_19 : decode cX8_following 19 = .ok (.goto 4, 3) := by decide +kernel
theorem dX8_following_22 : decode cX8_following 22 = .ok (.iconst (-1), 1) := by decide +kernel
theorem dX8_following_23 : decode cX8_following 23 = .ok (.ireturn, 1) := by decide +kernel
theorem dX8_following_24 : decode cX8_following 24 = .ok (.iload_n 2, 1) := by decide +kernel
theorem dX8_following_25 : decode cX8_following 25 = .ok (.ifCond .ge 9, 3) := by decide +kernel
theorem dX8_following_28 : decode cX8_following 28 = .ok (.iload_n 1, 1) := by decide +kernel
theorem dX8_following_29 : decode cX8_following 29 = .ok (.iconst 1, 1) := by decide +kernel
theorem dX8_following_30 : decode cX8_following 30 = .ok (.iadd, 1) := by decide +kernel
theorem dX8_following_31 : decode cX8_following 31 = .ok (.goto 6, 3) := by decide +kernel
theorem dX8_following_34 : decode cX8_following 34 = .ok (.iload_n 2, 1) := by decide +kernel
theorem dX8_following_35 : decode cX8_following 35 = .ok (.iconst 1, 1) := by decide +kernel
theorem dX8_following_36 : decode cX8_following 36 = .ok (.iadd, 1) := by decide +kernel
theorem dX8_following_37 : decode cX8_following 37 = .ok (.istore_n 3, 1) := by decide +kernel
theorem dX8_following_38 : decode cX8_following 38 = .ok (.iload_n 3, 1) := by decide +kernel
theorem dX8_following_39 : decode cX8_following 39 = .ok (.aload_n 0, 1) := by decide +kernel
theorem dX8_following_40 : decode cX8_following 40 = .ok (.getfield 20, 3) := by decide +kernel
theorem dX8_following_43 : decode cX8_following 43 = .ok (.if_icmp .ge 21, 3) := by decide +kernel
theorem dX8_following_46 : decode cX8_following 46 = .ok (.aload_n 0, 1) := by decide +kernel
theorem dX8_following_47 : decode cX8_following 47 = .ok (.getfield 30, 3) := by decide +kernel
theorem dX8_following_50 : decode cX8_following 50 = .ok (.iload_n 3, 1) := by decide +kernel
theorem dX8_following_51 : decode cX8_following 51 = .ok (.iaload, 1) := by decide +kernel
theorem dX8_following_52 : decode cX8_following 52 = .ok (.iload_n 1, 1) := by decide +kernel
theorem dX8_following_53 : decode cX8_following 53 = .ok (.if_icmp .ne 5, 3) := by decide +kernel
theorem dX8_following_56 : decode cX8_following 56 = .ok (.iload_n 3, 1) := by decide +kernel
theorem dX8_following_57 : decode cX8_following 57 = .ok (.ireturn, 1) := by decide +kernel
theorem dX8_following_58 : decode cX8_following 58 = .ok (.iinc 3 1, 3) := by decide +kernel
theorem dX8_following_61 : decode cX8_following 61 = .ok (.goto (-23), 3) := by decide +kernel
theorem dX8_following_64 : decode cX8_following 64 = .ok (.iconst (-1), 1) := by decide +kernel
theorem dX8_following_65 : decode cX8_following 65 = .ok (.ireturn, 1) := by decide +kernel
set_option maxRecDepth 20000 in
theorem ggX8_offer_X8_following : GoodIn wsX8_offer wsX8_following := goodIn_r _ [9, 10, 11, 12, 13, 69, 70, 71, 72, 73, 74, 75, 76, 77, 78, 79, 80, 81, 82, 83, 84, 85, 86, 87, 88, 89, 90, 91, 92, 93, 94, 95, 96, 97, 98, 99, 100, 101, 102, 103, 104, 105, 106, 107] (by decide +kernel) (by decide +kernel)
set_option maxRecDepth 20000 in
theorem gX8_offer_X8_following : GoodIn wsX8_offer (wsV RX8 192 RX8 yX8_following wsX8_following) := goodIn_app (goodIn_of _ (by decide +kernel)) ggX8_offer_X8_following
set_option maxRecDepth 20000 in
theorem ggX8_offer_X8_own : GoodIn wsX8_offer wsX8_own := goodIn_r _ [17, 18, 19, 20, 21, 22, 23, 24, 25, 8, 26, 10, 13, 11, 27, 28, 29, 30, 31, 32, 33, 4, 34, 35, 36, 37, 38, 39, 40, 41, 42, 43, 12, 44, 45, 46, 47, 48, 49, 50, 51, 52, 53, 54, 55, 56, 57, 58, 59, 60, 61, 62, 63, 64, 65, 66, 67, 68, 69, 70, 71, 72, 73, 74, 75, 76, 77, 78, 79, 80, 81, 82, 83, 84, 85, 86, 87, 88, 89, 90, 91, 92, 93, 94, 95, 96, 97, 98, 99, 100, 101, 102, 103, 104, 105, 106, 107] (by decide +kernel) (by decide +kernel)
set_option maxRecDepth 20000 in
theorem gX8_offer_X8_own : GoodIn wsX8_offer (wsV RX8 196 RX8 yX8_own wsX8_own) := goodIn_app (goodIn_of _ (by decide +kernel)) ggX8_offer_X8_own
theorem dX8_offer_0 : decode cX8_offer 0 = .ok (.iconst 1, 1) := by decide +kernel
theorem dX8_offer_1 : decode cX8_offer 1 = .ok (.istore_n 2, 1) := by decide +kernel
theorem dX8_offer_2 : decode cX8_offer 2 = .ok (.aload_n 0, 1) := by decide +kernel
theorem dX8_offer_3 : decode cX8_offer 3 = .ok (.getfield 94, 3) := by decide +kernel
theorem dX8_offer_6 : decode cX8_offer 6 = .ok (.iconst 0, 1) := by decide +kernel
theorem dX8_offer_7 : decode cX8_offer 7 = .ok (.iconst 0, 1) := by decide +kernel
theorem dX8_offer_8 : decode cX8_offer 8 = .ok (.iastore, 1) := by decide +kernel
theorem dX8_offer_9 : decode cX8_offer 9 = .ok (.aload_n 0, 1) := by decide +kernel
theorem dX8_offer_10 : decode cX8_offer 10 = .ok (.getfield 97, 3) := by decide +kernel
theorem dX8_offer_13 : decode cX8_offer 13 = .ok (.iconst 0, 1) := by decide +kernel
theorem dX8_offer_14 : decode cX8_offer 14 = .ok (.iconst (-1), 1) := by decide +kernel
theorem dX8_offer_15 : decode cX8_offer 15 = .ok (.iastore, 1) := by decide +kernel
theorem dX8_offer_16 : decode cX8_offer 16 = .ok (.aload_n 0, 1) := by decide +kernel
theorem dX8_offer_17 : decode cX8_offer 17 = .ok (.getfield 100, 3) := by decide +kernel
theorem dX8_offer_20 : decode cX8_offer 20 = .ok (.iconst 0, 1) := by decide +kernel
theorem dX8_offer_21 : decode cX8_offer 21 = .ok (.bipush 99, 2) := by decide +kernel
theorem dX8_offer_23 : decode cX8_offer 23 = .ok (.iastore, 1) := by decide +kernel
theorem dX8_offer_24 : decode cX8_offer 24 = .ok (.iload_n 2, 1) := by decide +kernel
theorem dX8_offer_25 : decode cX8_offer 25 = .ok (.ifCond .le 182, 3) := by decide +kernel
theorem dX8_offer_28 : decode cX8_offer 28 = .ok (.aload_n 0, 1) := by decide +kernel
theorem dX8_offer_29 : decode cX8_offer 29 = .ok (.getfield 94, 3) := by decide +kernel
theorem dX8_offer_32 : decode cX8_offer 32 = .ok (.iload_n 2, 1) := by decide +kernel
theorem dX8_offer_33 : decode cX8_offer 33 = .ok (.iconst 1, 1) := by decide +kernel
theorem dX8_offer_34 : decode cX8_offer 34 = .ok (.isub, 1) := by decide +kernel
theorem dX8_offer_35 : decode cX8_offer 35 = .ok (.iaload, 1) := by decide +kernel
theorem dX8_offer_36 : decode cX8_offer 36 = .ok (.istore_n 3, 1) := by decide +kernel
theorem dX8_offer_37 : decode cX8_offer 37 = .ok (.aload_n 0, 1) := by decide +kernel
theorem dX8_offer_38 : decode cX8_offer 38 = .ok (.getfield 97, 3) := by decide +kernel
theorem dX8_offer_41 : decode cX8_offer 41 = .ok (.iload_n 2, 1) := by decide +kernel
theorem dX8_offer_42 : decode cX8_offer 42 = .ok (.iconst 1, 1) := by decide +kernel
theorem dX8_offer_43 : decode cX8_offer 43 = .ok (.isub, 1) := by decide +kernel
theorem dX8_offer_44 : decode cX8_offer 44 = .ok (.iaload, 1) := by decide +kernel
theorem dX8_offer_45 : decode cX8_offer 45 = .ok (.istore 4, 2) := by decide +kernel
theorem dX8_offer_47 : decode cX8_offer 47 = .ok (.iload 4, 2) := by decide +kernel
theorem dX8_offer_49 : decode cX8_offer 49 = .ok (.ifCond .lt 25, 3) := by decide +kernel
theorem dX8_offer_52 : decode cX8_offer 52 = .ok (.aload_n 0, 1) := by decide +kernel
theorem dX8_offer_53 : decode cX8_offer 53 = .ok (.getfield 100, 3) := by decide +kernel
theorem dX8_offer_56 : decode cX8_offer 56 = .ok (.iload_n 2, 1) := by decide +kernel
theorem dX8_offer_57 : decode cX8_offer 57 = .ok (.iconst 1, 1) := by decide +kernel
theorem dX8_offer_58 : decode cX8_offer 58 = .ok (.isub, 1) := by decide +kernel
theorem dX8_offer_59 : decode cX8_offer 59 = .ok (.iaload, 1) := by decide +kernel
theorem dX8_offer_60 : decode cX8_offer 60 = .ok (.aload_n 0, 1) := by decide +kernel
theorem dX8_offer_61 : decode cX8_offer 61 = .ok (.getfield 33, 3) := by decide +kernel
theorem dX8_offer_64 : decode cX8_offer 64 = .ok (.iload 4, 2) := by decide +kernel
theorem dX8_offer_66 : decode cX8_offer 66 = .ok (.iaload, 1) := by decide +kernel
theorem dX8_offer_67 : decode cX8_offer 67 = .ok (.if_icmp .ge 7, 3) := by decide +kernel
theorem dX8_offer_70 : decode cX8_offer 70 = .ok (.iconst 1, 1) := by decide +kernel
theorem dX8_offer_71 : decode cX8_offer 71 = .ok (.goto 4, 3) := by decide +kernel
theorem dX8_offer_74 : decode cX8_offer 74 = .ok (.iconst 0, 1) := by decide +kernel
theorem dX8_offer_75 : decode cX8_offer 75 = .ok (.istore 5, 2) := by decide +kernel
theorem dX8_offer_77 : decode cX8_offer 77 = .ok (.iload 5, 2) := by decide +kernel
theorem dX8_offer_79 : decode cX8_offer 79 = .ok (.ifCond .eq 7, 3) := by decide +kernel
theorem dX8_offer_82 : decode cX8_offer 82 = .ok (.iconst (-1), 1) := by decide +kernel
theorem dX8_offer_83 : decode cX8_offer 83 = .ok (.goto 10, 3) := by decide +kernel
theorem dX8_offer_86 : decode cX8_offer 86 = .ok (.aload_n 0, 1) := by decide +kernel
theorem dX8_offer_87 : decode cX8_offer 87 = .ok (.iload_n 3, 1) := by decide +kernel
theorem dX8_offer_88 : decode cX8_offer 88 = .ok (.iload 4, 2) := by decide +kernel
theorem dX8_offer_90 : decode cX8_offer 90 = .ok (.invokevirtual 192, 3) := by decide +kernel
theorem dX8_offer_93 : decode cX8_offer 93 = .ok (.istore 6, 2) := by decide +kernel
theorem dX8_offer_95 : decode cX8_offer 95 = .ok (.iload 6, 2) := by decide +kernel
theorem dX8_offer_97 : decode cX8_offer 97 = .ok (.ifCond .lt 42, 3) := by decide +kernel
theorem dX8_offer_100 : decode cX8_offer 100 = .ok (.aload_n 0, 1) := by decide +kernel
theorem dX8_offer_101 : decode cX8_offer 101 = .ok (.getfield 97, 3) := by decide +kernel
theorem dX8_offer_104 : decode cX8_offer 104 = .ok (.iload_n 2, 1) := by decide +kernel
theorem dX8_offer_105 : decode cX8_offer 105 = .ok (.iconst 1, 1) := by decide +kernel
theorem dX8_offer_106 : decode cX8_offer 106 = .ok (.isub, 1) := by decide +kernel
theorem dX8_offer_107 : decode cX8_offer 107 = .ok (.iload 6, 2) := by decide +kernel
theorem dX8_offer_109 : decode cX8_offer 109 = .ok (.iastore, 1) := by decide +kernel
theorem dX8_offer_110 : decode cX8_offer 110 = .ok (.aload_n 0, 1) := by decide +kernel
theorem dX8_offer_111 : decode cX8_offer 111 = .ok (.getfield 94, 3) := by decide +kernel
theorem dX8_offer_114 : decode cX8_offer 114 = .ok (.iload_n 2, 1) := by decide +kernel
theorem dX8_offer_115 : decode cX8_offer 115 = .ok (.iload 6, 2) := by decide +kernel
theorem dX8_offer_117 : decode cX8_offer 117 = .ok (.iastore, 1) := by decide +kernel
theorem dX8_offer_118 : decode cX8_offer 118 = .ok (.aload_n 0, 1) := by decide +kernel
theorem dX8_offer_119 : decode cX8_offer 119 = .ok (.getfield 97, 3) := by decide +kernel
theorem dX8_offer_122 : decode cX8_offer 122 = .ok (.iload_n 2, 1) := by decide +kernel
theorem dX8_offer_123 : decode cX8_offer 123 = .ok (.iconst (-1), 1) := by decide +kernel
theorem dX8_offer_124 : decode cX8_offer 124 = .ok (.iastore, 1) := by decide +kernel
theorem dX8_offer_125 : decode cX8_offer 125 = .ok (.aload_n 0, 1) := by decide +kernel
theorem dX8_offer_126 : decode cX8_offer 126 = .ok (.getfield 100, 3) := by decide +kernel
theorem dX8_offer_129 : decode cX8_offer 129 = .ok (.iload_n 2, 1) := by decide +kernel
theorem dX8_offer_130 : decode cX8_offer 130 = .ok (.bipush 99, 2) := by decide +kernel
theorem dX8_offer_132 : decode cX8_offer 132 = .ok (.iastore, 1) := by decide +kernel
theorem dX8_offer_133 : decode cX8_offer 133 = .ok (.iinc 2 1, 3) := by decide +kernel
theorem dX8_offer_136 : decode cX8_offer 136 = .ok (.goto 68, 3) := by decide +kernel
theorem dX8_offer_139 : decode cX8_offer 139 = .ok (.aload_n 0, 1) := by decide +kernel
theorem dX8_offer_140 : decode cX8_offer 140 = .ok (.getfield 100, 3) := by decide +kernel
theorem dX8_offer_143 : decode cX8_offer 143 = .ok (.iload_n 2, 1) := by decide +kernel
theorem dX8_offer_144 : decode cX8_offer 144 = .ok (.iconst 1, 1) := by decide +kernel
theorem dX8_offer_145 : decode cX8_offer 145 = .ok (.isub, 1) := by decide +kernel
theorem dX8_offer_146 : decode cX8_offer 146 = .ok (.iaload, 1) := by decide +kernel
theorem dX8_offer_147 : decode cX8_offer 147 = .ok (.bipush 99, 2) := by decide +kernel
theorem dX8_offer_149 : decode cX8_offer 149 = .ok (.if_icmp .ne 17, 3) := by decide +kernel
theorem dX8_offer_152 : decode cX8_offer 152 = .ok (.aload_n 0, 1) := by decide +kernel
theorem dX8_offer_153 : decode cX8_offer 153 = .ok (.getfield 100, 3) := by decide +kernel
theorem dX8_offer_156 : decode cX8_offer 156 = .ok (.iload_n 2, 1) := by decide +kernel
theorem dX8_offer_157 : decode cX8_offer 157 = .ok (.iconst 1, 1) := by decide +kernel
theorem dX8_offer_158 : decode cX8_offer 158 = .ok (.isub, 1) := by decide +kernel
theorem dX8_offer_159 : decode cX8_offer 159 = .ok (.aload_n 0, 1) := by decide +kernel
theorem dX8_offer_160 : decode cX8_offer 160 = .ok (.iload_n 3, 1) := by decide +kernel
theorem dX8_offer_161 : decode cX8_offer 161 = .ok (.iload_n 1, 1) := by decide +kernel
theorem dX8_offer_162 : decode cX8_offer 162 = .ok (.invokevirtual 196, 3) := by decide +kernel
theorem dX8_offer_165 : decode cX8_offer 165 = .ok (.iastore, 1) := by decide +kernel
theorem dX8_offer_166 : decode cX8_offer 166 = .ok (.iinc 2 (-1), 3) := by decide +kernel
theorem dX8_offer_169 : decode cX8_offer 169 = .ok (.iload_n 2, 1) := by decide +kernel
theorem dX8_offer_170 : decode cX8_offer 170 = .ok (.ifCond .le 34, 3) := by decide +kernel
theorem dX8_offer_173 : decode cX8_offer 173 = .ok (.aload_n 0, 1) := by decide +kernel
theorem dX8_offer_174 : decode cX8_offer 174 = .ok (.getfield 100, 3) := by decide +kernel
theorem dX8_offer_177 : decode cX8_offer 177 = .ok (.iload_n 2, 1) := by decide +kernel
theorem dX8_offer_178 : decode cX8_offer 178 = .ok (.iaload, 1) := by decide +kernel
theorem dX8_offer_179 : decode cX8_offer 179 = .ok (.aload_n 0, 1) := by decide +kernel
theorem dX8_offer_180 : decode cX8_offer 180 = .ok (.getfield 100, 3) := by decide +kernel
theorem dX8_offer_183 : decode cX8_offer 183 = .ok (.iload_n 2, 1) := by decide +kernel
theorem dX8_offer_184 : decode cX8_offer 184 = .ok (.iconst 1, 1) := by decide +kernel
theorem dX8_offer_185 : decode cX8_offer 185 = .ok (.isub, 1) := by decide +kernel
theorem dX8_offer_186 : decode cX8_offer 186 = .ok (.iaload, 1) := by decide +kernel
theorem dX8_offer_187 : decode cX8_offer 187 = .ok (.if_icmp .ge 17, 3) := by decide +kernel
theorem dX8_offer_190 : decode cX8_offer 190 = .ok (.aload_n 0, 1) := by decide +kernel
theorem dX8_offer_191 : decode cX8_offer 191 = .ok (.getfield 100, 3) := by decide +kernel
theorem dX8_offer_194 : decode cX8_offer 194 = .ok (.iload_n 2, 1) := by decide +kernel
theorem dX8_offer_195 : decode cX8_offer 195 = .ok (.iconst 1, 1) := by decide +kernel
theorem dX8_offer_196 : decode cX8_offer 196 = .ok (.isub, 1) := by decide +kernel
theorem dX8_offer_197 : decode cX8_offer 197 = .ok (.aload_n 0, 1) := by decide +kernel
theorem dX8_offer_198 : decode cX8_offer 198 = .ok (.getfield 100, 3) := by decide +kernel
theorem dX8_offer_201 : decode cX8_offer 201 = .ok (.iload_n 2, 1) := by decide +kernel
theorem dX8_offer_202 : decode cX8_offer 202 = .ok (.iaload, 1) := by decide +kernel
theorem dX8_offer_203 : decode cX8_offer 203 = .ok (.iastore, 1) := by decide +kernel
theorem dX8_offer_204 : decode cX8_offer 204 = .ok (.goto (-180), 3) := by decide +kernel
theorem dX8_offer_207 : decode cX8_offer 207 = .ok (.return_, 1) := by decide +kernel
theorem dX8_configuration_0 : decode cX8_configuration 0 = .ok (.iconst 0, 1) := by decide +kernel
theorem dX8_configuration_1 : decode cX8_configuration 1 = .ok (.istore_n 1, 1) := by decide +kernel
theorem dX8_configuration_2 : decode cX8_configuration 2 = .ok (.iload_n 1, 1) := by decide +kernel
theorem dX8_configuration_3 : decode cX8_configuration 3 = .ok (.aload_n 0, 1) := by decide +kernel
theorem dX8_configuration_4 : decode cX8_configuration 4 = .ok (.getfield 143, 3) := by decide +kernel
theorem dX8_configuration_7 : decode cX8_configuration 7 = .ok (.if_icmp .ge 63, 3) := by decide +kernel
theorem dX8_configuration_10 : decode cX8_configuration 10 = .ok (.iconst 1, 1) := by decide +kernel
theorem dX8_configuration_11 : decode cX8_configuration 11 = .ok (.istore_n 2, 1) := by decide +kernel
theorem dX8_configuration_12 : decode cX8_configuration 12 = .ok (.iconst 0, 1) := by decide +kernel
theorem dX8_configuration_13 : decode cX8_configuration 13 = .ok (.istore_n 3, 1) := by decide +kernel
theorem dX8_configuration_14 : decode cX8_configuration 14 = .ok (.iload_n 3, 1) := by decide +kernel
theorem dX8_configuration_15 : decode cX8_configuration 15 = .ok (.aload_n 0, 1) := by decide +kernel
theorem dX8_configuration_16 : decode cX8_configuration 16 = .ok (.getfield 20, 3) := by decide +kernel
theorem dX8_configuration_19 : decode cX8_configuration 19 = .ok (.if_icmp .ge 39, 3) := by decide +kernel
theorem dX8_configuration_22 : decode cX8_configuration 22 = .ok (.iload_n 2, 1) := by decide +kernel
theorem dX8_configuration_23 : decode cX8_configuration 23 = .ok (.ifCond .eq 27, 3) := by decide +kernel
theorem dX8_configuration_26 : decode cX8_configuration 26 = .ok (.aload_n 0, 1) := by decide +kernel
theorem dX8_configuration_27 : decode cX8_configuration 27 = .ok (.getfield 76, 3) := by decide +kernel
theorem dX8_configuration_30 : decode cX8_configuration 30 = .ok (.bipush 14, 2) := by decide +kernel
theorem dX8_configuration_32 : decode cX8_configuration 32 = .ok (.iload_n 1, 1) := by decide +kernel
theorem dX8_configuration_33 : decode cX8_configuration 33 = .ok (.imul, 1) := by decide +kernel
theorem dX8_configuration_34 : decode cX8_configuration 34 = .ok (.iload_n 3, 1) := by decide +kernel
theorem dX8_configuration_35 : decode cX8_configuration 35 = .ok (.iadd, 1) := by decide +kernel
theorem dX8_configuration_36 : decode cX8_configuration 36 = .ok (.iaload, 1) := by decide +kernel
theorem dX8_configuration_37 : decode cX8_configuration 37 = .ok (.aload_n 0, 1) := by decide +kernel
theorem dX8_configuration_38 : decode cX8_configuration 38 = .ok (.getfield 70, 3) := by decide +kernel
theorem dX8_configuration_41 : decode cX8_configuration 41 = .ok (.iload_n 3, 1) := by decide +kernel
theorem dX8_configuration_42 : decode cX8_configuration 42 = .ok (.iaload, 1) := by decide +kernel
theorem dX8_configuration_43 : decode cX8_configuration 43 = .ok (.if_icmp .ne 7, 3) := by decide +kernel
theorem dX8_configuration_46 : decode cX8_configuration 46 = .ok (.iconst 1, 1) := by decide +kernel
theorem dX8_configuration_47 : decode cX8_configuration 47 = .ok (.goto 4, 3) := by decide +kernel
theorem dX8_configuration_50 : decode cX8_configuration 50 = .ok (.iconst 0, 1) := by decide +kernel
theorem dX8_configuration_51 : decode cX8_configuration 51 = .ok (.istore_n 2, 1) := by decide +kernel
theorem dX8_configuration_52 : decode cX8_configuration 52 = .ok (.iinc 3 1, 3) := by decide +kernel
theorem dX8_configuration_55 : decode cX8_configuration 55 = .ok (.goto (-41), 3) := by decide +kernel
theorem dX8_configuration_58 : decode cX8_configuration 58 = .ok (.iload_n 2, 1) := by decide +kernel
theorem dX8_configuration_59 : decode cX8_configuration 59 = .ok (.ifCond .eq 5, 3) := by decide +kernel
theorem dX8_configuration_62 : decode cX8_configuration 62 = .ok (.iload_n 1, 1) := by decide +kernel
theorem dX8_configuration_63 : decode cX8_configuration 63 = .ok (.ireturn, 1) := by decide +kernel
theorem dX8_configuration_64 : decode cX8_configuration 64 = .ok (.iinc 1 1, 3) := by decide +kernel
theorem dX8_configuration_67 : decode cX8_configuration 67 = .ok (.goto (-65), 3) := by decide +kernel
theorem dX8_configuration_70 : decode cX8_configuration 70 = .ok (.aload_n 0, 1) := by decide +kernel
theorem dX8_configuration_71 : decode cX8_configuration 71 = .ok (.getfield 143, 3) := by decide +kernel
theorem dX8_configuration_74 : decode cX8_configuration 74 = .ok (.bipush 30, 2) := by decide +kernel
theorem dX8_configuration_76 : decode cX8_configuration 76 = .ok (.if_icmp .ne 5, 3) := by decide +kernel
theorem dX8_configuration_79 : decode cX8_configuration 79 = .ok (.iconst (-1), 1) := by decide +kernel
theorem dX8_configuration_80 : decode cX8_configuration 80 = .ok (.ireturn, 1) := by decide +kernel
theorem dX8_configuration_81 : decode cX8_configuration 81 = .ok (.iconst 0, 1) := by decide +kernel
theorem dX8_configuration_82 : decode cX8_configuration 82 = .ok (.istore_n 1, 1) := by decide +kernel
theorem dX8_configuration_83 : decode cX8_configuration 83 = .ok (.iload_n 1, 1) := by decide +kernel
theorem dX8_configuration_84 : decode cX8_configuration 84 = .ok (.aload_n 0, 1) := by decide +kernel
theorem dX8_configuration_85 : decode cX8_configuration 85 = .ok (.getfield 20, 3) := by decide +kernel
theorem dX8_configuration_88 : decode cX8_configuration 88 = .ok (.if_icmp .ge 29, 3) := by decide +kernel
theorem dX8_configuration_91 : decode cX8_configuration 91 = .ok (.aload_n 0, 1) := by decide +kernel
theorem dX8_configuration_92 : decode cX8_configuration 92 = .ok (.getfield 76, 3) := by decide +kernel
theorem dX8_configuration_95 : decode cX8_configuration 95 = .ok (.bipush 14, 2) := by decide +kernel
theorem dX8_configuration_97 : decode cX8_configuration 97 = .ok (.aload_n 0, 1) := by decide +kernel
theorem dX8_configuration_98 : decode cX8_configuration 98 = .ok (.getfield 143, 3) := by decide +kernel
theorem dX8_configuration_101 : decode cX8_configuration 101 = .ok (.imul, 1) := by decide +kernel
theorem dX8_configuration_102 : decode cX8_configuration 102 = .ok (.iload_n 1, 1) := by decide +kernel
theorem dX8_configuration_103 : decode cX8_configuration 103 = .ok (.iadd, 1) := by decide +kernel
theorem dX8_configuration_104 : decode cX8_configuration 104 = .ok (.aload_n 0, 1) := by decide +kernel
theorem dX8_configuration_105 : decode cX8_configuration 105 = .ok (.getfield 70, 3) := by decide +kernel
theorem dX8_configuration_108 : decode cX8_configuration 108 = .ok (.iload_n 1, 1) := by decide +kernel
theorem dX8_configuration_109 : decode cX8_configuration 109 = .ok (.iaload, 1) := by decide +kernel
theorem dX8_configuration_110 : decode cX8_configuration 110 = .ok (.iastore, 1) := by decide +kernel
theorem dX8_configuration_111 : decode cX8_configuration 111 = .ok (.iinc 1 1, 3) := by decide +kernel
theorem dX8_configuration_114 : decode cX8_configuration 114 = .ok (.goto (-31), 3) := by decide +kernel
theorem dX8_configuration_117 : decode cX8_configuration 117 = .ok (.aload_n 0, 1) := by decide +kernel
theorem dX8_configuration_118 : decode cX8_configuration 118 = .ok (.dup, 1) := by decide +kernel
theorem dX8_configuration_119 : decode cX8_configuration 119 = .ok (.getfield 143, 3) := by decide +kernel
theorem dX8_configuration_122 : decode cX8_configuration 122 = .ok (.iconst 1, 1) := by decide +kernel
theorem dX8_configuration_123 : decode cX8_configuration 123 = .ok (.iadd, 1) := by decide +kernel
theorem dX8_configuration_124 : decode cX8_configuration 124 = .ok (.putfield 143, 3) := by decide +kernel
theorem dX8_configuration_127 : decode cX8_configuration 127 = .ok (.aload_n 0, 1) := by decide +kernel
theorem dX8_configuration_128 : decode cX8_configuration 128 = .ok (.getfield 143, 3) := by decide +kernel
theorem dX8_configuration_131 : decode cX8_configuration 131 = .ok (.iconst 1, 1) := by decide +kernel
theorem dX8_configuration_132 : decode cX8_configuration 132 = .ok (.isub, 1) := by decide +kernel
theorem dX8_configuration_133 : decode cX8_configuration 133 = .ok (.ireturn, 1) := by decide +kernel
theorem dX8_keep_0 : decode cX8_keep 0 = .ok (.aload_n 0, 1) := by decide +kernel
theorem dX8_keep_1 : decode cX8_keep 1 = .ok (.getfield 82, 3) := by decide +kernel
theorem dX8_keep_4 : decode cX8_keep 4 = .ok (.iload_n 1, 1) := by decide +kernel
theorem dX8_keep_5 : decode cX8_keep 5 = .ok (.aload_n 0, 1) := by decide +kernel
theorem dX8_keep_6 : decode cX8_keep 6 = .ok (.getfield 163, 3) := by decide +kernel
theorem dX8_keep_9 : decode cX8_keep 9 = .ok (.iastore, 1) := by decide +kernel
theorem dX8_keep_10 : decode cX8_keep 10 = .ok (.iconst 0, 1) := by decide +kernel
theorem dX8_keep_11 : decode cX8_keep 11 = .ok (.istore_n 2, 1) := by decide +kernel
theorem dX8_keep_12 : decode cX8_keep 12 = .ok (.iload_n 2, 1) := by decide +kernel
theorem dX8_keep_13 : decode cX8_keep 13 = .ok (.aload_n 0, 1) := by decide +kernel
theorem dX8_keep_14 : decode cX8_keep 14 = .ok (.getfield 163, 3) := by decide +kernel
theorem dX8_keep_17 : decode cX8_keep 17 = .ok (.if_icmp .ge 26, 3) := by decide +kernel
theorem dX8_keep_20 : decode cX8_keep 20 = .ok (.aload_n 0, 1) := by decide +kernel
theorem dX8_keep_21 : decode cX8_keep 21 = .ok (.getfield 85, 3) := by decide +kernel
theorem dX8_keep_24 : decode cX8_keep 24 = .ok (.bipush 40, 2) := by decide +kernel
theorem dX8_keep_26 : decode cX8_keep 26 = .ok (.iload_n 1, 1) := by decide +kernel
theorem dX8_keep_27 : decode cX8_keep 27 = .ok (.imul, 1) := by decide +kernel
theorem dX8_keep_28 : decode cX8_keep 28 = .ok (.iload_n 2, 1) := by decide +kernel
theorem dX8_keep_29 : decode cX8_keep 29 = .ok (.iadd, 1) := by decide +kernel
theorem dX8_keep_30 : decode cX8_keep 30 = .ok (.aload_n 0, 1) := by decide +kernel
theorem dX8_keep_31 : decode cX8_keep 31 = .ok (.getfield 73, 3) := by decide +kernel
theorem dX8_keep_34 : decode cX8_keep 34 = .ok (.iload_n 2, 1) := by decide +kernel
theorem dX8_keep_35 : decode cX8_keep 35 = .ok (.caload, 1) := by decide +kernel
theorem dX8_keep_36 : decode cX8_keep 36 = .ok (.castore, 1) := by decide +kernel
theorem dX8_keep_37 : decode cX8_keep 37 = .ok (.iinc 2 1, 3) := by decide +kernel
theorem dX8_keep_40 : decode cX8_keep 40 = .ok (.goto (-28), 3) := by decide +kernel
theorem dX8_keep_43 : decode cX8_keep 43 = .ok (.return_, 1) := by decide +kernel
set_option maxRecDepth 20000 in
theorem ggX8_offered_X8_offer : GoodIn wsX8_offered wsX8_offer := goodIn_r _ [9, 10, 11, 12, 13, 14, 15, 16, 8, 17, 18, 2, 1, 19, 20, 21, 22, 23, 24, 25, 26, 27, 28, 29, 30, 31, 32, 33, 34, 35, 36, 37, 38, 39, 40, 41, 42, 43, 44, 45, 46, 47, 48, 49, 50, 51, 52, 53, 54, 55, 56, 57, 58, 59, 60, 4, 61, 62, 63, 64, 65, 66, 67, 68, 69, 70, 71, 72, 73, 74, 75, 76, 77, 78, 79, 80, 81, 82, 83, 84, 85, 86, 87, 88, 89, 90, 91, 92, 93, 94, 95, 96, 97, 98, 99, 100, 101, 102, 103, 104, 105, 106, 107, 108, 109, 110, 111, 112] (by decide +kernel) (by decide +kernel)
set_option maxRecDepth 20000 in
theorem gX8_offered_X8_offer : GoodIn wsX8_offered (wsV RX8 199 RX8 yX8_offer wsX8_offer) := goodIn_app (goodIn_of _ (by decide +kernel)) ggX8_offered_X8_offer
theorem dX8_offered_0 : decode cX8_offered 0 = .ok (.iconst 0, 1) := by decide +kernel
theorem dX8_offered_1 : decode cX8_offered 1 = .ok (.istore_n 3, 1) := by decide +kernel
theorem dX8_offered_2 : decode cX8_offered 2 = .ok (.iload_n 3, 1) := by decide +kernel
theorem dX8_offered_3 : decode cX8_offered 3 = .ok (.aload_n 0, 1) := by decide +kernel
theorem dX8_offered_4 : decode cX8_offered 4 = .ok (.getfield 20, 3) := by decide +kernel
theorem dX8_offered_7 : decode cX8_offered 7 = .ok (.if_icmp .ge 26, 3) := by decide +kernel
theorem dX8_offered_10 : decode cX8_offered 10 = .ok (.aload_n 0, 1) := by decide +kernel
theorem dX8_offered_11 : decode cX8_offered 11 = .ok (.getfield 70, 3) := by decide +kernel
theorem dX8_offered_14 : decode cX8_offered 14 = .ok (.iload_n 3, 1) := by decide +kernel
theorem dX8_offered_15 : decode cX8_offered 15 = .ok (.aload_n 0, 1) := by decide +kernel
theorem dX8_offered_16 : decode cX8_offered 16 = .ok (.getfield 76, 3) := by decide +kernel
theorem dX8_offered_19 : decode cX8_offered 19 = .ok (.bipush 14, 2) := by decide +kernel
theorem dX8_offered_21 : decode cX8_offered 21 = .ok (.iload_n 1, 1) := by decide +kernel
theorem dX8_offered_22 : decode cX8_offered 22 = .ok (.imul, 1) := by decide +kernel
theorem dX8_offered_23 : decode cX8_offered 23 = .ok (.iload_n 3, 1) := by decide +kernel
theorem dX8_offered_24 : decode cX8_offered 24 = .ok (.iadd, 1) := by decide +kernel
theorem dX8_offered_25 : decode cX8_offered 25 = .ok (.iaload, 1) := by decide +kernel
theorem dX8_offered_26 : decode cX8_offered 26 = .ok (.iastore, 1) := by decide +kernel
theorem dX8_offered_27 : decode cX8_offered 27 = .ok (.iinc 3 1, 3) := by decide +kernel
theorem dX8_offered_30 : decode cX8_offered 30 = .ok (.goto (-28), 3) := by decide +kernel
theorem dX8_offered_33 : decode cX8_offered 33 = .ok (.aload_n 0, 1) := by decide +kernel
theorem dX8_offered_34 : decode cX8_offered 34 = .ok (.iconst 0, 1) := by decide +kernel
theorem dX8_offered_35 : decode cX8_offered 35 = .ok (.putfield 163, 3) := by decide +kernel
theorem dX8_offered_38 : decode cX8_offered 38 = .ok (.aload_n 0, 1) := by decide +kernel
theorem dX8_offered_39 : decode cX8_offered 39 = .ok (.iload_n 2, 1) := by decide +kernel
theorem dX8_offered_40 : decode cX8_offered 40 = .ok (.invokevirtual 199, 3) := by decide +kernel
theorem dX8_offered_43 : decode cX8_offered 43 = .ok (.return_, 1) := by decide +kernel
set_option maxRecDepth 20000 in
theorem ggX8_compile_X8_firstOf : GoodIn wsX8_compile wsX8_firstOf := goodIn_r _ [15, 16, 17, 18, 19, 14, 20, 4, 21, 98, 99, 100, 101, 102, 103, 104, 105, 106, 107, 108, 109, 110, 111, 112, 113, 114, 115, 116, 117, 118, 119, 120, 121, 122, 123, 124, 125, 126, 127, 128, 129, 130, 131, 132, 133, 134, 135, 136] (by decide +kernel) (by decide +kernel)
set_option maxRecDepth 20000 in
theorem gX8_compile_X8_firstOf : GoodIn wsX8_compile (wsV RX8 172 RX8 yX8_firstOf wsX8_firstOf) := goodIn_app (goodIn_of _ (by decide +kernel)) ggX8_compile_X8_firstOf
set_option maxRecDepth 20000 in
theorem ggX8_compile_X8_enter : GoodIn wsX8_compile wsX8_enter := goodIn_r _ [25, 26, 4, 21, 16, 5, 27, 28, 29, 14, 30, 31, 32, 33, 34, 35, 36, 3, 37, 38, 39, 40, 41, 98, 99, 100, 101, 102, 103, 104, 105, 106, 107, 108, 109, 110, 111, 112, 113, 114, 115, 116, 117, 118, 119, 120, 121, 122, 123, 124, 125, 126, 127, 128, 129, 130, 131, 132, 133, 134, 135, 136] (by decide +kernel) (by decide +kernel)
set_option maxRecDepth 20000 in
theorem gX8_compile_X8_enter : GoodIn wsX8_compile (wsV RX8 188 RX8 yX8_enter wsX8_enter) := goodIn_app (goodIn_of _ (by decide +kernel)) ggX8_compile_X8_enter
set_option maxRecDepth 20000 in
theorem ggX8_compile_X8_keep : GoodIn wsX8_compile wsX8_keep := goodIn_r _ [45, 9, 3, 46, 37, 98, 99, 100, 101, 102, 103, 104, 105, 106, 107, 108, 109, 110, 111, 112, 113, 114, 115, 116, 117, 118, 119, 120, 121, 122, 123, 124, 125, 126, 127, 128, 129, 130, 131, 132, 133, 134, 135, 136] (by decide +kernel) (by decide +kernel)
set_option maxRecDepth 20000 in
theorem gX8_compile_X8_keep : GoodIn wsX8_compile (wsV RX8 202 RX8 yX8_keep wsX8_keep) := goodIn_app (goodIn_of _ (by decide +kernel)) ggX8_compile_X8_keep
set_option maxRecDepth 20000 in
theorem ggX8_compile_X8_configuration : GoodIn wsX8_compile wsX8_configuration := goodIn_r _ [50, 2, 4, 51, 5, 98, 99, 100, 101, 102, 103, 104, 105, 106, 107, 108, 109, 110, 111, 112, 113, 114, 115, 116, 117, 118, 119, 120, 121, 122, 123, 124, 125, 126, 127, 128, 129, 130, 131, 132, 133, 134, 135, 136] (by decide +kernel) (by decide +kernel)
set_option maxRecDepth 20000 in
theorem gX8_compile_X8_configuration : GoodIn wsX8_compile (wsV RX8 205 RX8 yX8_configuration wsX8_configuration) := goodIn_app (goodIn_of _ (by decide +kernel)) ggX8_compile_X8_configuration
set_option maxRecDepth 20000 in
theorem ggX8_compile_X8_offered : GoodIn wsX8_compile wsX8_offered := goodIn_r _ [55, 4, 5, 51, 3, 56, 57, 58, 14, 59, 60, 61, 62, 63, 64, 65, 66, 67, 16, 21, 68, 69, 70, 71, 72, 73, 74, 75, 76, 77, 78, 79, 80, 81, 82, 83, 84, 85, 86, 87, 38, 39, 40, 41, 88, 89, 90, 91, 26, 92, 93, 27, 28, 29, 30, 31, 32, 33, 34, 35, 36, 37, 11, 12, 13, 15, 17, 18, 19, 20, 22, 23, 24, 25, 98, 99, 100, 101, 102, 103, 104, 105, 106, 107, 108, 109, 110, 111, 112, 113, 114, 115, 116, 117, 118, 119, 120, 121, 122, 123, 124, 125, 126, 127, 128, 129, 130, 131, 132, 133, 134, 135, 136] (by decide +kernel) (by decide +kernel)
set_option maxRecDepth 20000 in
theorem gX8_compile_X8_offered : GoodIn wsX8_compile (wsV RX8 208 RX8 yX8_offered wsX8_offered) := goodIn_app (goodIn_of _ (by decide +kernel)) ggX8_compile_X8_offered
set_option maxRecDepth 20000 in
theorem ggX8_compile_X8_fails : GoodIn wsX8_compile wsX8_fails := goodIn_r _ [97, 1, 98, 99, 100, 101, 102, 103, 104, 105, 106, 107, 108, 109, 110, 111, 112, 113, 114, 115, 116, 117, 118, 119, 120, 121, 122, 123, 124, 125, 126, 127, 128, 129, 130, 131, 132, 133, 134, 135, 136] (by decide +kernel) (by decide +kernel)
set_option maxRecDepth 20000 in
theorem gX8_compile_X8_fails : GoodIn wsX8_compile (wsV RX8 140 RX8 yX8_fails wsX8_fails) := goodIn_app (goodIn_of _ (by decide +kernel)) ggX8_compile_X8_fails
theorem dX8_compile_0 : decode cX8_compile 0 = .ok (.aload_n 0, 1) := by decide +kernel
theorem dX8_compile_1 : decode cX8_compile 1 = .ok (.iconst 0, 1) := by decide +kernel
theorem dX8_compile_2 : decode cX8_compile 2 = .ok (.putfield 103, 3) := by decide +kernel
theorem dX8_compile_5 : decode cX8_compile 5 = .ok (.aload_n 0, 1) := by decide +kernel
theorem dX8_compile_6 : decode cX8_compile 6 = .ok (.iconst 0, 1) := by decide +kernel
theorem dX8_compile_7 : decode cX8_compile 7 = .ok (.putfield 143, 3) := by decide +kernel
theorem dX8_compile_10 : decode cX8_compile 10 = .ok (.aload_n 0, 1) := by decide +kernel
theorem dX8_compile_11 : decode cX8_compile 11 = .ok (.iconst 0, 1) := by decide +kernel
theorem dX8_compile_12 : decode cX8_compile 12 = .ok (.putfield 163, 3) := by decide +kernel
theorem dX8_compile_15 : decode cX8_compile 15 = .ok (.iconst 0, 1) := by decide +kernel
theorem dX8_compile_16 : decode cX8_compile 16 = .ok (.istore_n 1, 1) := by decide +kernel
theorem dX8_compile_17 : decode cX8_compile 17 = .ok (.iload_n 1, 1) := by decide +kernel
theorem dX8_compile_18 : decode cX8_compile 18 = .ok (.aload_n 0, 1) := by decide +kernel
theorem dX8_compile_19 : decode cX8_compile 19 = .ok (.getfield 20, 3) := by decide +kernel
theorem dX8_compile_22 : decode cX8_compile 22 = .ok (.if_icmp .ge 20, 3) := by decide +kernel
theorem dX8_compile_25 : decode cX8_compile 25 = .ok (.aload_n 0, 1) := by decide +kernel
theorem dX8_compile_26 : decode cX8_compile 26 = .ok (.getfield 70, 3) := by decide +kernel
theorem dX8_compile_29 : decode cX8_compile 29 = .ok (.iload_n 1, 1) := by decide +kernel
theorem dX8_compile_30 : decode cX8_compile 30 = .ok (.aload_n 0, 1) := by decide +kernel
theorem dX8_compile_31 : decode cX8_compile 31 = .ok (.iload_n 1, 1) := by decide +kernel
theorem dX8_compile_32 : decode cX8_compile 32 = .ok (.invokevirtual 172, 3) := by decide +kernel
theorem dX8_compile_35 : decode cX8_compile 35 = .ok (.iastore, 1) := by decide +kernel
theorem dX8_compile_36 : decode cX8_compile 36 = .ok (.iinc 1 1, 3) := by decide +kernel
theorem dX8_compile_39 : decode cX8_compile 39 = .ok (.goto (-22), 3) := by decide +kernel
theorem dX8_compile_42 : decode cX8_compile 42 = .ok (.aload_n 0, 1) := by decide +kernel
theorem dX8_compile_43 : decode cX8_compile 43 = .ok (.iconst 0, 1) := by decide +kernel
theorem dX8_compile_44 : decode cX8_compile 44 = .ok (.iconst (-1), 1) := by decide +kernel
theorem dX8_compile_45 : decode cX8_compile 45 = .ok (.invokevirtual 188, 3) := by decide +kernel
theorem dX8_compile_48 : decode cX8_compile 48 = .ok (.aload_n 0, 1) := by decide +kernel
theorem dX8_compile_49 : decode cX8_compile 49 = .ok (.sipush 180, 3) := by decide +kernel
theorem dX8_compile_52 : decode cX8_compile 52 = .ok (.invokevirtual 202, 3) := by decide +kernel
theorem dX8_compile_55 : decode cX8_compile 55 = .ok (.aload_n 0, 1) := by decide +kernel
theorem dX8_compile_56 : decode cX8_compile 56 = .ok (.invokevirtual 205, 3) := by decide +kernel
theorem dX8_compile_59 : decode cX8_compile 59 = .ok (.istore_n 1, 1) := by decide +kernel
theorem dX8_compile_60 : decode cX8_compile 60 = .ok (.iconst 0, 1) := by decide +kernel
theorem dX8_compile_61 : decode cX8_compile 61 = .ok (.istore_n 2, 1) := by decide +kernel
theorem dX8_compile_62 : decode cX8_compile 62 = .ok (.iload_n 2, 1) := by decide +kernel
theorem dX8_compile_63 : decode cX8_compile 63 = .ok (.aload_n 0, 1) := by decide +kernel
theorem dX8_compile_64 : decode cX8_compile 64 = .ok (.getfield 143, 3) := by decide +kernel
theorem dX8_compile_67 : decode cX8_compile 67 = .ok (.if_icmp .ge 66, 3) := by decide +kernel
theorem dX8_compile_70 : decode cX8_compile 70 = .ok (.iload_n 1, 1) := by decide +kernel
theorem dX8_compile_71 : decode cX8_compile 71 = .ok (.ifCond .lt 62, 3) := by decide +kernel
theorem dX8_compile_74 : decode cX8_compile 74 = .ok (.iconst 0, 1) := by decide +kernel
theorem dX8_compile_75 : decode cX8_compile 75 = .ok (.istore_n 3, 1) := by decide +kernel
theorem dX8_compile_76 : decode cX8_compile 76 = .ok (.iload_n 3, 1) := by decide +kernel
theorem dX8_compile_77 : decode cX8_compile 77 = .ok (.aload_n 0, 1) := by decide +kernel
theorem dX8_compile_78 : decode cX8_compile 78 = .ok (.getfield 120, 3) := by decide +kernel
theorem dX8_compile_81 : decode cX8_compile 81 = .ok (.if_icmp .ge 46, 3) := by decide +kernel
theorem dX8_compile_84 : decode cX8_compile 84 = .ok (.iload_n 1, 1) := by decide +kernel
theorem dX8_compile_85 : decode cX8_compile 85 = .ok (.ifCond .lt 42, 3) := by decide +kernel
theorem dX8_compile_88 : decode cX8_compile 88 = .ok (.aload_n 0, 1) := by decide +kernel
theorem dX8_compile_89 : decode cX8_compile 89 = .ok (.iload_n 2, 1) := by decide +kernel
theorem dX8_compile_90 : decode cX8_compile 90 = .ok (.iload_n 3, 1) := by decide +kernel
theorem dX8_compile_91 : decode cX8_compile 91 = .ok (.invokevirtual 208, 3) := by decide +kernel
theorem dX8_compile_94 : decode cX8_compile 94 = .ok (.aload_n 0, 1) := by decide +kernel
theorem dX8_compile_95 : decode cX8_compile 95 = .ok (.bipush 6, 2) := by decide +kernel
theorem dX8_compile_97 : decode cX8_compile 97 = .ok (.iload_n 2, 1) := by decide +kernel
theorem dX8_compile_98 : decode cX8_compile 98 = .ok (.imul, 1) := by decide +kernel
theorem dX8_compile_99 : decode cX8_compile 99 = .ok (.iload_n 3, 1) := by decide +kernel
theorem dX8_compile_100 : decode cX8_compile 100 = .ok (.iadd, 1) := by decide +kernel
theorem dX8_compile_101 : decode cX8_compile 101 = .ok (.invokevirtual 202, 3) := by decide +kernel
theorem dX8_compile_104 : decode cX8_compile 104 = .ok (.aload_n 0, 1) := by decide +kernel
theorem dX8_compile_105 : decode cX8_compile 105 = .ok (.invokevirtual 205, 3) := by decide +kernel
theorem dX8_compile_108 : decode cX8_compile 108 = .ok (.istore_n 1, 1) := by decide +kernel
theorem dX8_compile_109 : decode cX8_compile 109 = .ok (.aload_n 0, 1) := by decide +kernel
theorem dX8_compile_110 : decode cX8_compile 110 = .ok (.getfield 79, 3) := by decide +kernel
theorem dX8_compile_113 : decode cX8_compile 113 = .ok (.bipush 6, 2) := by decide +kernel
theorem dX8_compile_115 : decode cX8_compile 115 = .ok (.iload_n 2, 1) := by decide +kernel
theorem dX8_compile_116 : decode cX8_compile 116 = .ok (.imul, 1) := by decide +kernel
theorem dX8_compile_117 : decode cX8_compile 117 = .ok (.iload_n 3, 1) := by decide +kernel
theorem dX8_compile_118 : decode cX8_compile 118 = .ok (.iadd, 1) := by decide +kernel
theorem dX8_compile_119 : decode cX8_compile 119 = .ok (.iload_n 1, 1) := by decide +kernel
theorem dX8_compile_120 : decode cX8_compile 120 = .ok (.iastore, 1) := by decide +kernel
theorem dX8_compile_121 : decode cX8_compile 121 = .ok (.iinc 3 1, 3) := by decide +kernel
theorem dX8_compile_124 : decode cX8_compile 124 = .ok (.goto (-48), 3) := by decide +kernel
theorem dX8_compile_127 : decode cX8_compile 127 = .ok (.iinc 2 1, 3) := by decide +kernel
theorem dX8_compile_130 : decode cX8_compile 130 = .ok (.goto (-68), 3) := by decide +kernel
theorem dX8_compile_133 : decode cX8_compile 133 = .ok (.aload_n 0, 1) := by decide +kernel
theorem dX8_compile_134 : decode cX8_compile 134 = .ok (.iload_n 1, 1) := by decide +kernel
theorem dX8_compile_135 : decode cX8_compile 135 = .ok (.ifCond .ge 7, 3) := by decide +kernel
theorem dX8_compile_138 : decode cX8_compile 138 = .ok (.iconst 0, 1) := by decide +kernel
theorem dX8_compile_139 : decode cX8_compile 139 = .ok (.goto 7, 3) := by decide +kernel
theorem dX8_compile_142 : decode cX8_compile 142 = .ok (.aload_n 0, 1) := by decide +kernel
theorem dX8_compile_143 : decode cX8_compile 143 = .ok (.getfield 143, 3) := by decide +kernel
theorem dX8_compile_146 : decode cX8_compile 146 = .ok (.putfield 143, 3) := by decide +kernel
theorem dX8_compile_149 : decode cX8_compile 149 = .ok (.aload_n 0, 1) := by decide +kernel
theorem dX8_compile_150 : decode cX8_compile 150 = .ok (.iconst 0, 1) := by decide +kernel
theorem dX8_compile_151 : decode cX8_compile 151 = .ok (.putfield 211, 3) := by decide +kernel
theorem dX8_compile_154 : decode cX8_compile 154 = .ok (.aload_n 0, 1) := by decide +kernel
theorem dX8_compile_155 : decode cX8_compile 155 = .ok (.aload_n 0, 1) := by decide +kernel
theorem dX8_compile_156 : decode cX8_compile 156 = .ok (.getfield 82, 3) := by decide +kernel
theorem dX8_compile_159 : decode cX8_compile 159 = .ok (.sipush 180, 3) := by decide +kernel
theorem dX8_compile_162 : decode cX8_compile 162 = .ok (.iaload, 1) := by decide +kernel
theorem dX8_compile_163 : decode cX8_compile 163 = .ok (.putfield 214, 3) := by decide +kernel
theorem dX8_compile_166 : decode cX8_compile 166 = .ok (.aload_n 0, 1) := by decide +kernel
theorem dX8_compile_167 : decode cX8_compile 167 = .ok (.getfield 143, 3) := by decide +kernel
theorem dX8_compile_170 : decode cX8_compile 170 = .ok (.ifCond .le 10, 3) := by decide +kernel
theorem dX8_compile_173 : decode cX8_compile 173 = .ok (.aload_n 0, 1) := by decide +kernel
theorem dX8_compile_174 : decode cX8_compile 174 = .ok (.getfield 143, 3) := by decide +kernel
theorem dX8_compile_177 : decode cX8_compile 177 = .ok (.goto 8, 3) := by decide +kernel
theorem dX8_compile_180 : decode cX8_compile 180 = .ok (.aload_n 0, 1) := by decide +kernel
theorem dX8_compile_181 : decode cX8_compile 181 = .ok (.iconst 1, 1) := by decide +kernel
theorem dX8_compile_182 : decode cX8_compile 182 = .ok (.invokevirtual 140, 3) := by decide +kernel
theorem dX8_compile_185 : decode cX8_compile 185 = .ok (.ireturn, 1) := by decide +kernel
theorem dX8_configurations_0 : decode cX8_configurations 0 = .ok (.aload_n 0, 1) := by decide +kernel
theorem dX8_configurations_1 : decode cX8_configurations 1 = .ok (.iconst 0, 1) := by decide +kernel
theorem dX8_configurations_2 : decode cX8_configurations 2 = .ok (.putfield 103, 3) := by decide +kernel
theorem dX8_configurations_5 : decode cX8_configurations 5 = .ok (.aload_n 0, 1) := by decide +kernel
theorem dX8_configurations_6 : decode cX8_configurations 6 = .ok (.getfield 143, 3) := by decide +kernel
theorem dX8_configurations_9 : decode cX8_configurations 9 = .ok (.ireturn, 1) := by decide +kernel
theorem dX8_count_0 : decode cX8_count 0 = .ok (.aload_n 0, 1) := by decide +kernel
theorem dX8_count_1 : decode cX8_count 1 = .ok (.iconst 0, 1) := by decide +kernel
theorem dX8_count_2 : decode cX8_count 2 = .ok (.putfield 103, 3) := by decide +kernel
theorem dX8_count_5 : decode cX8_count 5 = .ok (.iload_n 1, 1) := by decide +kernel
theorem dX8_count_6 : decode cX8_count 6 = .ok (.iconst 3, 1) := by decide +kernel
theorem dX8_count_7 : decode cX8_count 7 = .ok (.if_icmp .ne 19, 3) := by decide +kernel
theorem dX8_count_10 : decode cX8_count 10 = .ok (.aload_n 0, 1) := by decide +kernel
theorem dX8_count_11 : decode cX8_count 11 = .ok (.getfield 143, 3) := by decide +kernel
theorem dX8_count_14 : decode cX8_count 14 = .ok (.ifCond .le 10, 3) := by decide +kernel
theorem dX8_count_17 : decode cX8_count 17 = .ok (.aload_n 0, 1) := by decide +kernel
theorem dX8_count_18 : decode cX8_count 18 = .ok (.getfield 211, 3) := by decide +kernel
theorem dX8_count_21 : decode cX8_count 21 = .ok (.goto 4, 3) := by decide +kernel
theorem dX8_count_24 : decode cX8_count 24 = .ok (.iconst (-1), 1) := by decide +kernel
theorem dX8_count_25 : decode cX8_count 25 = .ok (.ireturn, 1) := by decide +kernel
theorem dX8_count_26 : decode cX8_count 26 = .ok (.iload_n 1, 1) := by decide +kernel
theorem dX8_count_27 : decode cX8_count 27 = .ok (.ifCond .ne 10, 3) := by decide +kernel
theorem dX8_count_30 : decode cX8_count 30 = .ok (.aload_n 0, 1) := by decide +kernel
theorem dX8_count_31 : decode cX8_count 31 = .ok (.getfield 20, 3) := by decide +kernel
theorem dX8_count_34 : decode cX8_count 34 = .ok (.goto 28, 3) := by decide +kernel
theorem dX8_count_37 : decode cX8_count 37 = .ok (.iload_n 1, 1) := by decide +kernel
theorem dX8_count_38 : decode cX8_count 38 = .ok (.iconst 1, 1) := by decide +kernel
theorem dX8_count_39 : decode cX8_count 39 = .ok (.if_icmp .ne 10, 3) := by decide +kernel
theorem dX8_count_42 : decode cX8_count 42 = .ok (.aload_n 0, 1) := by decide +kernel
theorem dX8_count_43 : decode cX8_count 43 = .ok (.getfield 156, 3) := by decide +kernel
theorem dX8_count_46 : decode cX8_count 46 = .ok (.goto 16, 3) := by decide +kernel
theorem dX8_count_49 : decode cX8_count 49 = .ok (.iload_n 1, 1) := by decide +kernel
theorem dX8_count_50 : decode cX8_count 50 = .ok (.iconst 2, 1) := by decide +kernel
theorem dX8_count_51 : decode cX8_count 51 = .ok (.if_icmp .ne 10, 3) := by decide +kernel
theorem dX8_count_54 : decode cX8_count 54 = .ok (.aload_n 0, 1) := by decide +kernel
theorem dX8_count_55 : decode cX8_count 55 = .ok (.getfield 120, 3) := by decide +kernel
theorem dX8_count_58 : decode cX8_count 58 = .ok (.goto 4, 3) := by decide +kernel
theorem dX8_count_61 : decode cX8_count 61 = .ok (.iconst (-1), 1) := by decide +kernel
theorem dX8_count_62 : decode cX8_count 62 = .ok (.ireturn, 1) := by decide +kernel
theorem dX8_isIn_0 : decode cX8_isIn 0 = .ok (.iload_n 1, 1) := by decide +kernel
theorem dX8_isIn_1 : decode cX8_isIn 1 = .ok (.ifCond .lt 27, 3) := by decide +kernel
theorem dX8_isIn_4 : decode cX8_isIn 4 = .ok (.iload_n 1, 1) := by decide +kernel
theorem dX8_isIn_5 : decode cX8_isIn 5 = .ok (.aload_n 0, 1) := by decide +kernel
theorem dX8_isIn_6 : decode cX8_isIn 6 = .ok (.getfield 143, 3) := by decide +kernel
theorem dX8_isIn_9 : decode cX8_isIn 9 = .ok (.if_icmp .ge 19, 3) := by decide +kernel
theorem dX8_isIn_12 : decode cX8_isIn 12 = .ok (.iload_n 2, 1) := by decide +kernel
theorem dX8_isIn_13 : decode cX8_isIn 13 = .ok (.ifCond .lt 15, 3) := by decide +kernel
theorem dX8_isIn_16 : decode cX8_isIn 16 = .ok (.iload_n 2, 1) := by decide +kernel
theorem dX8_isIn_17 : decode cX8_isIn 17 = .ok (.aload_n 0, 1) := by decide +kernel
theorem dX8_isIn_18 : decode cX8_isIn 18 = .ok (.getfield 120, 3) := by decide +kernel
theorem dX8_isIn_21 : decode cX8_isIn 21 = .ok (.if_icmp .ge 7, 3) := by decide +kernel
theorem dX8_isIn_24 : decode cX8_isIn 24 = .ok (.iconst 1, 1) := by decide +kernel
theorem dX8_isIn_25 : decode cX8_isIn 25 = .ok (.goto 4, 3) := by decide +kernel
theorem dX8_isIn_28 : decode cX8_isIn 28 = .ok (.iconst 0, 1) := by decide +kernel
theorem dX8_isIn_29 : decode cX8_isIn 29 = .ok (.ireturn, 1) := by decide +kernel
set_option maxRecDepth 20000 in
theorem ggX8_next_X8_isIn : GoodIn wsX8_next wsX8_isIn := goodIn_r _ [7, 8, 9, 14, 15, 16, 17, 18, 19, 20, 21, 22, 23, 24, 25, 26, 27, 28, 29, 30, 31, 32, 33, 34, 35, 36, 37, 38, 39, 40, 41, 42, 43, 44, 45, 46, 47, 48, 49, 50, 51, 52] (by decide +kernel) (by decide +kernel)
set_option maxRecDepth 20000 in
theorem gX8_next_X8_isIn : GoodIn wsX8_next (wsV RX8 217 RX8 yX8_isIn wsX8_isIn) := goodIn_app (goodIn_of _ (by decide +kernel)) ggX8_next_X8_isIn
set_option maxRecDepth 20000 in
theorem ggX8_next_X8_fails : GoodIn wsX8_next wsX8_fails := goodIn_r _ [13, 1, 14, 15, 16, 17, 18, 19, 20, 21, 22, 23, 24, 25, 26, 27, 28, 29, 30, 31, 32, 33, 34, 35, 36, 37, 38, 39, 40, 41, 42, 43, 44, 45, 46, 47, 48, 49, 50, 51, 52] (by decide +kernel) (by decide +kernel)
set_option maxRecDepth 20000 in
theorem gX8_next_X8_fails : GoodIn wsX8_next (wsV RX8 140 RX8 yX8_fails wsX8_fails) := goodIn_app (goodIn_of _ (by decide +kernel)) ggX8_next_X8_fails
theorem dX8_next_0 : decode cX8_next 0 = .ok (.aload_n 0, 1) := by decide +kernel
theorem dX8_next_1 : decode cX8_next 1 = .ok (.iconst 0, 1) := by decide +kernel
theorem dX8_next_2 : decode cX8_next 2 = .ok (.putfield 103, 3) := by decide +kernel
theorem dX8_next_5 : decode cX8_next 5 = .ok (.aload_n 0, 1) := by decide +kernel
theorem dX8_next_6 : decode cX8_next 6 = .ok (.iload_n 1, 1) := by decide +kernel
theorem dX8_next_7 : decode cX8_next 7 = .ok (.iload_n 2, 1) := by decide +kernel
theorem dX8_next_8 : decode cX8_next 8 = .ok (.invokevirtual 217, 3) := by decide +kernel
theorem dX8_next_11 : decode cX8_next 11 = .ok (.ifCond .eq 17, 3) := by decide +kernel
theorem dX8_next_14 : decode cX8_next 14 = .ok (.aload_n 0, 1) := by decide +kernel
theorem dX8_next_15 : decode cX8_next 15 = .ok (.getfield 79, 3) := by decide +kernel
theorem dX8_next_18 : decode cX8_next 18 = .ok (.bipush 6, 2) := by decide +kernel
theorem dX8_next_20 : decode cX8_next 20 = .ok (.iload_n 1, 1) := by decide +kernel
theorem dX8_next_21 : decode cX8_next 21 = .ok (.imul, 1) := by decide +kernel
theorem dX8_next_22 : decode cX8_next 22 = .ok (.iload_n 2, 1) := by decide +kernel
theorem dX8_next_23 : decode cX8_next 23 = .ok (.iadd, 1) := by decide +kernel
theorem dX8_next_24 : decode cX8_next 24 = .ok (.iaload, 1) := by decide +kernel
theorem dX8_next_25 : decode cX8_next 25 = .ok (.goto 8, 3) := by decide +kernel
theorem dX8_next_28 : decode cX8_next 28 = .ok (.aload_n 0, 1) := by decide +kernel
theorem dX8_next_29 : decode cX8_next 29 = .ok (.iconst 1, 1) := by decide +kernel
theorem dX8_next_30 : decode cX8_next 30 = .ok (.invokevirtual 140, 3) := by decide +kernel
theorem dX8_next_33 : decode cX8_next 33 = .ok (.ireturn, 1) := by decide +kernel
set_option maxRecDepth 20000 in
theorem ggX8_trace_X8_isIn : GoodIn wsX8_trace wsX8_isIn := goodIn_r _ [9, 2, 10, 11, 12, 13, 14, 15, 16, 17, 18, 19, 20, 21, 22, 23, 24, 25, 26, 27, 28, 29, 30, 31, 32, 33, 34, 35, 36, 37, 38, 39, 40, 41, 42, 43, 44, 45, 46, 47, 48, 49] (by decide +kernel) (by decide +kernel)
set_option maxRecDepth 20000 in
theorem gX8_trace_X8_isIn : GoodIn wsX8_trace (wsV RX8 217 RX8 yX8_isIn wsX8_isIn) := goodIn_app (goodIn_of _ (by decide +kernel)) ggX8_trace_X8_isIn
theorem dX8_trace_0 : decode cX8_trace 0 = .ok (.aload_n 0, 1) := by decide +kernel
theorem dX8_trace_1 : decode cX8_trace 1 = .ok (.iconst 0, 1) := by decide +kernel
theorem dX8_trace_2 : decode cX8_trace 2 = .ok (.putfield 103, 3) := by decide +kernel
theorem dX8_trace_5 : decode cX8_trace 5 = .ok (.aload_n 0, 1) := by decide +kernel
theorem dX8_trace_6 : decode cX8_trace 6 = .ok (.getfield 143, 3) := by decide +kernel
theorem dX8_trace_9 : decode cX8_trace 9 = .ok (.ifCond .le 16, 3) := by decide +kernel
theorem dX8_trace_12 : decode cX8_trace 12 = .ok (.iload_n 1, 1) := by decide +kernel
theorem dX8_trace_13 : decode cX8_trace 13 = .ok (.ifCond .ne 12, 3) := by decide +kernel
theorem dX8_trace_16 : decode cX8_trace 16 = .ok (.iload_n 2, 1) := by decide +kernel
theorem dX8_trace_17 : decode cX8_trace 17 = .ok (.iconst (-1), 1) := by decide +kernel
theorem dX8_trace_18 : decode cX8_trace 18 = .ok (.if_icmp .ne 7, 3) := by decide +kernel
theorem dX8_trace_21 : decode cX8_trace 21 = .ok (.iconst 1, 1) := by decide +kernel
theorem dX8_trace_22 : decode cX8_trace 22 = .ok (.goto 4, 3) := by decide +kernel
theorem dX8_trace_25 : decode cX8_trace 25 = .ok (.iconst 0, 1) := by decide +kernel
theorem dX8_trace_26 : decode cX8_trace 26 = .ok (.istore 4, 2) := by decide +kernel
theorem dX8_trace_28 : decode cX8_trace 28 = .ok (.iload 4, 2) := by decide +kernel
theorem dX8_trace_30 : decode cX8_trace 30 = .ok (.ifCond .ne 14, 3) := by decide +kernel
theorem dX8_trace_33 : decode cX8_trace 33 = .ok (.aload_n 0, 1) := by decide +kernel
theorem dX8_trace_34 : decode cX8_trace 34 = .ok (.iload_n 1, 1) := by decide +kernel
theorem dX8_trace_35 : decode cX8_trace 35 = .ok (.iload_n 2, 1) := by decide +kernel
theorem dX8_trace_36 : decode cX8_trace 36 = .ok (.invokevirtual 217, 3) := by decide +kernel
theorem dX8_trace_39 : decode cX8_trace 39 = .ok (.ifCond .ne 5, 3) := by decide +kernel
theorem dX8_trace_42 : decode cX8_trace 42 = .ok (.iconst (-1), 1) := by decide +kernel
theorem dX8_trace_43 : decode cX8_trace 43 = .ok (.ireturn, 1) := by decide +kernel
theorem dX8_trace_44 : decode cX8_trace 44 = .ok (.iload 4, 2) := by decide +kernel
theorem dX8_trace_46 : decode cX8_trace 46 = .ok (.ifCond .eq 9, 3) := by decide +kernel
theorem dX8_trace_49 : decode cX8_trace 49 = .ok (.sipush 180, 3) := by decide +kernel
theorem dX8_trace_52 : decode cX8_trace 52 = .ok (.goto 9, 3) := by decide +kernel
theorem dX8_trace_55 : decode cX8_trace 55 = .ok (.bipush 6, 2) := by decide +kernel
theorem dX8_trace_57 : decode cX8_trace 57 = .ok (.iload_n 1, 1) := by decide +kernel
theorem dX8_trace_58 : decode cX8_trace 58 = .ok (.imul, 1) := by decide +kernel
theorem dX8_trace_59 : decode cX8_trace 59 = .ok (.iload_n 2, 1) := by decide +kernel
theorem dX8_trace_60 : decode cX8_trace 60 = .ok (.iadd, 1) := by decide +kernel
theorem dX8_trace_61 : decode cX8_trace 61 = .ok (.istore 5, 2) := by decide +kernel
theorem dX8_trace_63 : decode cX8_trace 63 = .ok (.iload_n 3, 1) := by decide +kernel
theorem dX8_trace_64 : decode cX8_trace 64 = .ok (.ifCond .lt 29, 3) := by decide +kernel
theorem dX8_trace_67 : decode cX8_trace 67 = .ok (.iload_n 3, 1) := by decide +kernel
theorem dX8_trace_68 : decode cX8_trace 68 = .ok (.aload_n 0, 1) := by decide +kernel
theorem dX8_trace_69 : decode cX8_trace 69 = .ok (.getfield 82, 3) := by decide +kernel
theorem dX8_trace_72 : decode cX8_trace 72 = .ok (.iload 5, 2) := by decide +kernel
theorem dX8_trace_74 : decode cX8_trace 74 = .ok (.iaload, 1) := by decide +kernel
theorem dX8_trace_75 : decode cX8_trace 75 = .ok (.if_icmp .ge 18, 3) := by decide +kernel
theorem dX8_trace_78 : decode cX8_trace 78 = .ok (.aload_n 0, 1) := by decide +kernel
theorem dX8_trace_79 : decode cX8_trace 79 = .ok (.getfield 85, 3) := by decide +kernel
theorem dX8_trace_82 : decode cX8_trace 82 = .ok (.bipush 40, 2) := by decide +kernel
theorem dX8_trace_84 : decode cX8_trace 84 = .ok (.iload 5, 2) := by decide +kernel
theorem dX8_trace_86 : decode cX8_trace 86 = .ok (.imul, 1) := by decide +kernel
theorem dX8_trace_87 : decode cX8_trace 87 = .ok (.iload_n 3, 1) := by decide +kernel
theorem dX8_trace_88 : decode cX8_trace 88 = .ok (.iadd, 1) := by decide +kernel
theorem dX8_trace_89 : decode cX8_trace 89 = .ok (.caload, 1) := by decide +kernel
theorem dX8_trace_90 : decode cX8_trace 90 = .ok (.goto 4, 3) := by decide +kernel
theorem dX8_trace_93 : decode cX8_trace 93 = .ok (.iconst (-1), 1) := by decide +kernel
theorem dX8_trace_94 : decode cX8_trace 94 = .ok (.ireturn, 1) := by decide +kernel
set_option maxRecDepth 20000 in
theorem ggX8_active_X8_isActive : GoodIn wsX8_active wsX8_isActive := goodIn_r _ [10, 11, 12, 4, 13, 14, 15, 16, 17, 18, 19, 20, 21, 22, 23, 24, 25, 26, 27, 28, 29, 30, 31, 32, 33, 34, 35, 36, 37, 38, 39, 40, 41, 42, 43, 44, 45, 46, 47, 48, 49, 50, 51] (by decide +kernel) (by decide +kernel)
set_option maxRecDepth 20000 in
theorem gX8_active_X8_isActive : GoodIn wsX8_active (wsV RX8 178 RX8 yX8_isActive wsX8_isActive) := goodIn_app (goodIn_of _ (by decide +kernel)) ggX8_active_X8_isActive
theorem dX8_active_0 : decode cX8_active 0 = .ok (.aload_n 0, 1) := by decide +kernel
theorem dX8_active_1 : decode cX8_active 1 = .ok (.iconst 0, 1) := by decide +kernel
theorem dX8_active_2 : decode cX8_active 2 = .ok (.putfield 103, 3) := by decide +kernel
theorem dX8_active_5 : decode cX8_active 5 = .ok (.iload_n 1, 1) := by decide +kernel
theorem dX8_active_6 : decode cX8_active 6 = .ok (.ifCond .lt 23, 3) := by decide +kernel
theorem dX8_active_9 : decode cX8_active 9 = .ok (.iload_n 1, 1) := by decide +kernel
theorem dX8_active_10 : decode cX8_active 10 = .ok (.aload_n 0, 1) := by decide +kernel
theorem dX8_active_11 : decode cX8_active 11 = .ok (.getfield 143, 3) := by decide +kernel
theorem dX8_active_14 : decode cX8_active 14 = .ok (.if_icmp .ge 15, 3) := by decide +kernel
theorem dX8_active_17 : decode cX8_active 17 = .ok (.iload_n 2, 1) := by decide +kernel
theorem dX8_active_18 : decode cX8_active 18 = .ok (.ifCond .lt 11, 3) := by decide +kernel
theorem dX8_active_21 : decode cX8_active 21 = .ok (.iload_n 2, 1) := by decide +kernel
theorem dX8_active_22 : decode cX8_active 22 = .ok (.aload_n 0, 1) := by decide +kernel
theorem dX8_active_23 : decode cX8_active 23 = .ok (.getfield 20, 3) := by decide +kernel
theorem dX8_active_26 : decode cX8_active 26 = .ok (.if_icmp .lt 5, 3) := by decide +kernel
theorem dX8_active_29 : decode cX8_active 29 = .ok (.iconst 0, 1) := by decide +kernel
theorem dX8_active_30 : decode cX8_active 30 = .ok (.ireturn, 1) := by decide +kernel
theorem dX8_active_31 : decode cX8_active 31 = .ok (.iconst 0, 1) := by decide +kernel
theorem dX8_active_32 : decode cX8_active 32 = .ok (.istore_n 3, 1) := by decide +kernel
theorem dX8_active_33 : decode cX8_active 33 = .ok (.iload_n 3, 1) := by decide +kernel
theorem dX8_active_34 : decode cX8_active 34 = .ok (.aload_n 0, 1) := by decide +kernel
theorem dX8_active_35 : decode cX8_active 35 = .ok (.getfield 20, 3) := by decide +kernel
theorem dX8_active_38 : decode cX8_active 38 = .ok (.if_icmp .ge 26, 3) := by decide +kernel
theorem dX8_active_41 : decode cX8_active 41 = .ok (.aload_n 0, 1) := by decide +kernel
theorem dX8_active_42 : decode cX8_active 42 = .ok (.getfield 70, 3) := by decide +kernel
theorem dX8_active_45 : decode cX8_active 45 = .ok (.iload_n 3, 1) := by decide +kernel
theorem dX8_active_46 : decode cX8_active 46 = .ok (.aload_n 0, 1) := by decide +kernel
theorem dX8_active_47 : decode cX8_active 47 = .ok (.getfield 76, 3) := by decide +kernel
theorem dX8_active_50 : decode cX8_active 50 = .ok (.bipush 14, 2) := by decide +kernel
theorem dX8_active_52 : decode cX8_active 52 = .ok (.iload_n 1, 1) := by decide +kernel
theorem dX8_active_53 : decode cX8_active 53 = .ok (.imul, 1) := by decide +kernel
theorem dX8_active_54 : decode cX8_active 54 = .ok (.iload_n 3, 1) := by decide +kernel
theorem dX8_active_55 : decode cX8_active 55 = .ok (.iadd, 1) := by decide +kernel
theorem dX8_active_56 : decode cX8_active 56 = .ok (.iaload, 1) := by decide +kernel
theorem dX8_active_57 : decode cX8_active 57 = .ok (.iastore, 1) := by decide +kernel
theorem dX8_active_58 : decode cX8_active 58 = .ok (.iinc 3 1, 3) := by decide +kernel
theorem dX8_active_61 : decode cX8_active 61 = .ok (.goto (-28), 3) := by decide +kernel
theorem dX8_active_64 : decode cX8_active 64 = .ok (.aload_n 0, 1) := by decide +kernel
theorem dX8_active_65 : decode cX8_active 65 = .ok (.iload_n 2, 1) := by decide +kernel
theorem dX8_active_66 : decode cX8_active 66 = .ok (.invokevirtual 178, 3) := by decide +kernel
theorem dX8_active_69 : decode cX8_active 69 = .ok (.ireturn, 1) := by decide +kernel
theorem dX8_current_0 : decode cX8_current 0 = .ok (.aload_n 0, 1) := by decide +kernel
theorem dX8_current_1 : decode cX8_current 1 = .ok (.iconst 0, 1) := by decide +kernel
theorem dX8_current_2 : decode cX8_current 2 = .ok (.putfield 103, 3) := by decide +kernel
theorem dX8_current_5 : decode cX8_current 5 = .ok (.iload_n 1, 1) := by decide +kernel
theorem dX8_current_6 : decode cX8_current 6 = .ok (.ifCond .lt 37, 3) := by decide +kernel
theorem dX8_current_9 : decode cX8_current 9 = .ok (.iload_n 1, 1) := by decide +kernel
theorem dX8_current_10 : decode cX8_current 10 = .ok (.aload_n 0, 1) := by decide +kernel
theorem dX8_current_11 : decode cX8_current 11 = .ok (.getfield 143, 3) := by decide +kernel
theorem dX8_current_14 : decode cX8_current 14 = .ok (.if_icmp .ge 29, 3) := by decide +kernel
theorem dX8_current_17 : decode cX8_current 17 = .ok (.iload_n 2, 1) := by decide +kernel
theorem dX8_current_18 : decode cX8_current 18 = .ok (.ifCond .lt 25, 3) := by decide +kernel
theorem dX8_current_21 : decode cX8_current 21 = .ok (.iload_n 2, 1) := by decide +kernel
theorem dX8_current_22 : decode cX8_current 22 = .ok (.aload_n 0, 1) := by decide +kernel
theorem dX8_current_23 : decode cX8_current 23 = .ok (.getfield 20, 3) := by decide +kernel
theorem dX8_current_26 : decode cX8_current 26 = .ok (.if_icmp .ge 17, 3) := by decide +kernel
theorem dX8_current_29 : decode cX8_current 29 = .ok (.aload_n 0, 1) := by decide +kernel
theorem dX8_current_30 : decode cX8_current 30 = .ok (.getfield 76, 3) := by decide +kernel
theorem dX8_current_33 : decode cX8_current 33 = .ok (.bipush 14, 2) := by decide +kernel
theorem dX8_current_35 : decode cX8_current 35 = .ok (.iload_n 1, 1) := by decide +kernel
theorem dX8_current_36 : decode cX8_current 36 = .ok (.imul, 1) := by decide +kernel
theorem dX8_current_37 : decode cX8_current 37 = .ok (.iload_n 2, 1) := by decide +kernel
theorem dX8_current_38 : decode cX8_current 38 = .ok (.iadd, 1) := by decide +kernel
theorem dX8_current_39 : decode cX8_current 39 = .ok (.iaload, 1) := by decide +kernel
theorem dX8_current_40 : decode cX8_current 40 = .ok (.goto 4, 3) := by decide +kernel
theorem dX8_current_43 : decode cX8_current 43 = .ok (.iconst (-1), 1) := by decide +kernel
theorem dX8_current_44 : decode cX8_current 44 = .ok (.ireturn, 1) := by decide +kernel
set_option maxRecDepth 20000 in
theorem ggX8_event_X8_fails : GoodIn wsX8_event wsX8_fails := goodIn_r _ [12, 1, 13, 14, 15, 16, 17, 18, 19, 20, 21, 22, 23, 24, 25, 26, 27, 28, 29, 30, 31, 32, 33, 34, 35, 36, 37, 38, 39, 40, 41, 42, 43, 44, 45, 46, 47, 48, 49, 50, 51] (by decide +kernel) (by decide +kernel)
set_option maxRecDepth 20000 in
theorem gX8_event_X8_fails : GoodIn wsX8_event (wsV RX8 140 RX8 yX8_fails wsX8_fails) := goodIn_app (goodIn_of _ (by decide +kernel)) ggX8_event_X8_fails
theorem dX8_event_0 : decode cX8_event 0 = .ok (.aload_n 0, 1) := by decide +kernel
theorem dX8_event_1 : decode cX8_event 1 = .ok (.iconst 0, 1) := by decide +kernel
theorem dX8_event_2 : decode cX8_event 2 = .ok (.putfield 103, 3) := by decide +kernel
theorem dX8_event_5 : decode cX8_event 5 = .ok (.aload_n 0, 1) := by decide +kernel
theorem dX8_event_6 : decode cX8_event 6 = .ok (.getfield 143, 3) := by decide +kernel
theorem dX8_event_9 : decode cX8_event 9 = .ok (.ifCond .ne 9, 3) := by decide +kernel
theorem dX8_event_12 : decode cX8_event 12 = .ok (.aload_n 0, 1) := by decide +kernel
theorem dX8_event_13 : decode cX8_event 13 = .ok (.iconst 1, 1) := by decide +kernel
theorem dX8_event_14 : decode cX8_event 14 = .ok (.invokevirtual 140, 3) := by decide +kernel
theorem dX8_event_17 : decode cX8_event 17 = .ok (.ireturn, 1) := by decide +kernel
theorem dX8_event_18 : decode cX8_event 18 = .ok (.iload_n 1, 1) := by decide +kernel
theorem dX8_event_19 : decode cX8_event 19 = .ok (.ifCond .lt 11, 3) := by decide +kernel
theorem dX8_event_22 : decode cX8_event 22 = .ok (.iload_n 1, 1) := by decide +kernel
theorem dX8_event_23 : decode cX8_event 23 = .ok (.aload_n 0, 1) := by decide +kernel
theorem dX8_event_24 : decode cX8_event 24 = .ok (.getfield 120, 3) := by decide +kernel
theorem dX8_event_27 : decode cX8_event 27 = .ok (.if_icmp .lt 9, 3) := by decide +kernel
theorem dX8_event_30 : decode cX8_event 30 = .ok (.aload_n 0, 1) := by decide +kernel
theorem dX8_event_31 : decode cX8_event 31 = .ok (.iconst 2, 1) := by decide +kernel
theorem dX8_event_32 : decode cX8_event 32 = .ok (.invokevirtual 140, 3) := by decide +kernel
theorem dX8_event_35 : decode cX8_event 35 = .ok (.ireturn, 1) := by decide +kernel
theorem dX8_event_36 : decode cX8_event 36 = .ok (.aload_n 0, 1) := by decide +kernel
theorem dX8_event_37 : decode cX8_event 37 = .ok (.aload_n 0, 1) := by decide +kernel
theorem dX8_event_38 : decode cX8_event 38 = .ok (.getfield 214, 3) := by decide +kernel
theorem dX8_event_41 : decode cX8_event 41 = .ok (.aload_n 0, 1) := by decide +kernel
theorem dX8_event_42 : decode cX8_event 42 = .ok (.getfield 82, 3) := by decide +kernel
theorem dX8_event_45 : decode cX8_event 45 = .ok (.bipush 6, 2) := by decide +kernel
theorem dX8_event_47 : decode cX8_event 47 = .ok (.aload_n 0, 1) := by decide +kernel
theorem dX8_event_48 : decode cX8_event 48 = .ok (.getfield 211, 3) := by decide +kernel
theorem dX8_event_51 : decode cX8_event 51 = .ok (.imul, 1) := by decide +kernel
theorem dX8_event_52 : decode cX8_event 52 = .ok (.iload_n 1, 1) := by decide +kernel
theorem dX8_event_53 : decode cX8_event 53 = .ok (.iadd, 1) := by decide +kernel
theorem dX8_event_54 : decode cX8_event 54 = .ok (.iaload, 1) := by decide +kernel
theorem dX8_event_55 : decode cX8_event 55 = .ok (.iadd, 1) := by decide +kernel
theorem dX8_event_56 : decode cX8_event 56 = .ok (.putfield 214, 3) := by decide +kernel
theorem dX8_event_59 : decode cX8_event 59 = .ok (.aload_n 0, 1) := by decide +kernel
theorem dX8_event_60 : decode cX8_event 60 = .ok (.aload_n 0, 1) := by decide +kernel
theorem dX8_event_61 : decode cX8_event 61 = .ok (.getfield 79, 3) := by decide +kernel
theorem dX8_event_64 : decode cX8_event 64 = .ok (.bipush 6, 2) := by decide +kernel
theorem dX8_event_66 : decode cX8_event 66 = .ok (.aload_n 0, 1) := by decide +kernel
theorem dX8_event_67 : decode cX8_event 67 = .ok (.getfield 211, 3) := by decide +kernel
theorem dX8_event_70 : decode cX8_event 70 = .ok (.imul, 1) := by decide +kernel
theorem dX8_event_71 : decode cX8_event 71 = .ok (.iload_n 1, 1) := by decide +kernel
theorem dX8_event_72 : decode cX8_event 72 = .ok (.iadd, 1) := by decide +kernel
theorem dX8_event_73 : decode cX8_event 73 = .ok (.iaload, 1) := by decide +kernel
theorem dX8_event_74 : decode cX8_event 74 = .ok (.putfield 211, 3) := by decide +kernel
theorem dX8_event_77 : decode cX8_event 77 = .ok (.aload_n 0, 1) := by decide +kernel
theorem dX8_event_78 : decode cX8_event 78 = .ok (.getfield 211, 3) := by decide +kernel
theorem dX8_event_81 : decode cX8_event 81 = .ok (.ireturn, 1) := by decide +kernel
theorem dX8_noted_0 : decode cX8_noted 0 = .ok (.aload_n 0, 1) := by decide +kernel
theorem dX8_noted_1 : decode cX8_noted 1 = .ok (.iconst 0, 1) := by decide +kernel
theorem dX8_noted_2 : decode cX8_noted 2 = .ok (.putfield 103, 3) := by decide +kernel
theorem dX8_noted_5 : decode cX8_noted 5 = .ok (.aload_n 0, 1) := by decide +kernel
theorem dX8_noted_6 : decode cX8_noted 6 = .ok (.getfield 143, 3) := by decide +kernel
theorem dX8_noted_9 : decode cX8_noted 9 = .ok (.ifCond .le 10, 3) := by decide +kernel
theorem dX8_noted_12 : decode cX8_noted 12 = .ok (.aload_n 0, 1) := by decide +kernel
theorem dX8_noted_13 : decode cX8_noted 13 = .ok (.getfield 214, 3) := by decide +kernel
theorem dX8_noted_16 : decode cX8_noted 16 = .ok (.goto 4, 3) := by decide +kernel
theorem dX8_noted_19 : decode cX8_noted 19 = .ok (.iconst 0, 1) := by decide +kernel
theorem dX8_noted_20 : decode cX8_noted 20 = .ok (.ireturn, 1) := by decide +kernel
end
section
/-! The memory of a fixed set of cells as one function: cell, place → int. A cell is an array of ints (kind, length), or an object (class, fields: none = an int, some q = the fixed reference to cell q). -/
abbrev Mem : Type := Nat → Nat → Int32
def set2 (M : Mem) (k j : Nat) (v : Int32) : Mem := fun a => if a = k then upd (M a) j v else M a
theorem set2_same (M : Mem) (k j : Nat) (v : Int32) : set2 M k j v k = upd (M k) j v := if_pos rfl
theorem set2_ne (M : Mem) {k a : Nat} (j : Nat) (v : Int32) (h : a ≠ k) : set2 M k j v a = M a := if_neg h
abbrev wd_D : Type := (Nat × Nat) ⊕ (Nat × List (Option Nat))
def wd_fs (ad : Nat → Nat) (f : Nat → Int32) : Nat → List (Option Nat) → List Value
  | _, [] => []
  | j, o :: r => (match o with | none => Value.int (f j) | some q => Value.ref (ad q)) :: wd_fs ad f (j + 1) r
def wd_c (cA : Nat → ClassId) (ad : Nat → Nat) (f : Nat → Int32) (d : wd_D) : va_E := match d with
  | .inl a => .inl (cA a.1, a.2, .inl f)
  | .inr o => .inr (o.1, wd_fs ad f 0 o.2)
def wd_l (cA : Nat → ClassId) (ad : Nat → Nat) (M : Mem) : Nat → List wd_D → va_W
  | _, [] => []
  | k, d :: r => (ad k, wd_c cA ad (M k) d) :: wd_l cA ad M (k + 1) r
theorem wd_fs_len (ad : Nat → Nat) (f : Nat → Int32) : ∀ (fs : List (Option Nat)) (j : Nat), (wd_fs ad f j fs).length = fs.length
  | [], _ => rfl
  | o :: r, j => by simp [wd_fs, wd_fs_len ad f r (j + 1)]
theorem wd_fs_i (ad : Nat → Nat) (f : Nat → Int32) : ∀ (fs : List (Option Nat)) (j k : Nat), fs[k]? = some none → (wd_fs ad f j fs)[k]? = some (.int (f (j + k)))
  | [], _, _, h => by simp at h
  | o :: r, j, 0, h => by
    simp only [List.getElem?_cons_zero, Option.some.injEq] at h
    subst h
    simp [wd_fs]
  | o :: r, j, k + 1, h => by
    simp only [List.getElem?_cons_succ] at h
    have q := wd_fs_i ad f r (j + 1) k h
    simp only [wd_fs, List.getElem?_cons_succ]
    rw [q, show j + 1 + k = j + (k + 1) by omega]
theorem wd_fs_r (ad : Nat → Nat) (f : Nat → Int32) {q : Nat} : ∀ (fs : List (Option Nat)) (j k : Nat), fs[k]? = some (some q) → (wd_fs ad f j fs)[k]? = some (.ref (ad q))
  | [], _, _, h => by simp at h
  | o :: r, j, 0, h => by
    simp only [List.getElem?_cons_zero, Option.some.injEq] at h
    subst h
    simp [wd_fs]
  | o :: r, j, k + 1, h => by
    simp only [List.getElem?_cons_succ] at h
    simp only [wd_fs, List.getElem?_cons_succ]
    exact wd_fs_r ad f r (j + 1) k h
theorem wd_fs_keep (ad : Nat → Nat) {f g : Nat → Int32} : ∀ (fs : List (Option Nat)) (j : Nat), (∀ i, j ≤ i → f i = g i) → wd_fs ad f j fs = wd_fs ad g j fs
  | [], _, _ => rfl
  | o :: r, j, h => by
    simp only [wd_fs]
    rw [wd_fs_keep ad r (j + 1) (fun i hi => h i (by omega))]
    cases o with
    | none => simp only []; rw [h j (Nat.le_refl _)]
    | some q => rfl
theorem wd_fs_set (ad : Nat → Nat) (f : Nat → Int32) (v : Int32) : ∀ (fs : List (Option Nat)) (j k : Nat), fs[k]? = some none → (wd_fs ad f j fs).set k (.int v) = wd_fs ad (upd f (j + k) v) j fs
  | [], _, _, h => by simp at h
  | o :: r, j, 0, h => by
    simp only [List.getElem?_cons_zero, Option.some.injEq] at h
    subst h
    simp only [wd_fs, List.set_cons_zero, Nat.add_zero]
    rw [wd_fs_keep ad (f := f) (g := upd f j v) r (j + 1) (fun i hi => by simp [upd, show i ≠ j by omega])]
    simp [upd]
  | o :: r, j, k + 1, h => by
    simp only [List.getElem?_cons_succ] at h
    have q := wd_fs_set ad f v r (j + 1) k h
    simp only [wd_fs, List.set_cons_succ]
    rw [q, show j + 1 + k = j + (k + 1) by omega]
    cases o with
    | none => simp [upd, show j ≠ j + (k + 1) by omega]
    | some q => rfl
theorem wd_len (cA : Nat → ClassId) (ad : Nat → Nat) (M : Mem) : ∀ (ds : List wd_D) (k : Nat), (wd_l cA ad M k ds).length = ds.length
  | [], _ => rfl
  | d :: r, k => by simp [wd_l, wd_len cA ad M r (k + 1)]
theorem wd_get (cA : Nat → ClassId) (ad : Nat → Nat) (M : Mem) {d : wd_D} : ∀ (ds : List wd_D) (k0 k : Nat), ds[k]? = some d → (wd_l cA ad M k0 ds)[k]? = some (ad (k0 + k), wd_c cA ad (M (k0 + k)) d)
  | [], _, _, h => by simp at h
  | d0 :: r, k0, 0, h => by
    simp only [List.getElem?_cons_zero, Option.some.injEq] at h
    subst h
    simp [wd_l]
  | d0 :: r, k0, k + 1, h => by
    simp only [List.getElem?_cons_succ] at h
    simp only [wd_l, List.getElem?_cons_succ]
    rw [wd_get cA ad M r (k0 + 1) k h, show k0 + 1 + k = k0 + (k + 1) by omega]
theorem wd_keep (cA : Nat → ClassId) (ad : Nat → Nat) {M M' : Mem} : ∀ (ds : List wd_D) (k0 : Nat), (∀ i, k0 ≤ i → M' i = M i) → wd_l cA ad M k0 ds = wd_l cA ad M' k0 ds
  | [], _, _ => rfl
  | d :: r, k0, h => by
    simp only [wd_l]
    rw [wd_keep cA ad r (k0 + 1) (fun i hi => h i (by omega)), h k0 (Nat.le_refl _)]
theorem wd_set (cA : Nat → ClassId) (ad : Nat → Nat) {M M' : Mem} {d : wd_D} {e : va_E} : ∀ (ds : List wd_D) (k0 k : Nat), ds[k]? = some d → e = wd_c cA ad (M' (k0 + k)) d → (∀ i, i ≠ k0 + k → M' i = M i) → (wd_l cA ad M k0 ds).set k (ad (k0 + k), e) = wd_l cA ad M' k0 ds
  | [], _, _, h, _, _ => by simp at h
  | d0 :: r, k0, 0, h, he, hk => by
    simp only [List.getElem?_cons_zero, Option.some.injEq] at h
    subst h
    simp only [wd_l, List.set_cons_zero, Nat.add_zero] at he ⊢
    rw [he, wd_keep cA ad r (k0 + 1) (fun i hi => hk i (by omega))]
  | d0 :: r, k0, k + 1, h, he, hk => by
    simp only [List.getElem?_cons_succ] at h
    simp only [wd_l, List.set_cons_succ]
    rw [show k0 + (k + 1) = k0 + 1 + k by omega] at he hk ⊢
    rw [wd_set cA ad r (k0 + 1) k h he hk, hk k0 (by omega)]
/-- which cells the system's methods write -/
def wd_A (ad : Nat → Nat) (N : Nat) : Nat → Prop := fun q => ∃ k, k < N ∧ q = ad k
def wd_inj (ad : Nat → Nat) (N : Nat) : Prop := ∀ i j, i < N → j < N → ad i = ad j → i = j
theorem wd_at {cA : Nat → ClassId} {ad : Nat → Nat} {M : Mem} {ds : List wd_D} {k : Nat} {q : Nat × va_E} (h : (wd_l cA ad M 0 ds)[k]? = some q) : k < ds.length ∧ q.1 = ad k := by
  have hl := (List.getElem?_eq_some_iff.mp h).1
  rw [wd_len] at hl
  have h2 := wd_get cA ad M ds 0 k (List.getElem?_eq_getElem hl)
  rw [h] at h2
  exact ⟨hl, by rw [Option.some.inj h2]; simp⟩
theorem wd_DA {cA : Nat → ClassId} {ad : Nat → Nat} {ds : List wd_D} (M : Mem) (hj : wd_inj ad ds.length) : va_D (wd_A ad ds.length) (wd_l cA ad M 0 ds) := by
  refine ⟨fun i j p q hi hj2 hpq => ?_, fun k q hk => ?_⟩
  · have a := wd_at hi
    have b := wd_at hj2
    exact hj i j a.1 b.1 (by rw [← a.2, ← b.2, hpq])
  · have a := wd_at hk
    exact ⟨k, a.1, a.2⟩
abbrev wd_t (cA : Nat → ClassId) : List (ClassId × FieldType) := [(cA 0, .int), (cA 1, .char), (cA 2, .boolean)]
/-- the system's cells hold M -/
abbrev wd_P (D : va_G) (cA : Nat → ClassId) (ad : Nat → Nat) (ds : List wd_D) (M : Mem) (H : Heap) : Prop := va_P D vwCl (wd_l cA ad M 0 ds) H
abbrev wd_K (D : va_G) (cA : Nat → ClassId) (s : State) : Prop := va_K D vwCl (wd_t cA) s
/-- what a walk of a method stands on -/
def wd_X (p : Program) (s : State) (m : MethodId) (args : Array Value) (meth : Method) (c : Code) (cc : ByteArray) (nL : Nat) (Ts : List Cond) (own : String) (rt : Option FieldType) (D : va_G) (cA : Nat → ClassId) (ad : Nat → Nat) (N : Nat) : Prop :=
  CallFix p m c cc nL s args Ts own ∧ wd_K D cA s ∧ meth.locks = false ∧ meth.sig.returnType = rt ∧ wd_inj ad N
def wm_Pc (D : va_G) (cA : Nat → ClassId) (ad : Nat → Nat) (ds : List wd_D) (M : Mem) (av : List Value) : Array Value → State → Prop := va_Pc av (fun U => wd_P D cA ad ds M U.heap ∧ wd_K D cA U)
def wm_B (D : va_G) (cA : Nat → ClassId) (ad : Nat → Nat) (ds : List wd_D) : Mem → State → Prop := fun u t => wd_P D cA ad ds u t.heap ∧ wd_K D cA t
def wm_Qi (D : va_G) (cA : Nat → ClassId) (ad : Nat → Nat) (ds : List wd_D) (r : Int32) (M' : Mem) : Array Value → State → Outcome → State → Prop := va_Qi (fun (x : Int32) (u : Mem) => x = r ∧ u = M') (wm_B D cA ad ds) (wd_A ad ds.length)
def wm_Qv (D : va_G) (cA : Nat → ClassId) (ad : Nat → Nat) (ds : List wd_D) (M' : Mem) : Array Value → State → Outcome → State → Prop := va_Qv (fun u : Mem => u = M') (wm_B D cA ad ds) (wd_A ad ds.length)
def wm_Qr (D : va_G) (cA : Nat → ClassId) (ad : Nat → Nat) (ds : List wd_D) (k : Nat) (M' : Mem) : Array Value → State → Outcome → State → Prop := va_Qr (fun u : Mem => u = M') (fun u a t => a = ad k ∧ wm_B D cA ad ds u t) (wd_A ad ds.length)
/-- contracts: an int, nothing, a fixed cell comes back; the memory was M and is M' -/
def wm_i (l : Launch) (y : MethodName) (ws : List Cond) (rm : Room) (D : va_G) (cA : Nat → ClassId) (ad : Nat → Nat) (ds : List wd_D) (M : Mem) (av : List Value) (r : Int32) (M' : Mem) : Prop := Met l y ws rm (wm_Pc D cA ad ds M av) (wm_Qi D cA ad ds r M') 0 0 (wd_A ad ds.length)
def wm_v (l : Launch) (y : MethodName) (ws : List Cond) (rm : Room) (D : va_G) (cA : Nat → ClassId) (ad : Nat → Nat) (ds : List wd_D) (M : Mem) (av : List Value) (M' : Mem) : Prop := Met l y ws rm (wm_Pc D cA ad ds M av) (wm_Qv D cA ad ds M') 0 0 (wd_A ad ds.length)
def wm_r (l : Launch) (y : MethodName) (ws : List Cond) (rm : Room) (D : va_G) (cA : Nat → ClassId) (ad : Nat → Nat) (ds : List wd_D) (M : Mem) (av : List Value) (k : Nat) (M' : Mem) : Prop := Met l y ws rm (wm_Pc D cA ad ds M av) (wm_Qr D cA ad ds k M') 0 0 (wd_A ad ds.length)
section WDA
variable {p : Program} {l : Launch} {e : Env} {R : Room} {s : State} {m : MethodId} {args : Array Value} {below : List Frame} {meth : Method} {c : Code} {H : Heap} {locs : List Loc} {cells slots : Nat} {Q : State → Prop}
variable {cc : ByteArray} {nL : Nat} {pc : Nat} {ls : Array Slot} {rest : List Value} {D : va_G} {cA : Nat → ClassId} {ad : Nat → Nat} {ds : List wd_D} {M : Mem} {H0 : Heap} {Ts : List Cond} {own : String} {rt : Option FieldType} {A : Nat → Prop}
theorem wd_wr {k j : Nat} {v : Int32} {d : wd_D} {e : va_E} {H1 : Heap} (hd : ds[k]? = some d) (he : e = wd_c cA ad (upd (M k) j v) d) (h : va_P D vwCl ((wd_l cA ad M 0 ds).set k (ad k, e)) H1) : wd_P D cA ad ds (set2 M k j v) H1 := by
  have q := wd_set cA ad (M := M) (M' := set2 M k j v) ds 0 k hd (e := e) (by rw [he, Nat.zero_add, set2_same]) (fun i hi => set2_ne M j v (by omega))
  rw [Nat.zero_add] at q
  rw [q] at h
  exact h
theorem wd_cell {k : Nat} {d : wd_D} (hd : ds[k]? = some d) : (wd_l cA ad M 0 ds)[k]? = some (ad k, wd_c cA ad (M k) d) := by
  have q := wd_get cA ad M ds 0 k hd
  rwa [Nat.zero_add] at q
theorem wd_geti (X : wd_X p s m args meth c cc nL Ts own rt D cA ad ds.length) (hP : wd_P D cA ad ds M H) {C : String} {T : u_T} {N ci index : Nat} {fs : List (Option Nat)} (k : Nat) (hd : ds[k]? = some (.inr (ci, fs))) (hc : vwCl[ci]? = some (C, T, N)) (hin : ∀ w ∈ u_ws C T N, w ∈ Ts) (j : Nat) (hj : fs[j]? = some none) (hN : j < N) (hlink : Cond.fieldLink own index (T j).1 (T j).2.1 (T j).2.2.1 ∈ Ts) (hdg : decode cc pc = .ok (.getfield index, 3))
    (kk : W p l e R s m args below meth c H locs cells slots Q (F0 m (pc + 3) ls (.int (M k j) :: rest))) : W p l e R s m args below meth c H locs cells slots Q (F0 m pc ls (.ref (ad k) :: rest)) := by
  obtain ⟨⟨hx, hb, -, hown, hts⟩, hK, -, -, -⟩ := X
  refine va_get (v := .int (M k j)) hx hb hts hin hown hK hP k (wd_cell hd) hc j hN (hts _ hlink) (fun _ h => h) ?_ hdg kk
  have q := wd_fs_i ad (M k) fs 0 j hj
  rwa [Nat.zero_add] at q
theorem wd_getr (X : wd_X p s m args meth c cc nL Ts own rt D cA ad ds.length) (hP : wd_P D cA ad ds M H) {C : String} {T : u_T} {N ci index q : Nat} {fs : List (Option Nat)} (k : Nat) (hd : ds[k]? = some (.inr (ci, fs))) (hc : vwCl[ci]? = some (C, T, N)) (hin : ∀ w ∈ u_ws C T N, w ∈ Ts) (j : Nat) (hj : fs[j]? = some (some q)) (hN : j < N) (hlink : Cond.fieldLink own index (T j).1 (T j).2.1 (T j).2.2.1 ∈ Ts) (hdg : decode cc pc = .ok (.getfield index, 3))
    (kk : W p l e R s m args below meth c H locs cells slots Q (F0 m (pc + 3) ls (.ref (ad q) :: rest))) : W p l e R s m args below meth c H locs cells slots Q (F0 m pc ls (.ref (ad k) :: rest)) := by
  obtain ⟨⟨hx, hb, -, hown, hts⟩, hK, -, -, -⟩ := X
  exact va_get (v := .ref (ad q)) hx hb hts hin hown hK hP k (wd_cell hd) hc j hN (hts _ hlink) (fun _ h => h) (wd_fs_r ad (M k) fs 0 j hj) hdg kk
theorem wd_puti (X : wd_X p s m args meth c cc nL Ts own rt D cA ad ds.length) (hP : wd_P D cA ad ds M H) (hS : va_S (wd_A ad ds.length) H0 H locs) {C : String} {T : u_T} {N ci index : Nat} {fs : List (Option Nat)} {v : Int32} (k : Nat) (hd : ds[k]? = some (.inr (ci, fs))) (hc : vwCl[ci]? = some (C, T, N)) (hin : ∀ w ∈ u_ws C T N, w ∈ Ts) {ty0 : Nat → FieldType} (hty : ∀ k, k < N → parseFieldDescriptor (T k).2.2.1 = some (ty0 k)) (hnm : ∀ a, a < N → ∀ b, b < N → a ≠ b → (T a).2.1 ≠ (T b).2.1) (j : Nat) (hj : fs[j]? = some none) (hN : j < N) (hfin : (T j).2.2.2 = false) (ht : parseFieldDescriptor (T j).2.2.1 = some .int) (hlink : Cond.fieldLink own index (T j).1 (T j).2.1 (T j).2.2.1 ∈ Ts) (hdg : decode cc pc = .ok (.putfield index, 3))
    (kk : ∀ (H1 : Heap) (locs1 : List Loc), wd_P D cA ad ds (set2 M k j v) H1 → va_S (wd_A ad ds.length) H0 H1 locs1 → W p l e R s m args below meth c H1 locs1 cells slots Q (F0 m (pc + 3) ls rest)) : W p l e R s m args below meth c H locs cells slots Q (F0 m pc ls (.int v :: .ref (ad k) :: rest)) := by
  obtain ⟨⟨hx, hb, -, hown, hts⟩, hK, -, -, hj2⟩ := X
  have hl : j < (wd_fs ad (M k) 0 fs).length := by rw [wd_fs_len]; exact (List.getElem?_eq_some_iff.mp hj).1
  refine va_put (v := .int v) (ty := .int) hx hb hts hin ty0 hty hnm hown hK hP (wd_DA M hj2) hS k (wd_cell hd) hc j hN (hts _ hlink) (fun _ h => h) hfin ht rfl rfl hl hdg (fun H1 locs1 hP1 _ hS1 => kk H1 locs1 (wd_wr (j := j) (v := v) hd ?_ hP1) hS1)
  have q := wd_fs_set ad (M k) v fs 0 j hj
  rw [Nat.zero_add] at q
  simp only [wd_c]
  rw [q]
theorem wd_ild (X : wd_X p s m args meth c cc nL Ts own rt D cA ad ds.length) (hP : wd_P D cA ad ds M H) {n : Nat} {i : Int32} (k : Nat) (hd : ds[k]? = some (.inl (0, n))) (hin : vp_in i n) (hdg : decode cc pc = .ok (.iaload, 1))
    (kk : W p l e R s m args below meth c H locs cells slots Q (F0 m (pc + 1) ls (.int (M k i.toNatClampNeg) :: rest))) : W p l e R s m args below meth c H locs cells slots Q (F0 m pc ls (.int i :: .ref (ad k) :: rest)) := by
  obtain ⟨⟨hx, hb, -, -, -⟩, hK, -, -, -⟩ := X
  exact va_iald hx hb hK hP k 0 (wd_cell hd) rfl hin hdg kk
theorem wd_cld (X : wd_X p s m args meth c cc nL Ts own rt D cA ad ds.length) (hP : wd_P D cA ad ds M H) {n : Nat} {i : Int32} (k : Nat) (hd : ds[k]? = some (.inl (1, n))) (hin : vp_in i n) (hdg : decode cc pc = .ok (.caload, 1))
    (kk : W p l e R s m args below meth c H locs cells slots Q (F0 m (pc + 1) ls (.int (M k i.toNatClampNeg) :: rest))) : W p l e R s m args below meth c H locs cells slots Q (F0 m pc ls (.int i :: .ref (ad k) :: rest)) := by
  obtain ⟨⟨hx, hb, -, -, -⟩, hK, -, -, -⟩ := X
  exact va_cald hx hb hK hP k 1 (wd_cell hd) rfl hin hdg kk
theorem wd_zld (X : wd_X p s m args meth c cc nL Ts own rt D cA ad ds.length) (hP : wd_P D cA ad ds M H) {n : Nat} {i : Int32} (k : Nat) (hd : ds[k]? = some (.inl (2, n))) (hin : vp_in i n) (hdg : decode cc pc = .ok (.baload, 1))
    (kk : W p l e R s m args below meth c H locs cells slots Q (F0 m (pc + 1) ls (.int (M k i.toNatClampNeg) :: rest))) : W p l e R s m args below meth c H locs cells slots Q (F0 m pc ls (.int i :: .ref (ad k) :: rest)) := by
  obtain ⟨⟨hx, hb, -, -, -⟩, hK, -, -, -⟩ := X
  exact va_zald hx hb hK hP k 2 (wd_cell hd) rfl hin hdg kk
theorem wd_ist (X : wd_X p s m args meth c cc nL Ts own rt D cA ad ds.length) (hP : wd_P D cA ad ds M H) (hS : va_S (wd_A ad ds.length) H0 H locs) {n : Nat} {i v : Int32} (k : Nat) (hd : ds[k]? = some (.inl (0, n))) (hin : vp_in i n) (hdg : decode cc pc = .ok (.iastore, 1))
    (kk : ∀ (H1 : Heap) (locs1 : List Loc), wd_P D cA ad ds (set2 M k i.toNatClampNeg v) H1 → va_S (wd_A ad ds.length) H0 H1 locs1 → W p l e R s m args below meth c H1 locs1 cells slots Q (F0 m (pc + 1) ls rest)) : W p l e R s m args below meth c H locs cells slots Q (F0 m pc ls (.int v :: .int i :: .ref (ad k) :: rest)) := by
  obtain ⟨⟨hx, hb, -, -, -⟩, hK, -, -, hj2⟩ := X
  exact va_iast hx hb hK hP (wd_DA M hj2) hS k 0 (wd_cell hd) rfl hin hdg (fun H1 locs1 hP1 _ hS1 => kk H1 locs1 (wd_wr (j := i.toNatClampNeg) (v := v) hd rfl hP1) hS1)
theorem wd_cst (X : wd_X p s m args meth c cc nL Ts own rt D cA ad ds.length) (hP : wd_P D cA ad ds M H) (hS : va_S (wd_A ad ds.length) H0 H locs) {n : Nat} {i v : Int32} (k : Nat) (hd : ds[k]? = some (.inl (1, n))) (hin : vp_in i n) (hdg : decode cc pc = .ok (.castore, 1))
    (kk : ∀ (H1 : Heap) (locs1 : List Loc), wd_P D cA ad ds (set2 M k i.toNatClampNeg (vp_nar .char v)) H1 → va_S (wd_A ad ds.length) H0 H1 locs1 → W p l e R s m args below meth c H1 locs1 cells slots Q (F0 m (pc + 1) ls rest)) : W p l e R s m args below meth c H locs cells slots Q (F0 m pc ls (.int v :: .int i :: .ref (ad k) :: rest)) := by
  obtain ⟨⟨hx, hb, -, -, -⟩, hK, -, -, hj2⟩ := X
  exact va_cast hx hb hK hP (wd_DA M hj2) hS k 1 (wd_cell hd) rfl hin hdg (fun H1 locs1 hP1 _ hS1 => kk H1 locs1 (wd_wr (j := i.toNatClampNeg) (v := vp_nar .char v) hd rfl hP1) hS1)
theorem wd_zst (X : wd_X p s m args meth c cc nL Ts own rt D cA ad ds.length) (hP : wd_P D cA ad ds M H) (hS : va_S (wd_A ad ds.length) H0 H locs) {n : Nat} {i v : Int32} (k : Nat) (hd : ds[k]? = some (.inl (2, n))) (hin : vp_in i n) (hdg : decode cc pc = .ok (.bastore, 1))
    (kk : ∀ (H1 : Heap) (locs1 : List Loc), wd_P D cA ad ds (set2 M k i.toNatClampNeg (vp_nar .boolean v)) H1 → va_S (wd_A ad ds.length) H0 H1 locs1 → W p l e R s m args below meth c H1 locs1 cells slots Q (F0 m (pc + 1) ls rest)) : W p l e R s m args below meth c H locs cells slots Q (F0 m pc ls (.int v :: .int i :: .ref (ad k) :: rest)) := by
  obtain ⟨⟨hx, hb, -, -, -⟩, hK, -, -, hj2⟩ := X
  exact va_zast hx hb hK hP (wd_DA M hj2) hS k 2 (wd_cell hd) rfl hin hdg (fun H1 locs1 hP1 _ hS1 => kk H1 locs1 (wd_wr (j := i.toNatClampNeg) (v := vp_nar .boolean v) hd rfl hP1) hS1)
/-- the ends of a walk -/
theorem wd_reti (X : wd_X p s m args meth c cc nL Ts own rt D cA ad ds.length) (hP : wd_P D cA ad ds M H) (hS : va_S (wd_A ad ds.length) s.heap H locs) {ty : FieldType} {v : Int32} (hr : rt = some ty) (hn : narrow ty (.int v) = .int v) (hdg : decode cc pc = .ok (.ireturn, 1)) :
    W p l e R s m args below meth c H locs cells slots (MQ below (wm_Qi D cA ad ds v M) args s cells slots (wd_A ad ds.length)) (F0 m pc ls [.int v]) := by
  obtain ⟨⟨hx, hb, -, -, -⟩, hK, hlk, hrt, -⟩ := X
  exact W.zret hx hb (hrt.trans hr) hn (fun t ht hW => ⟨⟨v, M, rfl, ⟨rfl, rfl⟩, by show wd_P D cA ad ds M t.heap; rw [ht]; exact hP, va_K.moved hW.alike hK⟩, hS.F ht⟩) hS.2.2 hdg hlk
theorem wd_retv (X : wd_X p s m args meth c cc nL Ts own none D cA ad ds.length) (hP : wd_P D cA ad ds M H) (hS : va_S (wd_A ad ds.length) s.heap H locs) (hdg : decode cc pc = .ok (.return_, 1)) :
    W p l e R s m args below meth c H locs cells slots (MQ below (wm_Qv D cA ad ds M) args s cells slots (wd_A ad ds.length)) (F0 m pc ls []) := by
  obtain ⟨⟨hx, hb, -, -, -⟩, hK, hlk, hrt, -⟩ := X
  exact W.vret hx hb hrt (fun t ht hW => ⟨⟨M, rfl, rfl, by show wd_P D cA ad ds M t.heap; rw [ht]; exact hP, va_K.moved hW.alike hK⟩, hS.F ht⟩) hS.2.2 hdg hlk
theorem wd_blind (M : Mem) (av : List Value) : FrameBlind (wm_Pc D cA ad ds M av) := fun a U g mk q => by
  obtain ⟨q0, qP, qK⟩ := q
  exact ⟨q0, qP, va_K.moved (u := U) (U := U.calling g mk a) (Vm.Alike.refl U.vm) qK⟩
variable {y : MethodName} {bytes : ByteArray} {maxL n index : Nat} {ret : Option FieldType} {ws : List Cond} {rm : Room} {C : String} {As st0 : List Value} {M' : Mem}
theorem wd_preV (X : wd_X p s m args meth c cc nL Ts own rt D cA ad ds.length) (hP : wd_P D cA ad ds M H) {T : u_T} {N ci : Nat} {fs : List (Option Nat)} {o : Nat} (hd : ds[o]? = some (.inr (ci, fs))) (hc : vwCl[ci]? = some (C, T, N)) : PreV s H C (ad o) (wm_Pc D cA ad ds M (.ref (ad o) :: As)) As := by
  obtain ⟨⟨hx, hb, -, -, -⟩, hK, -, -, -⟩ := X
  refine ⟨wd_blind M _, va_recv (q := (C, T, N)) hK hP hc (wd_cell hd), fun U hU hW => ⟨rfl, ?_, va_K.moved hW.alike hK⟩⟩
  show wd_P D cA ad ds M U.heap
  rw [hU]; exact hP
theorem wd_calli (X : wd_X p s m args meth c cc nL Ts own rt D cA ad ds.length) (hP : wd_P D cA ad ds M H) (hS : va_S (wd_A ad ds.length) H0 H locs) (As : List Value) (rest : List Value) {r : Int32} {o : Nat} (hM : wm_i l y ws rm D cA ad ds M (.ref (ad o) :: As) r M') (cw : CallW R s args own C index y bytes maxL ret ws rm 0 0 n) {T : u_T} {N ci : Nat} {fs : List (Option Nat)} (hd : ds[o]? = some (.inr (ci, fs))) (hc : vwCl[ci]? = some (C, T, N)) (hn : As.length = n) (hsz : ls.size = nL) (hst : st0 = As.reverse ++ .ref (ad o) :: rest) (hW : (rest.map fun v => v.category).sum ≤ 8) (hdg : decode cc pc = .ok (.invokevirtual index, 3))
    (kk : ∀ (H1 : Heap) (locs1 : List Loc), wd_P D cA ad ds M' H1 → va_S (wd_A ad ds.length) H0 H1 locs1 → W p l e R s m args below meth c H1 locs1 0 0 Q (F0 m (pc + 3) ls (.int r :: rest))) : W p l e R s m args below meth c H locs 0 0 Q (F0 m pc ls st0) := by
  refine va_calli (va_runV (As := As) (rest := rest) X.1 hM cw (wd_preV X hP hd hc) rfl hn hsz hst (lv_room hW) hdg ⟨Nat.zero_le _, Nat.zero_le _⟩) hS (fun q _ h => h) (fun q h => h) (fun r1 u t H1 locs1 ht hvm hp hB _ _ hS1 => ?_)
  obtain ⟨rfl, rfl⟩ := hp
  refine kk H1 locs1 ?_ hS1
  rw [← ht]; exact hB.1
theorem wd_callv (X : wd_X p s m args meth c cc nL Ts own rt D cA ad ds.length) (hP : wd_P D cA ad ds M H) (hS : va_S (wd_A ad ds.length) H0 H locs) (As : List Value) (rest : List Value) {o : Nat} (hM : wm_v l y ws rm D cA ad ds M (.ref (ad o) :: As) M') (cw : CallW R s args own C index y bytes maxL ret ws rm 0 0 n) {T : u_T} {N ci : Nat} {fs : List (Option Nat)} (hd : ds[o]? = some (.inr (ci, fs))) (hc : vwCl[ci]? = some (C, T, N)) (hn : As.length = n) (hsz : ls.size = nL) (hst : st0 = As.reverse ++ .ref (ad o) :: rest) (hW : (rest.map fun v => v.category).sum ≤ 8) (hdg : decode cc pc = .ok (.invokevirtual index, 3))
    (kk : ∀ (H1 : Heap) (locs1 : List Loc), wd_P D cA ad ds M' H1 → va_S (wd_A ad ds.length) H0 H1 locs1 → W p l e R s m args below meth c H1 locs1 0 0 Q (F0 m (pc + 3) ls rest)) : W p l e R s m args below meth c H locs 0 0 Q (F0 m pc ls st0) := by
  refine va_callv (va_runV (As := As) (rest := rest) X.1 hM cw (wd_preV X hP hd hc) rfl hn hsz hst (lv_room hW) hdg ⟨Nat.zero_le _, Nat.zero_le _⟩) hS (fun q _ h => h) (fun q h => h) (fun u t H1 locs1 ht hvm hp hB _ _ hS1 => ?_)
  obtain rfl := hp
  refine kk H1 locs1 ?_ hS1
  rw [← ht]; exact hB.1
theorem wd_callr (X : wd_X p s m args meth c cc nL Ts own rt D cA ad ds.length) (hP : wd_P D cA ad ds M H) (hS : va_S (wd_A ad ds.length) H0 H locs) (As : List Value) (rest : List Value) {o k : Nat} (hM : wm_r l y ws rm D cA ad ds M (.ref (ad o) :: As) k M') (cw : CallW R s args own C index y bytes maxL ret ws rm 0 0 n) {T : u_T} {N ci : Nat} {fs : List (Option Nat)} (hd : ds[o]? = some (.inr (ci, fs))) (hc : vwCl[ci]? = some (C, T, N)) (hn : As.length = n) (hsz : ls.size = nL) (hst : st0 = As.reverse ++ .ref (ad o) :: rest) (hW : (rest.map fun v => v.category).sum ≤ 8) (hdg : decode cc pc = .ok (.invokevirtual index, 3))
    (kk : ∀ (H1 : Heap) (locs1 : List Loc), wd_P D cA ad ds M' H1 → va_S (wd_A ad ds.length) H0 H1 locs1 → W p l e R s m args below meth c H1 locs1 0 0 Q (F0 m (pc + 3) ls (.ref (ad k) :: rest))) : W p l e R s m args below meth c H locs 0 0 Q (F0 m pc ls st0) := by
  refine va_callr (va_runV (As := As) (rest := rest) X.1 hM cw (wd_preV X hP hd hc) rfl hn hsz hst (lv_room hW) hdg ⟨Nat.zero_le _, Nat.zero_le _⟩) hS (fun q _ h => h) (fun q h => h) (fun u ra t H1 locs1 ht hvm hp hB _ _ hS1 => ?_)
  obtain rfl := hp
  obtain ⟨rfl, hB⟩ := hB
  refine kk H1 locs1 ?_ hS1
  rw [← ht]; exact hB.1
end WDA
/-- partial values: what a program that comes to an end has passed -/
def gd {α : Type} (c : Prop) [Decidable c] (k : Option α) : Option α := if c then k else none
theorem gd_c {α : Type} {c : Prop} [Decidable c] {k : Option α} {r : α} (h : gd c k = some r) : c ∧ k = some r := by
  unfold gd at h
  by_cases q : c
  · rw [if_pos q] at h; exact ⟨q, h⟩
  · rw [if_neg q] at h; cases h
def bd {α β : Type} (a : Option α) (k : α → Option β) : Option β := match a with | none => none | some x => k x
theorem bd_c {α β : Type} {a : Option α} {k : α → Option β} {r : β} (h : bd a k = some r) : ∃ x, a = some x ∧ k x = some r := by
  cases a with
  | none => cases h
  | some x => exact ⟨x, rfl, h⟩
def wr {α : Type} (M : Mem) (k j : Nat) (v : Int32) (K : Mem → α) : α := K (set2 M k j v)
theorem wr_c {α : Type} {M : Mem} {k j : Nat} {v : Int32} {K : Mem → Option α} {r : α} (h : wr M k j v K = some r) : ∃ M1, M1 = set2 M k j v ∧ K M1 = some r := ⟨_, rfl, h⟩
theorem if_t {α : Type} {c : Prop} [Decidable c] {a b : Option α} {r : α} (h : c) (hF : (if c then a else b) = some r) : a = some r := by rwa [if_pos h] at hF
theorem if_e {α : Type} {c : Prop} [Decidable c] {a b : Option α} {r : α} (h : ¬ c) (hF : (if c then a else b) = some r) : b = some r := by rwa [if_neg h] at hF
end
