/-! X8_newMarks (I)I -/
theorem in_X8_newMarks_X8 : ∀ w ∈ u_ws RX8 TX8 39, w ∈ wsX8_newMarks := by decide +kernel
set_option maxHeartbeats 4000000 in
set_option maxRecDepth 100000 in
theorem wb_X8_newMarks_60 {p : Program} {l : Launch} {e : Env} {s : State} {m : MethodId} {args : Array Value} {below : List Frame} {meth : Method} {c : Code} {D : va_G} {cA : Nat → ClassId} {ad : Nat → Nat} (X : wd_X p s m args meth c cX8_newMarks 5 wsX8_newMarks RX8 (some .int) D cA ad dsM.length) {kh60 : Int32 → Int32 → Mem → Option (Int32 × Mem)} {r : Int32} {M' : Mem} (hk60 : ∀ (x3 : Int32) (x4 : Int32) (M : Mem) (H : Heap) (locs : List Loc) (ls : Array Slot), kh60 x3 x4 M = some (r, M') → wd_P D cA ad dsM M H → va_S (wd_A ad dsM.length) s.heap H locs → lv_has ls 5 [(0, .ref (ad 0)), (3, .int x3), (4, .int x4)] → W p l e (headSpec wsX8_newMarks rm_X8_newMarks).room s m args below meth c H locs 0 0 (MQ below (wm_Qi D cA ad dsM r M') args s 0 0 (wd_A ad dsM.length)) (F0 m 60 ls [])) (x3 : Int32) (x4 : Int32) (M : Mem) (H : Heap) (locs : List Loc) (ls : Array Slot) (hF : B_X8_newMarks_60 kh60 x3 x4 M = some (r, M')) (hP : wd_P D cA ad dsM M H) (hS : va_S (wd_A ad dsM.length) s.heap H locs) (hl : lv_has ls 5 [(0, .ref (ad 0)), (3, .int x3), (4, .int x4)]) : W p l e (headSpec wsX8_newMarks rm_X8_newMarks).room s m args below meth c H locs 0 0 (MQ below (wm_Qi D cA ad dsM r M') args s 0 0 (wd_A ad dsM.length)) (F0 m 60 ls []) := by
  have hx := X.1.1
  have hb := X.1.2.1
  have hts := X.1.2.2.2.2
  unfold B_X8_newMarks_60 at hF
  refine lv_iload hx hb dX8_newMarks_60 (lv_at hl 2 rfl) ?_
  refine lv_aload_n hx hb dX8_newMarks_62 rfl (lv_at hl 0 rfl) ?_
  refine lv_iconst (v := (2 : Int32)) hx hb dX8_newMarks_63 (by decide) ?_
  obtain ⟨r_1, hc_2, hF⟩ := bd_c hF
  refine wd_calli X hP hS [.int (2 : Int32)] [.int x4] (c_X8_length l D cA ad X.2.2.2.2   (2 : Int32) M hc_2) (cwV 1 hts gX8_newMarks_X8_length rfl rfl rfl (by decide +kernel) ⟨(by show _ ≤ _; first | exact Nat.le_of_ble_eq_true rfl | (simp [headSpec, rm_X8_newMarks]; omega) | omega), (by show _ ≤ _; first | exact Nat.le_of_ble_eq_true rfl | (simp [headSpec, rm_X8_newMarks]; omega) | omega)⟩) dM_0 rfl rfl hl.1 rfl (Nat.le_of_ble_eq_true rfl) dX8_newMarks_64 (fun H locs hP hS => ?_)
  refine lv_icmp_ge (tgt := 102) hx hb dX8_newMarks_67 (by decide) (fun c_17 => ?_) (fun c_17 => ?_)
  · have hF := if_t c_17 hF
    refine lv_aload_n hx hb dX8_newMarks_102 rfl (lv_at hl 0 rfl) ?_
    refine wd_getr (q := 8) X hP 0 dM_0 rfl in_X8_newMarks_X8 11 rfl (by decide) (by decide +kernel) dX8_newMarks_103 ?_
    refine lv_iload_n hx hb dX8_newMarks_106 rfl (lv_at hl 1 rfl) ?_
    refine lv_aload_n hx hb dX8_newMarks_107 rfl (lv_at hl 0 rfl) ?_
    refine wd_getr (q := 8) X hP 0 dM_0 rfl in_X8_newMarks_X8 11 rfl (by decide) (by decide +kernel) dX8_newMarks_108 ?_
    refine lv_iload_n hx hb dX8_newMarks_111 rfl (lv_at hl 1 rfl) ?_
    obtain ⟨h_3, hF⟩ := gi_c hF
    refine wd_ild X hP 8 dM_8 h_3 dX8_newMarks_112 ?_
    refine lv_aload_n hx hb dX8_newMarks_113 rfl (lv_at hl 0 rfl) ?_
    refine lv_iconst (v := (2 : Int32)) hx hb dX8_newMarks_114 (by decide) ?_
    obtain ⟨r_4, hc_5, hF⟩ := bd_c hF
    refine wd_calli X hP hS [.int (2 : Int32)] [.int (M 8 x3.toNatClampNeg), .int x3, .ref (ad 8)] (c_X8_length l D cA ad X.2.2.2.2   (2 : Int32) M hc_5) (cwV 1 hts gX8_newMarks_X8_length rfl rfl rfl (by decide +kernel) ⟨(by show _ ≤ _; first | exact Nat.le_of_ble_eq_true rfl | (simp [headSpec, rm_X8_newMarks]; omega) | omega), (by show _ ≤ _; first | exact Nat.le_of_ble_eq_true rfl | (simp [headSpec, rm_X8_newMarks]; omega) | omega)⟩) dM_0 rfl rfl hl.1 rfl (Nat.le_of_ble_eq_true rfl) dX8_newMarks_115 (fun H locs hP hS => ?_)
    refine lv_iadd hx hb dX8_newMarks_118 ?_
    obtain ⟨h_6, hF⟩ := gi_c hF
    obtain ⟨M_7, e_8, hF⟩ := wr_c hF
    refine wd_ist X hP hS 8 dM_8 h_6 dX8_newMarks_119 (fun H locs hP hS => ?_)
    rw [← e_8] at hP
    refine lv_iconst (v := (2 : Int32)) hx hb dX8_newMarks_120 (by decide) ?_
    cases hF
    exact wd_reti X hP hS rfl rfl dX8_newMarks_121
  · have hF := if_e c_17 hF
    refine lv_aload_n hx hb dX8_newMarks_70 rfl (lv_at hl 0 rfl) ?_
    refine wd_getr (q := 5) X hP 0 dM_0 rfl in_X8_newMarks_X8 8 rfl (by decide) (by decide +kernel) dX8_newMarks_71 ?_
    refine lv_bipush (v := (6 : Int32)) hx hb dX8_newMarks_74 (by decide) ?_
    refine lv_iload_n hx hb dX8_newMarks_76 rfl (lv_at hl 1 rfl) ?_
    refine lv_imul hx hb dX8_newMarks_77 ?_
    refine lv_aload_n hx hb dX8_newMarks_78 rfl (lv_at hl 0 rfl) ?_
    refine wd_getr (q := 8) X hP 0 dM_0 rfl in_X8_newMarks_X8 11 rfl (by decide) (by decide +kernel) dX8_newMarks_79 ?_
    refine lv_iload_n hx hb dX8_newMarks_82 rfl (lv_at hl 1 rfl) ?_
    obtain ⟨h_9, hF⟩ := gi_c hF
    refine wd_ild X hP 8 dM_8 h_9 dX8_newMarks_83 ?_
    refine lv_iadd hx hb dX8_newMarks_84 ?_
    refine lv_iload hx hb dX8_newMarks_85 (lv_at hl 2 rfl) ?_
    refine lv_iadd hx hb dX8_newMarks_87 ?_
    refine lv_aload_n hx hb dX8_newMarks_88 rfl (lv_at hl 0 rfl) ?_
    refine lv_iconst (v := (2 : Int32)) hx hb dX8_newMarks_89 (by decide) ?_
    refine lv_iload hx hb dX8_newMarks_90 (lv_at hl 2 rfl) ?_
    obtain ⟨r_10, hc_11, hF⟩ := bd_c hF
    refine wd_calli X hP hS [.int (2 : Int32), .int x4] [.int ((((6 : Int32) * x3) + (M 8 x3.toNatClampNeg)) + x4), .ref (ad 5)] (c_X8_letter l D cA ad X.2.2.2.2   (2 : Int32) x4 M hc_11) (cwV 2 hts gX8_newMarks_X8_letter rfl rfl rfl (by decide +kernel) ⟨(by show _ ≤ _; first | exact Nat.le_of_ble_eq_true rfl | (simp [headSpec, rm_X8_newMarks]; omega) | omega), (by show _ ≤ _; first | exact Nat.le_of_ble_eq_true rfl | (simp [headSpec, rm_X8_newMarks]; omega) | omega)⟩) dM_0 rfl rfl hl.1 rfl (Nat.le_of_ble_eq_true rfl) dX8_newMarks_92 (fun H locs hP hS => ?_)
    obtain ⟨h_12, hF⟩ := gi_c hF
    obtain ⟨M_13, e_14, hF⟩ := wr_c hF
    refine wd_cst X hP hS 5 dM_5 h_12 dX8_newMarks_95 (fun H locs hP hS => ?_)
    rw [← e_14] at hP
    obtain ⟨x4_15, e_16, hF⟩ := nm_c hF
    refine lv_iinc (v := x4_15) (lv' := [(4, .int x4_15), (0, .ref (ad 0)), (3, .int x3)]) hx hb dX8_newMarks_96 hl (k := 2) rfl (by rw [e_16]; rfl) (by decide) rfl (fun ls hl => ?_)
    refine lv_goto (tgt := 60) hx hb dX8_newMarks_99 (by decide) ?_
    exact hk60 x3 x4_15 M_13 _ _ _ hF hP hS (lv_sub hl [1, 2, 0] rfl)
set_option maxHeartbeats 4000000 in
set_option maxRecDepth 100000 in
theorem wh_X8_newMarks_60 {p : Program} {l : Launch} {e : Env} {s : State} {m : MethodId} {args : Array Value} {below : List Frame} {meth : Method} {c : Code} {D : va_G} {cA : Nat → ClassId} {ad : Nat → Nat} (X : wd_X p s m args meth c cX8_newMarks 5 wsX8_newMarks RX8 (some .int) D cA ad dsM.length) {r : Int32} {M' : Mem}  : ∀ (n : Nat) (x3 : Int32) (x4 : Int32) (M : Mem) (H : Heap) (locs : List Loc) (ls : Array Slot), H_X8_newMarks_60  n x3 x4 M = some (r, M') → wd_P D cA ad dsM M H → va_S (wd_A ad dsM.length) s.heap H locs → lv_has ls 5 [(0, .ref (ad 0)), (3, .int x3), (4, .int x4)] → W p l e (headSpec wsX8_newMarks rm_X8_newMarks).room s m args below meth c H locs 0 0 (MQ below (wm_Qi D cA ad dsM r M') args s 0 0 (wd_A ad dsM.length)) (F0 m 60 ls []) := by
  intro n
  induction n with
  | zero => intro x3 x4 M H locs ls hF; cases hF
  | succ n ih => intro x3 x4 M H locs ls hF hP hS hl; exact wb_X8_newMarks_60 X (kh60 := H_X8_newMarks_60  n) ih x3 x4 M H locs ls hF hP hS hl
set_option maxHeartbeats 4000000 in
set_option maxRecDepth 100000 in
theorem c_X8_newMarks (l : Launch) (D : va_G) (cA : Nat → ClassId) (ad : Nat → Nat) (hj : wd_inj ad dsM.length)   (x1 : Int32) (M : Mem) {r : Int32} {M' : Mem} (hF : F_X8_newMarks x1 M = some (r, M')) : wm_i l yX8_newMarks wsX8_newMarks rm_X8_newMarks D cA ad dsM M [.ref (ad 0), .int x1] r M' := by
  refine Met.ofW (cc := cX8_newMarks) (maxL := 5) (ret := (some .int)) (by decide) rfl ?_
  intro p e s m args below meth c s₁ B hml hv
  obtain ⟨rfl, hP, hK⟩ := hv
  have X : wd_X p s m _ meth c cX8_newMarks 5 wsX8_newMarks RX8 (some .int) D cA ad dsM.length := ⟨⟨B.exec, B.bytes, hml, findClass_of_methodNamed B.named, atoms_spec (ws := wsX8_newMarks) B.pre⟩, hK, B.notSynchronized, B.returns, hj⟩
  have hl := lv_entry ([.ref (ad 0), .int x1]) (n := 5) (Nat.le_of_ble_eq_true rfl)
  rw [lg_entry_eq]
  generalize (lg_sl ([.ref (ad 0), .int x1]) ++ List.replicate (5 - (lg_sl ([.ref (ad 0), .int x1])).length) Slot.unset).toArray = ls at hl ⊢
  have hl : lv_has ls 5 [(0, .ref (ad 0)), (1, .int x1)] := hl
  have hS : va_S (wd_A ad dsM.length) s.heap s.heap [] := va_S.rf
  have hx := X.1.1
  have hb := X.1.2.1
  have hts := X.1.2.2.2.2
  unfold F_X8_newMarks at hF
  refine lv_aload_n hx hb dX8_newMarks_0 rfl (lv_at hl 0 rfl) ?_
  refine wd_geti X hP 0 dM_0 rfl in_X8_newMarks_X8 3 rfl (by decide) (by decide +kernel) dX8_newMarks_1 ?_
  refine lv_iconst (v := (3 : Int32)) hx hb dX8_newMarks_4 (by decide) ?_
  refine lv_icmp_ne (tgt := 17) hx hb dX8_newMarks_5 (by decide) (fun c_13 => ?_) (fun c_13 => ?_)
  · have hF := if_e c_13 hF
    refine lv_iconst (v := (-1 : Int32)) hx hb dX8_newMarks_17 (by decide) ?_
    cases hF
    exact wd_reti X hP hS rfl rfl dX8_newMarks_18
  · have hF := if_t c_13 hF
    refine lv_aload_n hx hb dX8_newMarks_8 rfl (lv_at hl 0 rfl) ?_
    refine lv_iconst (v := (2 : Int32)) hx hb dX8_newMarks_9 (by decide) ?_
    refine lv_iconst (v := (3 : Int32)) hx hb dX8_newMarks_10 (by decide) ?_
    obtain ⟨r_1, hc_2, hF⟩ := bd_c hF
    refine wd_calli X hP hS [.int (2 : Int32), .int (3 : Int32)] [] (c_X8_isWord l D cA ad X.2.2.2.2   (2 : Int32) (3 : Int32) M hc_2) (cwV 2 hts gX8_newMarks_X8_isWord rfl rfl rfl (by decide +kernel) ⟨(by show _ ≤ _; first | exact Nat.le_of_ble_eq_true rfl | (simp [headSpec, rm_X8_newMarks]; omega) | omega), (by show _ ≤ _; first | exact Nat.le_of_ble_eq_true rfl | (simp [headSpec, rm_X8_newMarks]; omega) | omega)⟩) dM_0 rfl rfl hl.1 rfl (Nat.le_of_ble_eq_true rfl) dX8_newMarks_11 (fun H locs hP hS => ?_)
    refine lv_if_ne (tgt := 19) hx hb dX8_newMarks_14 (by decide) (fun c_12 => ?_) (fun c_12 => ?_)
    · have hF := if_e c_12 hF
      refine lv_aload_n hx hb dX8_newMarks_19 rfl (lv_at hl 0 rfl) ?_
      refine lv_iconst (v := (1 : Int32)) hx hb dX8_newMarks_20 (by decide) ?_
      obtain ⟨r_3, hc_4, hF⟩ := bd_c hF
      refine wd_calli X hP hS [.int (1 : Int32)] [] (c_X8_stateOf l D cA ad X.2.2.2.2   (1 : Int32) M hc_4) (cwV 1 hts gX8_newMarks_X8_stateOf rfl rfl rfl (by decide +kernel) ⟨(by show _ ≤ _; first | exact Nat.le_of_ble_eq_true rfl | (simp [headSpec, rm_X8_newMarks]; omega) | omega), (by show _ ≤ _; first | exact Nat.le_of_ble_eq_true rfl | (simp [headSpec, rm_X8_newMarks]; omega) | omega)⟩) dM_0 rfl rfl hl.1 rfl (Nat.le_of_ble_eq_true rfl) dX8_newMarks_21 (fun H locs hP hS => ?_)
      refine lv_istore_n (lv' := [(2, .int r_3), (0, .ref (ad 0)), (1, .int x1)]) hx hb dX8_newMarks_24 rfl hl (by decide) rfl (fun ls hl => ?_)
      refine lv_iload_n hx hb dX8_newMarks_25 rfl (lv_at hl 0 rfl) ?_
      refine lv_if_ge (tgt := 31) hx hb dX8_newMarks_26 (by decide) (fun c_11 => ?_) (fun c_11 => ?_)
      · have hF := if_t c_11 hF
        refine lv_iconst (v := (2 : Int32)) hx hb dX8_newMarks_31 (by decide) ?_
        refine lv_iload_n hx hb dX8_newMarks_32 rfl (lv_at hl 0 rfl) ?_
        refine lv_imul hx hb dX8_newMarks_33 ?_
        refine lv_iload_n hx hb dX8_newMarks_34 rfl (lv_at hl 2 rfl) ?_
        refine lv_iadd hx hb dX8_newMarks_35 ?_
        obtain ⟨x3_5, e_6, hF⟩ := nm_c hF
        refine wd_top e_6 ?_
        refine lv_istore_n (lv' := [(3, .int x3_5), (2, .int r_3), (0, .ref (ad 0)), (1, .int x1)]) hx hb dX8_newMarks_36 rfl hl (by decide) rfl (fun ls hl => ?_)
        refine lv_aload_n hx hb dX8_newMarks_37 rfl (lv_at hl 2 rfl) ?_
        refine wd_getr (q := 8) X hP 0 dM_0 rfl in_X8_newMarks_X8 11 rfl (by decide) (by decide +kernel) dX8_newMarks_38 ?_
        refine lv_iload_n hx hb dX8_newMarks_41 rfl (lv_at hl 0 rfl) ?_
        obtain ⟨h_7, hF⟩ := gi_c hF
        refine wd_ild X hP 8 dM_8 h_7 dX8_newMarks_42 ?_
        refine lv_aload_n hx hb dX8_newMarks_43 rfl (lv_at hl 2 rfl) ?_
        refine lv_iconst (v := (2 : Int32)) hx hb dX8_newMarks_44 (by decide) ?_
        obtain ⟨r_8, hc_9, hF⟩ := bd_c hF
        refine wd_calli X hP hS [.int (2 : Int32)] [.int (M 8 x3_5.toNatClampNeg)] (c_X8_length l D cA ad X.2.2.2.2   (2 : Int32) M hc_9) (cwV 1 hts gX8_newMarks_X8_length rfl rfl rfl (by decide +kernel) ⟨(by show _ ≤ _; first | exact Nat.le_of_ble_eq_true rfl | (simp [headSpec, rm_X8_newMarks]; omega) | omega), (by show _ ≤ _; first | exact Nat.le_of_ble_eq_true rfl | (simp [headSpec, rm_X8_newMarks]; omega) | omega)⟩) dM_0 rfl rfl hl.1 rfl (Nat.le_of_ble_eq_true rfl) dX8_newMarks_45 (fun H locs hP hS => ?_)
        refine lv_iadd hx hb dX8_newMarks_48 ?_
        refine lv_bipush (v := (6 : Int32)) hx hb dX8_newMarks_49 (by decide) ?_
        refine lv_icmp_le (tgt := 57) hx hb dX8_newMarks_51 (by decide) (fun c_10 => ?_) (fun c_10 => ?_)
        · have hF := if_t c_10 hF
          refine lv_iconst (v := (0 : Int32)) hx hb dX8_newMarks_57 (by decide) ?_
          refine lv_istore (lv' := [(4, .int (0 : Int32)), (3, .int x3_5), (2, .int r_3), (0, .ref (ad 0)), (1, .int x1)]) hx hb dX8_newMarks_58 hl (by decide) rfl (fun ls hl => ?_)
          exact wh_X8_newMarks_60 X    100 x3_5 (0 : Int32) M _ _ _ hF hP hS (lv_sub hl [3, 1, 0] rfl)
        · have hF := if_e c_10 hF
          refine lv_bipush (v := (-2 : Int32)) hx hb dX8_newMarks_54 (by decide) ?_
          cases hF
          exact wd_reti X hP hS rfl rfl dX8_newMarks_56
      · have hF := if_e c_11 hF
        refine lv_iconst (v := (-1 : Int32)) hx hb dX8_newMarks_29 (by decide) ?_
        cases hF
        exact wd_reti X hP hS rfl rfl dX8_newMarks_30
    · have hF := if_t c_12 hF
      refine lv_iconst (v := (-1 : Int32)) hx hb dX8_newMarks_17 (by decide) ?_
      cases hF
      exact wd_reti X hP hS rfl rfl dX8_newMarks_18
/-! X8_newRule ()I -/
theorem in_X8_newRule_X8 : ∀ w ∈ u_ws RX8 TX8 39, w ∈ wsX8_newRule := by decide +kernel
set_option maxHeartbeats 4000000 in
set_option maxRecDepth 100000 in
theorem wb_X8_newRule_431 {p : Program} {l : Launch} {e : Env} {s : State} {m : MethodId} {args : Array Value} {below : List Frame} {meth : Method} {c : Code} {D : va_G} {cA : Nat → ClassId} {ad : Nat → Nat} (X : wd_X p s m args meth c cX8_newRule 10 wsX8_newRule RX8 (some .int) D cA ad dsM.length) {kh431 : Int32 → Int32 → Mem → Option (Int32 × Mem)} {r : Int32} {M' : Mem} (hk431 : ∀ (x6 : Int32) (x9 : Int32) (M : Mem) (H : Heap) (locs : List Loc) (ls : Array Slot), kh431 x6 x9 M = some (r, M') → wd_P D cA ad dsM M H → va_S (wd_A ad dsM.length) s.heap H locs → lv_has ls 10 [(0, .ref (ad 0)), (6, .int x6), (9, .int x9)] → W p l e (headSpec wsX8_newRule rm_X8_newRule).room s m args below meth c H locs 0 0 (MQ below (wm_Qi D cA ad dsM r M') args s 0 0 (wd_A ad dsM.length)) (F0 m 431 ls [])) (x6 : Int32) (x9 : Int32) (M : Mem) (H : Heap) (locs : List Loc) (ls : Array Slot) (hF : B_X8_newRule_431 kh431 x6 x9 M = some (r, M')) (hP : wd_P D cA ad dsM M H) (hS : va_S (wd_A ad dsM.length) s.heap H locs) (hl : lv_has ls 10 [(0, .ref (ad 0)), (6, .int x6), (9, .int x9)]) : W p l e (headSpec wsX8_newRule rm_X8_newRule).room s m args below meth c H locs 0 0 (MQ below (wm_Qi D cA ad dsM r M') args s 0 0 (wd_A ad dsM.length)) (F0 m 431 ls []) := by
  have hx := X.1.1
  have hb := X.1.2.1
  have hts := X.1.2.2.2.2
  unfold B_X8_newRule_431 at hF
  refine lv_iload hx hb dX8_newRule_431 (lv_at hl 2 rfl) ?_
  refine lv_aload_n hx hb dX8_newRule_433 rfl (lv_at hl 0 rfl) ?_
  refine wd_getr (q := 18) X hP 0 dM_0 rfl in_X8_newRule_X8 23 rfl (by decide) (by decide +kernel) dX8_newRule_434 ?_
  refine lv_aload_n hx hb dX8_newRule_437 rfl (lv_at hl 0 rfl) ?_
  refine wd_geti X hP 0 dM_0 rfl in_X8_newRule_X8 15 rfl (by decide) (by decide +kernel) dX8_newRule_438 ?_
  obtain ⟨h_1, hF⟩ := gi_c hF
  refine wd_ild X hP 18 dM_18 h_1 dX8_newRule_441 ?_
  refine lv_icmp_ge (tgt := 475) hx hb dX8_newRule_442 (by decide) (fun c_11 => ?_) (fun c_11 => ?_)
  · have hF := if_t c_11 hF
    refine lv_aload_n hx hb dX8_newRule_475 rfl (lv_at hl 0 rfl) ?_
    refine lv_dup hx hb dX8_newRule_476 rfl ?_
    refine wd_geti X hP 0 dM_0 rfl in_X8_newRule_X8 15 rfl (by decide) (by decide +kernel) dX8_newRule_477 ?_
    refine lv_iconst (v := (1 : Int32)) hx hb dX8_newRule_480 (by decide) ?_
    refine lv_iadd hx hb dX8_newRule_481 ?_
    obtain ⟨M_2, e_3, hF⟩ := wr_c hF
    refine wd_puti X hP hS 0 dM_0 rfl in_X8_newRule_X8 tyX8_ok nmX8 15 rfl (by decide) rfl rfl (by decide +kernel) dX8_newRule_482 (fun H locs hP hS => ?_)
    rw [← e_3] at hP
    refine lv_iconst (v := (3 : Int32)) hx hb dX8_newRule_485 (by decide) ?_
    cases hF
    exact wd_reti X hP hS rfl rfl dX8_newRule_486
  · have hF := if_e c_11 hF
    refine lv_aload_n hx hb dX8_newRule_445 rfl (lv_at hl 0 rfl) ?_
    refine wd_getr (q := 12) X hP 0 dM_0 rfl in_X8_newRule_X8 17 rfl (by decide) (by decide +kernel) dX8_newRule_446 ?_
    refine lv_iconst (v := (3 : Int32)) hx hb dX8_newRule_449 (by decide) ?_
    refine lv_aload_n hx hb dX8_newRule_450 rfl (lv_at hl 0 rfl) ?_
    refine wd_geti X hP 0 dM_0 rfl in_X8_newRule_X8 15 rfl (by decide) (by decide +kernel) dX8_newRule_451 ?_
    refine lv_imul hx hb dX8_newRule_454 ?_
    refine lv_iload hx hb dX8_newRule_455 (lv_at hl 2 rfl) ?_
    refine lv_iadd hx hb dX8_newRule_457 ?_
    refine lv_aload_n hx hb dX8_newRule_458 rfl (lv_at hl 0 rfl) ?_
    refine lv_iload hx hb dX8_newRule_459 (lv_at hl 1 rfl) ?_
    refine lv_iconst (v := (1 : Int32)) hx hb dX8_newRule_461 (by decide) ?_
    refine lv_iadd hx hb dX8_newRule_462 ?_
    refine lv_iload hx hb dX8_newRule_463 (lv_at hl 2 rfl) ?_
    obtain ⟨r_4, hc_5, hF⟩ := bd_c hF
    refine wd_calli X hP hS [.int (x6 + (1 : Int32)), .int x9] [.int (((3 : Int32) * (M 0 15)) + x9), .ref (ad 12)] (c_X8_letter l D cA ad X.2.2.2.2   (x6 + (1 : Int32)) x9 M hc_5) (cwV 2 hts gX8_newRule_X8_letter rfl rfl rfl (by decide +kernel) ⟨(by show _ ≤ _; first | exact Nat.le_of_ble_eq_true rfl | (simp [headSpec, rm_X8_newRule]; omega) | omega), (by show _ ≤ _; first | exact Nat.le_of_ble_eq_true rfl | (simp [headSpec, rm_X8_newRule]; omega) | omega)⟩) dM_0 rfl rfl hl.1 rfl (Nat.le_of_ble_eq_true rfl) dX8_newRule_465 (fun H locs hP hS => ?_)
    obtain ⟨h_6, hF⟩ := gi_c hF
    obtain ⟨M_7, e_8, hF⟩ := wr_c hF
    refine wd_cst X hP hS 12 dM_12 h_6 dX8_newRule_468 (fun H locs hP hS => ?_)
    rw [← e_8] at hP
    obtain ⟨x9_9, e_10, hF⟩ := nm_c hF
    refine lv_iinc (v := x9_9) (lv' := [(9, .int x9_9), (0, .ref (ad 0)), (6, .int x6)]) hx hb dX8_newRule_469 hl (k := 2) rfl (by rw [e_10]; rfl) (by decide) rfl (fun ls hl => ?_)
    refine lv_goto (tgt := 431) hx hb dX8_newRule_472 (by decide) ?_
    exact hk431 x6 x9_9 M_7 _ _ _ hF hP hS (lv_sub hl [1, 2, 0] rfl)
set_option maxHeartbeats 4000000 in
set_option maxRecDepth 100000 in
theorem wh_X8_newRule_431 {p : Program} {l : Launch} {e : Env} {s : State} {m : MethodId} {args : Array Value} {below : List Frame} {meth : Method} {c : Code} {D : va_G} {cA : Nat → ClassId} {ad : Nat → Nat} (X : wd_X p s m args meth c cX8_newRule 10 wsX8_newRule RX8 (some .int) D cA ad dsM.length) {r : Int32} {M' : Mem}  : ∀ (n : Nat) (x6 : Int32) (x9 : Int32) (M : Mem) (H : Heap) (locs : List Loc) (ls : Array Slot), H_X8_newRule_431  n x6 x9 M = some (r, M') → wd_P D cA ad dsM M H → va_S (wd_A ad dsM.length) s.heap H locs → lv_has ls 10 [(0, .ref (ad 0)), (6, .int x6), (9, .int x9)] → W p l e (headSpec wsX8_newRule rm_X8_newRule).room s m args below meth c H locs 0 0 (MQ below (wm_Qi D cA ad dsM r M') args s 0 0 (wd_A ad dsM.length)) (F0 m 431 ls []) := by
  intro n
  induction n with
  | zero => intro x6 x9 M H locs ls hF; cases hF
  | succ n ih => intro x6 x9 M H locs ls hF hP hS hl; exact wb_X8_newRule_431 X (kh431 := H_X8_newRule_431  n) ih x6 x9 M H locs ls hF hP hS hl
set_option maxHeartbeats 4000000 in
set_option maxRecDepth 100000 in
theorem wb_X8_newRule_427 {p : Program} {l : Launch} {e : Env} {s : State} {m : MethodId} {args : Array Value} {below : List Frame} {meth : Method} {c : Code} {D : va_G} {cA : Nat → ClassId} {ad : Nat → Nat} (X : wd_X p s m args meth c cX8_newRule 10 wsX8_newRule RX8 (some .int) D cA ad dsM.length) {r : Int32} {M' : Mem}  (x6 : Int32) (t0 : Int32) (t1 : Int32) (M : Mem) (H : Heap) (locs : List Loc) (ls : Array Slot) (hF : B_X8_newRule_427  x6 t0 t1 M = some (r, M')) (hP : wd_P D cA ad dsM M H) (hS : va_S (wd_A ad dsM.length) s.heap H locs) (hl : lv_has ls 10 [(0, .ref (ad 0)), (6, .int x6)]) : W p l e (headSpec wsX8_newRule rm_X8_newRule).room s m args below meth c H locs 0 0 (MQ below (wm_Qi D cA ad dsM r M') args s 0 0 (wd_A ad dsM.length)) (F0 m 427 ls [.int t0, .int t1, .ref (ad 18)]) := by
  have hx := X.1.1
  have hb := X.1.2.1
  have hts := X.1.2.2.2.2
  unfold B_X8_newRule_427 at hF
  obtain ⟨h_1, hF⟩ := gi_c hF
  obtain ⟨M_2, e_3, hF⟩ := wr_c hF
  refine wd_ist X hP hS 18 dM_18 h_1 dX8_newRule_427 (fun H locs hP hS => ?_)
  rw [← e_3] at hP
  refine lv_iconst (v := (0 : Int32)) hx hb dX8_newRule_428 (by decide) ?_
  refine lv_istore (lv' := [(9, .int (0 : Int32)), (0, .ref (ad 0)), (6, .int x6)]) hx hb dX8_newRule_429 hl (by decide) rfl (fun ls hl => ?_)
  exact wh_X8_newRule_431 X    100 x6 (0 : Int32) M_2 _ _ _ hF hP hS (lv_sub hl [1, 2, 0] rfl)
set_option maxHeartbeats 4000000 in
set_option maxRecDepth 100000 in
theorem wb_X8_newRule_349 {p : Program} {l : Launch} {e : Env} {s : State} {m : MethodId} {args : Array Value} {below : List Frame} {meth : Method} {c : Code} {D : va_G} {cA : Nat → ClassId} {ad : Nat → Nat} (X : wd_X p s m args meth c cX8_newRule 10 wsX8_newRule RX8 (some .int) D cA ad dsM.length) {r : Int32} {M' : Mem}  (x2 : Int32) (x3 : Int32) (x4 : Int32) (x5 : Int32) (x6 : Int32) (x7 : Int32) (x8 : Int32) (M : Mem) (H : Heap) (locs : List Loc) (ls : Array Slot) (hF : B_X8_newRule_349  x2 x3 x4 x5 x6 x7 x8 M = some (r, M')) (hP : wd_P D cA ad dsM M H) (hS : va_S (wd_A ad dsM.length) s.heap H locs) (hl : lv_has ls 10 [(0, .ref (ad 0)), (2, .int x2), (3, .int x3), (4, .int x4), (5, .int x5), (6, .int x6), (7, .int x7), (8, .int x8)]) : W p l e (headSpec wsX8_newRule rm_X8_newRule).room s m args below meth c H locs 0 0 (MQ below (wm_Qi D cA ad dsM r M') args s 0 0 (wd_A ad dsM.length)) (F0 m 349 ls []) := by
  have hx := X.1.1
  have hb := X.1.2.1
  have hts := X.1.2.2.2.2
  unfold B_X8_newRule_349 at hF
  refine lv_aload_n hx hb dX8_newRule_349 rfl (lv_at hl 0 rfl) ?_
  refine wd_getr (q := 13) X hP 0 dM_0 rfl in_X8_newRule_X8 18 rfl (by decide) (by decide +kernel) dX8_newRule_350 ?_
  refine lv_aload_n hx hb dX8_newRule_353 rfl (lv_at hl 0 rfl) ?_
  refine wd_geti X hP 0 dM_0 rfl in_X8_newRule_X8 15 rfl (by decide) (by decide +kernel) dX8_newRule_354 ?_
  refine lv_iload hx hb dX8_newRule_357 (lv_at hl 7 rfl) ?_
  obtain ⟨h_1, hF⟩ := gi_c hF
  obtain ⟨M_2, e_3, hF⟩ := wr_c hF
  refine wd_ist X hP hS 13 dM_13 h_1 dX8_newRule_359 (fun H locs hP hS => ?_)
  rw [← e_3] at hP
  refine lv_aload_n hx hb dX8_newRule_360 rfl (lv_at hl 0 rfl) ?_
  refine wd_getr (q := 14) X hP 0 dM_0 rfl in_X8_newRule_X8 19 rfl (by decide) (by decide +kernel) dX8_newRule_361 ?_
  refine lv_aload_n hx hb dX8_newRule_364 rfl (lv_at hl 0 rfl) ?_
  refine wd_geti X hP 0 dM_0 rfl in_X8_newRule_X8 15 rfl (by decide) (by decide +kernel) dX8_newRule_365 ?_
  refine lv_iload_n hx hb dX8_newRule_368 rfl (lv_at hl 1 rfl) ?_
  obtain ⟨h_4, hF⟩ := gi_c hF
  obtain ⟨M_5, e_6, hF⟩ := wr_c hF
  refine wd_ist X hP hS 14 dM_14 h_4 dX8_newRule_369 (fun H locs hP hS => ?_)
  rw [← e_6] at hP
  refine lv_aload_n hx hb dX8_newRule_370 rfl (lv_at hl 0 rfl) ?_
  refine wd_getr (q := 15) X hP 0 dM_0 rfl in_X8_newRule_X8 20 rfl (by decide) (by decide +kernel) dX8_newRule_371 ?_
  refine lv_aload_n hx hb dX8_newRule_374 rfl (lv_at hl 0 rfl) ?_
  refine wd_geti X hP 0 dM_0 rfl in_X8_newRule_X8 15 rfl (by decide) (by decide +kernel) dX8_newRule_375 ?_
  refine lv_iload_n hx hb dX8_newRule_378 rfl (lv_at hl 2 rfl) ?_
  obtain ⟨h_7, hF⟩ := gi_c hF
  obtain ⟨M_8, e_9, hF⟩ := wr_c hF
  refine wd_ist X hP hS 15 dM_15 h_7 dX8_newRule_379 (fun H locs hP hS => ?_)
  rw [← e_9] at hP
  refine lv_aload_n hx hb dX8_newRule_380 rfl (lv_at hl 0 rfl) ?_
  refine wd_getr (q := 16) X hP 0 dM_0 rfl in_X8_newRule_X8 21 rfl (by decide) (by decide +kernel) dX8_newRule_381 ?_
  refine lv_aload_n hx hb dX8_newRule_384 rfl (lv_at hl 0 rfl) ?_
  refine wd_geti X hP 0 dM_0 rfl in_X8_newRule_X8 15 rfl (by decide) (by decide +kernel) dX8_newRule_385 ?_
  refine lv_iload hx hb dX8_newRule_388 (lv_at hl 3 rfl) ?_
  obtain ⟨h_10, hF⟩ := gi_c hF
  obtain ⟨M_11, e_12, hF⟩ := wr_c hF
  refine wd_ist X hP hS 16 dM_16 h_10 dX8_newRule_390 (fun H locs hP hS => ?_)
  rw [← e_12] at hP
  refine lv_aload_n hx hb dX8_newRule_391 rfl (lv_at hl 0 rfl) ?_
  refine wd_getr (q := 17) X hP 0 dM_0 rfl in_X8_newRule_X8 22 rfl (by decide) (by decide +kernel) dX8_newRule_392 ?_
  refine lv_aload_n hx hb dX8_newRule_395 rfl (lv_at hl 0 rfl) ?_
  refine wd_geti X hP 0 dM_0 rfl in_X8_newRule_X8 15 rfl (by decide) (by decide +kernel) dX8_newRule_396 ?_
  refine lv_iload hx hb dX8_newRule_399 (lv_at hl 4 rfl) ?_
  obtain ⟨h_13, hF⟩ := gi_c hF
  obtain ⟨M_14, e_15, hF⟩ := wr_c hF
  refine wd_ist X hP hS 17 dM_17 h_13 dX8_newRule_401 (fun H locs hP hS => ?_)
  rw [← e_15] at hP
  refine lv_aload_n hx hb dX8_newRule_402 rfl (lv_at hl 0 rfl) ?_
  refine wd_getr (q := 18) X hP 0 dM_0 rfl in_X8_newRule_X8 23 rfl (by decide) (by decide +kernel) dX8_newRule_403 ?_
  refine lv_aload_n hx hb dX8_newRule_406 rfl (lv_at hl 0 rfl) ?_
  refine wd_geti X hP 0 dM_0 rfl in_X8_newRule_X8 15 rfl (by decide) (by decide +kernel) dX8_newRule_407 ?_
  refine lv_iload hx hb dX8_newRule_410 (lv_at hl 6 rfl) ?_
  refine lv_if_eq (tgt := 426) hx hb dX8_newRule_412 (by decide) (fun c_18 => ?_) (fun c_18 => ?_)
  · have hF := if_t c_18 hF
    refine lv_iconst (v := (0 : Int32)) hx hb dX8_newRule_426 (by decide) ?_
    exact wb_X8_newRule_427 X    x6 (0 : Int32) (M_14 0 15) M_14 _ _ _ hF hP hS (lv_sub hl [0, 5] rfl)
  · have hF := if_e c_18 hF
    refine lv_aload_n hx hb dX8_newRule_415 rfl (lv_at hl 0 rfl) ?_
    refine lv_iload hx hb dX8_newRule_416 (lv_at hl 5 rfl) ?_
    refine lv_iconst (v := (1 : Int32)) hx hb dX8_newRule_418 (by decide) ?_
    refine lv_iadd hx hb dX8_newRule_419 ?_
    obtain ⟨r_16, hc_17, hF⟩ := bd_c hF
    refine wd_calli X hP hS [.int (x6 + (1 : Int32))] [.int (M_14 0 15), .ref (ad 18)] (c_X8_length l D cA ad X.2.2.2.2   (x6 + (1 : Int32)) M_14 hc_17) (cwV 1 hts gX8_newRule_X8_length rfl rfl rfl (by decide +kernel) ⟨(by show _ ≤ _; first | exact Nat.le_of_ble_eq_true rfl | (simp [headSpec, rm_X8_newRule]; omega) | omega), (by show _ ≤ _; first | exact Nat.le_of_ble_eq_true rfl | (simp [headSpec, rm_X8_newRule]; omega) | omega)⟩) dM_0 rfl rfl hl.1 rfl (Nat.le_of_ble_eq_true rfl) dX8_newRule_420 (fun H locs hP hS => ?_)
    refine lv_goto (tgt := 427) hx hb dX8_newRule_423 (by decide) ?_
    exact wb_X8_newRule_427 X    x6 r_16 (M_14 0 15) M_14 _ _ _ hF hP hS (lv_sub hl [0, 5] rfl)
set_option maxHeartbeats 4000000 in
set_option maxRecDepth 100000 in
theorem wb_X8_newRule_318 {p : Program} {l : Launch} {e : Env} {s : State} {m : MethodId} {args : Array Value} {below : List Frame} {meth : Method} {c : Code} {D : va_G} {cA : Nat → ClassId} {ad : Nat → Nat} (X : wd_X p s m args meth c cX8_newRule 10 wsX8_newRule RX8 (some .int) D cA ad dsM.length) {kh318 : Int32 → Int32 → Int32 → Int32 → Int32 → Int32 → Int32 → Int32 → Mem → Option (Int32 × Mem)} {r : Int32} {M' : Mem} (hk318 : ∀ (x2 : Int32) (x3 : Int32) (x4 : Int32) (x5 : Int32) (x6 : Int32) (x7 : Int32) (x8 : Int32) (x9 : Int32) (M : Mem) (H : Heap) (locs : List Loc) (ls : Array Slot), kh318 x2 x3 x4 x5 x6 x7 x8 x9 M = some (r, M') → wd_P D cA ad dsM M H → va_S (wd_A ad dsM.length) s.heap H locs → lv_has ls 10 [(0, .ref (ad 0)), (2, .int x2), (3, .int x3), (4, .int x4), (5, .int x5), (6, .int x6), (7, .int x7), (8, .int x8), (9, .int x9)] → W p l e (headSpec wsX8_newRule rm_X8_newRule).room s m args below meth c H locs 0 0 (MQ below (wm_Qi D cA ad dsM r M') args s 0 0 (wd_A ad dsM.length)) (F0 m 318 ls [])) (x2 : Int32) (x3 : Int32) (x4 : Int32) (x5 : Int32) (x6 : Int32) (x7 : Int32) (x8 : Int32) (x9 : Int32) (M : Mem) (H : Heap) (locs : List Loc) (ls : Array Slot) (hF : B_X8_newRule_318 kh318 x2 x3 x4 x5 x6 x7 x8 x9 M = some (r, M')) (hP : wd_P D cA ad dsM M H) (hS : va_S (wd_A ad dsM.length) s.heap H locs) (hl : lv_has ls 10 [(0, .ref (ad 0)), (2, .int x2), (3, .int x3), (4, .int x4), (5, .int x5), (6, .int x6), (7, .int x7), (8, .int x8), (9, .int x9)]) : W p l e (headSpec wsX8_newRule rm_X8_newRule).room s m args below meth c H locs 0 0 (MQ below (wm_Qi D cA ad dsM r M') args s 0 0 (wd_A ad dsM.length)) (F0 m 318 ls []) := by
  have hx := X.1.1
  have hb := X.1.2.1
  have hts := X.1.2.2.2.2
  unfold B_X8_newRule_318 at hF
  refine lv_iload hx hb dX8_newRule_318 (lv_at hl 8 rfl) ?_
  refine lv_iconst (v := (4 : Int32)) hx hb dX8_newRule_320 (by decide) ?_
  refine lv_icmp_ge (tgt := 349) hx hb dX8_newRule_321 (by decide) (fun c_8 => ?_) (fun c_8 => ?_)
  · have hF := if_t c_8 hF
    exact wb_X8_newRule_349 X    x2 x3 x4 x5 x6 x7 x8 M _ _ _ hF hP hS (lv_sub hl [0, 1, 2, 3, 4, 5, 6, 7] rfl)
  · have hF := if_e c_8 hF
    refine lv_aload_n hx hb dX8_newRule_324 rfl (lv_at hl 0 rfl) ?_
    refine wd_getr (q := 11) X hP 0 dM_0 rfl in_X8_newRule_X8 16 rfl (by decide) (by decide +kernel) dX8_newRule_325 ?_
    refine lv_iconst (v := (4 : Int32)) hx hb dX8_newRule_328 (by decide) ?_
    refine lv_iload hx hb dX8_newRule_329 (lv_at hl 7 rfl) ?_
    refine lv_imul hx hb dX8_newRule_331 ?_
    refine lv_iload hx hb dX8_newRule_332 (lv_at hl 8 rfl) ?_
    refine lv_iadd hx hb dX8_newRule_334 ?_
    refine lv_aload_n hx hb dX8_newRule_335 rfl (lv_at hl 0 rfl) ?_
    refine lv_iconst (v := (1 : Int32)) hx hb dX8_newRule_336 (by decide) ?_
    refine lv_iload hx hb dX8_newRule_337 (lv_at hl 8 rfl) ?_
    obtain ⟨r_1, hc_2, hF⟩ := bd_c hF
    refine wd_calli X hP hS [.int (1 : Int32), .int x9] [.int (((4 : Int32) * x8) + x9), .ref (ad 11)] (c_X8_letter l D cA ad X.2.2.2.2   (1 : Int32) x9 M hc_2) (cwV 2 hts gX8_newRule_X8_letter rfl rfl rfl (by decide +kernel) ⟨(by show _ ≤ _; first | exact Nat.le_of_ble_eq_true rfl | (simp [headSpec, rm_X8_newRule]; omega) | omega), (by show _ ≤ _; first | exact Nat.le_of_ble_eq_true rfl | (simp [headSpec, rm_X8_newRule]; omega) | omega)⟩) dM_0 rfl rfl hl.1 rfl (Nat.le_of_ble_eq_true rfl) dX8_newRule_339 (fun H locs hP hS => ?_)
    obtain ⟨h_3, hF⟩ := gi_c hF
    obtain ⟨M_4, e_5, hF⟩ := wr_c hF
    refine wd_cst X hP hS 11 dM_11 h_3 dX8_newRule_342 (fun H locs hP hS => ?_)
    rw [← e_5] at hP
    obtain ⟨x9_6, e_7, hF⟩ := nm_c hF
    refine lv_iinc (v := x9_6) (lv' := [(9, .int x9_6), (0, .ref (ad 0)), (2, .int x2), (3, .int x3), (4, .int x4), (5, .int x5), (6, .int x6), (7, .int x7), (8, .int x8)]) hx hb dX8_newRule_343 hl (k := 8) rfl (by rw [e_7]; rfl) (by decide) rfl (fun ls hl => ?_)
    refine lv_goto (tgt := 318) hx hb dX8_newRule_346 (by decide) ?_
    exact hk318 x2 x3 x4 x5 x6 x7 x8 x9_6 M_4 _ _ _ hF hP hS (lv_sub hl [1, 2, 3, 4, 5, 6, 7, 8, 0] rfl)
set_option maxHeartbeats 4000000 in
set_option maxRecDepth 100000 in
theorem wh_X8_newRule_318 {p : Program} {l : Launch} {e : Env} {s : State} {m : MethodId} {args : Array Value} {below : List Frame} {meth : Method} {c : Code} {D : va_G} {cA : Nat → ClassId} {ad : Nat → Nat} (X : wd_X p s m args meth c cX8_newRule 10 wsX8_newRule RX8 (some .int) D cA ad dsM.length) {r : Int32} {M' : Mem}  : ∀ (n : Nat) (x2 : Int32) (x3 : Int32) (x4 : Int32) (x5 : Int32) (x6 : Int32) (x7 : Int32) (x8 : Int32) (x9 : Int32) (M : Mem) (H : Heap) (locs : List Loc) (ls : Array Slot), H_X8_newRule_318  n x2 x3 x4 x5 x6 x7 x8 x9 M = some (r, M') → wd_P D cA ad dsM M H → va_S (wd_A ad dsM.length) s.heap H locs → lv_has ls 10 [(0, .ref (ad 0)), (2, .int x2), (3, .int x3), (4, .int x4), (5, .int x5), (6, .int x6), (7, .int x7), (8, .int x8), (9, .int x9)] → W p l e (headSpec wsX8_newRule rm_X8_newRule).room s m args below meth c H locs 0 0 (MQ below (wm_Qi D cA ad dsM r M') args s 0 0 (wd_A ad dsM.length)) (F0 m 318 ls []) := by
  intro n
  induction n with
  | zero => intro x2 x3 x4 x5 x6 x7 x8 x9 M H locs ls hF; cases hF
  | succ n ih => intro x2 x3 x4 x5 x6 x7 x8 x9 M H locs ls hF hP hS hl; exact wb_X8_newRule_318 X (kh318 := H_X8_newRule_318  n) ih x2 x3 x4 x5 x6 x7 x8 x9 M H locs ls hF hP hS hl
set_option maxHeartbeats 4000000 in
set_option maxRecDepth 100000 in
theorem wb_X8_newRule_294 {p : Program} {l : Launch} {e : Env} {s : State} {m : MethodId} {args : Array Value} {below : List Frame} {meth : Method} {c : Code} {D : va_G} {cA : Nat → ClassId} {ad : Nat → Nat} (X : wd_X p s m args meth c cX8_newRule 10 wsX8_newRule RX8 (some .int) D cA ad dsM.length) {r : Int32} {M' : Mem}  (x2 : Int32) (x3 : Int32) (x4 : Int32) (x5 : Int32) (x6 : Int32) (x7 : Int32) (x8 : Int32) (M : Mem) (H : Heap) (locs : List Loc) (ls : Array Slot) (hF : B_X8_newRule_294  x2 x3 x4 x5 x6 x7 x8 M = some (r, M')) (hP : wd_P D cA ad dsM M H) (hS : va_S (wd_A ad dsM.length) s.heap H locs) (hl : lv_has ls 10 [(0, .ref (ad 0)), (2, .int x2), (3, .int x3), (4, .int x4), (5, .int x5), (6, .int x6), (7, .int x7), (8, .int x8)]) : W p l e (headSpec wsX8_newRule rm_X8_newRule).room s m args below meth c H locs 0 0 (MQ below (wm_Qi D cA ad dsM r M') args s 0 0 (wd_A ad dsM.length)) (F0 m 294 ls []) := by
  have hx := X.1.1
  have hb := X.1.2.1
  have hts := X.1.2.2.2.2
  unfold B_X8_newRule_294 at hF
  refine lv_iload hx hb dX8_newRule_294 (lv_at hl 7 rfl) ?_
  refine lv_if_ge (tgt := 349) hx hb dX8_newRule_296 (by decide) (fun c_5 => ?_) (fun c_5 => ?_)
  · have hF := if_t c_5 hF
    exact wb_X8_newRule_349 X    x2 x3 x4 x5 x6 x7 x8 M _ _ _ hF hP hS (lv_sub hl [0, 1, 2, 3, 4, 5, 6, 7] rfl)
  · have hF := if_e c_5 hF
    refine lv_aload_n hx hb dX8_newRule_299 rfl (lv_at hl 0 rfl) ?_
    refine wd_geti X hP 0 dM_0 rfl in_X8_newRule_X8 14 rfl (by decide) (by decide +kernel) dX8_newRule_300 ?_
    obtain ⟨x8_1, e_2, hF⟩ := nm_c hF
    refine wd_top e_2 ?_
    refine lv_istore (lv' := [(8, .int x8_1), (0, .ref (ad 0)), (2, .int x2), (3, .int x3), (4, .int x4), (5, .int x5), (6, .int x6), (7, .int x7)]) hx hb dX8_newRule_303 hl (by decide) rfl (fun ls hl => ?_)
    refine lv_aload_n hx hb dX8_newRule_305 rfl (lv_at hl 1 rfl) ?_
    refine lv_dup hx hb dX8_newRule_306 rfl ?_
    refine wd_geti X hP 0 dM_0 rfl in_X8_newRule_X8 14 rfl (by decide) (by decide +kernel) dX8_newRule_307 ?_
    refine lv_iconst (v := (1 : Int32)) hx hb dX8_newRule_310 (by decide) ?_
    refine lv_iadd hx hb dX8_newRule_311 ?_
    obtain ⟨M_3, e_4, hF⟩ := wr_c hF
    refine wd_puti X hP hS 0 dM_0 rfl in_X8_newRule_X8 tyX8_ok nmX8 14 rfl (by decide) rfl rfl (by decide +kernel) dX8_newRule_312 (fun H locs hP hS => ?_)
    rw [← e_4] at hP
    refine lv_iconst (v := (0 : Int32)) hx hb dX8_newRule_315 (by decide) ?_
    refine lv_istore (lv' := [(9, .int (0 : Int32)), (8, .int x8_1), (0, .ref (ad 0)), (2, .int x2), (3, .int x3), (4, .int x4), (5, .int x5), (6, .int x6), (7, .int x7)]) hx hb dX8_newRule_316 hl (by decide) rfl (fun ls hl => ?_)
    exact wh_X8_newRule_318 X    100 x2 x3 x4 x5 x6 x7 x8_1 (0 : Int32) M_3 _ _ _ hF hP hS (lv_sub hl [2, 3, 4, 5, 6, 7, 8, 1, 0] rfl)
set_option maxHeartbeats 4000000 in
set_option maxRecDepth 100000 in
theorem wb_X8_newRule_251 {p : Program} {l : Launch} {e : Env} {s : State} {m : MethodId} {args : Array Value} {below : List Frame} {meth : Method} {c : Code} {D : va_G} {cA : Nat → ClassId} {ad : Nat → Nat} (X : wd_X p s m args meth c cX8_newRule 10 wsX8_newRule RX8 (some .int) D cA ad dsM.length) {r : Int32} {M' : Mem}  (x1 : Int32) (x2 : Int32) (x3 : Int32) (x4 : Int32) (x5 : Int32) (x6 : Int32) (x7 : Int32) (M : Mem) (H : Heap) (locs : List Loc) (ls : Array Slot) (hF : B_X8_newRule_251  x1 x2 x3 x4 x5 x6 x7 M = some (r, M')) (hP : wd_P D cA ad dsM M H) (hS : va_S (wd_A ad dsM.length) s.heap H locs) (hl : lv_has ls 10 [(0, .ref (ad 0)), (1, .int x1), (2, .int x2), (3, .int x3), (4, .int x4), (5, .int x5), (6, .int x6), (7, .int x7)]) : W p l e (headSpec wsX8_newRule rm_X8_newRule).room s m args below meth c H locs 0 0 (MQ below (wm_Qi D cA ad dsM r M') args s 0 0 (wd_A ad dsM.length)) (F0 m 251 ls []) := by
  have hx := X.1.1
  have hb := X.1.2.1
  have hts := X.1.2.2.2.2
  unfold B_X8_newRule_251 at hF
  refine lv_iload_n hx hb dX8_newRule_251 rfl (lv_at hl 1 rfl) ?_
  refine lv_iload hx hb dX8_newRule_252 (lv_at hl 6 rfl) ?_
  refine lv_iconst (v := (2 : Int32)) hx hb dX8_newRule_254 (by decide) ?_
  refine lv_iadd hx hb dX8_newRule_255 ?_
  refine lv_icmp_le (tgt := 261) hx hb dX8_newRule_256 (by decide) (fun c_6 => ?_) (fun c_6 => ?_)
  · have hF := if_t c_6 hF
    refine lv_aload_n hx hb dX8_newRule_261 rfl (lv_at hl 0 rfl) ?_
    refine lv_iconst (v := (1 : Int32)) hx hb dX8_newRule_262 (by decide) ?_
    obtain ⟨r_1, hc_2, hF⟩ := bd_c hF
    refine wd_calli X hP hS [.int (1 : Int32)] [] (c_X8_eventOf l D cA ad X.2.2.2.2   (1 : Int32) M hc_2) (cwV 1 hts gX8_newRule_X8_eventOf rfl rfl rfl (by decide +kernel) ⟨(by show _ ≤ _; first | exact Nat.le_of_ble_eq_true rfl | (simp [headSpec, rm_X8_newRule]; omega) | omega), (by show _ ≤ _; first | exact Nat.le_of_ble_eq_true rfl | (simp [headSpec, rm_X8_newRule]; omega) | omega)⟩) dM_0 rfl rfl hl.1 rfl (Nat.le_of_ble_eq_true rfl) dX8_newRule_263 (fun H locs hP hS => ?_)
    refine lv_istore (lv' := [(8, .int r_1), (0, .ref (ad 0)), (1, .int x1), (2, .int x2), (3, .int x3), (4, .int x4), (5, .int x5), (6, .int x6), (7, .int x7)]) hx hb dX8_newRule_266 hl (by decide) rfl (fun ls hl => ?_)
    refine lv_aload_n hx hb dX8_newRule_268 rfl (lv_at hl 1 rfl) ?_
    refine wd_geti X hP 0 dM_0 rfl in_X8_newRule_X8 15 rfl (by decide) (by decide +kernel) dX8_newRule_269 ?_
    refine lv_bipush (v := (20 : Int32)) hx hb dX8_newRule_272 (by decide) ?_
    refine lv_icmp_eq (tgt := 291) hx hb dX8_newRule_274 (by decide) (fun c_5 => ?_) (fun c_5 => ?_)
    · have hF := if_t c_5 hF
      refine lv_bipush (v := (-2 : Int32)) hx hb dX8_newRule_291 (by decide) ?_
      cases hF
      exact wd_reti X hP hS rfl rfl dX8_newRule_293
    · have hF := if_e c_5 hF
      refine lv_iload hx hb dX8_newRule_277 (lv_at hl 0 rfl) ?_
      refine lv_if_ge (tgt := 294) hx hb dX8_newRule_279 (by decide) (fun c_4 => ?_) (fun c_4 => ?_)
      · have hF := if_t c_4 hF
        exact wb_X8_newRule_294 X    x2 x3 x4 x5 x6 x7 r_1 M _ _ _ hF hP hS (lv_sub hl [1, 3, 4, 5, 6, 7, 8, 0] rfl)
      · have hF := if_e c_4 hF
        refine lv_aload_n hx hb dX8_newRule_282 rfl (lv_at hl 1 rfl) ?_
        refine wd_geti X hP 0 dM_0 rfl in_X8_newRule_X8 14 rfl (by decide) (by decide +kernel) dX8_newRule_283 ?_
        refine lv_bipush (v := (6 : Int32)) hx hb dX8_newRule_286 (by decide) ?_
        refine lv_icmp_ne (tgt := 294) hx hb dX8_newRule_288 (by decide) (fun c_3 => ?_) (fun c_3 => ?_)
        · have hF := if_e c_3 hF
          exact wb_X8_newRule_294 X    x2 x3 x4 x5 x6 x7 r_1 M _ _ _ hF hP hS (lv_sub hl [1, 3, 4, 5, 6, 7, 8, 0] rfl)
        · have hF := if_t c_3 hF
          refine lv_bipush (v := (-2 : Int32)) hx hb dX8_newRule_291 (by decide) ?_
          cases hF
          exact wd_reti X hP hS rfl rfl dX8_newRule_293
  · have hF := if_e c_6 hF
    refine lv_iconst (v := (-1 : Int32)) hx hb dX8_newRule_259 (by decide) ?_
    cases hF
    exact wd_reti X hP hS rfl rfl dX8_newRule_260
set_option maxHeartbeats 4000000 in
set_option maxRecDepth 100000 in
theorem wb_X8_newRule_223 {p : Program} {l : Launch} {e : Env} {s : State} {m : MethodId} {args : Array Value} {below : List Frame} {meth : Method} {c : Code} {D : va_G} {cA : Nat → ClassId} {ad : Nat → Nat} (X : wd_X p s m args meth c cX8_newRule 10 wsX8_newRule RX8 (some .int) D cA ad dsM.length) {r : Int32} {M' : Mem}  (x1 : Int32) (x2 : Int32) (x3 : Int32) (x4 : Int32) (x5 : Int32) (x6 : Int32) (t0 : Int32) (M : Mem) (H : Heap) (locs : List Loc) (ls : Array Slot) (hF : B_X8_newRule_223  x1 x2 x3 x4 x5 x6 t0 M = some (r, M')) (hP : wd_P D cA ad dsM M H) (hS : va_S (wd_A ad dsM.length) s.heap H locs) (hl : lv_has ls 10 [(0, .ref (ad 0)), (1, .int x1), (2, .int x2), (3, .int x3), (4, .int x4), (5, .int x5), (6, .int x6)]) : W p l e (headSpec wsX8_newRule rm_X8_newRule).room s m args below meth c H locs 0 0 (MQ below (wm_Qi D cA ad dsM r M') args s 0 0 (wd_A ad dsM.length)) (F0 m 223 ls [.int t0]) := by
  have hx := X.1.1
  have hb := X.1.2.1
  have hts := X.1.2.2.2.2
  unfold B_X8_newRule_223 at hF
  refine lv_istore (lv' := [(7, .int t0), (0, .ref (ad 0)), (1, .int x1), (2, .int x2), (3, .int x3), (4, .int x4), (5, .int x5), (6, .int x6)]) hx hb dX8_newRule_223 hl (by decide) rfl (fun ls hl => ?_)
  refine lv_iload_n hx hb dX8_newRule_225 rfl (lv_at hl 3 rfl) ?_
  refine lv_iconst (v := (1 : Int32)) hx hb dX8_newRule_226 (by decide) ?_
  refine lv_icmp_lt (tgt := 259) hx hb dX8_newRule_227 (by decide) (fun c_5 => ?_) (fun c_5 => ?_)
  · have hF := if_t c_5 hF
    refine lv_iconst (v := (-1 : Int32)) hx hb dX8_newRule_259 (by decide) ?_
    cases hF
    exact wd_reti X hP hS rfl rfl dX8_newRule_260
  · have hF := if_e c_5 hF
    refine lv_iload_n hx hb dX8_newRule_230 rfl (lv_at hl 4 rfl) ?_
    refine lv_iconst (v := (1 : Int32)) hx hb dX8_newRule_231 (by decide) ?_
    refine lv_icmp_lt (tgt := 259) hx hb dX8_newRule_232 (by decide) (fun c_4 => ?_) (fun c_4 => ?_)
    · have hF := if_t c_4 hF
      refine lv_iconst (v := (-1 : Int32)) hx hb dX8_newRule_259 (by decide) ?_
      cases hF
      exact wd_reti X hP hS rfl rfl dX8_newRule_260
    · have hF := if_e c_4 hF
      refine lv_iload hx hb dX8_newRule_235 (lv_at hl 6 rfl) ?_
      refine lv_if_lt (tgt := 259) hx hb dX8_newRule_237 (by decide) (fun c_3 => ?_) (fun c_3 => ?_)
      · have hF := if_t c_3 hF
        refine lv_iconst (v := (-1 : Int32)) hx hb dX8_newRule_259 (by decide) ?_
        cases hF
        exact wd_reti X hP hS rfl rfl dX8_newRule_260
      · have hF := if_e c_3 hF
        refine lv_iload_n hx hb dX8_newRule_240 rfl (lv_at hl 2 rfl) ?_
        refine lv_iload hx hb dX8_newRule_241 (lv_at hl 7 rfl) ?_
        refine lv_icmp_le (tgt := 251) hx hb dX8_newRule_243 (by decide) (fun c_2 => ?_) (fun c_2 => ?_)
        · have hF := if_t c_2 hF
          exact wb_X8_newRule_251 X    x1 x2 x3 x4 x5 x6 t0 M _ _ _ hF hP hS (lv_sub hl [1, 2, 3, 4, 5, 6, 7, 0] rfl)
        · have hF := if_e c_2 hF
          refine lv_iload hx hb dX8_newRule_246 (lv_at hl 0 rfl) ?_
          refine lv_if_eq (tgt := 259) hx hb dX8_newRule_248 (by decide) (fun c_1 => ?_) (fun c_1 => ?_)
          · have hF := if_t c_1 hF
            refine lv_iconst (v := (-1 : Int32)) hx hb dX8_newRule_259 (by decide) ?_
            cases hF
            exact wd_reti X hP hS rfl rfl dX8_newRule_260
          · have hF := if_e c_1 hF
            exact wb_X8_newRule_251 X    x1 x2 x3 x4 x5 x6 t0 M _ _ _ hF hP hS (lv_sub hl [1, 2, 3, 4, 5, 6, 7, 0] rfl)
set_option maxHeartbeats 4000000 in
set_option maxRecDepth 100000 in
theorem wb_X8_newRule_222 {p : Program} {l : Launch} {e : Env} {s : State} {m : MethodId} {args : Array Value} {below : List Frame} {meth : Method} {c : Code} {D : va_G} {cA : Nat → ClassId} {ad : Nat → Nat} (X : wd_X p s m args meth c cX8_newRule 10 wsX8_newRule RX8 (some .int) D cA ad dsM.length) {r : Int32} {M' : Mem}  (x1 : Int32) (x2 : Int32) (x3 : Int32) (x4 : Int32) (x5 : Int32) (x6 : Int32) (M : Mem) (H : Heap) (locs : List Loc) (ls : Array Slot) (hF : B_X8_newRule_222  x1 x2 x3 x4 x5 x6 M = some (r, M')) (hP : wd_P D cA ad dsM M H) (hS : va_S (wd_A ad dsM.length) s.heap H locs) (hl : lv_has ls 10 [(0, .ref (ad 0)), (1, .int x1), (2, .int x2), (3, .int x3), (4, .int x4), (5, .int x5), (6, .int x6)]) : W p l e (headSpec wsX8_newRule rm_X8_newRule).room s m args below meth c H locs 0 0 (MQ below (wm_Qi D cA ad dsM r M') args s 0 0 (wd_A ad dsM.length)) (F0 m 222 ls []) := by
  have hx := X.1.1
  have hb := X.1.2.1
  have hts := X.1.2.2.2.2
  unfold B_X8_newRule_222 at hF
  refine lv_iconst (v := (0 : Int32)) hx hb dX8_newRule_222 (by decide) ?_
  exact wb_X8_newRule_223 X    x1 x2 x3 x4 x5 x6 (0 : Int32) M _ _ _ hF hP hS (lv_sub hl [0, 1, 2, 3, 4, 5, 6] rfl)
set_option maxHeartbeats 4000000 in
set_option maxRecDepth 100000 in
theorem wb_X8_newRule_181 {p : Program} {l : Launch} {e : Env} {s : State} {m : MethodId} {args : Array Value} {below : List Frame} {meth : Method} {c : Code} {D : va_G} {cA : Nat → ClassId} {ad : Nat → Nat} (X : wd_X p s m args meth c cX8_newRule 10 wsX8_newRule RX8 (some .int) D cA ad dsM.length) {r : Int32} {M' : Mem}  (x1 : Int32) (x2 : Int32) (x3 : Int32) (x4 : Int32) (x5 : Int32) (t0 : Int32) (M : Mem) (H : Heap) (locs : List Loc) (ls : Array Slot) (hF : B_X8_newRule_181  x1 x2 x3 x4 x5 t0 M = some (r, M')) (hP : wd_P D cA ad dsM M H) (hS : va_S (wd_A ad dsM.length) s.heap H locs) (hl : lv_has ls 10 [(0, .ref (ad 0)), (1, .int x1), (2, .int x2), (3, .int x3), (4, .int x4), (5, .int x5)]) : W p l e (headSpec wsX8_newRule rm_X8_newRule).room s m args below meth c H locs 0 0 (MQ below (wm_Qi D cA ad dsM r M') args s 0 0 (wd_A ad dsM.length)) (F0 m 181 ls [.int t0]) := by
  have hx := X.1.1
  have hb := X.1.2.1
  have hts := X.1.2.2.2.2
  unfold B_X8_newRule_181 at hF
  refine lv_istore (lv' := [(6, .int t0), (0, .ref (ad 0)), (1, .int x1), (2, .int x2), (3, .int x3), (4, .int x4), (5, .int x5)]) hx hb dX8_newRule_181 hl (by decide) rfl (fun ls hl => ?_)
  refine lv_iload_n hx hb dX8_newRule_183 rfl (lv_at hl 2 rfl) ?_
  refine lv_iload hx hb dX8_newRule_184 (lv_at hl 0 rfl) ?_
  refine lv_icmp_le (tgt := 222) hx hb dX8_newRule_186 (by decide) (fun c_7 => ?_) (fun c_7 => ?_)
  · have hF := if_t c_7 hF
    exact wb_X8_newRule_222 X    x1 x2 x3 x4 x5 t0 M _ _ _ hF hP hS (lv_sub hl [1, 2, 3, 4, 5, 6, 0] rfl)
  · have hF := if_e c_7 hF
    refine lv_aload_n hx hb dX8_newRule_189 rfl (lv_at hl 1 rfl) ?_
    refine lv_iload hx hb dX8_newRule_190 (lv_at hl 0 rfl) ?_
    refine lv_bipush (v := (100 : Int32)) hx hb dX8_newRule_192 (by decide) ?_
    refine lv_bipush (v := (111 : Int32)) hx hb dX8_newRule_194 (by decide) ?_
    refine lv_iconst (v := (0 : Int32)) hx hb dX8_newRule_196 (by decide) ?_
    refine lv_iconst (v := (0 : Int32)) hx hb dX8_newRule_197 (by decide) ?_
    refine lv_iconst (v := (0 : Int32)) hx hb dX8_newRule_198 (by decide) ?_
    refine lv_iconst (v := (0 : Int32)) hx hb dX8_newRule_199 (by decide) ?_
    obtain ⟨r_1, hc_2, hF⟩ := bd_c hF
    refine wd_calli X hP hS [.int t0, .int (100 : Int32), .int (111 : Int32), .int (0 : Int32), .int (0 : Int32), .int (0 : Int32), .int (0 : Int32)] [] (c_X8_says l D cA ad X.2.2.2.2   t0 (100 : Int32) (111 : Int32) (0 : Int32) (0 : Int32) (0 : Int32) (0 : Int32) M hc_2) (cwV 7 hts gX8_newRule_X8_says rfl rfl rfl (by decide +kernel) ⟨(by show _ ≤ _; first | exact Nat.le_of_ble_eq_true rfl | (simp [headSpec, rm_X8_newRule]; omega) | omega), (by show _ ≤ _; first | exact Nat.le_of_ble_eq_true rfl | (simp [headSpec, rm_X8_newRule]; omega) | omega)⟩) dM_0 rfl rfl hl.1 rfl (Nat.le_of_ble_eq_true rfl) dX8_newRule_200 (fun H locs hP hS => ?_)
    refine lv_if_eq (tgt := 222) hx hb dX8_newRule_203 (by decide) (fun c_6 => ?_) (fun c_6 => ?_)
    · have hF := if_t c_6 hF
      exact wb_X8_newRule_222 X    x1 x2 x3 x4 x5 t0 M _ _ _ hF hP hS (lv_sub hl [1, 2, 3, 4, 5, 6, 0] rfl)
    · have hF := if_e c_6 hF
      refine lv_aload_n hx hb dX8_newRule_206 rfl (lv_at hl 1 rfl) ?_
      refine lv_iload hx hb dX8_newRule_207 (lv_at hl 0 rfl) ?_
      refine lv_iconst (v := (1 : Int32)) hx hb dX8_newRule_209 (by decide) ?_
      refine lv_iadd hx hb dX8_newRule_210 ?_
      refine lv_iconst (v := (3 : Int32)) hx hb dX8_newRule_211 (by decide) ?_
      obtain ⟨r_3, hc_4, hF⟩ := bd_c hF
      refine wd_calli X hP hS [.int (t0 + (1 : Int32)), .int (3 : Int32)] [] (c_X8_isWord l D cA ad X.2.2.2.2   (t0 + (1 : Int32)) (3 : Int32) M hc_4) (cwV 2 hts gX8_newRule_X8_isWord rfl rfl rfl (by decide +kernel) ⟨(by show _ ≤ _; first | exact Nat.le_of_ble_eq_true rfl | (simp [headSpec, rm_X8_newRule]; omega) | omega), (by show _ ≤ _; first | exact Nat.le_of_ble_eq_true rfl | (simp [headSpec, rm_X8_newRule]; omega) | omega)⟩) dM_0 rfl rfl hl.1 rfl (Nat.le_of_ble_eq_true rfl) dX8_newRule_212 (fun H locs hP hS => ?_)
      refine lv_if_eq (tgt := 222) hx hb dX8_newRule_215 (by decide) (fun c_5 => ?_) (fun c_5 => ?_)
      · have hF := if_t c_5 hF
        exact wb_X8_newRule_222 X    x1 x2 x3 x4 x5 t0 M _ _ _ hF hP hS (lv_sub hl [1, 2, 3, 4, 5, 6, 0] rfl)
      · have hF := if_e c_5 hF
        refine lv_iconst (v := (1 : Int32)) hx hb dX8_newRule_218 (by decide) ?_
        refine lv_goto (tgt := 223) hx hb dX8_newRule_219 (by decide) ?_
        exact wb_X8_newRule_223 X    x1 x2 x3 x4 x5 t0 (1 : Int32) M _ _ _ hF hP hS (lv_sub hl [1, 2, 3, 4, 5, 6, 0] rfl)
set_option maxHeartbeats 4000000 in
set_option maxRecDepth 100000 in
theorem wb_X8_newRule_169 {p : Program} {l : Launch} {e : Env} {s : State} {m : MethodId} {args : Array Value} {below : List Frame} {meth : Method} {c : Code} {D : va_G} {cA : Nat → ClassId} {ad : Nat → Nat} (X : wd_X p s m args meth c cX8_newRule 10 wsX8_newRule RX8 (some .int) D cA ad dsM.length) {r : Int32} {M' : Mem}  (x1 : Int32) (x2 : Int32) (x3 : Int32) (x4 : Int32) (x5 : Int32) (M : Mem) (H : Heap) (locs : List Loc) (ls : Array Slot) (hF : B_X8_newRule_169  x1 x2 x3 x4 x5 M = some (r, M')) (hP : wd_P D cA ad dsM M H) (hS : va_S (wd_A ad dsM.length) s.heap H locs) (hl : lv_has ls 10 [(0, .ref (ad 0)), (1, .int x1), (2, .int x2), (3, .int x3), (4, .int x4), (5, .int x5)]) : W p l e (headSpec wsX8_newRule rm_X8_newRule).room s m args below meth c H locs 0 0 (MQ below (wm_Qi D cA ad dsM r M') args s 0 0 (wd_A ad dsM.length)) (F0 m 169 ls []) := by
  have hx := X.1.1
  have hb := X.1.2.1
  have hts := X.1.2.2.2.2
  unfold B_X8_newRule_169 at hF
  refine lv_iload hx hb dX8_newRule_169 (lv_at hl 4 rfl) ?_
  refine lv_if_le (tgt := 179) hx hb dX8_newRule_171 (by decide) (fun c_1 => ?_) (fun c_1 => ?_)
  · have hF := if_t c_1 hF
    refine lv_bipush (v := (6 : Int32)) hx hb dX8_newRule_179 (by decide) ?_
    exact wb_X8_newRule_181 X    x1 x2 x3 x4 x5 (6 : Int32) M _ _ _ hF hP hS (lv_sub hl [0, 1, 2, 3, 4, 5] rfl)
  · have hF := if_e c_1 hF
    refine lv_bipush (v := (8 : Int32)) hx hb dX8_newRule_174 (by decide) ?_
    refine lv_goto (tgt := 181) hx hb dX8_newRule_176 (by decide) ?_
    exact wb_X8_newRule_181 X    x1 x2 x3 x4 x5 (8 : Int32) M _ _ _ hF hP hS (lv_sub hl [0, 1, 2, 3, 4, 5] rfl)
set_option maxHeartbeats 4000000 in
set_option maxRecDepth 100000 in
theorem wb_X8_newRule_167 {p : Program} {l : Launch} {e : Env} {s : State} {m : MethodId} {args : Array Value} {below : List Frame} {meth : Method} {c : Code} {D : va_G} {cA : Nat → ClassId} {ad : Nat → Nat} (X : wd_X p s m args meth c cX8_newRule 10 wsX8_newRule RX8 (some .int) D cA ad dsM.length) {r : Int32} {M' : Mem}  (x1 : Int32) (x2 : Int32) (x3 : Int32) (x4 : Int32) (t0 : Int32) (M : Mem) (H : Heap) (locs : List Loc) (ls : Array Slot) (hF : B_X8_newRule_167  x1 x2 x3 x4 t0 M = some (r, M')) (hP : wd_P D cA ad dsM M H) (hS : va_S (wd_A ad dsM.length) s.heap H locs) (hl : lv_has ls 10 [(0, .ref (ad 0)), (1, .int x1), (2, .int x2), (3, .int x3), (4, .int x4)]) : W p l e (headSpec wsX8_newRule rm_X8_newRule).room s m args below meth c H locs 0 0 (MQ below (wm_Qi D cA ad dsM r M') args s 0 0 (wd_A ad dsM.length)) (F0 m 167 ls [.int t0]) := by
  have hx := X.1.1
  have hb := X.1.2.1
  have hts := X.1.2.2.2.2
  unfold B_X8_newRule_167 at hF
  refine lv_istore (lv' := [(5, .int t0), (0, .ref (ad 0)), (1, .int x1), (2, .int x2), (3, .int x3), (4, .int x4)]) hx hb dX8_newRule_167 hl (by decide) rfl (fun ls hl => ?_)
  exact wb_X8_newRule_169 X    x1 x2 x3 x4 t0 M _ _ _ hF hP hS (lv_sub hl [1, 2, 3, 4, 5, 0] rfl)
set_option maxHeartbeats 4000000 in
set_option maxRecDepth 100000 in
theorem wb_X8_newRule_150 {p : Program} {l : Launch} {e : Env} {s : State} {m : MethodId} {args : Array Value} {below : List Frame} {meth : Method} {c : Code} {D : va_G} {cA : Nat → ClassId} {ad : Nat → Nat} (X : wd_X p s m args meth c cX8_newRule 10 wsX8_newRule RX8 (some .int) D cA ad dsM.length) {r : Int32} {M' : Mem}  (x1 : Int32) (x2 : Int32) (x3 : Int32) (t0 : Int32) (M : Mem) (H : Heap) (locs : List Loc) (ls : Array Slot) (hF : B_X8_newRule_150  x1 x2 x3 t0 M = some (r, M')) (hP : wd_P D cA ad dsM M H) (hS : va_S (wd_A ad dsM.length) s.heap H locs) (hl : lv_has ls 10 [(0, .ref (ad 0)), (1, .int x1), (2, .int x2), (3, .int x3)]) : W p l e (headSpec wsX8_newRule rm_X8_newRule).room s m args below meth c H locs 0 0 (MQ below (wm_Qi D cA ad dsM r M') args s 0 0 (wd_A ad dsM.length)) (F0 m 150 ls [.int t0]) := by
  have hx := X.1.1
  have hb := X.1.2.1
  have hts := X.1.2.2.2.2
  unfold B_X8_newRule_150 at hF
  refine lv_istore (lv' := [(4, .int t0), (0, .ref (ad 0)), (1, .int x1), (2, .int x2), (3, .int x3)]) hx hb dX8_newRule_150 hl (by decide) rfl (fun ls hl => ?_)
  refine lv_iload hx hb dX8_newRule_152 (lv_at hl 0 rfl) ?_
  refine lv_if_le (tgt := 166) hx hb dX8_newRule_154 (by decide) (fun c_3 => ?_) (fun c_3 => ?_)
  · have hF := if_t c_3 hF
    refine lv_iconst (v := (0 : Int32)) hx hb dX8_newRule_166 (by decide) ?_
    exact wb_X8_newRule_167 X    x1 x2 x3 t0 (0 : Int32) M _ _ _ hF hP hS (lv_sub hl [1, 2, 3, 4, 0] rfl)
  · have hF := if_e c_3 hF
    refine lv_aload_n hx hb dX8_newRule_157 rfl (lv_at hl 1 rfl) ?_
    refine lv_bipush (v := (7 : Int32)) hx hb dX8_newRule_158 (by decide) ?_
    obtain ⟨r_1, hc_2, hF⟩ := bd_c hF
    refine wd_calli X hP hS [.int (7 : Int32)] [] (c_X8_stateOf l D cA ad X.2.2.2.2   (7 : Int32) M hc_2) (cwV 1 hts gX8_newRule_X8_stateOf rfl rfl rfl (by decide +kernel) ⟨(by show _ ≤ _; first | exact Nat.le_of_ble_eq_true rfl | (simp [headSpec, rm_X8_newRule]; omega) | omega), (by show _ ≤ _; first | exact Nat.le_of_ble_eq_true rfl | (simp [headSpec, rm_X8_newRule]; omega) | omega)⟩) dM_0 rfl rfl hl.1 rfl (Nat.le_of_ble_eq_true rfl) dX8_newRule_160 (fun H locs hP hS => ?_)
    refine lv_goto (tgt := 167) hx hb dX8_newRule_163 (by decide) ?_
    exact wb_X8_newRule_167 X    x1 x2 x3 t0 r_1 M _ _ _ hF hP hS (lv_sub hl [1, 2, 3, 4, 0] rfl)
set_option maxHeartbeats 4000000 in
set_option maxRecDepth 100000 in
theorem wb_X8_newRule_149 {p : Program} {l : Launch} {e : Env} {s : State} {m : MethodId} {args : Array Value} {below : List Frame} {meth : Method} {c : Code} {D : va_G} {cA : Nat → ClassId} {ad : Nat → Nat} (X : wd_X p s m args meth c cX8_newRule 10 wsX8_newRule RX8 (some .int) D cA ad dsM.length) {r : Int32} {M' : Mem}  (x1 : Int32) (x2 : Int32) (x3 : Int32) (M : Mem) (H : Heap) (locs : List Loc) (ls : Array Slot) (hF : B_X8_newRule_149  x1 x2 x3 M = some (r, M')) (hP : wd_P D cA ad dsM M H) (hS : va_S (wd_A ad dsM.length) s.heap H locs) (hl : lv_has ls 10 [(0, .ref (ad 0)), (1, .int x1), (2, .int x2), (3, .int x3)]) : W p l e (headSpec wsX8_newRule rm_X8_newRule).room s m args below meth c H locs 0 0 (MQ below (wm_Qi D cA ad dsM r M') args s 0 0 (wd_A ad dsM.length)) (F0 m 149 ls []) := by
  have hx := X.1.1
  have hb := X.1.2.1
  have hts := X.1.2.2.2.2
  unfold B_X8_newRule_149 at hF
  refine lv_iconst (v := (0 : Int32)) hx hb dX8_newRule_149 (by decide) ?_
  exact wb_X8_newRule_150 X    x1 x2 x3 (0 : Int32) M _ _ _ hF hP hS (lv_sub hl [0, 1, 2, 3] rfl)
set_option maxHeartbeats 4000000 in
set_option maxRecDepth 100000 in
theorem wb_X8_newRule_23 {p : Program} {l : Launch} {e : Env} {s : State} {m : MethodId} {args : Array Value} {below : List Frame} {meth : Method} {c : Code} {D : va_G} {cA : Nat → ClassId} {ad : Nat → Nat} (X : wd_X p s m args meth c cX8_newRule 10 wsX8_newRule RX8 (some .int) D cA ad dsM.length) {r : Int32} {M' : Mem}  (x1 : Int32) (M : Mem) (H : Heap) (locs : List Loc) (ls : Array Slot) (hF : B_X8_newRule_23  x1 M = some (r, M')) (hP : wd_P D cA ad dsM M H) (hS : va_S (wd_A ad dsM.length) s.heap H locs) (hl : lv_has ls 10 [(0, .ref (ad 0)), (1, .int x1)]) : W p l e (headSpec wsX8_newRule rm_X8_newRule).room s m args below meth c H locs 0 0 (MQ below (wm_Qi D cA ad dsM r M') args s 0 0 (wd_A ad dsM.length)) (F0 m 23 ls []) := by
  have hx := X.1.1
  have hb := X.1.2.1
  have hts := X.1.2.2.2.2
  unfold B_X8_newRule_23 at hF
  refine lv_aload_n hx hb dX8_newRule_23 rfl (lv_at hl 0 rfl) ?_
  refine lv_iconst (v := (1 : Int32)) hx hb dX8_newRule_24 (by decide) ?_
  refine lv_iconst (v := (4 : Int32)) hx hb dX8_newRule_25 (by decide) ?_
  obtain ⟨r_1, hc_2, hF⟩ := bd_c hF
  refine wd_calli X hP hS [.int (1 : Int32), .int (4 : Int32)] [] (c_X8_isWord l D cA ad X.2.2.2.2   (1 : Int32) (4 : Int32) M hc_2) (cwV 2 hts gX8_newRule_X8_isWord rfl rfl rfl (by decide +kernel) ⟨(by show _ ≤ _; first | exact Nat.le_of_ble_eq_true rfl | (simp [headSpec, rm_X8_newRule]; omega) | omega), (by show _ ≤ _; first | exact Nat.le_of_ble_eq_true rfl | (simp [headSpec, rm_X8_newRule]; omega) | omega)⟩) dM_0 rfl rfl hl.1 rfl (Nat.le_of_ble_eq_true rfl) dX8_newRule_26 (fun H locs hP hS => ?_)
  refine lv_if_eq (tgt := 66) hx hb dX8_newRule_29 (by decide) (fun c_23 => ?_) (fun c_23 => ?_)
  · have hF := if_t c_23 hF
    refine lv_iconst (v := (-1 : Int32)) hx hb dX8_newRule_66 (by decide) ?_
    cases hF
    exact wd_reti X hP hS rfl rfl dX8_newRule_67
  · have hF := if_e c_23 hF
    refine lv_aload_n hx hb dX8_newRule_32 rfl (lv_at hl 0 rfl) ?_
    refine lv_iconst (v := (2 : Int32)) hx hb dX8_newRule_33 (by decide) ?_
    refine lv_bipush (v := (102 : Int32)) hx hb dX8_newRule_34 (by decide) ?_
    refine lv_bipush (v := (114 : Int32)) hx hb dX8_newRule_36 (by decide) ?_
    refine lv_bipush (v := (111 : Int32)) hx hb dX8_newRule_38 (by decide) ?_
    refine lv_bipush (v := (109 : Int32)) hx hb dX8_newRule_40 (by decide) ?_
    refine lv_iconst (v := (0 : Int32)) hx hb dX8_newRule_42 (by decide) ?_
    refine lv_iconst (v := (0 : Int32)) hx hb dX8_newRule_43 (by decide) ?_
    obtain ⟨r_3, hc_4, hF⟩ := bd_c hF
    refine wd_calli X hP hS [.int (2 : Int32), .int (102 : Int32), .int (114 : Int32), .int (111 : Int32), .int (109 : Int32), .int (0 : Int32), .int (0 : Int32)] [] (c_X8_says l D cA ad X.2.2.2.2   (2 : Int32) (102 : Int32) (114 : Int32) (111 : Int32) (109 : Int32) (0 : Int32) (0 : Int32) M hc_4) (cwV 7 hts gX8_newRule_X8_says rfl rfl rfl (by decide +kernel) ⟨(by show _ ≤ _; first | exact Nat.le_of_ble_eq_true rfl | (simp [headSpec, rm_X8_newRule]; omega) | omega), (by show _ ≤ _; first | exact Nat.le_of_ble_eq_true rfl | (simp [headSpec, rm_X8_newRule]; omega) | omega)⟩) dM_0 rfl rfl hl.1 rfl (Nat.le_of_ble_eq_true rfl) dX8_newRule_44 (fun H locs hP hS => ?_)
    refine lv_if_eq (tgt := 66) hx hb dX8_newRule_47 (by decide) (fun c_22 => ?_) (fun c_22 => ?_)
    · have hF := if_t c_22 hF
      refine lv_iconst (v := (-1 : Int32)) hx hb dX8_newRule_66 (by decide) ?_
      cases hF
      exact wd_reti X hP hS rfl rfl dX8_newRule_67
    · have hF := if_e c_22 hF
      refine lv_aload_n hx hb dX8_newRule_50 rfl (lv_at hl 0 rfl) ?_
      refine lv_iconst (v := (4 : Int32)) hx hb dX8_newRule_51 (by decide) ?_
      refine lv_bipush (v := (116 : Int32)) hx hb dX8_newRule_52 (by decide) ?_
      refine lv_bipush (v := (111 : Int32)) hx hb dX8_newRule_54 (by decide) ?_
      refine lv_iconst (v := (0 : Int32)) hx hb dX8_newRule_56 (by decide) ?_
      refine lv_iconst (v := (0 : Int32)) hx hb dX8_newRule_57 (by decide) ?_
      refine lv_iconst (v := (0 : Int32)) hx hb dX8_newRule_58 (by decide) ?_
      refine lv_iconst (v := (0 : Int32)) hx hb dX8_newRule_59 (by decide) ?_
      obtain ⟨r_5, hc_6, hF⟩ := bd_c hF
      refine wd_calli X hP hS [.int (4 : Int32), .int (116 : Int32), .int (111 : Int32), .int (0 : Int32), .int (0 : Int32), .int (0 : Int32), .int (0 : Int32)] [] (c_X8_says l D cA ad X.2.2.2.2   (4 : Int32) (116 : Int32) (111 : Int32) (0 : Int32) (0 : Int32) (0 : Int32) (0 : Int32) M hc_6) (cwV 7 hts gX8_newRule_X8_says rfl rfl rfl (by decide +kernel) ⟨(by show _ ≤ _; first | exact Nat.le_of_ble_eq_true rfl | (simp [headSpec, rm_X8_newRule]; omega) | omega), (by show _ ≤ _; first | exact Nat.le_of_ble_eq_true rfl | (simp [headSpec, rm_X8_newRule]; omega) | omega)⟩) dM_0 rfl rfl hl.1 rfl (Nat.le_of_ble_eq_true rfl) dX8_newRule_60 (fun H locs hP hS => ?_)
      refine lv_if_ne (tgt := 68) hx hb dX8_newRule_63 (by decide) (fun c_21 => ?_) (fun c_21 => ?_)
      · have hF := if_e c_21 hF
        refine lv_aload_n hx hb dX8_newRule_68 rfl (lv_at hl 0 rfl) ?_
        refine lv_iconst (v := (3 : Int32)) hx hb dX8_newRule_69 (by decide) ?_
        obtain ⟨r_7, hc_8, hF⟩ := bd_c hF
        refine wd_calli X hP hS [.int (3 : Int32)] [] (c_X8_stateOf l D cA ad X.2.2.2.2   (3 : Int32) M hc_8) (cwV 1 hts gX8_newRule_X8_stateOf rfl rfl rfl (by decide +kernel) ⟨(by show _ ≤ _; first | exact Nat.le_of_ble_eq_true rfl | (simp [headSpec, rm_X8_newRule]; omega) | omega), (by show _ ≤ _; first | exact Nat.le_of_ble_eq_true rfl | (simp [headSpec, rm_X8_newRule]; omega) | omega)⟩) dM_0 rfl rfl hl.1 rfl (Nat.le_of_ble_eq_true rfl) dX8_newRule_70 (fun H locs hP hS => ?_)
        refine lv_istore_n (lv' := [(2, .int r_7), (0, .ref (ad 0)), (1, .int x1)]) hx hb dX8_newRule_73 rfl hl (by decide) rfl (fun ls hl => ?_)
        refine lv_aload_n hx hb dX8_newRule_74 rfl (lv_at hl 1 rfl) ?_
        refine lv_iconst (v := (5 : Int32)) hx hb dX8_newRule_75 (by decide) ?_
        obtain ⟨r_9, hc_10, hF⟩ := bd_c hF
        refine wd_calli X hP hS [.int (5 : Int32)] [] (c_X8_stateOf l D cA ad X.2.2.2.2   (5 : Int32) M hc_10) (cwV 1 hts gX8_newRule_X8_stateOf rfl rfl rfl (by decide +kernel) ⟨(by show _ ≤ _; first | exact Nat.le_of_ble_eq_true rfl | (simp [headSpec, rm_X8_newRule]; omega) | omega), (by show _ ≤ _; first | exact Nat.le_of_ble_eq_true rfl | (simp [headSpec, rm_X8_newRule]; omega) | omega)⟩) dM_0 rfl rfl hl.1 rfl (Nat.le_of_ble_eq_true rfl) dX8_newRule_76 (fun H locs hP hS => ?_)
        refine lv_istore_n (lv' := [(3, .int r_9), (2, .int r_7), (0, .ref (ad 0)), (1, .int x1)]) hx hb dX8_newRule_79 rfl hl (by decide) rfl (fun ls hl => ?_)
        refine lv_iconst (v := (0 : Int32)) hx hb dX8_newRule_80 (by decide) ?_
        refine lv_istore (lv' := [(4, .int (0 : Int32)), (3, .int r_9), (2, .int r_7), (0, .ref (ad 0)), (1, .int x1)]) hx hb dX8_newRule_81 hl (by decide) rfl (fun ls hl => ?_)
        refine lv_iconst (v := (0 : Int32)) hx hb dX8_newRule_83 (by decide) ?_
        refine lv_istore (lv' := [(5, .int (0 : Int32)), (4, .int (0 : Int32)), (3, .int r_9), (2, .int r_7), (0, .ref (ad 0)), (1, .int x1)]) hx hb dX8_newRule_84 hl (by decide) rfl (fun ls hl => ?_)
        refine lv_iload_n hx hb dX8_newRule_86 rfl (lv_at hl 5 rfl) ?_
        refine lv_bipush (v := (6 : Int32)) hx hb dX8_newRule_87 (by decide) ?_
        refine lv_icmp_le (tgt := 169) hx hb dX8_newRule_89 (by decide) (fun c_20 => ?_) (fun c_20 => ?_)
        · have hF := if_t c_20 hF
          exact wb_X8_newRule_169 X    x1 r_7 r_9 (0 : Int32) (0 : Int32) M _ _ _ hF hP hS (lv_sub hl [4, 5, 3, 2, 1, 0] rfl)
        · have hF := if_e c_20 hF
          refine lv_aload_n hx hb dX8_newRule_92 rfl (lv_at hl 4 rfl) ?_
          refine lv_bipush (v := (6 : Int32)) hx hb dX8_newRule_93 (by decide) ?_
          refine lv_bipush (v := (105 : Int32)) hx hb dX8_newRule_95 (by decide) ?_
          refine lv_bipush (v := (102 : Int32)) hx hb dX8_newRule_97 (by decide) ?_
          refine lv_iconst (v := (0 : Int32)) hx hb dX8_newRule_99 (by decide) ?_
          refine lv_iconst (v := (0 : Int32)) hx hb dX8_newRule_100 (by decide) ?_
          refine lv_iconst (v := (0 : Int32)) hx hb dX8_newRule_101 (by decide) ?_
          refine lv_iconst (v := (0 : Int32)) hx hb dX8_newRule_102 (by decide) ?_
          obtain ⟨r_11, hc_12, hF⟩ := bd_c hF
          refine wd_calli X hP hS [.int (6 : Int32), .int (105 : Int32), .int (102 : Int32), .int (0 : Int32), .int (0 : Int32), .int (0 : Int32), .int (0 : Int32)] [] (c_X8_says l D cA ad X.2.2.2.2   (6 : Int32) (105 : Int32) (102 : Int32) (0 : Int32) (0 : Int32) (0 : Int32) (0 : Int32) M hc_12) (cwV 7 hts gX8_newRule_X8_says rfl rfl rfl (by decide +kernel) ⟨(by show _ ≤ _; first | exact Nat.le_of_ble_eq_true rfl | (simp [headSpec, rm_X8_newRule]; omega) | omega), (by show _ ≤ _; first | exact Nat.le_of_ble_eq_true rfl | (simp [headSpec, rm_X8_newRule]; omega) | omega)⟩) dM_0 rfl rfl hl.1 rfl (Nat.le_of_ble_eq_true rfl) dX8_newRule_103 (fun H locs hP hS => ?_)
          refine lv_if_eq (tgt := 113) hx hb dX8_newRule_106 (by decide) (fun c_19 => ?_) (fun c_19 => ?_)
          · have hF := if_t c_19 hF
            refine lv_aload_n hx hb dX8_newRule_113 rfl (lv_at hl 4 rfl) ?_
            refine lv_bipush (v := (6 : Int32)) hx hb dX8_newRule_114 (by decide) ?_
            refine lv_bipush (v := (117 : Int32)) hx hb dX8_newRule_116 (by decide) ?_
            refine lv_bipush (v := (110 : Int32)) hx hb dX8_newRule_118 (by decide) ?_
            refine lv_bipush (v := (108 : Int32)) hx hb dX8_newRule_120 (by decide) ?_
            refine lv_bipush (v := (101 : Int32)) hx hb dX8_newRule_122 (by decide) ?_
            refine lv_bipush (v := (115 : Int32)) hx hb dX8_newRule_124 (by decide) ?_
            refine lv_bipush (v := (115 : Int32)) hx hb dX8_newRule_126 (by decide) ?_
            obtain ⟨r_13, hc_14, hF⟩ := bd_c hF
            refine wd_calli X hP hS [.int (6 : Int32), .int (117 : Int32), .int (110 : Int32), .int (108 : Int32), .int (101 : Int32), .int (115 : Int32), .int (115 : Int32)] [] (c_X8_says l D cA ad X.2.2.2.2   (6 : Int32) (117 : Int32) (110 : Int32) (108 : Int32) (101 : Int32) (115 : Int32) (115 : Int32) M hc_14) (cwV 7 hts gX8_newRule_X8_says rfl rfl rfl (by decide +kernel) ⟨(by show _ ≤ _; first | exact Nat.le_of_ble_eq_true rfl | (simp [headSpec, rm_X8_newRule]; omega) | omega), (by show _ ≤ _; first | exact Nat.le_of_ble_eq_true rfl | (simp [headSpec, rm_X8_newRule]; omega) | omega)⟩) dM_0 rfl rfl hl.1 rfl (Nat.le_of_ble_eq_true rfl) dX8_newRule_128 (fun H locs hP hS => ?_)
            refine lv_if_eq (tgt := 149) hx hb dX8_newRule_131 (by decide) (fun c_18 => ?_) (fun c_18 => ?_)
            · have hF := if_t c_18 hF
              exact wb_X8_newRule_149 X    x1 r_7 r_9 M _ _ _ hF hP hS (lv_sub hl [4, 5, 3, 2] rfl)
            · have hF := if_e c_18 hF
              refine lv_aload_n hx hb dX8_newRule_134 rfl (lv_at hl 4 rfl) ?_
              refine lv_bipush (v := (6 : Int32)) hx hb dX8_newRule_135 (by decide) ?_
              obtain ⟨r_15, hc_16, hF⟩ := bd_c hF
              refine wd_calli X hP hS [.int (6 : Int32)] [] (c_X8_length l D cA ad X.2.2.2.2   (6 : Int32) M hc_16) (cwV 1 hts gX8_newRule_X8_length rfl rfl rfl (by decide +kernel) ⟨(by show _ ≤ _; first | exact Nat.le_of_ble_eq_true rfl | (simp [headSpec, rm_X8_newRule]; omega) | omega), (by show _ ≤ _; first | exact Nat.le_of_ble_eq_true rfl | (simp [headSpec, rm_X8_newRule]; omega) | omega)⟩) dM_0 rfl rfl hl.1 rfl (Nat.le_of_ble_eq_true rfl) dX8_newRule_137 (fun H locs hP hS => ?_)
              refine lv_bipush (v := (6 : Int32)) hx hb dX8_newRule_140 (by decide) ?_
              refine lv_icmp_ne (tgt := 149) hx hb dX8_newRule_142 (by decide) (fun c_17 => ?_) (fun c_17 => ?_)
              · have hF := if_e c_17 hF
                exact wb_X8_newRule_149 X    x1 r_7 r_9 M _ _ _ hF hP hS (lv_sub hl [4, 5, 3, 2] rfl)
              · have hF := if_t c_17 hF
                refine lv_iconst (v := (2 : Int32)) hx hb dX8_newRule_145 (by decide) ?_
                refine lv_goto (tgt := 150) hx hb dX8_newRule_146 (by decide) ?_
                exact wb_X8_newRule_150 X    x1 r_7 r_9 (2 : Int32) M _ _ _ hF hP hS (lv_sub hl [4, 5, 3, 2] rfl)
          · have hF := if_e c_19 hF
            refine lv_iconst (v := (1 : Int32)) hx hb dX8_newRule_109 (by decide) ?_
            refine lv_goto (tgt := 150) hx hb dX8_newRule_110 (by decide) ?_
            exact wb_X8_newRule_150 X    x1 r_7 r_9 (1 : Int32) M _ _ _ hF hP hS (lv_sub hl [4, 5, 3, 2] rfl)
      · have hF := if_t c_21 hF
        refine lv_iconst (v := (-1 : Int32)) hx hb dX8_newRule_66 (by decide) ?_
        cases hF
        exact wd_reti X hP hS rfl rfl dX8_newRule_67
set_option maxHeartbeats 4000000 in
set_option maxRecDepth 100000 in
theorem c_X8_newRule (l : Launch) (D : va_G) (cA : Nat → ClassId) (ad : Nat → Nat) (hj : wd_inj ad dsM.length)    (M : Mem) {r : Int32} {M' : Mem} (hF : F_X8_newRule M = some (r, M')) : wm_i l yX8_newRule wsX8_newRule rm_X8_newRule D cA ad dsM M [.ref (ad 0)] r M' := by
  refine Met.ofW (cc := cX8_newRule) (maxL := 10) (ret := (some .int)) (by decide) rfl ?_
  intro p e s m args below meth c s₁ B hml hv
  obtain ⟨rfl, hP, hK⟩ := hv
  have X : wd_X p s m _ meth c cX8_newRule 10 wsX8_newRule RX8 (some .int) D cA ad dsM.length := ⟨⟨B.exec, B.bytes, hml, findClass_of_methodNamed B.named, atoms_spec (ws := wsX8_newRule) B.pre⟩, hK, B.notSynchronized, B.returns, hj⟩
  have hl := lv_entry ([.ref (ad 0)]) (n := 10) (Nat.le_of_ble_eq_true rfl)
  rw [lg_entry_eq]
  generalize (lg_sl ([.ref (ad 0)]) ++ List.replicate (10 - (lg_sl ([.ref (ad 0)])).length) Slot.unset).toArray = ls at hl ⊢
  have hl : lv_has ls 10 [(0, .ref (ad 0))] := hl
  have hS : va_S (wd_A ad dsM.length) s.heap s.heap [] := va_S.rf
  have hx := X.1.1
  have hb := X.1.2.1
  have hts := X.1.2.2.2.2
  unfold F_X8_newRule at hF
  refine lv_aload_n hx hb dX8_newRule_0 rfl (lv_at hl 0 rfl) ?_
  refine wd_geti X hP 0 dM_0 rfl in_X8_newRule_X8 3 rfl (by decide) (by decide +kernel) dX8_newRule_1 ?_
  obtain ⟨x1_1, e_2, hF⟩ := nm_c hF
  refine wd_top e_2 ?_
  refine lv_istore_n (lv' := [(1, .int x1_1), (0, .ref (ad 0))]) hx hb dX8_newRule_4 rfl hl (by decide) rfl (fun ls hl => ?_)
  refine lv_iload_n hx hb dX8_newRule_5 rfl (lv_at hl 0 rfl) ?_
  refine lv_bipush (v := (6 : Int32)) hx hb dX8_newRule_6 (by decide) ?_
  refine lv_icmp_eq (tgt := 23) hx hb dX8_newRule_8 (by decide) (fun c_5 => ?_) (fun c_5 => ?_)
  · have hF := if_t c_5 hF
    exact wb_X8_newRule_23 X    x1_1 M _ _ _ hF hP hS (lv_sub hl [1, 0] rfl)
  · have hF := if_e c_5 hF
    refine lv_iload_n hx hb dX8_newRule_11 rfl (lv_at hl 0 rfl) ?_
    refine lv_bipush (v := (8 : Int32)) hx hb dX8_newRule_12 (by decide) ?_
    refine lv_icmp_eq (tgt := 23) hx hb dX8_newRule_14 (by decide) (fun c_4 => ?_) (fun c_4 => ?_)
    · have hF := if_t c_4 hF
      exact wb_X8_newRule_23 X    x1_1 M _ _ _ hF hP hS (lv_sub hl [1, 0] rfl)
    · have hF := if_e c_4 hF
      refine lv_iload_n hx hb dX8_newRule_17 rfl (lv_at hl 0 rfl) ?_
      refine lv_bipush (v := (10 : Int32)) hx hb dX8_newRule_18 (by decide) ?_
      refine lv_icmp_ne (tgt := 66) hx hb dX8_newRule_20 (by decide) (fun c_3 => ?_) (fun c_3 => ?_)
      · have hF := if_e c_3 hF
        refine lv_iconst (v := (-1 : Int32)) hx hb dX8_newRule_66 (by decide) ?_
        cases hF
        exact wd_reti X hP hS rfl rfl dX8_newRule_67
      · have hF := if_t c_3 hF
        exact wb_X8_newRule_23 X    x1_1 M _ _ _ hF hP hS (lv_sub hl [1, 0] rfl)
/-! X8_line ()I -/
theorem in_X8_line_X8 : ∀ w ∈ u_ws RX8 TX8 39, w ∈ wsX8_line := by decide +kernel
set_option maxHeartbeats 4000000 in
set_option maxRecDepth 100000 in
theorem wb_X8_line_171 {p : Program} {l : Launch} {e : Env} {s : State} {m : MethodId} {args : Array Value} {below : List Frame} {meth : Method} {c : Code} {D : va_G} {cA : Nat → ClassId} {ad : Nat → Nat} (X : wd_X p s m args meth c cX8_line 2 wsX8_line RX8 (some .int) D cA ad dsM.length) {r : Int32} {M' : Mem}  (t0 : Int32) (M : Mem) (H : Heap) (locs : List Loc) (ls : Array Slot) (hF : B_X8_line_171  t0 M = some (r, M')) (hP : wd_P D cA ad dsM M H) (hS : va_S (wd_A ad dsM.length) s.heap H locs) (hl : lv_has ls 2 []) : W p l e (headSpec wsX8_line rm_X8_line).room s m args below meth c H locs 0 0 (MQ below (wm_Qi D cA ad dsM r M') args s 0 0 (wd_A ad dsM.length)) (F0 m 171 ls [.int t0, .ref (ad 0)]) := by
  have hx := X.1.1
  have hb := X.1.2.1
  have hts := X.1.2.2.2.2
  unfold B_X8_line_171 at hF
  obtain ⟨r_1, M_3, hc_2, hF⟩ := bd2_c hF
  refine wd_calli X hP hS [.int t0] [] (c_X8_fails l D cA ad X.2.2.2.2   t0 M hc_2) (cwV 1 hts gX8_line_X8_fails rfl rfl rfl (by decide +kernel) ⟨(by show _ ≤ _; first | exact Nat.le_of_ble_eq_true rfl | (simp [headSpec, rm_X8_line]; omega) | omega), (by show _ ≤ _; first | exact Nat.le_of_ble_eq_true rfl | (simp [headSpec, rm_X8_line]; omega) | omega)⟩) dM_0 rfl rfl hl.1 rfl (Nat.le_of_ble_eq_true rfl) dX8_line_171 (fun H locs hP hS => ?_)
  cases hF
  exact wd_reti X hP hS rfl rfl dX8_line_174
set_option maxHeartbeats 4000000 in
set_option maxRecDepth 100000 in
theorem wb_X8_line_155 {p : Program} {l : Launch} {e : Env} {s : State} {m : MethodId} {args : Array Value} {below : List Frame} {meth : Method} {c : Code} {D : va_G} {cA : Nat → ClassId} {ad : Nat → Nat} (X : wd_X p s m args meth c cX8_line 2 wsX8_line RX8 (some .int) D cA ad dsM.length) {r : Int32} {M' : Mem}  (x1 : Int32) (M : Mem) (H : Heap) (locs : List Loc) (ls : Array Slot) (hF : B_X8_line_155  x1 M = some (r, M')) (hP : wd_P D cA ad dsM M H) (hS : va_S (wd_A ad dsM.length) s.heap H locs) (hl : lv_has ls 2 [(0, .ref (ad 0)), (1, .int x1)]) : W p l e (headSpec wsX8_line rm_X8_line).room s m args below meth c H locs 0 0 (MQ below (wm_Qi D cA ad dsM r M') args s 0 0 (wd_A ad dsM.length)) (F0 m 155 ls []) := by
  have hx := X.1.1
  have hb := X.1.2.1
  have hts := X.1.2.2.2.2
  unfold B_X8_line_155 at hF
  refine lv_iload_n hx hb dX8_line_155 rfl (lv_at hl 1 rfl) ?_
  refine lv_if_ge (tgt := 175) hx hb dX8_line_156 (by decide) (fun c_4 => ?_) (fun c_4 => ?_)
  · have hF := if_t c_4 hF
    refine lv_aload_n hx hb dX8_line_175 rfl (lv_at hl 0 rfl) ?_
    refine lv_iconst (v := (0 : Int32)) hx hb dX8_line_176 (by decide) ?_
    obtain ⟨M_1, e_2, hF⟩ := wr_c hF
    refine wd_puti X hP hS 0 dM_0 rfl in_X8_line_X8 tyX8_ok nmX8 27 rfl (by decide) rfl rfl (by decide +kernel) dX8_line_177 (fun H locs hP hS => ?_)
    rw [← e_2] at hP
    refine lv_iload_n hx hb dX8_line_180 rfl (lv_at hl 1 rfl) ?_
    cases hF
    exact wd_reti X hP hS rfl rfl dX8_line_181
  · have hF := if_e c_4 hF
    refine lv_aload_n hx hb dX8_line_159 rfl (lv_at hl 0 rfl) ?_
    refine lv_iload_n hx hb dX8_line_160 rfl (lv_at hl 1 rfl) ?_
    refine lv_bipush (v := (-2 : Int32)) hx hb dX8_line_161 (by decide) ?_
    refine lv_icmp_ne (tgt := 170) hx hb dX8_line_163 (by decide) (fun c_3 => ?_) (fun c_3 => ?_)
    · have hF := if_e c_3 hF
      refine lv_iconst (v := (1 : Int32)) hx hb dX8_line_170 (by decide) ?_
      exact wb_X8_line_171 X    (1 : Int32) M _ _ _ hF hP hS (lv_sub hl [] rfl)
    · have hF := if_t c_3 hF
      refine lv_iconst (v := (2 : Int32)) hx hb dX8_line_166 (by decide) ?_
      refine lv_goto (tgt := 171) hx hb dX8_line_167 (by decide) ?_
      exact wb_X8_line_171 X    (2 : Int32) M _ _ _ hF hP hS (lv_sub hl [] rfl)
set_option maxHeartbeats 4000000 in
set_option maxRecDepth 100000 in
theorem wb_X8_line_134 {p : Program} {l : Launch} {e : Env} {s : State} {m : MethodId} {args : Array Value} {below : List Frame} {meth : Method} {c : Code} {D : va_G} {cA : Nat → ClassId} {ad : Nat → Nat} (X : wd_X p s m args meth c cX8_line 2 wsX8_line RX8 (some .int) D cA ad dsM.length) {r : Int32} {M' : Mem}  (x1 : Int32) (M : Mem) (H : Heap) (locs : List Loc) (ls : Array Slot) (hF : B_X8_line_134  x1 M = some (r, M')) (hP : wd_P D cA ad dsM M H) (hS : va_S (wd_A ad dsM.length) s.heap H locs) (hl : lv_has ls 2 [(0, .ref (ad 0)), (1, .int x1)]) : W p l e (headSpec wsX8_line rm_X8_line).room s m args below meth c H locs 0 0 (MQ below (wm_Qi D cA ad dsM r M') args s 0 0 (wd_A ad dsM.length)) (F0 m 134 ls []) := by
  have hx := X.1.1
  have hb := X.1.2.1
  have hts := X.1.2.2.2.2
  unfold B_X8_line_134 at hF
  refine lv_aload_n hx hb dX8_line_134 rfl (lv_at hl 0 rfl) ?_
  refine lv_iconst (v := (0 : Int32)) hx hb dX8_line_135 (by decide) ?_
  refine lv_bipush (v := (111 : Int32)) hx hb dX8_line_136 (by decide) ?_
  refine lv_bipush (v := (110 : Int32)) hx hb dX8_line_138 (by decide) ?_
  refine lv_iconst (v := (0 : Int32)) hx hb dX8_line_140 (by decide) ?_
  refine lv_iconst (v := (0 : Int32)) hx hb dX8_line_141 (by decide) ?_
  refine lv_iconst (v := (0 : Int32)) hx hb dX8_line_142 (by decide) ?_
  refine lv_iconst (v := (0 : Int32)) hx hb dX8_line_143 (by decide) ?_
  obtain ⟨r_1, hc_2, hF⟩ := bd_c hF
  refine wd_calli X hP hS [.int (0 : Int32), .int (111 : Int32), .int (110 : Int32), .int (0 : Int32), .int (0 : Int32), .int (0 : Int32), .int (0 : Int32)] [] (c_X8_says l D cA ad X.2.2.2.2   (0 : Int32) (111 : Int32) (110 : Int32) (0 : Int32) (0 : Int32) (0 : Int32) (0 : Int32) M hc_2) (cwV 7 hts gX8_line_X8_says rfl rfl rfl (by decide +kernel) ⟨(by show _ ≤ _; first | exact Nat.le_of_ble_eq_true rfl | (simp [headSpec, rm_X8_line]; omega) | omega), (by show _ ≤ _; first | exact Nat.le_of_ble_eq_true rfl | (simp [headSpec, rm_X8_line]; omega) | omega)⟩) dM_0 rfl rfl hl.1 rfl (Nat.le_of_ble_eq_true rfl) dX8_line_144 (fun H locs hP hS => ?_)
  refine lv_if_eq (tgt := 155) hx hb dX8_line_147 (by decide) (fun c_6 => ?_) (fun c_6 => ?_)
  · have hF := if_t c_6 hF
    exact wb_X8_line_155 X    x1 M _ _ _ hF hP hS (lv_sub hl [0, 1] rfl)
  · have hF := if_e c_6 hF
    refine lv_aload_n hx hb dX8_line_150 rfl (lv_at hl 0 rfl) ?_
    obtain ⟨r_3, M_5, hc_4, hF⟩ := bd2_c hF
    refine wd_calli X hP hS [] [] (c_X8_newRule l D cA ad X.2.2.2.2    M hc_4) (cwV 0 hts gX8_line_X8_newRule rfl rfl rfl (by decide +kernel) ⟨(by show _ ≤ _; first | exact Nat.le_of_ble_eq_true rfl | (simp [headSpec, rm_X8_line]; omega) | omega), (by show _ ≤ _; first | exact Nat.le_of_ble_eq_true rfl | (simp [headSpec, rm_X8_line]; omega) | omega)⟩) dM_0 rfl rfl hl.1 rfl (Nat.le_of_ble_eq_true rfl) dX8_line_151 (fun H locs hP hS => ?_)
    refine lv_istore_n (lv' := [(1, .int r_3), (0, .ref (ad 0))]) hx hb dX8_line_154 rfl hl (by decide) rfl (fun ls hl => ?_)
    exact wb_X8_line_155 X    r_3 M_5 _ _ _ hF hP hS (lv_sub hl [1, 0] rfl)
set_option maxHeartbeats 4000000 in
set_option maxRecDepth 100000 in
theorem wb_X8_line_98 {p : Program} {l : Launch} {e : Env} {s : State} {m : MethodId} {args : Array Value} {below : List Frame} {meth : Method} {c : Code} {D : va_G} {cA : Nat → ClassId} {ad : Nat → Nat} (X : wd_X p s m args meth c cX8_line 2 wsX8_line RX8 (some .int) D cA ad dsM.length) {r : Int32} {M' : Mem}  (x1 : Int32) (M : Mem) (H : Heap) (locs : List Loc) (ls : Array Slot) (hF : B_X8_line_98  x1 M = some (r, M')) (hP : wd_P D cA ad dsM M H) (hS : va_S (wd_A ad dsM.length) s.heap H locs) (hl : lv_has ls 2 [(0, .ref (ad 0)), (1, .int x1)]) : W p l e (headSpec wsX8_line rm_X8_line).room s m args below meth c H locs 0 0 (MQ below (wm_Qi D cA ad dsM r M') args s 0 0 (wd_A ad dsM.length)) (F0 m 98 ls []) := by
  have hx := X.1.1
  have hb := X.1.2.1
  have hts := X.1.2.2.2.2
  unfold B_X8_line_98 at hF
  refine lv_aload_n hx hb dX8_line_98 rfl (lv_at hl 0 rfl) ?_
  refine lv_iconst (v := (0 : Int32)) hx hb dX8_line_99 (by decide) ?_
  refine lv_bipush (v := (101 : Int32)) hx hb dX8_line_100 (by decide) ?_
  refine lv_bipush (v := (120 : Int32)) hx hb dX8_line_102 (by decide) ?_
  refine lv_bipush (v := (105 : Int32)) hx hb dX8_line_104 (by decide) ?_
  refine lv_bipush (v := (116 : Int32)) hx hb dX8_line_106 (by decide) ?_
  refine lv_iconst (v := (0 : Int32)) hx hb dX8_line_108 (by decide) ?_
  refine lv_iconst (v := (0 : Int32)) hx hb dX8_line_109 (by decide) ?_
  obtain ⟨r_1, hc_2, hF⟩ := bd_c hF
  refine wd_calli X hP hS [.int (0 : Int32), .int (101 : Int32), .int (120 : Int32), .int (105 : Int32), .int (116 : Int32), .int (0 : Int32), .int (0 : Int32)] [] (c_X8_says l D cA ad X.2.2.2.2   (0 : Int32) (101 : Int32) (120 : Int32) (105 : Int32) (116 : Int32) (0 : Int32) (0 : Int32) M hc_2) (cwV 7 hts gX8_line_X8_says rfl rfl rfl (by decide +kernel) ⟨(by show _ ≤ _; first | exact Nat.le_of_ble_eq_true rfl | (simp [headSpec, rm_X8_line]; omega) | omega), (by show _ ≤ _; first | exact Nat.le_of_ble_eq_true rfl | (simp [headSpec, rm_X8_line]; omega) | omega)⟩) dM_0 rfl rfl hl.1 rfl (Nat.le_of_ble_eq_true rfl) dX8_line_110 (fun H locs hP hS => ?_)
  refine lv_if_eq (tgt := 134) hx hb dX8_line_113 (by decide) (fun c_9 => ?_) (fun c_9 => ?_)
  · have hF := if_t c_9 hF
    exact wb_X8_line_134 X    x1 M _ _ _ hF hP hS (lv_sub hl [0, 1] rfl)
  · have hF := if_e c_9 hF
    refine lv_aload_n hx hb dX8_line_116 rfl (lv_at hl 0 rfl) ?_
    refine lv_iconst (v := (0 : Int32)) hx hb dX8_line_117 (by decide) ?_
    obtain ⟨r_3, hc_4, hF⟩ := bd_c hF
    refine wd_calli X hP hS [.int (0 : Int32)] [] (c_X8_length l D cA ad X.2.2.2.2   (0 : Int32) M hc_4) (cwV 1 hts gX8_line_X8_length rfl rfl rfl (by decide +kernel) ⟨(by show _ ≤ _; first | exact Nat.le_of_ble_eq_true rfl | (simp [headSpec, rm_X8_line]; omega) | omega), (by show _ ≤ _; first | exact Nat.le_of_ble_eq_true rfl | (simp [headSpec, rm_X8_line]; omega) | omega)⟩) dM_0 rfl rfl hl.1 rfl (Nat.le_of_ble_eq_true rfl) dX8_line_118 (fun H locs hP hS => ?_)
    refine lv_iconst (v := (4 : Int32)) hx hb dX8_line_121 (by decide) ?_
    refine lv_icmp_ne (tgt := 134) hx hb dX8_line_122 (by decide) (fun c_8 => ?_) (fun c_8 => ?_)
    · have hF := if_e c_8 hF
      exact wb_X8_line_134 X    x1 M _ _ _ hF hP hS (lv_sub hl [0, 1] rfl)
    · have hF := if_t c_8 hF
      refine lv_aload_n hx hb dX8_line_125 rfl (lv_at hl 0 rfl) ?_
      refine lv_iconst (v := (1 : Int32)) hx hb dX8_line_126 (by decide) ?_
      obtain ⟨r_5, M_7, hc_6, hF⟩ := bd2_c hF
      refine wd_calli X hP hS [.int (1 : Int32)] [] (c_X8_newMarks l D cA ad X.2.2.2.2   (1 : Int32) M hc_6) (cwV 1 hts gX8_line_X8_newMarks rfl rfl rfl (by decide +kernel) ⟨(by show _ ≤ _; first | exact Nat.le_of_ble_eq_true rfl | (simp [headSpec, rm_X8_line]; omega) | omega), (by show _ ≤ _; first | exact Nat.le_of_ble_eq_true rfl | (simp [headSpec, rm_X8_line]; omega) | omega)⟩) dM_0 rfl rfl hl.1 rfl (Nat.le_of_ble_eq_true rfl) dX8_line_127 (fun H locs hP hS => ?_)
      refine lv_istore_n (lv' := [(1, .int r_5), (0, .ref (ad 0))]) hx hb dX8_line_130 rfl hl (by decide) rfl (fun ls hl => ?_)
      refine lv_goto (tgt := 155) hx hb dX8_line_131 (by decide) ?_
      exact wb_X8_line_155 X    r_5 M_7 _ _ _ hF hP hS (lv_sub hl [1, 0] rfl)
set_option maxHeartbeats 4000000 in
set_option maxRecDepth 100000 in
theorem wb_X8_line_61 {p : Program} {l : Launch} {e : Env} {s : State} {m : MethodId} {args : Array Value} {below : List Frame} {meth : Method} {c : Code} {D : va_G} {cA : Nat → ClassId} {ad : Nat → Nat} (X : wd_X p s m args meth c cX8_line 2 wsX8_line RX8 (some .int) D cA ad dsM.length) {r : Int32} {M' : Mem}  (x1 : Int32) (M : Mem) (H : Heap) (locs : List Loc) (ls : Array Slot) (hF : B_X8_line_61  x1 M = some (r, M')) (hP : wd_P D cA ad dsM M H) (hS : va_S (wd_A ad dsM.length) s.heap H locs) (hl : lv_has ls 2 [(0, .ref (ad 0)), (1, .int x1)]) : W p l e (headSpec wsX8_line rm_X8_line).room s m args below meth c H locs 0 0 (MQ below (wm_Qi D cA ad dsM r M') args s 0 0 (wd_A ad dsM.length)) (F0 m 61 ls []) := by
  have hx := X.1.1
  have hb := X.1.2.1
  have hts := X.1.2.2.2.2
  unfold B_X8_line_61 at hF
  refine lv_aload_n hx hb dX8_line_61 rfl (lv_at hl 0 rfl) ?_
  refine lv_iconst (v := (0 : Int32)) hx hb dX8_line_62 (by decide) ?_
  refine lv_bipush (v := (101 : Int32)) hx hb dX8_line_63 (by decide) ?_
  refine lv_bipush (v := (110 : Int32)) hx hb dX8_line_65 (by decide) ?_
  refine lv_bipush (v := (116 : Int32)) hx hb dX8_line_67 (by decide) ?_
  refine lv_bipush (v := (101 : Int32)) hx hb dX8_line_69 (by decide) ?_
  refine lv_bipush (v := (114 : Int32)) hx hb dX8_line_71 (by decide) ?_
  refine lv_iconst (v := (0 : Int32)) hx hb dX8_line_73 (by decide) ?_
  obtain ⟨r_1, hc_2, hF⟩ := bd_c hF
  refine wd_calli X hP hS [.int (0 : Int32), .int (101 : Int32), .int (110 : Int32), .int (116 : Int32), .int (101 : Int32), .int (114 : Int32), .int (0 : Int32)] [] (c_X8_says l D cA ad X.2.2.2.2   (0 : Int32) (101 : Int32) (110 : Int32) (116 : Int32) (101 : Int32) (114 : Int32) (0 : Int32) M hc_2) (cwV 7 hts gX8_line_X8_says rfl rfl rfl (by decide +kernel) ⟨(by show _ ≤ _; first | exact Nat.le_of_ble_eq_true rfl | (simp [headSpec, rm_X8_line]; omega) | omega), (by show _ ≤ _; first | exact Nat.le_of_ble_eq_true rfl | (simp [headSpec, rm_X8_line]; omega) | omega)⟩) dM_0 rfl rfl hl.1 rfl (Nat.le_of_ble_eq_true rfl) dX8_line_74 (fun H locs hP hS => ?_)
  refine lv_if_eq (tgt := 98) hx hb dX8_line_77 (by decide) (fun c_9 => ?_) (fun c_9 => ?_)
  · have hF := if_t c_9 hF
    exact wb_X8_line_98 X    x1 M _ _ _ hF hP hS (lv_sub hl [0, 1] rfl)
  · have hF := if_e c_9 hF
    refine lv_aload_n hx hb dX8_line_80 rfl (lv_at hl 0 rfl) ?_
    refine lv_iconst (v := (0 : Int32)) hx hb dX8_line_81 (by decide) ?_
    obtain ⟨r_3, hc_4, hF⟩ := bd_c hF
    refine wd_calli X hP hS [.int (0 : Int32)] [] (c_X8_length l D cA ad X.2.2.2.2   (0 : Int32) M hc_4) (cwV 1 hts gX8_line_X8_length rfl rfl rfl (by decide +kernel) ⟨(by show _ ≤ _; first | exact Nat.le_of_ble_eq_true rfl | (simp [headSpec, rm_X8_line]; omega) | omega), (by show _ ≤ _; first | exact Nat.le_of_ble_eq_true rfl | (simp [headSpec, rm_X8_line]; omega) | omega)⟩) dM_0 rfl rfl hl.1 rfl (Nat.le_of_ble_eq_true rfl) dX8_line_82 (fun H locs hP hS => ?_)
    refine lv_iconst (v := (5 : Int32)) hx hb dX8_line_85 (by decide) ?_
    refine lv_icmp_ne (tgt := 98) hx hb dX8_line_86 (by decide) (fun c_8 => ?_) (fun c_8 => ?_)
    · have hF := if_e c_8 hF
      exact wb_X8_line_98 X    x1 M _ _ _ hF hP hS (lv_sub hl [0, 1] rfl)
    · have hF := if_t c_8 hF
      refine lv_aload_n hx hb dX8_line_89 rfl (lv_at hl 0 rfl) ?_
      refine lv_iconst (v := (0 : Int32)) hx hb dX8_line_90 (by decide) ?_
      obtain ⟨r_5, M_7, hc_6, hF⟩ := bd2_c hF
      refine wd_calli X hP hS [.int (0 : Int32)] [] (c_X8_newMarks l D cA ad X.2.2.2.2   (0 : Int32) M hc_6) (cwV 1 hts gX8_line_X8_newMarks rfl rfl rfl (by decide +kernel) ⟨(by show _ ≤ _; first | exact Nat.le_of_ble_eq_true rfl | (simp [headSpec, rm_X8_line]; omega) | omega), (by show _ ≤ _; first | exact Nat.le_of_ble_eq_true rfl | (simp [headSpec, rm_X8_line]; omega) | omega)⟩) dM_0 rfl rfl hl.1 rfl (Nat.le_of_ble_eq_true rfl) dX8_line_91 (fun H locs hP hS => ?_)
      refine lv_istore_n (lv' := [(1, .int r_5), (0, .ref (ad 0))]) hx hb dX8_line_94 rfl hl (by decide) rfl (fun ls hl => ?_)
      refine lv_goto (tgt := 155) hx hb dX8_line_95 (by decide) ?_
      exact wb_X8_line_155 X    r_5 M_7 _ _ _ hF hP hS (lv_sub hl [1, 0] rfl)
set_option maxHeartbeats 4000000 in
set_option maxRecDepth 100000 in
theorem c_X8_line (l : Launch) (D : va_G) (cA : Nat → ClassId) (ad : Nat → Nat) (hj : wd_inj ad dsM.length)    (M : Mem) {r : Int32} {M' : Mem} (hF : F_X8_line M = some (r, M')) : wm_i l yX8_line wsX8_line rm_X8_line D cA ad dsM M [.ref (ad 0)] r M' := by
  refine Met.ofW (cc := cX8_line) (maxL := 2) (ret := (some .int)) (by decide) rfl ?_
  intro p e s m args below meth c s₁ B hml hv
  obtain ⟨rfl, hP, hK⟩ := hv
  have X : wd_X p s m _ meth c cX8_line 2 wsX8_line RX8 (some .int) D cA ad dsM.length := ⟨⟨B.exec, B.bytes, hml, findClass_of_methodNamed B.named, atoms_spec (ws := wsX8_line) B.pre⟩, hK, B.notSynchronized, B.returns, hj⟩
  have hl := lv_entry ([.ref (ad 0)]) (n := 2) (Nat.le_of_ble_eq_true rfl)
  rw [lg_entry_eq]
  generalize (lg_sl ([.ref (ad 0)]) ++ List.replicate (2 - (lg_sl ([.ref (ad 0)])).length) Slot.unset).toArray = ls at hl ⊢
  have hl : lv_has ls 2 [(0, .ref (ad 0))] := hl
  have hS : va_S (wd_A ad dsM.length) s.heap s.heap [] := va_S.rf
  have hx := X.1.1
  have hb := X.1.2.1
  have hts := X.1.2.2.2.2
  unfold F_X8_line at hF
  refine lv_aload_n hx hb dX8_line_0 rfl (lv_at hl 0 rfl) ?_
  refine lv_iconst (v := (0 : Int32)) hx hb dX8_line_1 (by decide) ?_
  obtain ⟨M_1, e_2, hF⟩ := wr_c hF
  refine wd_puti X hP hS 0 dM_0 rfl in_X8_line_X8 tyX8_ok nmX8 0 rfl (by decide) rfl rfl (by decide +kernel) dX8_line_2 (fun H locs hP hS => ?_)
  rw [← e_2] at hP
  refine lv_aload_n hx hb dX8_line_5 rfl (lv_at hl 0 rfl) ?_
  obtain ⟨M_5, hc_4, hF⟩ := bd_c hF
  refine wd_callv X hP hS [] [] (c_X8_split l D cA ad X.2.2.2.2    M_1 hc_4) (cwV 0 hts gX8_line_X8_split rfl rfl rfl (by decide +kernel) ⟨(by show _ ≤ _; first | exact Nat.le_of_ble_eq_true rfl | (simp [headSpec, rm_X8_line]; omega) | omega), (by show _ ≤ _; first | exact Nat.le_of_ble_eq_true rfl | (simp [headSpec, rm_X8_line]; omega) | omega)⟩) dM_0 rfl rfl hl.1 rfl (Nat.le_of_ble_eq_true rfl) dX8_line_6 (fun H locs hP hS => ?_)
  refine lv_aload_n hx hb dX8_line_9 rfl (lv_at hl 0 rfl) ?_
  refine lv_iconst (v := (0 : Int32)) hx hb dX8_line_10 (by decide) ?_
  obtain ⟨M_6, e_7, hF⟩ := wr_c hF
  refine wd_puti X hP hS 0 dM_0 rfl in_X8_line_X8 tyX8_ok nmX8 2 rfl (by decide) rfl rfl (by decide +kernel) dX8_line_11 (fun H locs hP hS => ?_)
  rw [← e_7] at hP
  refine lv_aload_n hx hb dX8_line_14 rfl (lv_at hl 0 rfl) ?_
  refine wd_geti X hP 0 dM_0 rfl in_X8_line_X8 3 rfl (by decide) (by decide +kernel) dX8_line_15 ?_
  refine lv_if_ne (tgt := 23) hx hb dX8_line_18 (by decide) (fun c_17 => ?_) (fun c_17 => ?_)
  · have hF := if_e c_17 hF
    refine lv_iconst (v := (-1 : Int32)) hx hb dX8_line_23 (by decide) ?_
    refine lv_istore_n (lv' := [(1, .int (-1 : Int32)), (0, .ref (ad 0))]) hx hb dX8_line_24 rfl hl (by decide) rfl (fun ls hl => ?_)
    refine lv_aload_n hx hb dX8_line_25 rfl (lv_at hl 1 rfl) ?_
    refine lv_iconst (v := (0 : Int32)) hx hb dX8_line_26 (by decide) ?_
    refine lv_bipush (v := (115 : Int32)) hx hb dX8_line_27 (by decide) ?_
    refine lv_bipush (v := (116 : Int32)) hx hb dX8_line_29 (by decide) ?_
    refine lv_bipush (v := (97 : Int32)) hx hb dX8_line_31 (by decide) ?_
    refine lv_bipush (v := (116 : Int32)) hx hb dX8_line_33 (by decide) ?_
    refine lv_bipush (v := (101 : Int32)) hx hb dX8_line_35 (by decide) ?_
    refine lv_iconst (v := (0 : Int32)) hx hb dX8_line_37 (by decide) ?_
    obtain ⟨r_8, hc_9, hF⟩ := bd_c hF
    refine wd_calli X hP hS [.int (0 : Int32), .int (115 : Int32), .int (116 : Int32), .int (97 : Int32), .int (116 : Int32), .int (101 : Int32), .int (0 : Int32)] [] (c_X8_says l D cA ad X.2.2.2.2   (0 : Int32) (115 : Int32) (116 : Int32) (97 : Int32) (116 : Int32) (101 : Int32) (0 : Int32) M_6 hc_9) (cwV 7 hts gX8_line_X8_says rfl rfl rfl (by decide +kernel) ⟨(by show _ ≤ _; first | exact Nat.le_of_ble_eq_true rfl | (simp [headSpec, rm_X8_line]; omega) | omega), (by show _ ≤ _; first | exact Nat.le_of_ble_eq_true rfl | (simp [headSpec, rm_X8_line]; omega) | omega)⟩) dM_0 rfl rfl hl.1 rfl (Nat.le_of_ble_eq_true rfl) dX8_line_38 (fun H locs hP hS => ?_)
    refine lv_if_eq (tgt := 61) hx hb dX8_line_41 (by decide) (fun c_16 => ?_) (fun c_16 => ?_)
    · have hF := if_t c_16 hF
      exact wb_X8_line_61 X    (-1 : Int32) M_6 _ _ _ hF hP hS (lv_sub hl [1, 0] rfl)
    · have hF := if_e c_16 hF
      refine lv_aload_n hx hb dX8_line_44 rfl (lv_at hl 1 rfl) ?_
      refine lv_iconst (v := (0 : Int32)) hx hb dX8_line_45 (by decide) ?_
      obtain ⟨r_10, hc_11, hF⟩ := bd_c hF
      refine wd_calli X hP hS [.int (0 : Int32)] [] (c_X8_length l D cA ad X.2.2.2.2   (0 : Int32) M_6 hc_11) (cwV 1 hts gX8_line_X8_length rfl rfl rfl (by decide +kernel) ⟨(by show _ ≤ _; first | exact Nat.le_of_ble_eq_true rfl | (simp [headSpec, rm_X8_line]; omega) | omega), (by show _ ≤ _; first | exact Nat.le_of_ble_eq_true rfl | (simp [headSpec, rm_X8_line]; omega) | omega)⟩) dM_0 rfl rfl hl.1 rfl (Nat.le_of_ble_eq_true rfl) dX8_line_46 (fun H locs hP hS => ?_)
      refine lv_iconst (v := (5 : Int32)) hx hb dX8_line_49 (by decide) ?_
      refine lv_icmp_ne (tgt := 61) hx hb dX8_line_50 (by decide) (fun c_15 => ?_) (fun c_15 => ?_)
      · have hF := if_e c_15 hF
        exact wb_X8_line_61 X    (-1 : Int32) M_6 _ _ _ hF hP hS (lv_sub hl [1, 0] rfl)
      · have hF := if_t c_15 hF
        refine lv_aload_n hx hb dX8_line_53 rfl (lv_at hl 1 rfl) ?_
        obtain ⟨r_12, M_14, hc_13, hF⟩ := bd2_c hF
        refine wd_calli X hP hS [] [] (c_X8_newState l D cA ad X.2.2.2.2    M_6 hc_13) (cwV 0 hts gX8_line_X8_newState rfl rfl rfl (by decide +kernel) ⟨(by show _ ≤ _; first | exact Nat.le_of_ble_eq_true rfl | (simp [headSpec, rm_X8_line]; omega) | omega), (by show _ ≤ _; first | exact Nat.le_of_ble_eq_true rfl | (simp [headSpec, rm_X8_line]; omega) | omega)⟩) dM_0 rfl rfl hl.1 rfl (Nat.le_of_ble_eq_true rfl) dX8_line_54 (fun H locs hP hS => ?_)
        refine lv_istore_n (lv' := [(1, .int r_12), (0, .ref (ad 0))]) hx hb dX8_line_57 rfl hl (by decide) rfl (fun ls hl => ?_)
        refine lv_goto (tgt := 155) hx hb dX8_line_58 (by decide) ?_
        exact wb_X8_line_155 X    r_12 M_14 _ _ _ hF hP hS (lv_sub hl [1, 0] rfl)
  · have hF := if_t c_17 hF
    refine lv_iconst (v := (0 : Int32)) hx hb dX8_line_21 (by decide) ?_
    cases hF
    exact wd_reti X hP hS rfl rfl dX8_line_22
/-! X8_named ()I -/
theorem in_X8_named_X8 : ∀ w ∈ u_ws RX8 TX8 39, w ∈ wsX8_named := by decide +kernel
set_option maxHeartbeats 4000000 in
set_option maxRecDepth 100000 in
theorem wb_X8_named_31 {p : Program} {l : Launch} {e : Env} {s : State} {m : MethodId} {args : Array Value} {below : List Frame} {meth : Method} {c : Code} {D : va_G} {cA : Nat → ClassId} {ad : Nat → Nat} (X : wd_X p s m args meth c cX8_named 2 wsX8_named RX8 (some .int) D cA ad dsM.length) {r : Int32} {M' : Mem}  (t0 : Int32) (M : Mem) (H : Heap) (locs : List Loc) (ls : Array Slot) (hF : B_X8_named_31  t0 M = some (r, M')) (hP : wd_P D cA ad dsM M H) (hS : va_S (wd_A ad dsM.length) s.heap H locs) (hl : lv_has ls 2 [(0, .ref (ad 0))]) : W p l e (headSpec wsX8_named rm_X8_named).room s m args below meth c H locs 0 0 (MQ below (wm_Qi D cA ad dsM r M') args s 0 0 (wd_A ad dsM.length)) (F0 m 31 ls [.int t0]) := by
  have hx := X.1.1
  have hb := X.1.2.1
  have hts := X.1.2.2.2.2
  unfold B_X8_named_31 at hF
  refine lv_istore_n (lv' := [(1, .int t0), (0, .ref (ad 0))]) hx hb dX8_named_31 rfl hl (by decide) rfl (fun ls hl => ?_)
  refine lv_iload_n hx hb dX8_named_32 rfl (lv_at hl 0 rfl) ?_
  refine lv_if_ge (tgt := 44) hx hb dX8_named_33 (by decide) (fun c_4 => ?_) (fun c_4 => ?_)
  · have hF := if_t c_4 hF
    refine lv_iload_n hx hb dX8_named_44 rfl (lv_at hl 0 rfl) ?_
    cases hF
    exact wd_reti X hP hS rfl rfl dX8_named_45
  · have hF := if_e c_4 hF
    refine lv_aload_n hx hb dX8_named_36 rfl (lv_at hl 1 rfl) ?_
    refine lv_iconst (v := (1 : Int32)) hx hb dX8_named_37 (by decide) ?_
    obtain ⟨r_1, M_3, hc_2, hF⟩ := bd2_c hF
    refine wd_calli X hP hS [.int (1 : Int32)] [] (c_X8_fails l D cA ad X.2.2.2.2   (1 : Int32) M hc_2) (cwV 1 hts gX8_named_X8_fails rfl rfl rfl (by decide +kernel) ⟨(by show _ ≤ _; first | exact Nat.le_of_ble_eq_true rfl | (simp [headSpec, rm_X8_named]; omega) | omega), (by show _ ≤ _; first | exact Nat.le_of_ble_eq_true rfl | (simp [headSpec, rm_X8_named]; omega) | omega)⟩) dM_0 rfl rfl hl.1 rfl (Nat.le_of_ble_eq_true rfl) dX8_named_38 (fun H locs hP hS => ?_)
    refine lv_goto (tgt := 45) hx hb dX8_named_41 (by decide) ?_
    cases hF
    exact wd_reti X hP hS rfl rfl dX8_named_45
set_option maxHeartbeats 4000000 in
set_option maxRecDepth 100000 in
theorem c_X8_named (l : Launch) (D : va_G) (cA : Nat → ClassId) (ad : Nat → Nat) (hj : wd_inj ad dsM.length)    (M : Mem) {r : Int32} {M' : Mem} (hF : F_X8_named M = some (r, M')) : wm_i l yX8_named wsX8_named rm_X8_named D cA ad dsM M [.ref (ad 0)] r M' := by
  refine Met.ofW (cc := cX8_named) (maxL := 2) (ret := (some .int)) (by decide) rfl ?_
  intro p e s m args below meth c s₁ B hml hv
  obtain ⟨rfl, hP, hK⟩ := hv
  have X : wd_X p s m _ meth c cX8_named 2 wsX8_named RX8 (some .int) D cA ad dsM.length := ⟨⟨B.exec, B.bytes, hml, findClass_of_methodNamed B.named, atoms_spec (ws := wsX8_named) B.pre⟩, hK, B.notSynchronized, B.returns, hj⟩
  have hl := lv_entry ([.ref (ad 0)]) (n := 2) (Nat.le_of_ble_eq_true rfl)
  rw [lg_entry_eq]
  generalize (lg_sl ([.ref (ad 0)]) ++ List.replicate (2 - (lg_sl ([.ref (ad 0)])).length) Slot.unset).toArray = ls at hl ⊢
  have hl : lv_has ls 2 [(0, .ref (ad 0))] := hl
  have hS : va_S (wd_A ad dsM.length) s.heap s.heap [] := va_S.rf
  have hx := X.1.1
  have hb := X.1.2.1
  have hts := X.1.2.2.2.2
  unfold F_X8_named at hF
  refine lv_aload_n hx hb dX8_named_0 rfl (lv_at hl 0 rfl) ?_
  refine lv_iconst (v := (0 : Int32)) hx hb dX8_named_1 (by decide) ?_
  obtain ⟨M_1, e_2, hF⟩ := wr_c hF
  refine wd_puti X hP hS 0 dM_0 rfl in_X8_named_X8 tyX8_ok nmX8 0 rfl (by decide) rfl rfl (by decide +kernel) dX8_named_2 (fun H locs hP hS => ?_)
  rw [← e_2] at hP
  refine lv_aload_n hx hb dX8_named_5 rfl (lv_at hl 0 rfl) ?_
  obtain ⟨M_5, hc_4, hF⟩ := bd_c hF
  refine wd_callv X hP hS [] [] (c_X8_split l D cA ad X.2.2.2.2    M_1 hc_4) (cwV 0 hts gX8_named_X8_split rfl rfl rfl (by decide +kernel) ⟨(by show _ ≤ _; first | exact Nat.le_of_ble_eq_true rfl | (simp [headSpec, rm_X8_named]; omega) | omega), (by show _ ≤ _; first | exact Nat.le_of_ble_eq_true rfl | (simp [headSpec, rm_X8_named]; omega) | omega)⟩) dM_0 rfl rfl hl.1 rfl (Nat.le_of_ble_eq_true rfl) dX8_named_6 (fun H locs hP hS => ?_)
  refine lv_aload_n hx hb dX8_named_9 rfl (lv_at hl 0 rfl) ?_
  refine lv_iconst (v := (0 : Int32)) hx hb dX8_named_10 (by decide) ?_
  obtain ⟨M_6, e_7, hF⟩ := wr_c hF
  refine wd_puti X hP hS 0 dM_0 rfl in_X8_named_X8 tyX8_ok nmX8 2 rfl (by decide) rfl rfl (by decide +kernel) dX8_named_11 (fun H locs hP hS => ?_)
  rw [← e_7] at hP
  refine lv_aload_n hx hb dX8_named_14 rfl (lv_at hl 0 rfl) ?_
  refine wd_geti X hP 0 dM_0 rfl in_X8_named_X8 3 rfl (by decide) (by decide +kernel) dX8_named_15 ?_
  refine lv_iconst (v := (1 : Int32)) hx hb dX8_named_18 (by decide) ?_
  refine lv_icmp_ne (tgt := 30) hx hb dX8_named_19 (by decide) (fun c_10 => ?_) (fun c_10 => ?_)
  · have hF := if_e c_10 hF
    refine lv_iconst (v := (-1 : Int32)) hx hb dX8_named_30 (by decide) ?_
    exact wb_X8_named_31 X    (-1 : Int32) M_6 _ _ _ hF hP hS (lv_sub hl [0] rfl)
  · have hF := if_t c_10 hF
    refine lv_aload_n hx hb dX8_named_22 rfl (lv_at hl 0 rfl) ?_
    refine lv_iconst (v := (0 : Int32)) hx hb dX8_named_23 (by decide) ?_
    obtain ⟨r_8, hc_9, hF⟩ := bd_c hF
    refine wd_calli X hP hS [.int (0 : Int32)] [] (c_X8_stateOf l D cA ad X.2.2.2.2   (0 : Int32) M_6 hc_9) (cwV 1 hts gX8_named_X8_stateOf rfl rfl rfl (by decide +kernel) ⟨(by show _ ≤ _; first | exact Nat.le_of_ble_eq_true rfl | (simp [headSpec, rm_X8_named]; omega) | omega), (by show _ ≤ _; first | exact Nat.le_of_ble_eq_true rfl | (simp [headSpec, rm_X8_named]; omega) | omega)⟩) dM_0 rfl rfl hl.1 rfl (Nat.le_of_ble_eq_true rfl) dX8_named_24 (fun H locs hP hS => ?_)
    refine lv_goto (tgt := 31) hx hb dX8_named_27 (by decide) ?_
    exact wb_X8_named_31 X    r_8 M_6 _ _ _ hF hP hS (lv_sub hl [0] rfl)
/-! X8_firstChild (I)I -/
theorem in_X8_firstChild_X8 : ∀ w ∈ u_ws RX8 TX8 39, w ∈ wsX8_firstChild := by decide +kernel
set_option maxHeartbeats 4000000 in
set_option maxRecDepth 100000 in
theorem wb_X8_firstChild_4 {p : Program} {l : Launch} {e : Env} {s : State} {m : MethodId} {args : Array Value} {below : List Frame} {meth : Method} {c : Code} {D : va_G} {cA : Nat → ClassId} {ad : Nat → Nat} (X : wd_X p s m args meth c cX8_firstChild 3 wsX8_firstChild RX8 (some .int) D cA ad dsM.length) {kh4 : Int32 → Int32 → Option Int32} {M : Mem} {r : Int32} (hk4 : ∀ (x1 : Int32) (x2 : Int32) (H : Heap) (locs : List Loc) (ls : Array Slot), kh4 x1 x2 = some r → wd_P D cA ad dsM M H → va_S (wd_A ad dsM.length) s.heap H locs → lv_has ls 3 [(0, .ref (ad 0)), (1, .int x1), (2, .int x2)] → W p l e (headSpec wsX8_firstChild rm_X8_firstChild).room s m args below meth c H locs 0 0 (MQ below (wm_Qi D cA ad dsM r M) args s 0 0 (wd_A ad dsM.length)) (F0 m 4 ls [])) (x1 : Int32) (x2 : Int32) (H : Heap) (locs : List Loc) (ls : Array Slot) (hF : B_X8_firstChild_4 kh4 M x1 x2 = some r) (hP : wd_P D cA ad dsM M H) (hS : va_S (wd_A ad dsM.length) s.heap H locs) (hl : lv_has ls 3 [(0, .ref (ad 0)), (1, .int x1), (2, .int x2)]) : W p l e (headSpec wsX8_firstChild rm_X8_firstChild).room s m args below meth c H locs 0 0 (MQ below (wm_Qi D cA ad dsM r M) args s 0 0 (wd_A ad dsM.length)) (F0 m 4 ls []) := by
  have hx := X.1.1
  have hb := X.1.2.1
  have hts := X.1.2.2.2.2
  unfold B_X8_firstChild_4 at hF
  refine lv_iload_n hx hb dX8_firstChild_4 rfl (lv_at hl 2 rfl) ?_
  refine lv_aload_n hx hb dX8_firstChild_5 rfl (lv_at hl 0 rfl) ?_
  refine wd_geti X hP 0 dM_0 rfl in_X8_firstChild_X8 6 rfl (by decide) (by decide +kernel) dX8_firstChild_6 ?_
  refine lv_icmp_ge (tgt := 30) hx hb dX8_firstChild_9 (by decide) (fun c_5 => ?_) (fun c_5 => ?_)
  · have hF := if_t c_5 hF
    refine lv_iconst (v := (-1 : Int32)) hx hb dX8_firstChild_30 (by decide) ?_
    cases hF
    exact wd_reti X hP hS rfl rfl dX8_firstChild_31
  · have hF := if_e c_5 hF
    refine lv_aload_n hx hb dX8_firstChild_12 rfl (lv_at hl 0 rfl) ?_
    refine wd_getr (q := 6) X hP 0 dM_0 rfl in_X8_firstChild_X8 9 rfl (by decide) (by decide +kernel) dX8_firstChild_13 ?_
    refine lv_iload_n hx hb dX8_firstChild_16 rfl (lv_at hl 2 rfl) ?_
    obtain ⟨h_1, hF⟩ := gi_c hF
    refine wd_ild X hP 6 dM_6 h_1 dX8_firstChild_17 ?_
    refine lv_iload_n hx hb dX8_firstChild_18 rfl (lv_at hl 1 rfl) ?_
    refine lv_icmp_ne (tgt := 24) hx hb dX8_firstChild_19 (by decide) (fun c_4 => ?_) (fun c_4 => ?_)
    · have hF := if_e c_4 hF
      obtain ⟨x2_2, e_3, hF⟩ := nm_c hF
      refine lv_iinc (v := x2_2) (lv' := [(2, .int x2_2), (0, .ref (ad 0)), (1, .int x1)]) hx hb dX8_firstChild_24 hl (k := 2) rfl (by rw [e_3]; rfl) (by decide) rfl (fun ls hl => ?_)
      refine lv_goto (tgt := 4) hx hb dX8_firstChild_27 (by decide) ?_
      exact hk4 x1 x2_2 _ _ _ hF hP hS (lv_sub hl [1, 2, 0] rfl)
    · have hF := if_t c_4 hF
      refine lv_iload_n hx hb dX8_firstChild_22 rfl (lv_at hl 2 rfl) ?_
      cases hF
      exact wd_reti X hP hS rfl rfl dX8_firstChild_23
set_option maxHeartbeats 4000000 in
set_option maxRecDepth 100000 in
theorem wh_X8_firstChild_4 {p : Program} {l : Launch} {e : Env} {s : State} {m : MethodId} {args : Array Value} {below : List Frame} {meth : Method} {c : Code} {D : va_G} {cA : Nat → ClassId} {ad : Nat → Nat} (X : wd_X p s m args meth c cX8_firstChild 3 wsX8_firstChild RX8 (some .int) D cA ad dsM.length) {M : Mem} {r : Int32}  : ∀ (n : Nat) (x1 : Int32) (x2 : Int32) (H : Heap) (locs : List Loc) (ls : Array Slot), H_X8_firstChild_4 M n x1 x2 = some r → wd_P D cA ad dsM M H → va_S (wd_A ad dsM.length) s.heap H locs → lv_has ls 3 [(0, .ref (ad 0)), (1, .int x1), (2, .int x2)] → W p l e (headSpec wsX8_firstChild rm_X8_firstChild).room s m args below meth c H locs 0 0 (MQ below (wm_Qi D cA ad dsM r M) args s 0 0 (wd_A ad dsM.length)) (F0 m 4 ls []) := by
  intro n
  induction n with
  | zero => intro x1 x2 H locs ls hF; cases hF
  | succ n ih => intro x1 x2 H locs ls hF hP hS hl; exact wb_X8_firstChild_4 X (kh4 := H_X8_firstChild_4 M n) ih x1 x2 H locs ls hF hP hS hl
set_option maxHeartbeats 4000000 in
set_option maxRecDepth 100000 in
theorem c_X8_firstChild (l : Launch) (D : va_G) (cA : Nat → ClassId) (ad : Nat → Nat) (hj : wd_inj ad dsM.length)   (x1 : Int32) (M : Mem) {r : Int32} (hF : F_X8_firstChild x1 M = some r) : wm_i l yX8_firstChild wsX8_firstChild rm_X8_firstChild D cA ad dsM M [.ref (ad 0), .int x1] r M := by
  refine Met.ofW (cc := cX8_firstChild) (maxL := 3) (ret := (some .int)) (by decide) rfl ?_
  intro p e s m args below meth c s₁ B hml hv
  obtain ⟨rfl, hP, hK⟩ := hv
  have X : wd_X p s m _ meth c cX8_firstChild 3 wsX8_firstChild RX8 (some .int) D cA ad dsM.length := ⟨⟨B.exec, B.bytes, hml, findClass_of_methodNamed B.named, atoms_spec (ws := wsX8_firstChild) B.pre⟩, hK, B.notSynchronized, B.returns, hj⟩
  have hl := lv_entry ([.ref (ad 0), .int x1]) (n := 3) (Nat.le_of_ble_eq_true rfl)
  rw [lg_entry_eq]
  generalize (lg_sl ([.ref (ad 0), .int x1]) ++ List.replicate (3 - (lg_sl ([.ref (ad 0), .int x1])).length) Slot.unset).toArray = ls at hl ⊢
  have hl : lv_has ls 3 [(0, .ref (ad 0)), (1, .int x1)] := hl
  have hS : va_S (wd_A ad dsM.length) s.heap s.heap [] := va_S.rf
  have hx := X.1.1
  have hb := X.1.2.1
  have hts := X.1.2.2.2.2
  unfold F_X8_firstChild at hF
  refine lv_iload_n hx hb dX8_firstChild_0 rfl (lv_at hl 1 rfl) ?_
  refine lv_iconst (v := (1 : Int32)) hx hb dX8_firstChild_1 (by decide) ?_
  refine lv_iadd hx hb dX8_firstChild_2 ?_
  obtain ⟨x2_1, e_2, hF⟩ := nm_c hF
  refine wd_top e_2 ?_
  refine lv_istore_n (lv' := [(2, .int x2_1), (0, .ref (ad 0)), (1, .int x1)]) hx hb dX8_firstChild_3 rfl hl (by decide) rfl (fun ls hl => ?_)
  exact wh_X8_firstChild_4 X    100 x1 x2_1 _ _ _ hF hP hS (lv_sub hl [1, 2, 0] rfl)
/-! X8_within (II)Z -/
theorem in_X8_within_X8 : ∀ w ∈ u_ws RX8 TX8 39, w ∈ wsX8_within := by decide +kernel
set_option maxHeartbeats 4000000 in
set_option maxRecDepth 100000 in
theorem wb_X8_within_2 {p : Program} {l : Launch} {e : Env} {s : State} {m : MethodId} {args : Array Value} {below : List Frame} {meth : Method} {c : Code} {D : va_G} {cA : Nat → ClassId} {ad : Nat → Nat} (X : wd_X p s m args meth c cX8_within 4 wsX8_within RX8 (some .boolean) D cA ad dsM.length) {kh2 : Int32 → Int32 → Option Int32} {M : Mem} {r : Int32} (hk2 : ∀ (x2 : Int32) (x3 : Int32) (H : Heap) (locs : List Loc) (ls : Array Slot), kh2 x2 x3 = some r → wd_P D cA ad dsM M H → va_S (wd_A ad dsM.length) s.heap H locs → lv_has ls 4 [(0, .ref (ad 0)), (2, .int x2), (3, .int x3)] → W p l e (headSpec wsX8_within rm_X8_within).room s m args below meth c H locs 0 0 (MQ below (wm_Qi D cA ad dsM r M) args s 0 0 (wd_A ad dsM.length)) (F0 m 2 ls [])) (x2 : Int32) (x3 : Int32) (H : Heap) (locs : List Loc) (ls : Array Slot) (hF : B_X8_within_2 kh2 M x2 x3 = some r) (hP : wd_P D cA ad dsM M H) (hS : va_S (wd_A ad dsM.length) s.heap H locs) (hl : lv_has ls 4 [(0, .ref (ad 0)), (2, .int x2), (3, .int x3)]) : W p l e (headSpec wsX8_within rm_X8_within).room s m args below meth c H locs 0 0 (MQ below (wm_Qi D cA ad dsM r M) args s 0 0 (wd_A ad dsM.length)) (F0 m 2 ls []) := by
  have hx := X.1.1
  have hb := X.1.2.1
  have hts := X.1.2.2.2.2
  unfold B_X8_within_2 at hF
  refine lv_iload_n hx hb dX8_within_2 rfl (lv_at hl 2 rfl) ?_
  refine lv_iload_n hx hb dX8_within_3 rfl (lv_at hl 1 rfl) ?_
  refine lv_icmp_le (tgt := 17) hx hb dX8_within_4 (by decide) (fun c_5 => ?_) (fun c_5 => ?_)
  · have hF := if_t c_5 hF
    refine lv_iload_n hx hb dX8_within_17 rfl (lv_at hl 2 rfl) ?_
    refine lv_iload_n hx hb dX8_within_18 rfl (lv_at hl 1 rfl) ?_
    refine lv_icmp_ne (tgt := 26) hx hb dX8_within_19 (by decide) (fun c_1 => ?_) (fun c_1 => ?_)
    · have hF := if_e c_1 hF
      refine lv_iconst (v := (0 : Int32)) hx hb dX8_within_26 (by decide) ?_
      cases hF
      exact wd_reti X hP hS rfl (by decide) dX8_within_27
    · have hF := if_t c_1 hF
      refine lv_iconst (v := (1 : Int32)) hx hb dX8_within_22 (by decide) ?_
      refine lv_goto (tgt := 27) hx hb dX8_within_23 (by decide) ?_
      cases hF
      exact wd_reti X hP hS rfl (by decide) dX8_within_27
  · have hF := if_e c_5 hF
    refine lv_aload_n hx hb dX8_within_7 rfl (lv_at hl 0 rfl) ?_
    refine wd_getr (q := 6) X hP 0 dM_0 rfl in_X8_within_X8 9 rfl (by decide) (by decide +kernel) dX8_within_8 ?_
    refine lv_iload_n hx hb dX8_within_11 rfl (lv_at hl 2 rfl) ?_
    obtain ⟨h_2, hF⟩ := gi_c hF
    refine wd_ild X hP 6 dM_6 h_2 dX8_within_12 ?_
    obtain ⟨x3_3, e_4, hF⟩ := nm_c hF
    refine wd_top e_4 ?_
    refine lv_istore_n (lv' := [(3, .int x3_3), (0, .ref (ad 0)), (2, .int x2)]) hx hb dX8_within_13 rfl hl (by decide) rfl (fun ls hl => ?_)
    refine lv_goto (tgt := 2) hx hb dX8_within_14 (by decide) ?_
    exact hk2 x2 x3_3 _ _ _ hF hP hS (lv_sub hl [1, 2, 0] rfl)
set_option maxHeartbeats 4000000 in
set_option maxRecDepth 100000 in
theorem wh_X8_within_2 {p : Program} {l : Launch} {e : Env} {s : State} {m : MethodId} {args : Array Value} {below : List Frame} {meth : Method} {c : Code} {D : va_G} {cA : Nat → ClassId} {ad : Nat → Nat} (X : wd_X p s m args meth c cX8_within 4 wsX8_within RX8 (some .boolean) D cA ad dsM.length) {M : Mem} {r : Int32}  : ∀ (n : Nat) (x2 : Int32) (x3 : Int32) (H : Heap) (locs : List Loc) (ls : Array Slot), H_X8_within_2 M n x2 x3 = some r → wd_P D cA ad dsM M H → va_S (wd_A ad dsM.length) s.heap H locs → lv_has ls 4 [(0, .ref (ad 0)), (2, .int x2), (3, .int x3)] → W p l e (headSpec wsX8_within rm_X8_within).room s m args below meth c H locs 0 0 (MQ below (wm_Qi D cA ad dsM r M) args s 0 0 (wd_A ad dsM.length)) (F0 m 2 ls []) := by
  intro n
  induction n with
  | zero => intro x2 x3 H locs ls hF; cases hF
  | succ n ih => intro x2 x3 H locs ls hF hP hS hl; exact wb_X8_within_2 X (kh2 := H_X8_within_2 M n) ih x2 x3 H locs ls hF hP hS hl
set_option maxHeartbeats 4000000 in
set_option maxRecDepth 100000 in
theorem c_X8_within (l : Launch) (D : va_G) (cA : Nat → ClassId) (ad : Nat → Nat) (hj : wd_inj ad dsM.length)   (x1 : Int32) (x2 : Int32) (M : Mem) {r : Int32} (hF : F_X8_within x1 x2 M = some r) : wm_i l yX8_within wsX8_within rm_X8_within D cA ad dsM M [.ref (ad 0), .int x1, .int x2] r M := by
  refine Met.ofW (cc := cX8_within) (maxL := 4) (ret := (some .boolean)) (by decide) rfl ?_
  intro p e s m args below meth c s₁ B hml hv
  obtain ⟨rfl, hP, hK⟩ := hv
  have X : wd_X p s m _ meth c cX8_within 4 wsX8_within RX8 (some .boolean) D cA ad dsM.length := ⟨⟨B.exec, B.bytes, hml, findClass_of_methodNamed B.named, atoms_spec (ws := wsX8_within) B.pre⟩, hK, B.notSynchronized, B.returns, hj⟩
  have hl := lv_entry ([.ref (ad 0), .int x1, .int x2]) (n := 4) (Nat.le_of_ble_eq_true rfl)
  rw [lg_entry_eq]
  generalize (lg_sl ([.ref (ad 0), .int x1, .int x2]) ++ List.replicate (4 - (lg_sl ([.ref (ad 0), .int x1, .int x2])).length) Slot.unset).toArray = ls at hl ⊢
  have hl : lv_has ls 4 [(0, .ref (ad 0)), (1, .int x1), (2, .int x2)] := hl
  have hS : va_S (wd_A ad dsM.length) s.heap s.heap [] := va_S.rf
  have hx := X.1.1
  have hb := X.1.2.1
  have hts := X.1.2.2.2.2
  unfold F_X8_within at hF
  refine lv_iload_n hx hb dX8_within_0 rfl (lv_at hl 1 rfl) ?_
  refine lv_istore_n (lv' := [(3, .int x1), (0, .ref (ad 0)), (1, .int x1), (2, .int x2)]) hx hb dX8_within_1 rfl hl (by decide) rfl (fun ls hl => ?_)
  exact wh_X8_within_2 X    100 x2 x1 _ _ _ hF hP hS (lv_sub hl [1, 3, 0] rfl)
/-! X8_isActive (I)Z -/
theorem in_X8_isActive_X8 : ∀ w ∈ u_ws RX8 TX8 39, w ∈ wsX8_isActive := by decide +kernel
set_option maxHeartbeats 4000000 in
set_option maxRecDepth 100000 in
theorem wb_X8_isActive_46 {p : Program} {l : Launch} {e : Env} {s : State} {m : MethodId} {args : Array Value} {below : List Frame} {meth : Method} {c : Code} {D : va_G} {cA : Nat → ClassId} {ad : Nat → Nat} (X : wd_X p s m args meth c cX8_isActive 4 wsX8_isActive RX8 (some .boolean) D cA ad dsM.length) {kh4 : Int32 → Int32 → Option Int32} {M : Mem} {r : Int32} (hk4 : ∀ (x2 : Int32) (x3 : Int32) (H : Heap) (locs : List Loc) (ls : Array Slot), kh4 x2 x3 = some r → wd_P D cA ad dsM M H → va_S (wd_A ad dsM.length) s.heap H locs → lv_has ls 4 [(0, .ref (ad 0)), (2, .int x2), (3, .int x3)] → W p l e (headSpec wsX8_isActive rm_X8_isActive).room s m args below meth c H locs 0 0 (MQ below (wm_Qi D cA ad dsM r M) args s 0 0 (wd_A ad dsM.length)) (F0 m 4 ls [])) (x3 : Int32) (t0 : Int32) (H : Heap) (locs : List Loc) (ls : Array Slot) (hF : B_X8_isActive_46 kh4 M x3 t0 = some r) (hP : wd_P D cA ad dsM M H) (hS : va_S (wd_A ad dsM.length) s.heap H locs) (hl : lv_has ls 4 [(0, .ref (ad 0)), (3, .int x3)]) : W p l e (headSpec wsX8_isActive rm_X8_isActive).room s m args below meth c H locs 0 0 (MQ below (wm_Qi D cA ad dsM r M) args s 0 0 (wd_A ad dsM.length)) (F0 m 46 ls [.int t0]) := by
  have hx := X.1.1
  have hb := X.1.2.1
  have hts := X.1.2.2.2.2
  unfold B_X8_isActive_46 at hF
  refine lv_istore_n (lv' := [(2, .int t0), (0, .ref (ad 0)), (3, .int x3)]) hx hb dX8_isActive_46 rfl hl (by decide) rfl (fun ls hl => ?_)
  refine lv_aload_n hx hb dX8_isActive_47 rfl (lv_at hl 1 rfl) ?_
  refine wd_getr (q := 6) X hP 0 dM_0 rfl in_X8_isActive_X8 9 rfl (by decide) (by decide +kernel) dX8_isActive_48 ?_
  refine lv_iload_n hx hb dX8_isActive_51 rfl (lv_at hl 2 rfl) ?_
  obtain ⟨h_1, hF⟩ := gi_c hF
  refine wd_ild X hP 6 dM_6 h_1 dX8_isActive_52 ?_
  obtain ⟨x3_2, e_3, hF⟩ := nm_c hF
  refine wd_top e_3 ?_
  refine lv_istore_n (lv' := [(3, .int x3_2), (2, .int t0), (0, .ref (ad 0))]) hx hb dX8_isActive_53 rfl hl (by decide) rfl (fun ls hl => ?_)
  refine lv_goto (tgt := 4) hx hb dX8_isActive_54 (by decide) ?_
  exact hk4 t0 x3_2 _ _ _ hF hP hS (lv_sub hl [2, 1, 0] rfl)
set_option maxHeartbeats 4000000 in
set_option maxRecDepth 100000 in
theorem wb_X8_isActive_45 {p : Program} {l : Launch} {e : Env} {s : State} {m : MethodId} {args : Array Value} {below : List Frame} {meth : Method} {c : Code} {D : va_G} {cA : Nat → ClassId} {ad : Nat → Nat} (X : wd_X p s m args meth c cX8_isActive 4 wsX8_isActive RX8 (some .boolean) D cA ad dsM.length) {kh4 : Int32 → Int32 → Option Int32} {M : Mem} {r : Int32} (hk4 : ∀ (x2 : Int32) (x3 : Int32) (H : Heap) (locs : List Loc) (ls : Array Slot), kh4 x2 x3 = some r → wd_P D cA ad dsM M H → va_S (wd_A ad dsM.length) s.heap H locs → lv_has ls 4 [(0, .ref (ad 0)), (2, .int x2), (3, .int x3)] → W p l e (headSpec wsX8_isActive rm_X8_isActive).room s m args below meth c H locs 0 0 (MQ below (wm_Qi D cA ad dsM r M) args s 0 0 (wd_A ad dsM.length)) (F0 m 4 ls [])) (x3 : Int32) (H : Heap) (locs : List Loc) (ls : Array Slot) (hF : B_X8_isActive_45 kh4 M x3 = some r) (hP : wd_P D cA ad dsM M H) (hS : va_S (wd_A ad dsM.length) s.heap H locs) (hl : lv_has ls 4 [(0, .ref (ad 0)), (3, .int x3)]) : W p l e (headSpec wsX8_isActive rm_X8_isActive).room s m args below meth c H locs 0 0 (MQ below (wm_Qi D cA ad dsM r M) args s 0 0 (wd_A ad dsM.length)) (F0 m 45 ls []) := by
  have hx := X.1.1
  have hb := X.1.2.1
  have hts := X.1.2.2.2.2
  unfold B_X8_isActive_45 at hF
  refine lv_iconst (v := (0 : Int32)) hx hb dX8_isActive_45 (by decide) ?_
  exact wb_X8_isActive_46 X  hk4  x3 (0 : Int32) _ _ _ hF hP hS (lv_sub hl [0, 1] rfl)
set_option maxHeartbeats 4000000 in
set_option maxRecDepth 100000 in
theorem wb_X8_isActive_41 {p : Program} {l : Launch} {e : Env} {s : State} {m : MethodId} {args : Array Value} {below : List Frame} {meth : Method} {c : Code} {D : va_G} {cA : Nat → ClassId} {ad : Nat → Nat} (X : wd_X p s m args meth c cX8_isActive 4 wsX8_isActive RX8 (some .boolean) D cA ad dsM.length) {kh4 : Int32 → Int32 → Option Int32} {M : Mem} {r : Int32} (hk4 : ∀ (x2 : Int32) (x3 : Int32) (H : Heap) (locs : List Loc) (ls : Array Slot), kh4 x2 x3 = some r → wd_P D cA ad dsM M H → va_S (wd_A ad dsM.length) s.heap H locs → lv_has ls 4 [(0, .ref (ad 0)), (2, .int x2), (3, .int x3)] → W p l e (headSpec wsX8_isActive rm_X8_isActive).room s m args below meth c H locs 0 0 (MQ below (wm_Qi D cA ad dsM r M) args s 0 0 (wd_A ad dsM.length)) (F0 m 4 ls [])) (x3 : Int32) (H : Heap) (locs : List Loc) (ls : Array Slot) (hF : B_X8_isActive_41 kh4 M x3 = some r) (hP : wd_P D cA ad dsM M H) (hS : va_S (wd_A ad dsM.length) s.heap H locs) (hl : lv_has ls 4 [(0, .ref (ad 0)), (3, .int x3)]) : W p l e (headSpec wsX8_isActive rm_X8_isActive).room s m args below meth c H locs 0 0 (MQ below (wm_Qi D cA ad dsM r M) args s 0 0 (wd_A ad dsM.length)) (F0 m 41 ls []) := by
  have hx := X.1.1
  have hb := X.1.2.1
  have hts := X.1.2.2.2.2
  unfold B_X8_isActive_41 at hF
  refine lv_iconst (v := (1 : Int32)) hx hb dX8_isActive_41 (by decide) ?_
  refine lv_goto (tgt := 46) hx hb dX8_isActive_42 (by decide) ?_
  exact wb_X8_isActive_46 X  hk4  x3 (1 : Int32) _ _ _ hF hP hS (lv_sub hl [0, 1] rfl)
set_option maxHeartbeats 4000000 in
set_option maxRecDepth 100000 in
theorem wb_X8_isActive_4 {p : Program} {l : Launch} {e : Env} {s : State} {m : MethodId} {args : Array Value} {below : List Frame} {meth : Method} {c : Code} {D : va_G} {cA : Nat → ClassId} {ad : Nat → Nat} (X : wd_X p s m args meth c cX8_isActive 4 wsX8_isActive RX8 (some .boolean) D cA ad dsM.length) {kh4 : Int32 → Int32 → Option Int32} {M : Mem} {r : Int32} (hk4 : ∀ (x2 : Int32) (x3 : Int32) (H : Heap) (locs : List Loc) (ls : Array Slot), kh4 x2 x3 = some r → wd_P D cA ad dsM M H → va_S (wd_A ad dsM.length) s.heap H locs → lv_has ls 4 [(0, .ref (ad 0)), (2, .int x2), (3, .int x3)] → W p l e (headSpec wsX8_isActive rm_X8_isActive).room s m args below meth c H locs 0 0 (MQ below (wm_Qi D cA ad dsM r M) args s 0 0 (wd_A ad dsM.length)) (F0 m 4 ls [])) (x2 : Int32) (x3 : Int32) (H : Heap) (locs : List Loc) (ls : Array Slot) (hF : B_X8_isActive_4 kh4 M x2 x3 = some r) (hP : wd_P D cA ad dsM M H) (hS : va_S (wd_A ad dsM.length) s.heap H locs) (hl : lv_has ls 4 [(0, .ref (ad 0)), (2, .int x2), (3, .int x3)]) : W p l e (headSpec wsX8_isActive rm_X8_isActive).room s m args below meth c H locs 0 0 (MQ below (wm_Qi D cA ad dsM r M) args s 0 0 (wd_A ad dsM.length)) (F0 m 4 ls []) := by
  have hx := X.1.1
  have hb := X.1.2.1
  have hts := X.1.2.2.2.2
  unfold B_X8_isActive_4 at hF
  refine lv_iload_n hx hb dX8_isActive_4 rfl (lv_at hl 2 rfl) ?_
  refine lv_if_le (tgt := 57) hx hb dX8_isActive_5 (by decide) (fun c_9 => ?_) (fun c_9 => ?_)
  · have hF := if_t c_9 hF
    refine lv_iload_n hx hb dX8_isActive_57 rfl (lv_at hl 1 rfl) ?_
    obtain ⟨h_1, hF⟩ := gz_c hF
    cases hF
    exact wd_reti X hP hS rfl h_1 dX8_isActive_58
  · have hF := if_e c_9 hF
    refine lv_iload_n hx hb dX8_isActive_8 rfl (lv_at hl 1 rfl) ?_
    refine lv_if_eq (tgt := 45) hx hb dX8_isActive_9 (by decide) (fun c_8 => ?_) (fun c_8 => ?_)
    · have hF := if_t c_8 hF
      exact wb_X8_isActive_45 X  hk4  x3 _ _ _ hF hP hS (lv_sub hl [0, 2] rfl)
    · have hF := if_e c_8 hF
      refine lv_aload_n hx hb dX8_isActive_12 rfl (lv_at hl 0 rfl) ?_
      refine wd_getr (q := 9) X hP 0 dM_0 rfl in_X8_isActive_X8 12 rfl (by decide) (by decide +kernel) dX8_isActive_13 ?_
      refine lv_aload_n hx hb dX8_isActive_16 rfl (lv_at hl 0 rfl) ?_
      refine wd_getr (q := 6) X hP 0 dM_0 rfl in_X8_isActive_X8 9 rfl (by decide) (by decide +kernel) dX8_isActive_17 ?_
      refine lv_iload_n hx hb dX8_isActive_20 rfl (lv_at hl 2 rfl) ?_
      obtain ⟨h_2, hF⟩ := gi_c hF
      refine wd_ild X hP 6 dM_6 h_2 dX8_isActive_21 ?_
      obtain ⟨h_3, hF⟩ := gi_c hF
      refine wd_zld X hP 9 dM_9 h_3 dX8_isActive_22 ?_
      refine lv_if_ne (tgt := 41) hx hb dX8_isActive_23 (by decide) (fun c_7 => ?_) (fun c_7 => ?_)
      · have hF := if_e c_7 hF
        exact wb_X8_isActive_41 X  hk4  x3 _ _ _ hF hP hS (lv_sub hl [0, 2] rfl)
      · have hF := if_t c_7 hF
        refine lv_aload_n hx hb dX8_isActive_26 rfl (lv_at hl 0 rfl) ?_
        refine wd_getr (q := 19) X hP 0 dM_0 rfl in_X8_isActive_X8 24 rfl (by decide) (by decide +kernel) dX8_isActive_27 ?_
        refine lv_aload_n hx hb dX8_isActive_30 rfl (lv_at hl 0 rfl) ?_
        refine wd_getr (q := 6) X hP 0 dM_0 rfl in_X8_isActive_X8 9 rfl (by decide) (by decide +kernel) dX8_isActive_31 ?_
        refine lv_iload_n hx hb dX8_isActive_34 rfl (lv_at hl 2 rfl) ?_
        obtain ⟨h_4, hF⟩ := gi_c hF
        refine wd_ild X hP 6 dM_6 h_4 dX8_isActive_35 ?_
        obtain ⟨h_5, hF⟩ := gi_c hF
        refine wd_ild X hP 19 dM_19 h_5 dX8_isActive_36 ?_
        refine lv_iload_n hx hb dX8_isActive_37 rfl (lv_at hl 2 rfl) ?_
        refine lv_icmp_ne (tgt := 45) hx hb dX8_isActive_38 (by decide) (fun c_6 => ?_) (fun c_6 => ?_)
        · have hF := if_e c_6 hF
          exact wb_X8_isActive_45 X  hk4  x3 _ _ _ hF hP hS (lv_sub hl [0, 2] rfl)
        · have hF := if_t c_6 hF
          exact wb_X8_isActive_41 X  hk4  x3 _ _ _ hF hP hS (lv_sub hl [0, 2] rfl)
set_option maxHeartbeats 4000000 in
set_option maxRecDepth 100000 in
theorem wh_X8_isActive_4 {p : Program} {l : Launch} {e : Env} {s : State} {m : MethodId} {args : Array Value} {below : List Frame} {meth : Method} {c : Code} {D : va_G} {cA : Nat → ClassId} {ad : Nat → Nat} (X : wd_X p s m args meth c cX8_isActive 4 wsX8_isActive RX8 (some .boolean) D cA ad dsM.length) {M : Mem} {r : Int32}  : ∀ (n : Nat) (x2 : Int32) (x3 : Int32) (H : Heap) (locs : List Loc) (ls : Array Slot), H_X8_isActive_4 M n x2 x3 = some r → wd_P D cA ad dsM M H → va_S (wd_A ad dsM.length) s.heap H locs → lv_has ls 4 [(0, .ref (ad 0)), (2, .int x2), (3, .int x3)] → W p l e (headSpec wsX8_isActive rm_X8_isActive).room s m args below meth c H locs 0 0 (MQ below (wm_Qi D cA ad dsM r M) args s 0 0 (wd_A ad dsM.length)) (F0 m 4 ls []) := by
  intro n
  induction n with
  | zero => intro x2 x3 H locs ls hF; cases hF
  | succ n ih => intro x2 x3 H locs ls hF hP hS hl; exact wb_X8_isActive_4 X (kh4 := H_X8_isActive_4 M n) ih x2 x3 H locs ls hF hP hS hl
set_option maxHeartbeats 4000000 in
set_option maxRecDepth 100000 in
theorem c_X8_isActive (l : Launch) (D : va_G) (cA : Nat → ClassId) (ad : Nat → Nat) (hj : wd_inj ad dsM.length)   (x1 : Int32) (M : Mem) {r : Int32} (hF : F_X8_isActive x1 M = some r) : wm_i l yX8_isActive wsX8_isActive rm_X8_isActive D cA ad dsM M [.ref (ad 0), .int x1] r M := by
  refine Met.ofW (cc := cX8_isActive) (maxL := 4) (ret := (some .boolean)) (by decide) rfl ?_
  intro p e s m args below meth c s₁ B hml hv
  obtain ⟨rfl, hP, hK⟩ := hv
  have X : wd_X p s m _ meth c cX8_isActive 4 wsX8_isActive RX8 (some .boolean) D cA ad dsM.length := ⟨⟨B.exec, B.bytes, hml, findClass_of_methodNamed B.named, atoms_spec (ws := wsX8_isActive) B.pre⟩, hK, B.notSynchronized, B.returns, hj⟩
  have hl := lv_entry ([.ref (ad 0), .int x1]) (n := 4) (Nat.le_of_ble_eq_true rfl)
  rw [lg_entry_eq]
  generalize (lg_sl ([.ref (ad 0), .int x1]) ++ List.replicate (4 - (lg_sl ([.ref (ad 0), .int x1])).length) Slot.unset).toArray = ls at hl ⊢
  have hl : lv_has ls 4 [(0, .ref (ad 0)), (1, .int x1)] := hl
  have hS : va_S (wd_A ad dsM.length) s.heap s.heap [] := va_S.rf
  have hx := X.1.1
  have hb := X.1.2.1
  have hts := X.1.2.2.2.2
  unfold F_X8_isActive at hF
  refine lv_iconst (v := (1 : Int32)) hx hb dX8_isActive_0 (by decide) ?_
  refine lv_istore_n (lv' := [(2, .int (1 : Int32)), (0, .ref (ad 0)), (1, .int x1)]) hx hb dX8_isActive_1 rfl hl (by decide) rfl (fun ls hl => ?_)
  refine lv_iload_n hx hb dX8_isActive_2 rfl (lv_at hl 2 rfl) ?_
  refine lv_istore_n (lv' := [(3, .int x1), (2, .int (1 : Int32)), (0, .ref (ad 0)), (1, .int x1)]) hx hb dX8_isActive_3 rfl hl (by decide) rfl (fun ls hl => ?_)
  exact wh_X8_isActive_4 X    100 (1 : Int32) x1 _ _ _ hF hP hS (lv_sub hl [2, 1, 0] rfl)
