/-! X2_addMarks (LChartTable$MarkRows;II)V -/
theorem in_X2_addMarks_X2 : ∀ w ∈ u_ws RX2 TX2 3, w ∈ wsX2_addMarks := by decide +kernel
set_option maxHeartbeats 4000000 in
set_option maxRecDepth 100000 in
theorem wb_X2_addMarks_13 {p : Program} {l : Launch} {e : Env} {s : State} {m : MethodId} {args : Array Value} {below : List Frame} {meth : Method} {c : Code} {D : va_G} {cA : Nat → ClassId} {ad : Nat → Nat} (X : wd_X p s m args meth c cX2_addMarks 6 wsX2_addMarks RX2 none D cA ad dsC.length) {kh13 : Int32 → Int32 → Int32 → Int32 → Mem → Option Mem} {o1 : Nat} {M' : Mem} (hk13 : ∀ (x2 : Int32) (x3 : Int32) (x4 : Int32) (x5 : Int32) (M : Mem) (H : Heap) (locs : List Loc) (ls : Array Slot), kh13 x2 x3 x4 x5 M = some M' → wd_P D cA ad dsC M H → va_S (wd_A ad dsC.length) s.heap H locs → lv_has ls 6 [(0, .ref (ad 29)), (1, .ref (ad o1)), (2, .int x2), (3, .int x3), (4, .int x4), (5, .int x5)] → W p l e (headSpec wsX2_addMarks rm_X2_addMarks).room s m args below meth c H locs 0 0 (MQ below (wm_Qv D cA ad dsC M') args s 0 0 (wd_A ad dsC.length)) (F0 m 13 ls [])) (ho1 : mr_ok o1) (x2 : Int32) (x3 : Int32) (x4 : Int32) (x5 : Int32) (M : Mem) (H : Heap) (locs : List Loc) (ls : Array Slot) (hF : B_X2_addMarks_13 kh13 o1 x2 x3 x4 x5 M = some M') (hP : wd_P D cA ad dsC M H) (hS : va_S (wd_A ad dsC.length) s.heap H locs) (hl : lv_has ls 6 [(0, .ref (ad 29)), (1, .ref (ad o1)), (2, .int x2), (3, .int x3), (4, .int x4), (5, .int x5)]) : W p l e (headSpec wsX2_addMarks rm_X2_addMarks).room s m args below meth c H locs 0 0 (MQ below (wm_Qv D cA ad dsC M') args s 0 0 (wd_A ad dsC.length)) (F0 m 13 ls []) := by
  have hx := X.1.1
  have hb := X.1.2.1
  have hts := X.1.2.2.2.2
  unfold B_X2_addMarks_13 at hF
  refine lv_iload hx hb dX2_addMarks_13 (lv_at hl 5 rfl) ?_
  refine lv_iload hx hb dX2_addMarks_15 (lv_at hl 4 rfl) ?_
  refine lv_icmp_ge (tgt := 41) hx hb dX2_addMarks_17 (by decide) (fun c_8 => ?_) (fun c_8 => ?_)
  · have hF := if_t c_8 hF
    cases hF
    exact wd_retv X hP hS dX2_addMarks_41
  · have hF := if_e c_8 hF
    refine lv_aload_n hx hb dX2_addMarks_20 rfl (lv_at hl 1 rfl) ?_
    refine lv_iload_n hx hb dX2_addMarks_21 rfl (lv_at hl 2 rfl) ?_
    refine lv_aload_n hx hb dX2_addMarks_22 rfl (lv_at hl 0 rfl) ?_
    refine wd_getr (q := 1) X hP 29 dC_29 rfl in_X2_addMarks_X2 0 rfl (by decide) (by decide +kernel) dX2_addMarks_23 ?_
    refine lv_iload_n hx hb dX2_addMarks_26 rfl (lv_at hl 3 rfl) ?_
    refine lv_iload hx hb dX2_addMarks_27 (lv_at hl 5 rfl) ?_
    obtain ⟨r_1, hc_2, hF⟩ := bd_c hF
    refine wd_calli X hP hS [.int x3, .int x5] [.int x2, .ref (ad o1)] (c_X0_letterAt l D cA ad X.2.2.2.2   x3 x5 M hc_2) (cwV 2 hts gX2_addMarks_X0_letterAt rfl rfl rfl (by decide +kernel) ⟨(by show _ ≤ _; first | exact Nat.le_of_ble_eq_true rfl | (simp [headSpec, rm_X2_addMarks]; omega) | omega), (by show _ ≤ _; first | exact Nat.le_of_ble_eq_true rfl | (simp [headSpec, rm_X2_addMarks]; omega) | omega)⟩) dC_1 rfl rfl hl.1 rfl (Nat.le_of_ble_eq_true rfl) dX2_addMarks_29 (fun H locs hP hS => ?_)
    obtain ⟨M_5, hc_4, hF⟩ := bd_c hF
    refine wd_callv X hP hS [.int x2, .int r_1] [] (c_X1_add l D cA ad X.2.2.2.2 o1 ho1 x2 r_1 M hc_4) (cwV 2 hts gX2_addMarks_X1_add rfl rfl rfl (by decide +kernel) ⟨(by show _ ≤ _; first | exact Nat.le_of_ble_eq_true rfl | (simp [headSpec, rm_X2_addMarks]; omega) | omega), (by show _ ≤ _; first | exact Nat.le_of_ble_eq_true rfl | (simp [headSpec, rm_X2_addMarks]; omega) | omega)⟩) ho1.1 rfl rfl hl.1 rfl (Nat.le_of_ble_eq_true rfl) dX2_addMarks_32 (fun H locs hP hS => ?_)
    obtain ⟨x5_6, e_7, hF⟩ := nm_c hF
    refine lv_iinc (v := x5_6) (lv' := [(5, .int x5_6), (0, .ref (ad 29)), (1, .ref (ad o1)), (2, .int x2), (3, .int x3), (4, .int x4)]) hx hb dX2_addMarks_35 hl (k := 5) rfl (by rw [e_7]; rfl) (by decide) rfl (fun ls hl => ?_)
    refine lv_goto (tgt := 13) hx hb dX2_addMarks_38 (by decide) ?_
    exact hk13 x2 x3 x4 x5_6 M_5 _ _ _ hF hP hS (lv_sub hl [1, 2, 3, 4, 5, 0] rfl)
set_option maxHeartbeats 4000000 in
set_option maxRecDepth 100000 in
theorem wh_X2_addMarks_13 {p : Program} {l : Launch} {e : Env} {s : State} {m : MethodId} {args : Array Value} {below : List Frame} {meth : Method} {c : Code} {D : va_G} {cA : Nat → ClassId} {ad : Nat → Nat} (X : wd_X p s m args meth c cX2_addMarks 6 wsX2_addMarks RX2 none D cA ad dsC.length) {o1 : Nat} {M' : Mem} (ho1 : mr_ok o1) : ∀ (n : Nat) (x2 : Int32) (x3 : Int32) (x4 : Int32) (x5 : Int32) (M : Mem) (H : Heap) (locs : List Loc) (ls : Array Slot), H_X2_addMarks_13 o1 n x2 x3 x4 x5 M = some M' → wd_P D cA ad dsC M H → va_S (wd_A ad dsC.length) s.heap H locs → lv_has ls 6 [(0, .ref (ad 29)), (1, .ref (ad o1)), (2, .int x2), (3, .int x3), (4, .int x4), (5, .int x5)] → W p l e (headSpec wsX2_addMarks rm_X2_addMarks).room s m args below meth c H locs 0 0 (MQ below (wm_Qv D cA ad dsC M') args s 0 0 (wd_A ad dsC.length)) (F0 m 13 ls []) := by
  intro n
  induction n with
  | zero => intro x2 x3 x4 x5 M H locs ls hF; cases hF
  | succ n ih => intro x2 x3 x4 x5 M H locs ls hF hP hS hl; exact wb_X2_addMarks_13 X (kh13 := H_X2_addMarks_13 o1 n) ih ho1 x2 x3 x4 x5 M H locs ls hF hP hS hl
set_option maxHeartbeats 4000000 in
set_option maxRecDepth 100000 in
theorem c_X2_addMarks (l : Launch) (D : va_G) (cA : Nat → ClassId) (ad : Nat → Nat) (hj : wd_inj ad dsC.length) (o1 : Nat) (ho1 : mr_ok o1) (x2 : Int32) (x3 : Int32) (M : Mem) {M' : Mem} (hF : F_X2_addMarks o1 x2 x3 M = some M') : wm_v l yX2_addMarks wsX2_addMarks rm_X2_addMarks D cA ad dsC M [.ref (ad 29), .ref (ad o1), .int x2, .int x3] M' := by
  refine Met.ofW (cc := cX2_addMarks) (maxL := 6) (ret := none) (by decide) rfl ?_
  intro p e s m args below meth c s₁ B hml hv
  obtain ⟨rfl, hP, hK⟩ := hv
  have X : wd_X p s m _ meth c cX2_addMarks 6 wsX2_addMarks RX2 none D cA ad dsC.length := ⟨⟨B.exec, B.bytes, hml, findClass_of_methodNamed B.named, atoms_spec (ws := wsX2_addMarks) B.pre⟩, hK, B.notSynchronized, B.returns, hj⟩
  have hl := lv_entry ([.ref (ad 29), .ref (ad o1), .int x2, .int x3]) (n := 6) (Nat.le_of_ble_eq_true rfl)
  rw [lg_entry_eq]
  generalize (lg_sl ([.ref (ad 29), .ref (ad o1), .int x2, .int x3]) ++ List.replicate (6 - (lg_sl ([.ref (ad 29), .ref (ad o1), .int x2, .int x3])).length) Slot.unset).toArray = ls at hl ⊢
  have hl : lv_has ls 6 [(0, .ref (ad 29)), (1, .ref (ad o1)), (2, .int x2), (3, .int x3)] := hl
  have hS : va_S (wd_A ad dsC.length) s.heap s.heap [] := va_S.rf
  have hx := X.1.1
  have hb := X.1.2.1
  have hts := X.1.2.2.2.2
  unfold F_X2_addMarks at hF
  refine lv_aload_n hx hb dX2_addMarks_0 rfl (lv_at hl 0 rfl) ?_
  refine wd_getr (q := 1) X hP 29 dC_29 rfl in_X2_addMarks_X2 0 rfl (by decide) (by decide +kernel) dX2_addMarks_1 ?_
  refine lv_iload_n hx hb dX2_addMarks_4 rfl (lv_at hl 3 rfl) ?_
  obtain ⟨r_1, hc_2, hF⟩ := bd_c hF
  refine wd_calli X hP hS [.int x3] [] (c_X0_sizeOf l D cA ad X.2.2.2.2   x3 M hc_2) (cwV 1 hts gX2_addMarks_X0_sizeOf rfl rfl rfl (by decide +kernel) ⟨(by show _ ≤ _; first | exact Nat.le_of_ble_eq_true rfl | (simp [headSpec, rm_X2_addMarks]; omega) | omega), (by show _ ≤ _; first | exact Nat.le_of_ble_eq_true rfl | (simp [headSpec, rm_X2_addMarks]; omega) | omega)⟩) dC_1 rfl rfl hl.1 rfl (Nat.le_of_ble_eq_true rfl) dX2_addMarks_5 (fun H locs hP hS => ?_)
  refine lv_istore (lv' := [(4, .int r_1), (0, .ref (ad 29)), (1, .ref (ad o1)), (2, .int x2), (3, .int x3)]) hx hb dX2_addMarks_8 hl (by decide) rfl (fun ls hl => ?_)
  refine lv_iconst (v := (0 : Int32)) hx hb dX2_addMarks_10 (by decide) ?_
  refine lv_istore (lv' := [(5, .int (0 : Int32)), (4, .int r_1), (0, .ref (ad 29)), (1, .ref (ad o1)), (2, .int x2), (3, .int x3)]) hx hb dX2_addMarks_11 hl (by decide) rfl (fun ls hl => ?_)
  exact wh_X2_addMarks_13 X   ho1 100 x2 x3 r_1 (0 : Int32) M _ _ _ hF hP hS (lv_sub hl [2, 3, 4, 5, 1, 0] rfl)
/-! X2_readMarks (LChartTable$MarkRows;)I -/
theorem in_X2_readMarks_X2 : ∀ w ∈ u_ws RX2 TX2 3, w ∈ wsX2_readMarks := by decide +kernel
set_option maxHeartbeats 4000000 in
set_option maxRecDepth 100000 in
theorem c_X2_readMarks (l : Launch) (D : va_G) (cA : Nat → ClassId) (ad : Nat → Nat) (hj : wd_inj ad dsC.length) (o1 : Nat) (ho1 : mr_ok o1)  (M : Mem) {r : Int32} {M' : Mem} (hF : F_X2_readMarks o1 M = some (r, M')) : wm_i l yX2_readMarks wsX2_readMarks rm_X2_readMarks D cA ad dsC M [.ref (ad 29), .ref (ad o1)] r M' := by
  refine Met.ofW (cc := cX2_readMarks) (maxL := 3) (ret := (some .int)) (by decide) rfl ?_
  intro p e s m args below meth c s₁ B hml hv
  obtain ⟨rfl, hP, hK⟩ := hv
  have X : wd_X p s m _ meth c cX2_readMarks 3 wsX2_readMarks RX2 (some .int) D cA ad dsC.length := ⟨⟨B.exec, B.bytes, hml, findClass_of_methodNamed B.named, atoms_spec (ws := wsX2_readMarks) B.pre⟩, hK, B.notSynchronized, B.returns, hj⟩
  have hl := lv_entry ([.ref (ad 29), .ref (ad o1)]) (n := 3) (Nat.le_of_ble_eq_true rfl)
  rw [lg_entry_eq]
  generalize (lg_sl ([.ref (ad 29), .ref (ad o1)]) ++ List.replicate (3 - (lg_sl ([.ref (ad 29), .ref (ad o1)])).length) Slot.unset).toArray = ls at hl ⊢
  have hl : lv_has ls 3 [(0, .ref (ad 29)), (1, .ref (ad o1))] := hl
  have hS : va_S (wd_A ad dsC.length) s.heap s.heap [] := va_S.rf
  have hx := X.1.1
  have hb := X.1.2.1
  have hts := X.1.2.2.2.2
  unfold F_X2_readMarks at hF
  refine lv_aload_n hx hb dX2_readMarks_0 rfl (lv_at hl 0 rfl) ?_
  refine wd_getr (q := 5) X hP 29 dC_29 rfl in_X2_readMarks_X2 1 rfl (by decide) (by decide +kernel) dX2_readMarks_1 ?_
  refine lv_aload_n hx hb dX2_readMarks_4 rfl (lv_at hl 0 rfl) ?_
  refine wd_getr (q := 1) X hP 29 dC_29 rfl in_X2_readMarks_X2 0 rfl (by decide) (by decide +kernel) dX2_readMarks_5 ?_
  refine lv_iconst (v := (1 : Int32)) hx hb dX2_readMarks_8 (by decide) ?_
  obtain ⟨r_1, hc_2, hF⟩ := bd_c hF
  refine wd_calli X hP hS [.int (1 : Int32)] [.ref (ad 5)] (c_X0_nameAt l D cA ad X.2.2.2.2   (1 : Int32) M hc_2) (cwV 1 hts gX2_readMarks_X0_nameAt rfl rfl rfl (by decide +kernel) ⟨(by show _ ≤ _; first | exact Nat.le_of_ble_eq_true rfl | (simp [headSpec, rm_X2_readMarks]; omega) | omega), (by show _ ≤ _; first | exact Nat.le_of_ble_eq_true rfl | (simp [headSpec, rm_X2_readMarks]; omega) | omega)⟩) dC_1 rfl rfl hl.1 rfl (Nat.le_of_ble_eq_true rfl) dX2_readMarks_9 (fun H locs hP hS => ?_)
  obtain ⟨r_3, hc_4, hF⟩ := bd_c hF
  refine wd_calli X hP hS [.int r_1] [] (c_X4_find l D cA ad X.2.2.2.2   r_1 M hc_4) (cwV 1 hts gX2_readMarks_X4_find rfl rfl rfl (by decide +kernel) ⟨(by show _ ≤ _; first | exact Nat.le_of_ble_eq_true rfl | (simp [headSpec, rm_X2_readMarks]; omega) | omega), (by show _ ≤ _; first | exact Nat.le_of_ble_eq_true rfl | (simp [headSpec, rm_X2_readMarks]; omega) | omega)⟩) dC_5 rfl rfl hl.1 rfl (Nat.le_of_ble_eq_true rfl) dX2_readMarks_12 (fun H locs hP hS => ?_)
  refine lv_istore_n (lv' := [(2, .int r_3), (0, .ref (ad 29)), (1, .ref (ad o1))]) hx hb dX2_readMarks_15 rfl hl (by decide) rfl (fun ls hl => ?_)
  refine lv_aload_n hx hb dX2_readMarks_16 rfl (lv_at hl 1 rfl) ?_
  refine wd_getr (q := 1) X hP 29 dC_29 rfl in_X2_readMarks_X2 0 rfl (by decide) (by decide +kernel) dX2_readMarks_17 ?_
  obtain ⟨r_5, hc_6, hF⟩ := bd_c hF
  refine wd_calli X hP hS [] [] (c_X0_words l D cA ad X.2.2.2.2    M hc_6) (cwV 0 hts gX2_readMarks_X0_words rfl rfl rfl (by decide +kernel) ⟨(by show _ ≤ _; first | exact Nat.le_of_ble_eq_true rfl | (simp [headSpec, rm_X2_readMarks]; omega) | omega), (by show _ ≤ _; first | exact Nat.le_of_ble_eq_true rfl | (simp [headSpec, rm_X2_readMarks]; omega) | omega)⟩) dC_1 rfl rfl hl.1 rfl (Nat.le_of_ble_eq_true rfl) dX2_readMarks_20 (fun H locs hP hS => ?_)
  refine lv_iconst (v := (3 : Int32)) hx hb dX2_readMarks_23 (by decide) ?_
  refine lv_icmp_ne (tgt := 44) hx hb dX2_readMarks_24 (by decide) (fun c_19 => ?_) (fun c_19 => ?_)
  · have hF := if_e c_19 hF
    refine lv_iconst (v := (-1 : Int32)) hx hb dX2_readMarks_44 (by decide) ?_
    cases hF
    exact wd_reti X hP hS rfl rfl dX2_readMarks_45
  · have hF := if_t c_19 hF
    refine lv_iload_n hx hb dX2_readMarks_27 rfl (lv_at hl 0 rfl) ?_
    refine lv_iconst (v := (-1 : Int32)) hx hb dX2_readMarks_28 (by decide) ?_
    refine lv_icmp_eq (tgt := 44) hx hb dX2_readMarks_29 (by decide) (fun c_18 => ?_) (fun c_18 => ?_)
    · have hF := if_t c_18 hF
      refine lv_iconst (v := (-1 : Int32)) hx hb dX2_readMarks_44 (by decide) ?_
      cases hF
      exact wd_reti X hP hS rfl rfl dX2_readMarks_45
    · have hF := if_e c_18 hF
      refine lv_aload_n hx hb dX2_readMarks_32 rfl (lv_at hl 1 rfl) ?_
      refine wd_getr (q := 1) X hP 29 dC_29 rfl in_X2_readMarks_X2 0 rfl (by decide) (by decide +kernel) dX2_readMarks_33 ?_
      refine lv_iconst (v := (2 : Int32)) hx hb dX2_readMarks_36 (by decide) ?_
      refine lv_iconst (v := (3 : Int32)) hx hb dX2_readMarks_37 (by decide) ?_
      obtain ⟨r_7, hc_8, hF⟩ := bd_c hF
      refine wd_calli X hP hS [.int (2 : Int32), .int (3 : Int32)] [] (c_X0_isLetters l D cA ad X.2.2.2.2   (2 : Int32) (3 : Int32) M hc_8) (cwV 2 hts gX2_readMarks_X0_isLetters rfl rfl rfl (by decide +kernel) ⟨(by show _ ≤ _; first | exact Nat.le_of_ble_eq_true rfl | (simp [headSpec, rm_X2_readMarks]; omega) | omega), (by show _ ≤ _; first | exact Nat.le_of_ble_eq_true rfl | (simp [headSpec, rm_X2_readMarks]; omega) | omega)⟩) dC_1 rfl rfl hl.1 rfl (Nat.le_of_ble_eq_true rfl) dX2_readMarks_38 (fun H locs hP hS => ?_)
      refine lv_if_ne (tgt := 46) hx hb dX2_readMarks_41 (by decide) (fun c_17 => ?_) (fun c_17 => ?_)
      · have hF := if_e c_17 hF
        refine lv_aload_n hx hb dX2_readMarks_46 rfl (lv_at hl 2 rfl) ?_
        refine lv_iload_n hx hb dX2_readMarks_47 rfl (lv_at hl 0 rfl) ?_
        refine lv_aload_n hx hb dX2_readMarks_48 rfl (lv_at hl 1 rfl) ?_
        refine wd_getr (q := 1) X hP 29 dC_29 rfl in_X2_readMarks_X2 0 rfl (by decide) (by decide +kernel) dX2_readMarks_49 ?_
        refine lv_iconst (v := (2 : Int32)) hx hb dX2_readMarks_52 (by decide) ?_
        obtain ⟨r_9, hc_10, hF⟩ := bd_c hF
        refine wd_calli X hP hS [.int (2 : Int32)] [.int r_3, .ref (ad o1)] (c_X0_sizeOf l D cA ad X.2.2.2.2   (2 : Int32) M hc_10) (cwV 1 hts gX2_readMarks_X0_sizeOf rfl rfl rfl (by decide +kernel) ⟨(by show _ ≤ _; first | exact Nat.le_of_ble_eq_true rfl | (simp [headSpec, rm_X2_readMarks]; omega) | omega), (by show _ ≤ _; first | exact Nat.le_of_ble_eq_true rfl | (simp [headSpec, rm_X2_readMarks]; omega) | omega)⟩) dC_1 rfl rfl hl.1 rfl (Nat.le_of_ble_eq_true rfl) dX2_readMarks_53 (fun H locs hP hS => ?_)
        obtain ⟨r_11, hc_12, hF⟩ := bd_c hF
        refine wd_calli X hP hS [.int r_3, .int r_9] [] (c_X1_hasRoom l D cA ad X.2.2.2.2 o1 ho1 r_3 r_9 M hc_12) (cwV 2 hts gX2_readMarks_X1_hasRoom rfl rfl rfl (by decide +kernel) ⟨(by show _ ≤ _; first | exact Nat.le_of_ble_eq_true rfl | (simp [headSpec, rm_X2_readMarks]; omega) | omega), (by show _ ≤ _; first | exact Nat.le_of_ble_eq_true rfl | (simp [headSpec, rm_X2_readMarks]; omega) | omega)⟩) ho1.1 rfl rfl hl.1 rfl (Nat.le_of_ble_eq_true rfl) dX2_readMarks_56 (fun H locs hP hS => ?_)
        refine lv_if_ne (tgt := 65) hx hb dX2_readMarks_59 (by decide) (fun c_16 => ?_) (fun c_16 => ?_)
        · have hF := if_e c_16 hF
          refine lv_aload_n hx hb dX2_readMarks_65 rfl (lv_at hl 1 rfl) ?_
          refine lv_aload_n hx hb dX2_readMarks_66 rfl (lv_at hl 2 rfl) ?_
          refine lv_iload_n hx hb dX2_readMarks_67 rfl (lv_at hl 0 rfl) ?_
          refine lv_iconst (v := (2 : Int32)) hx hb dX2_readMarks_68 (by decide) ?_
          obtain ⟨M_15, hc_14, hF⟩ := bd_c hF
          refine wd_callv X hP hS [.ref (ad o1), .int r_3, .int (2 : Int32)] [] (c_X2_addMarks l D cA ad X.2.2.2.2 o1 ho1 r_3 (2 : Int32) M hc_14) (cwV 3 hts gX2_readMarks_X2_addMarks rfl rfl rfl (by decide +kernel) ⟨(by show _ ≤ _; first | exact Nat.le_of_ble_eq_true rfl | (simp [headSpec, rm_X2_readMarks]; omega) | omega), (by show _ ≤ _; first | exact Nat.le_of_ble_eq_true rfl | (simp [headSpec, rm_X2_readMarks]; omega) | omega)⟩) dC_29 rfl rfl hl.1 rfl (Nat.le_of_ble_eq_true rfl) dX2_readMarks_69 (fun H locs hP hS => ?_)
          refine lv_iconst (v := (2 : Int32)) hx hb dX2_readMarks_72 (by decide) ?_
          cases hF
          exact wd_reti X hP hS rfl rfl dX2_readMarks_73
        · have hF := if_t c_16 hF
          refine lv_bipush (v := (-2 : Int32)) hx hb dX2_readMarks_62 (by decide) ?_
          cases hF
          exact wd_reti X hP hS rfl rfl dX2_readMarks_64
      · have hF := if_t c_17 hF
        refine lv_iconst (v := (-1 : Int32)) hx hb dX2_readMarks_44 (by decide) ?_
        cases hF
        exact wd_reti X hP hS rfl rfl dX2_readMarks_45
