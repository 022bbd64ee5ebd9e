/-! X0_says (ILjava/lang/String;)Z -/
set_option maxHeartbeats 4000000 in
set_option maxRecDepth 100000 in
theorem wb_X0_says_16 {p : Program} {l : Launch} {e : Env} {s : State} {m : MethodId} {args : Array Value} {below : List Frame} {meth : Method} {c : Code} {D : va_G} {cA : Nat → ClassId} {ad : Nat → Nat} (X : wd_X p s m args meth c cX0_says 4 wsX0_says RX0 (some .boolean) D cA ad dsC.length) {kh16 : Int32 → Int32 → Option Int32} {si : Nat} {adK adV : Nat → Nat} {M : Mem} {r : Int32} (hk16 : ∀ (x1 : Int32) (x3 : Int32) (H : Heap) (locs : List Loc) (ls : Array Slot), kh16 x1 x3 = some r → wd_P D cA ad dsC M H → va_S (wd_A ad dsC.length) s.heap H locs → lv_has ls 4 [(0, .ref (ad 1)), (1, .int x1), (2, .ref (adK si)), (3, .int x3)] → W p l e (headSpec wsX0_says rm_X0_says).room s m args below meth c H locs 0 0 (MQ below (wm_Qi D cA ad dsC r M) args s 0 0 (wd_A ad dsC.length)) (F0 m 16 ls [])) (hsi : si < 12) (hW : SW adK adV (wd_A ad dsC.length) s s.heap) (x1 : Int32) (x3 : Int32) (H : Heap) (locs : List Loc) (ls : Array Slot) (hF : B_X0_says_16 kh16 si M x1 x3 = some r) (hP : wd_P D cA ad dsC M H) (hS : va_S (wd_A ad dsC.length) s.heap H locs) (hl : lv_has ls 4 [(0, .ref (ad 1)), (1, .int x1), (2, .ref (adK si)), (3, .int x3)]) : W p l e (headSpec wsX0_says rm_X0_says).room s m args below meth c H locs 0 0 (MQ below (wm_Qi D cA ad dsC r M) args s 0 0 (wd_A ad dsC.length)) (F0 m 16 ls []) := by
  have hx := X.1.1
  have hb := X.1.2.1
  have hts := X.1.2.2.2.2
  unfold B_X0_says_16 at hF
  refine lv_iload_n hx hb dX0_says_16 rfl (lv_at hl 3 rfl) ?_
  refine lv_aload_n hx hb dX0_says_17 rfl (lv_at hl 2 rfl) ?_
  refine wd_slen X hP hS hW hsi [.int x3] (cwV 0 hts gX0_says_J0_length_8abf5 rfl rfl rfl (by decide +kernel) ⟨(by show _ ≤ _; first | exact Nat.le_of_ble_eq_true rfl | (simp [headSpec, rm_X0_says]; omega) | omega), (by show _ ≤ _; first | exact Nat.le_of_ble_eq_true rfl | (simp [headSpec, rm_X0_says]; omega) | omega)⟩) hl.1 (Nat.le_of_ble_eq_true rfl) dX0_says_18 (fun H locs hP hS => ?_)
  refine lv_icmp_ge (tgt := 46) hx hb dX0_says_21 (by decide) (fun c_7 => ?_) (fun c_7 => ?_)
  · have hF := if_t c_7 hF
    refine lv_iconst (v := (1 : Int32)) hx hb dX0_says_46 (by decide) ?_
    cases hF
    exact wd_reti X hP hS rfl (by decide) dX0_says_47
  · have hF := if_e c_7 hF
    refine lv_aload_n hx hb dX0_says_24 rfl (lv_at hl 0 rfl) ?_
    refine lv_iload_n hx hb dX0_says_25 rfl (lv_at hl 1 rfl) ?_
    refine lv_iload_n hx hb dX0_says_26 rfl (lv_at hl 3 rfl) ?_
    obtain ⟨r_1, hc_2, hF⟩ := bd_c hF
    refine wd_calli X hP hS [.int x1, .int x3] [] (c_X0_letterAt l D cA ad X.2.2.2.2   x1 x3 M hc_2) (cwV 2 hts gX0_says_X0_letterAt rfl rfl rfl (by decide +kernel) ⟨(by show _ ≤ _; first | exact Nat.le_of_ble_eq_true rfl | (simp [headSpec, rm_X0_says]; omega) | omega), (by show _ ≤ _; first | exact Nat.le_of_ble_eq_true rfl | (simp [headSpec, rm_X0_says]; omega) | omega)⟩) dC_1 rfl rfl hl.1 rfl (Nat.le_of_ble_eq_true rfl) dX0_says_27 (fun H locs hP hS => ?_)
    refine lv_aload_n hx hb dX0_says_30 rfl (lv_at hl 2 rfl) ?_
    refine lv_iload_n hx hb dX0_says_31 rfl (lv_at hl 3 rfl) ?_
    obtain ⟨h_3, hF⟩ := gi_c hF
    refine wd_schar X hP hS hW hsi h_3 [.int r_1] (cwV 1 hts gX0_says_J0_charAt_5068e rfl rfl rfl (by decide +kernel) ⟨(by show _ ≤ _; first | exact Nat.le_of_ble_eq_true rfl | (simp [headSpec, rm_X0_says]; omega) | omega), (by show _ ≤ _; first | exact Nat.le_of_ble_eq_true rfl | (simp [headSpec, rm_X0_says]; omega) | omega)⟩) hl.1 (Nat.le_of_ble_eq_true rfl) dX0_says_32 (fun H locs hP hS => ?_)
    refine lv_icmp_eq (tgt := 40) hx hb dX0_says_35 (by decide) (fun c_6 => ?_) (fun c_6 => ?_)
    · have hF := if_t c_6 hF
      obtain ⟨x3_4, e_5, hF⟩ := nm_c hF
      refine lv_iinc (v := x3_4) (lv' := [(3, .int x3_4), (0, .ref (ad 1)), (1, .int x1), (2, .ref (adK si))]) hx hb dX0_says_40 hl (k := 3) rfl (by rw [e_5]; rfl) (by decide) rfl (fun ls hl => ?_)
      refine lv_goto (tgt := 16) hx hb dX0_says_43 (by decide) ?_
      exact hk16 x1 x3_4 _ _ _ hF hP hS (lv_sub hl [1, 2, 3, 0] rfl)
    · have hF := if_e c_6 hF
      refine lv_iconst (v := (0 : Int32)) hx hb dX0_says_38 (by decide) ?_
      cases hF
      exact wd_reti X hP hS rfl (by decide) dX0_says_39
set_option maxHeartbeats 4000000 in
set_option maxRecDepth 100000 in
theorem wh_X0_says_16 {p : Program} {l : Launch} {e : Env} {s : State} {m : MethodId} {args : Array Value} {below : List Frame} {meth : Method} {c : Code} {D : va_G} {cA : Nat → ClassId} {ad : Nat → Nat} (X : wd_X p s m args meth c cX0_says 4 wsX0_says RX0 (some .boolean) D cA ad dsC.length) {si : Nat} {adK adV : Nat → Nat} {M : Mem} {r : Int32} (hsi : si < 12) (hW : SW adK adV (wd_A ad dsC.length) s s.heap) : ∀ (n : Nat) (x1 : Int32) (x3 : Int32) (H : Heap) (locs : List Loc) (ls : Array Slot), H_X0_says_16 si M n x1 x3 = some r → wd_P D cA ad dsC M H → va_S (wd_A ad dsC.length) s.heap H locs → lv_has ls 4 [(0, .ref (ad 1)), (1, .int x1), (2, .ref (adK si)), (3, .int x3)] → W p l e (headSpec wsX0_says rm_X0_says).room s m args below meth c H locs 0 0 (MQ below (wm_Qi D cA ad dsC r M) args s 0 0 (wd_A ad dsC.length)) (F0 m 16 ls []) := by
  intro n
  induction n with
  | zero => intro x1 x3 H locs ls hF; cases hF
  | succ n ih => intro x1 x3 H locs ls hF hP hS hl; exact wb_X0_says_16 X (kh16 := H_X0_says_16 si M n) ih hsi hW x1 x3 H locs ls hF hP hS hl
set_option maxHeartbeats 4000000 in
set_option maxRecDepth 100000 in
theorem c_X0_says (l : Launch) (D : va_G) (cA : Nat → ClassId) (ad : Nat → Nat) (hj : wd_inj ad dsC.length) (adK adV : Nat → Nat) (si : Nat) (hsi : si < 12) (x1 : Int32) (M : Mem) {r : Int32} (hF : F_X0_says si x1 M = some r) : wms_i adK adV l yX0_says wsX0_says rm_X0_says D cA ad dsC M [.ref (ad 1), .int x1, .ref (adK si)] r M := by
  refine Met.ofW (cc := cX0_says) (maxL := 4) (ret := (some .boolean)) (by decide) rfl ?_
  intro p e s m args below meth c s₁ B hml hv
  obtain ⟨rfl, hP, hK, hW⟩ := hv
  have X : wd_X p s m _ meth c cX0_says 4 wsX0_says RX0 (some .boolean) D cA ad dsC.length := ⟨⟨B.exec, B.bytes, hml, findClass_of_methodNamed B.named, atoms_spec (ws := wsX0_says) B.pre⟩, hK, B.notSynchronized, B.returns, hj⟩
  have hl := lv_entry ([.ref (ad 1), .int x1, .ref (adK si)]) (n := 4) (Nat.le_of_ble_eq_true rfl)
  rw [lg_entry_eq]
  generalize (lg_sl ([.ref (ad 1), .int x1, .ref (adK si)]) ++ List.replicate (4 - (lg_sl ([.ref (ad 1), .int x1, .ref (adK si)])).length) Slot.unset).toArray = ls at hl ⊢
  have hl : lv_has ls 4 [(0, .ref (ad 1)), (1, .int x1), (2, .ref (adK si))] := hl
  have hS : va_S (wd_A ad dsC.length) s.heap s.heap [] := va_S.rf
  have hx := X.1.1
  have hb := X.1.2.1
  have hts := X.1.2.2.2.2
  unfold F_X0_says at hF
  refine lv_aload_n hx hb dX0_says_0 rfl (lv_at hl 0 rfl) ?_
  refine lv_iload_n hx hb dX0_says_1 rfl (lv_at hl 1 rfl) ?_
  obtain ⟨r_1, hc_2, hF⟩ := bd_c hF
  refine wd_calli X hP hS [.int x1] [] (c_X0_sizeOf l D cA ad X.2.2.2.2   x1 M hc_2) (cwV 1 hts gX0_says_X0_sizeOf rfl rfl rfl (by decide +kernel) ⟨(by show _ ≤ _; first | exact Nat.le_of_ble_eq_true rfl | (simp [headSpec, rm_X0_says]; omega) | omega), (by show _ ≤ _; first | exact Nat.le_of_ble_eq_true rfl | (simp [headSpec, rm_X0_says]; omega) | omega)⟩) dC_1 rfl rfl hl.1 rfl (Nat.le_of_ble_eq_true rfl) dX0_says_2 (fun H locs hP hS => ?_)
  refine lv_aload_n hx hb dX0_says_5 rfl (lv_at hl 2 rfl) ?_
  refine wd_slen X hP hS hW hsi [.int r_1] (cwV 0 hts gX0_says_J0_length_8abf5 rfl rfl rfl (by decide +kernel) ⟨(by show _ ≤ _; first | exact Nat.le_of_ble_eq_true rfl | (simp [headSpec, rm_X0_says]; omega) | omega), (by show _ ≤ _; first | exact Nat.le_of_ble_eq_true rfl | (simp [headSpec, rm_X0_says]; omega) | omega)⟩) hl.1 (Nat.le_of_ble_eq_true rfl) dX0_says_6 (fun H locs hP hS => ?_)
  refine lv_icmp_eq (tgt := 14) hx hb dX0_says_9 (by decide) (fun c_3 => ?_) (fun c_3 => ?_)
  · have hF := if_t c_3 hF
    refine lv_iconst (v := (0 : Int32)) hx hb dX0_says_14 (by decide) ?_
    refine lv_istore_n (lv' := [(3, .int (0 : Int32)), (0, .ref (ad 1)), (1, .int x1), (2, .ref (adK si))]) hx hb dX0_says_15 rfl hl (by decide) rfl (fun ls hl => ?_)
    exact wh_X0_says_16 X   hsi hW 100 x1 (0 : Int32) _ _ _ hF hP hS (lv_sub hl [1, 2, 3, 0] rfl)
  · have hF := if_e c_3 hF
    refine lv_iconst (v := (0 : Int32)) hx hb dX0_says_12 (by decide) ?_
    cases hF
    exact wd_reti X hP hS rfl (by decide) dX0_says_13
/-! X2_readState ()I -/
theorem in_X2_readState_X2 : ∀ w ∈ u_ws RX2 TX2 3, w ∈ wsX2_readState := by decide +kernel
set_option maxHeartbeats 4000000 in
set_option maxRecDepth 100000 in
theorem wb_X2_readState_42 {p : Program} {l : Launch} {e : Env} {s : State} {m : MethodId} {args : Array Value} {below : List Frame} {meth : Method} {c : Code} {D : va_G} {cA : Nat → ClassId} {ad : Nat → Nat} (X : wd_X p s m args meth c cX2_readState 5 wsX2_readState RX2 (some .int) D cA ad dsC.length) {adK adV : Nat → Nat} {r : Int32} {M' : Mem} (hW : SW adK adV (wd_A ad dsC.length) s s.heap) (x1 : Int32) (x2 : Int32) (t0 : Int32) (t1 : Int32) (M : Mem) (H : Heap) (locs : List Loc) (ls : Array Slot) (hF : B_X2_readState_42  x1 x2 t0 t1 M = some (r, M')) (hP : wd_P D cA ad dsC M H) (hS : va_S (wd_A ad dsC.length) s.heap H locs) (hl : lv_has ls 5 [(0, .ref (ad 29)), (1, .int x1), (2, .int x2)]) : W p l e (headSpec wsX2_readState rm_X2_readState).room s m args below meth c H locs 0 0 (MQ below (wm_Qi D cA ad dsC r M') args s 0 0 (wd_A ad dsC.length)) (F0 m 42 ls [.int t0, .int t1]) := by
  have hx := X.1.1
  have hb := X.1.2.1
  have hts := X.1.2.2.2.2
  unfold B_X2_readState_42 at hF
  refine lv_icmp_ne (tgt := 58) hx hb dX2_readState_42 (by decide) (fun c_24 => ?_) (fun c_24 => ?_)
  · have hF := if_e c_24 hF
    refine lv_iconst (v := (-1 : Int32)) hx hb dX2_readState_58 (by decide) ?_
    cases hF
    exact wd_reti X hP hS rfl rfl dX2_readState_59
  · have hF := if_t c_24 hF
    refine lv_aload_n hx hb dX2_readState_45 rfl (lv_at hl 0 rfl) ?_
    refine wd_getr (q := 1) X hP 29 dC_29 rfl in_X2_readState_X2 0 rfl (by decide) (by decide +kernel) dX2_readState_46 ?_
    refine lv_iconst (v := (2 : Int32)) hx hb dX2_readState_49 (by decide) ?_
    refine va_ldcS hx hb X.1.2.2.2.1 (hW.2.1 3 (by decide)) dX2_readState_50 ?_
    obtain ⟨r_1, hc_2, hF⟩ := bd_c hF
    refine wd_callis X hP hS hW [.int (2 : Int32), .ref (adK 3)] [] (c_X0_says l D cA ad X.2.2.2.2 adK adV 3 (by decide) (2 : Int32) M hc_2) (cwV 2 hts gX2_readState_X0_says rfl rfl rfl (by decide +kernel) ⟨(by show _ ≤ _; first | exact Nat.le_of_ble_eq_true rfl | (simp [headSpec, rm_X2_readState]; omega) | omega), (by show _ ≤ _; first | exact Nat.le_of_ble_eq_true rfl | (simp [headSpec, rm_X2_readState]; omega) | omega)⟩) dC_1 rfl rfl hl.1 rfl (Nat.le_of_ble_eq_true rfl) dX2_readState_52 (fun H locs hP hS => ?_)
    refine lv_if_ne (tgt := 60) hx hb dX2_readState_55 (by decide) (fun c_23 => ?_) (fun c_23 => ?_)
    · have hF := if_e c_23 hF
      refine lv_aload_n hx hb dX2_readState_60 rfl (lv_at hl 0 rfl) ?_
      refine wd_getr (q := 1) X hP 29 dC_29 rfl in_X2_readState_X2 0 rfl (by decide) (by decide +kernel) dX2_readState_61 ?_
      refine lv_iconst (v := (1 : Int32)) hx hb dX2_readState_64 (by decide) ?_
      obtain ⟨r_3, hc_4, hF⟩ := bd_c hF
      refine wd_calli X hP hS [.int (1 : Int32)] [] (c_X0_nameAt l D cA ad X.2.2.2.2   (1 : Int32) M hc_4) (cwV 1 hts gX2_readState_X0_nameAt rfl rfl rfl (by decide +kernel) ⟨(by show _ ≤ _; first | exact Nat.le_of_ble_eq_true rfl | (simp [headSpec, rm_X2_readState]; omega) | omega), (by show _ ≤ _; first | exact Nat.le_of_ble_eq_true rfl | (simp [headSpec, rm_X2_readState]; omega) | omega)⟩) dC_1 rfl rfl hl.1 rfl (Nat.le_of_ble_eq_true rfl) dX2_readState_65 (fun H locs hP hS => ?_)
      refine lv_istore_n (lv' := [(3, .int r_3), (0, .ref (ad 29)), (1, .int x1), (2, .int x2)]) hx hb dX2_readState_68 rfl hl (by decide) rfl (fun ls hl => ?_)
      refine lv_aload_n hx hb dX2_readState_69 rfl (lv_at hl 1 rfl) ?_
      refine wd_getr (q := 5) X hP 29 dC_29 rfl in_X2_readState_X2 1 rfl (by decide) (by decide +kernel) dX2_readState_70 ?_
      refine lv_aload_n hx hb dX2_readState_73 rfl (lv_at hl 1 rfl) ?_
      refine wd_getr (q := 1) X hP 29 dC_29 rfl in_X2_readState_X2 0 rfl (by decide) (by decide +kernel) dX2_readState_74 ?_
      refine lv_iconst (v := (3 : Int32)) hx hb dX2_readState_77 (by decide) ?_
      obtain ⟨r_5, hc_6, hF⟩ := bd_c hF
      refine wd_calli X hP hS [.int (3 : Int32)] [.ref (ad 5)] (c_X0_nameAt l D cA ad X.2.2.2.2   (3 : Int32) M hc_6) (cwV 1 hts gX2_readState_X0_nameAt rfl rfl rfl (by decide +kernel) ⟨(by show _ ≤ _; first | exact Nat.le_of_ble_eq_true rfl | (simp [headSpec, rm_X2_readState]; omega) | omega), (by show _ ≤ _; first | exact Nat.le_of_ble_eq_true rfl | (simp [headSpec, rm_X2_readState]; omega) | omega)⟩) dC_1 rfl rfl hl.1 rfl (Nat.le_of_ble_eq_true rfl) dX2_readState_78 (fun H locs hP hS => ?_)
      obtain ⟨r_7, hc_8, hF⟩ := bd_c hF
      refine wd_calli X hP hS [.int r_5] [] (c_X4_find l D cA ad X.2.2.2.2   r_5 M hc_8) (cwV 1 hts gX2_readState_X4_find rfl rfl rfl (by decide +kernel) ⟨(by show _ ≤ _; first | exact Nat.le_of_ble_eq_true rfl | (simp [headSpec, rm_X2_readState]; omega) | omega), (by show _ ≤ _; first | exact Nat.le_of_ble_eq_true rfl | (simp [headSpec, rm_X2_readState]; omega) | omega)⟩) dC_5 rfl rfl hl.1 rfl (Nat.le_of_ble_eq_true rfl) dX2_readState_81 (fun H locs hP hS => ?_)
      refine lv_istore (lv' := [(4, .int r_7), (3, .int r_3), (0, .ref (ad 29)), (1, .int x1), (2, .int x2)]) hx hb dX2_readState_84 hl (by decide) rfl (fun ls hl => ?_)
      refine lv_iload_n hx hb dX2_readState_86 rfl (lv_at hl 1 rfl) ?_
      refine lv_iconst (v := (-1 : Int32)) hx hb dX2_readState_87 (by decide) ?_
      refine lv_icmp_eq (tgt := 103) hx hb dX2_readState_88 (by decide) (fun c_22 => ?_) (fun c_22 => ?_)
      · have hF := if_t c_22 hF
        refine lv_iconst (v := (-1 : Int32)) hx hb dX2_readState_103 (by decide) ?_
        cases hF
        exact wd_reti X hP hS rfl rfl dX2_readState_104
      · have hF := if_e c_22 hF
        refine lv_aload_n hx hb dX2_readState_91 rfl (lv_at hl 2 rfl) ?_
        refine wd_getr (q := 5) X hP 29 dC_29 rfl in_X2_readState_X2 1 rfl (by decide) (by decide +kernel) dX2_readState_92 ?_
        refine lv_iload_n hx hb dX2_readState_95 rfl (lv_at hl 1 rfl) ?_
        obtain ⟨r_9, hc_10, hF⟩ := bd_c hF
        refine wd_calli X hP hS [.int r_3] [] (c_X4_find l D cA ad X.2.2.2.2   r_3 M hc_10) (cwV 1 hts gX2_readState_X4_find rfl rfl rfl (by decide +kernel) ⟨(by show _ ≤ _; first | exact Nat.le_of_ble_eq_true rfl | (simp [headSpec, rm_X2_readState]; omega) | omega), (by show _ ≤ _; first | exact Nat.le_of_ble_eq_true rfl | (simp [headSpec, rm_X2_readState]; omega) | omega)⟩) dC_5 rfl rfl hl.1 rfl (Nat.le_of_ble_eq_true rfl) dX2_readState_96 (fun H locs hP hS => ?_)
        refine lv_iconst (v := (-1 : Int32)) hx hb dX2_readState_99 (by decide) ?_
        refine lv_icmp_eq (tgt := 105) hx hb dX2_readState_100 (by decide) (fun c_21 => ?_) (fun c_21 => ?_)
        · have hF := if_t c_21 hF
          refine lv_iload hx hb dX2_readState_105 (lv_at hl 0 rfl) ?_
          refine lv_iconst (v := (-1 : Int32)) hx hb dX2_readState_107 (by decide) ?_
          refine lv_icmp_eq (tgt := 125) hx hb dX2_readState_108 (by decide) (fun c_20 => ?_) (fun c_20 => ?_)
          · have hF := if_t c_20 hF
            refine lv_iconst (v := (-1 : Int32)) hx hb dX2_readState_125 (by decide) ?_
            cases hF
            exact wd_reti X hP hS rfl rfl dX2_readState_126
          · have hF := if_e c_20 hF
            refine lv_aload_n hx hb dX2_readState_111 rfl (lv_at hl 2 rfl) ?_
            refine wd_getr (q := 5) X hP 29 dC_29 rfl in_X2_readState_X2 1 rfl (by decide) (by decide +kernel) dX2_readState_112 ?_
            refine lv_iload hx hb dX2_readState_115 (lv_at hl 0 rfl) ?_
            obtain ⟨r_11, hc_12, hF⟩ := bd_c hF
            refine wd_calli X hP hS [.int r_7] [] (c_X4_depthOf l D cA ad X.2.2.2.2   r_7 M hc_12) (cwV 1 hts gX2_readState_X4_depthOf rfl rfl rfl (by decide +kernel) ⟨(by show _ ≤ _; first | exact Nat.le_of_ble_eq_true rfl | (simp [headSpec, rm_X2_readState]; omega) | omega), (by show _ ≤ _; first | exact Nat.le_of_ble_eq_true rfl | (simp [headSpec, rm_X2_readState]; omega) | omega)⟩) dC_5 rfl rfl hl.1 rfl (Nat.le_of_ble_eq_true rfl) dX2_readState_117 (fun H locs hP hS => ?_)
            refine lv_bipush (v := (6 : Int32)) hx hb dX2_readState_120 (by decide) ?_
            refine lv_icmp_lt (tgt := 127) hx hb dX2_readState_122 (by decide) (fun c_19 => ?_) (fun c_19 => ?_)
            · have hF := if_t c_19 hF
              refine lv_aload_n hx hb dX2_readState_127 rfl (lv_at hl 2 rfl) ?_
              refine wd_getr (q := 5) X hP 29 dC_29 rfl in_X2_readState_X2 1 rfl (by decide) (by decide +kernel) dX2_readState_128 ?_
              obtain ⟨r_13, hc_14, hF⟩ := bd_c hF
              refine wd_calli X hP hS [] [] (c_X4_isFull l D cA ad X.2.2.2.2    M hc_14) (cwV 0 hts gX2_readState_X4_isFull rfl rfl rfl (by decide +kernel) ⟨(by show _ ≤ _; first | exact Nat.le_of_ble_eq_true rfl | (simp [headSpec, rm_X2_readState]; omega) | omega), (by show _ ≤ _; first | exact Nat.le_of_ble_eq_true rfl | (simp [headSpec, rm_X2_readState]; omega) | omega)⟩) dC_5 rfl rfl hl.1 rfl (Nat.le_of_ble_eq_true rfl) dX2_readState_131 (fun H locs hP hS => ?_)
              refine lv_if_eq (tgt := 140) hx hb dX2_readState_134 (by decide) (fun c_18 => ?_) (fun c_18 => ?_)
              · have hF := if_t c_18 hF
                refine lv_aload_n hx hb dX2_readState_140 rfl (lv_at hl 2 rfl) ?_
                refine wd_getr (q := 5) X hP 29 dC_29 rfl in_X2_readState_X2 1 rfl (by decide) (by decide +kernel) dX2_readState_141 ?_
                refine lv_iload_n hx hb dX2_readState_144 rfl (lv_at hl 1 rfl) ?_
                refine lv_iload hx hb dX2_readState_145 (lv_at hl 0 rfl) ?_
                refine lv_iload_n hx hb dX2_readState_147 rfl (lv_at hl 3 rfl) ?_
                refine lv_iload_n hx hb dX2_readState_148 rfl (lv_at hl 4 rfl) ?_
                obtain ⟨M_17, hc_16, hF⟩ := bd_c hF
                refine wd_callv X hP hS [.int r_3, .int r_7, .int x1, .int x2] [] (c_X4_make l D cA ad X.2.2.2.2   r_3 r_7 x1 x2 M hc_16) (cwV 4 hts gX2_readState_X4_make rfl rfl rfl (by decide +kernel) ⟨(by show _ ≤ _; first | exact Nat.le_of_ble_eq_true rfl | (simp [headSpec, rm_X2_readState]; omega) | omega), (by show _ ≤ _; first | exact Nat.le_of_ble_eq_true rfl | (simp [headSpec, rm_X2_readState]; omega) | omega)⟩) dC_5 rfl rfl hl.1 rfl (Nat.le_of_ble_eq_true rfl) dX2_readState_149 (fun H locs hP hS => ?_)
                refine lv_iconst (v := (1 : Int32)) hx hb dX2_readState_152 (by decide) ?_
                cases hF
                exact wd_reti X hP hS rfl rfl dX2_readState_153
              · have hF := if_e c_18 hF
                refine lv_bipush (v := (-2 : Int32)) hx hb dX2_readState_137 (by decide) ?_
                cases hF
                exact wd_reti X hP hS rfl rfl dX2_readState_139
            · have hF := if_e c_19 hF
              refine lv_iconst (v := (-1 : Int32)) hx hb dX2_readState_125 (by decide) ?_
              cases hF
              exact wd_reti X hP hS rfl rfl dX2_readState_126
        · have hF := if_e c_21 hF
          refine lv_iconst (v := (-1 : Int32)) hx hb dX2_readState_103 (by decide) ?_
          cases hF
          exact wd_reti X hP hS rfl rfl dX2_readState_104
    · have hF := if_t c_23 hF
      refine lv_iconst (v := (-1 : Int32)) hx hb dX2_readState_58 (by decide) ?_
      cases hF
      exact wd_reti X hP hS rfl rfl dX2_readState_59
set_option maxHeartbeats 4000000 in
set_option maxRecDepth 100000 in
theorem wb_X2_readState_37 {p : Program} {l : Launch} {e : Env} {s : State} {m : MethodId} {args : Array Value} {below : List Frame} {meth : Method} {c : Code} {D : va_G} {cA : Nat → ClassId} {ad : Nat → Nat} (X : wd_X p s m args meth c cX2_readState 5 wsX2_readState RX2 (some .int) D cA ad dsC.length) {adK adV : Nat → Nat} {r : Int32} {M' : Mem} (hW : SW adK adV (wd_A ad dsC.length) s s.heap) (x1 : Int32) (x2 : Int32) (t0 : Int32) (M : Mem) (H : Heap) (locs : List Loc) (ls : Array Slot) (hF : B_X2_readState_37  x1 x2 t0 M = some (r, M')) (hP : wd_P D cA ad dsC M H) (hS : va_S (wd_A ad dsC.length) s.heap H locs) (hl : lv_has ls 5 [(0, .ref (ad 29)), (1, .int x1), (2, .int x2)]) : W p l e (headSpec wsX2_readState rm_X2_readState).room s m args below meth c H locs 0 0 (MQ below (wm_Qi D cA ad dsC r M') args s 0 0 (wd_A ad dsC.length)) (F0 m 37 ls [.int t0]) := by
  have hx := X.1.1
  have hb := X.1.2.1
  have hts := X.1.2.2.2.2
  unfold B_X2_readState_37 at hF
  refine lv_iconst (v := (5 : Int32)) hx hb dX2_readState_37 (by decide) ?_
  refine lv_goto (tgt := 42) hx hb dX2_readState_38 (by decide) ?_
  exact wb_X2_readState_42 X   hW x1 x2 (5 : Int32) t0 M _ _ _ hF hP hS (lv_sub hl [0, 1, 2] rfl)
set_option maxHeartbeats 4000000 in
set_option maxRecDepth 100000 in
theorem c_X2_readState (l : Launch) (D : va_G) (cA : Nat → ClassId) (ad : Nat → Nat) (hj : wd_inj ad dsC.length) (adK adV : Nat → Nat)    (M : Mem) {r : Int32} {M' : Mem} (hF : F_X2_readState M = some (r, M')) : wms_i adK adV l yX2_readState wsX2_readState rm_X2_readState D cA ad dsC M [.ref (ad 29)] r M' := by
  refine Met.ofW (cc := cX2_readState) (maxL := 5) (ret := (some .int)) (by decide) rfl ?_
  intro p e s m args below meth c s₁ B hml hv
  obtain ⟨rfl, hP, hK, hW⟩ := hv
  have X : wd_X p s m _ meth c cX2_readState 5 wsX2_readState RX2 (some .int) D cA ad dsC.length := ⟨⟨B.exec, B.bytes, hml, findClass_of_methodNamed B.named, atoms_spec (ws := wsX2_readState) B.pre⟩, hK, B.notSynchronized, B.returns, hj⟩
  have hl := lv_entry ([.ref (ad 29)]) (n := 5) (Nat.le_of_ble_eq_true rfl)
  rw [lg_entry_eq]
  generalize (lg_sl ([.ref (ad 29)]) ++ List.replicate (5 - (lg_sl ([.ref (ad 29)])).length) Slot.unset).toArray = ls at hl ⊢
  have hl : lv_has ls 5 [(0, .ref (ad 29))] := hl
  have hS : va_S (wd_A ad dsC.length) s.heap s.heap [] := va_S.rf
  have hx := X.1.1
  have hb := X.1.2.1
  have hts := X.1.2.2.2.2
  unfold F_X2_readState at hF
  refine lv_aload_n hx hb dX2_readState_0 rfl (lv_at hl 0 rfl) ?_
  refine wd_getr (q := 1) X hP 29 dC_29 rfl in_X2_readState_X2 0 rfl (by decide) (by decide +kernel) dX2_readState_1 ?_
  refine lv_iconst (v := (4 : Int32)) hx hb dX2_readState_4 (by decide) ?_
  refine va_ldcS hx hb X.1.2.2.2.1 (hW.2.1 1 (by decide)) dX2_readState_5 ?_
  obtain ⟨r_1, hc_2, hF⟩ := bd_c hF
  refine wd_callis X hP hS hW [.int (4 : Int32), .ref (adK 1)] [] (c_X0_says l D cA ad X.2.2.2.2 adK adV 1 (by decide) (4 : Int32) M hc_2) (cwV 2 hts gX2_readState_X0_says rfl rfl rfl (by decide +kernel) ⟨(by show _ ≤ _; first | exact Nat.le_of_ble_eq_true rfl | (simp [headSpec, rm_X2_readState]; omega) | omega), (by show _ ≤ _; first | exact Nat.le_of_ble_eq_true rfl | (simp [headSpec, rm_X2_readState]; omega) | omega)⟩) dC_1 rfl rfl hl.1 rfl (Nat.le_of_ble_eq_true rfl) dX2_readState_7 (fun H locs hP hS => ?_)
  refine lv_istore_n (lv' := [(1, .int r_1), (0, .ref (ad 29))]) hx hb dX2_readState_10 rfl hl (by decide) rfl (fun ls hl => ?_)
  refine lv_aload_n hx hb dX2_readState_11 rfl (lv_at hl 1 rfl) ?_
  refine wd_getr (q := 1) X hP 29 dC_29 rfl in_X2_readState_X2 0 rfl (by decide) (by decide +kernel) dX2_readState_12 ?_
  refine lv_iconst (v := (4 : Int32)) hx hb dX2_readState_15 (by decide) ?_
  refine va_ldcS hx hb X.1.2.2.2.1 (hW.2.1 2 (by decide)) dX2_readState_16 ?_
  obtain ⟨r_3, hc_4, hF⟩ := bd_c hF
  refine wd_callis X hP hS hW [.int (4 : Int32), .ref (adK 2)] [] (c_X0_says l D cA ad X.2.2.2.2 adK adV 2 (by decide) (4 : Int32) M hc_4) (cwV 2 hts gX2_readState_X0_says rfl rfl rfl (by decide +kernel) ⟨(by show _ ≤ _; first | exact Nat.le_of_ble_eq_true rfl | (simp [headSpec, rm_X2_readState]; omega) | omega), (by show _ ≤ _; first | exact Nat.le_of_ble_eq_true rfl | (simp [headSpec, rm_X2_readState]; omega) | omega)⟩) dC_1 rfl rfl hl.1 rfl (Nat.le_of_ble_eq_true rfl) dX2_readState_18 (fun H locs hP hS => ?_)
  refine lv_istore_n (lv' := [(2, .int r_3), (1, .int r_1), (0, .ref (ad 29))]) hx hb dX2_readState_21 rfl hl (by decide) rfl (fun ls hl => ?_)
  refine lv_aload_n hx hb dX2_readState_22 rfl (lv_at hl 2 rfl) ?_
  refine wd_getr (q := 1) X hP 29 dC_29 rfl in_X2_readState_X2 0 rfl (by decide) (by decide +kernel) dX2_readState_23 ?_
  obtain ⟨r_5, hc_6, hF⟩ := bd_c hF
  refine wd_calli X hP hS [] [] (c_X0_words l D cA ad X.2.2.2.2    M hc_6) (cwV 0 hts gX2_readState_X0_words rfl rfl rfl (by decide +kernel) ⟨(by show _ ≤ _; first | exact Nat.le_of_ble_eq_true rfl | (simp [headSpec, rm_X2_readState]; omega) | omega), (by show _ ≤ _; first | exact Nat.le_of_ble_eq_true rfl | (simp [headSpec, rm_X2_readState]; omega) | omega)⟩) dC_1 rfl rfl hl.1 rfl (Nat.le_of_ble_eq_true rfl) dX2_readState_26 (fun H locs hP hS => ?_)
  refine lv_iload_n hx hb dX2_readState_29 rfl (lv_at hl 1 rfl) ?_
  refine lv_if_ne (tgt := 37) hx hb dX2_readState_30 (by decide) (fun c_8 => ?_) (fun c_8 => ?_)
  · have hF := if_e c_8 hF
    exact wb_X2_readState_37 X   hW r_1 r_3 r_5 M _ _ _ hF hP hS (lv_sub hl [2, 1, 0] rfl)
  · have hF := if_t c_8 hF
    refine lv_iload_n hx hb dX2_readState_33 rfl (lv_at hl 0 rfl) ?_
    refine lv_if_eq (tgt := 41) hx hb dX2_readState_34 (by decide) (fun c_7 => ?_) (fun c_7 => ?_)
    · have hF := if_t c_7 hF
      refine lv_iconst (v := (4 : Int32)) hx hb dX2_readState_41 (by decide) ?_
      exact wb_X2_readState_42 X   hW r_1 r_3 (4 : Int32) r_5 M _ _ _ hF hP hS (lv_sub hl [2, 1, 0] rfl)
    · have hF := if_e c_7 hF
      exact wb_X2_readState_37 X   hW r_1 r_3 r_5 M _ _ _ hF hP hS (lv_sub hl [2, 1, 0] rfl)
/-! X2_isEndOfRule (I)Z -/
theorem in_X2_isEndOfRule_X2 : ∀ w ∈ u_ws RX2 TX2 3, w ∈ wsX2_isEndOfRule := by decide +kernel
set_option maxHeartbeats 4000000 in
set_option maxRecDepth 100000 in
theorem c_X2_isEndOfRule (l : Launch) (D : va_G) (cA : Nat → ClassId) (ad : Nat → Nat) (hj : wd_inj ad dsC.length) (adK adV : Nat → Nat)   (x1 : Int32) (M : Mem) {r : Int32} (hF : F_X2_isEndOfRule x1 M = some r) : wms_i adK adV l yX2_isEndOfRule wsX2_isEndOfRule rm_X2_isEndOfRule D cA ad dsC M [.ref (ad 29), .int x1] r M := by
  refine Met.ofW (cc := cX2_isEndOfRule) (maxL := 2) (ret := (some .boolean)) (by decide) rfl ?_
  intro p e s m args below meth c s₁ B hml hv
  obtain ⟨rfl, hP, hK, hW⟩ := hv
  have X : wd_X p s m _ meth c cX2_isEndOfRule 2 wsX2_isEndOfRule RX2 (some .boolean) D cA ad dsC.length := ⟨⟨B.exec, B.bytes, hml, findClass_of_methodNamed B.named, atoms_spec (ws := wsX2_isEndOfRule) B.pre⟩, hK, B.notSynchronized, B.returns, hj⟩
  have hl := lv_entry ([.ref (ad 29), .int x1]) (n := 2) (Nat.le_of_ble_eq_true rfl)
  rw [lg_entry_eq]
  generalize (lg_sl ([.ref (ad 29), .int x1]) ++ List.replicate (2 - (lg_sl ([.ref (ad 29), .int x1])).length) Slot.unset).toArray = ls at hl ⊢
  have hl : lv_has ls 2 [(0, .ref (ad 29)), (1, .int x1)] := hl
  have hS : va_S (wd_A ad dsC.length) s.heap s.heap [] := va_S.rf
  have hx := X.1.1
  have hb := X.1.2.1
  have hts := X.1.2.2.2.2
  unfold F_X2_isEndOfRule at hF
  refine lv_aload_n hx hb dX2_isEndOfRule_0 rfl (lv_at hl 0 rfl) ?_
  refine wd_getr (q := 1) X hP 29 dC_29 rfl in_X2_isEndOfRule_X2 0 rfl (by decide) (by decide +kernel) dX2_isEndOfRule_1 ?_
  refine lv_iload_n hx hb dX2_isEndOfRule_4 rfl (lv_at hl 1 rfl) ?_
  refine va_ldcS hx hb X.1.2.2.2.1 (hW.2.1 11 (by decide)) dX2_isEndOfRule_5 ?_
  obtain ⟨r_1, hc_2, hF⟩ := bd_c hF
  refine wd_callis X hP hS hW [.int x1, .ref (adK 11)] [] (c_X0_says l D cA ad X.2.2.2.2 adK adV 11 (by decide) x1 M hc_2) (cwV 2 hts gX2_isEndOfRule_X0_says rfl rfl rfl (by decide +kernel) ⟨(by show _ ≤ _; first | exact Nat.le_of_ble_eq_true rfl | (simp [headSpec, rm_X2_isEndOfRule]; omega) | omega), (by show _ ≤ _; first | exact Nat.le_of_ble_eq_true rfl | (simp [headSpec, rm_X2_isEndOfRule]; omega) | omega)⟩) dC_1 rfl rfl hl.1 rfl (Nat.le_of_ble_eq_true rfl) dX2_isEndOfRule_7 (fun H locs hP hS => ?_)
  refine lv_if_eq (tgt := 46) hx hb dX2_isEndOfRule_10 (by decide) (fun c_12 => ?_) (fun c_12 => ?_)
  · have hF := if_t c_12 hF
    refine lv_aload_n hx hb dX2_isEndOfRule_46 rfl (lv_at hl 0 rfl) ?_
    refine wd_getr (q := 1) X hP 29 dC_29 rfl in_X2_isEndOfRule_X2 0 rfl (by decide) (by decide +kernel) dX2_isEndOfRule_47 ?_
    obtain ⟨r_3, hc_4, hF⟩ := bd_c hF
    refine wd_calli X hP hS [] [] (c_X0_words l D cA ad X.2.2.2.2    M hc_4) (cwV 0 hts gX2_isEndOfRule_X0_words rfl rfl rfl (by decide +kernel) ⟨(by show _ ≤ _; first | exact Nat.le_of_ble_eq_true rfl | (simp [headSpec, rm_X2_isEndOfRule]; omega) | omega), (by show _ ≤ _; first | exact Nat.le_of_ble_eq_true rfl | (simp [headSpec, rm_X2_isEndOfRule]; omega) | omega)⟩) dC_1 rfl rfl hl.1 rfl (Nat.le_of_ble_eq_true rfl) dX2_isEndOfRule_50 (fun H locs hP hS => ?_)
    refine lv_iload_n hx hb dX2_isEndOfRule_53 rfl (lv_at hl 1 rfl) ?_
    refine lv_icmp_ne (tgt := 61) hx hb dX2_isEndOfRule_54 (by decide) (fun c_5 => ?_) (fun c_5 => ?_)
    · have hF := if_e c_5 hF
      refine lv_iconst (v := (0 : Int32)) hx hb dX2_isEndOfRule_61 (by decide) ?_
      cases hF
      exact wd_reti X hP hS rfl (by decide) dX2_isEndOfRule_62
    · have hF := if_t c_5 hF
      refine lv_iconst (v := (1 : Int32)) hx hb dX2_isEndOfRule_57 (by decide) ?_
      refine lv_goto (tgt := 62) hx hb dX2_isEndOfRule_58 (by decide) ?_
      cases hF
      exact wd_reti X hP hS rfl (by decide) dX2_isEndOfRule_62
  · have hF := if_e c_12 hF
    refine lv_aload_n hx hb dX2_isEndOfRule_13 rfl (lv_at hl 0 rfl) ?_
    refine wd_getr (q := 1) X hP 29 dC_29 rfl in_X2_isEndOfRule_X2 0 rfl (by decide) (by decide +kernel) dX2_isEndOfRule_14 ?_
    obtain ⟨r_6, hc_7, hF⟩ := bd_c hF
    refine wd_calli X hP hS [] [] (c_X0_words l D cA ad X.2.2.2.2    M hc_7) (cwV 0 hts gX2_isEndOfRule_X0_words rfl rfl rfl (by decide +kernel) ⟨(by show _ ≤ _; first | exact Nat.le_of_ble_eq_true rfl | (simp [headSpec, rm_X2_isEndOfRule]; omega) | omega), (by show _ ≤ _; first | exact Nat.le_of_ble_eq_true rfl | (simp [headSpec, rm_X2_isEndOfRule]; omega) | omega)⟩) dC_1 rfl rfl hl.1 rfl (Nat.le_of_ble_eq_true rfl) dX2_isEndOfRule_17 (fun H locs hP hS => ?_)
    refine lv_iload_n hx hb dX2_isEndOfRule_20 rfl (lv_at hl 1 rfl) ?_
    refine lv_iconst (v := (2 : Int32)) hx hb dX2_isEndOfRule_21 (by decide) ?_
    refine lv_iadd hx hb dX2_isEndOfRule_22 ?_
    refine lv_icmp_ne (tgt := 44) hx hb dX2_isEndOfRule_23 (by decide) (fun c_11 => ?_) (fun c_11 => ?_)
    · have hF := if_e c_11 hF
      refine lv_iconst (v := (0 : Int32)) hx hb dX2_isEndOfRule_44 (by decide) ?_
      cases hF
      exact wd_reti X hP hS rfl (by decide) dX2_isEndOfRule_45
    · have hF := if_t c_11 hF
      refine lv_aload_n hx hb dX2_isEndOfRule_26 rfl (lv_at hl 0 rfl) ?_
      refine wd_getr (q := 1) X hP 29 dC_29 rfl in_X2_isEndOfRule_X2 0 rfl (by decide) (by decide +kernel) dX2_isEndOfRule_27 ?_
      refine lv_iload_n hx hb dX2_isEndOfRule_30 rfl (lv_at hl 1 rfl) ?_
      refine lv_iconst (v := (1 : Int32)) hx hb dX2_isEndOfRule_31 (by decide) ?_
      refine lv_iadd hx hb dX2_isEndOfRule_32 ?_
      refine lv_iconst (v := (3 : Int32)) hx hb dX2_isEndOfRule_33 (by decide) ?_
      obtain ⟨r_8, hc_9, hF⟩ := bd_c hF
      refine wd_calli X hP hS [.int (x1 + (1 : Int32)), .int (3 : Int32)] [] (c_X0_isLetters l D cA ad X.2.2.2.2   (x1 + (1 : Int32)) (3 : Int32) M hc_9) (cwV 2 hts gX2_isEndOfRule_X0_isLetters rfl rfl rfl (by decide +kernel) ⟨(by show _ ≤ _; first | exact Nat.le_of_ble_eq_true rfl | (simp [headSpec, rm_X2_isEndOfRule]; omega) | omega), (by show _ ≤ _; first | exact Nat.le_of_ble_eq_true rfl | (simp [headSpec, rm_X2_isEndOfRule]; omega) | omega)⟩) dC_1 rfl rfl hl.1 rfl (Nat.le_of_ble_eq_true rfl) dX2_isEndOfRule_34 (fun H locs hP hS => ?_)
      refine lv_if_eq (tgt := 44) hx hb dX2_isEndOfRule_37 (by decide) (fun c_10 => ?_) (fun c_10 => ?_)
      · have hF := if_t c_10 hF
        refine lv_iconst (v := (0 : Int32)) hx hb dX2_isEndOfRule_44 (by decide) ?_
        cases hF
        exact wd_reti X hP hS rfl (by decide) dX2_isEndOfRule_45
      · have hF := if_e c_10 hF
        refine lv_iconst (v := (1 : Int32)) hx hb dX2_isEndOfRule_40 (by decide) ?_
        refine lv_goto (tgt := 45) hx hb dX2_isEndOfRule_41 (by decide) ?_
        cases hF
        exact wd_reti X hP hS rfl (by decide) dX2_isEndOfRule_45
/-! X2_readRule ()I -/
theorem in_X2_readRule_X2 : ∀ w ∈ u_ws RX2 TX2 3, w ∈ wsX2_readRule := by decide +kernel
set_option maxHeartbeats 4000000 in
set_option maxRecDepth 100000 in
theorem wb_X2_readRule_246 {p : Program} {l : Launch} {e : Env} {s : State} {m : MethodId} {args : Array Value} {below : List Frame} {meth : Method} {c : Code} {D : va_G} {cA : Nat → ClassId} {ad : Nat → Nat} (X : wd_X p s m args meth c cX2_readRule 8 wsX2_readRule RX2 (some .int) D cA ad dsC.length) {adK adV : Nat → Nat} {r : Int32} {M' : Mem} (hW : SW adK adV (wd_A ad dsC.length) s s.heap) (x6 : Int32) (t0 : Int32) (t1 : Int32) (t2 : Int32) (t3 : Int32) (t4 : Int32) (t5 : Int32) (M : Mem) (H : Heap) (locs : List Loc) (ls : Array Slot) (hF : B_X2_readRule_246  x6 t0 t1 t2 t3 t4 t5 M = some (r, M')) (hP : wd_P D cA ad dsC M H) (hS : va_S (wd_A ad dsC.length) s.heap H locs) (hl : lv_has ls 8 [(0, .ref (ad 29)), (6, .int x6)]) : W p l e (headSpec wsX2_readRule rm_X2_readRule).room s m args below meth c H locs 0 0 (MQ below (wm_Qi D cA ad dsC r M') args s 0 0 (wd_A ad dsC.length)) (F0 m 246 ls [.int t0, .int t1, .int t2, .int t3, .int t4, .int t5, .ref (ad 18)]) := by
  have hx := X.1.1
  have hb := X.1.2.1
  have hts := X.1.2.2.2.2
  unfold B_X2_readRule_246 at hF
  obtain ⟨M_3, hc_2, hF⟩ := bd_c hF
  refine wd_callv X hP hS [.int t5, .int t4, .int t3, .int t2, .int t1, .int t0] [] (c_X3_make l D cA ad X.2.2.2.2   t5 t4 t3 t2 t1 t0 M hc_2) (cwV 6 hts gX2_readRule_X3_make rfl rfl rfl (by decide +kernel) ⟨(by show _ ≤ _; first | exact Nat.le_of_ble_eq_true rfl | (simp [headSpec, rm_X2_readRule]; omega) | omega), (by show _ ≤ _; first | exact Nat.le_of_ble_eq_true rfl | (simp [headSpec, rm_X2_readRule]; omega) | omega)⟩) dC_18 rfl rfl hl.1 rfl (Nat.le_of_ble_eq_true rfl) dX2_readRule_246 (fun H locs hP hS => ?_)
  refine lv_aload_n hx hb dX2_readRule_249 rfl (lv_at hl 0 rfl) ?_
  refine lv_aload_n hx hb dX2_readRule_250 rfl (lv_at hl 0 rfl) ?_
  refine wd_getr (q := 18) X hP 29 dC_29 rfl in_X2_readRule_X2 2 rfl (by decide) (by decide +kernel) dX2_readRule_251 ?_
  refine wd_callr X hP hS [] [.ref (ad 29)] (c_X3_marks l D cA ad X.2.2.2.2 M_3) (cwV 0 hts gX2_readRule_X3_marks rfl rfl rfl (by decide +kernel) ⟨(by show _ ≤ _; first | exact Nat.le_of_ble_eq_true rfl | (simp [headSpec, rm_X2_readRule]; omega) | omega), (by show _ ≤ _; first | exact Nat.le_of_ble_eq_true rfl | (simp [headSpec, rm_X2_readRule]; omega) | omega)⟩) dC_18 rfl rfl hl.1 rfl (Nat.le_of_ble_eq_true rfl) dX2_readRule_254 (fun H locs hP hS => ?_)
  refine lv_aload_n hx hb dX2_readRule_257 rfl (lv_at hl 0 rfl) ?_
  refine wd_getr (q := 18) X hP 29 dC_29 rfl in_X2_readRule_X2 2 rfl (by decide) (by decide +kernel) dX2_readRule_258 ?_
  obtain ⟨r_4, hc_5, hF⟩ := bd_c hF
  refine wd_calli X hP hS [] [.ref (ad 26), .ref (ad 29)] (c_X3_made l D cA ad X.2.2.2.2    M_3 hc_5) (cwV 0 hts gX2_readRule_X3_made rfl rfl rfl (by decide +kernel) ⟨(by show _ ≤ _; first | exact Nat.le_of_ble_eq_true rfl | (simp [headSpec, rm_X2_readRule]; omega) | omega), (by show _ ≤ _; first | exact Nat.le_of_ble_eq_true rfl | (simp [headSpec, rm_X2_readRule]; omega) | omega)⟩) dC_18 rfl rfl hl.1 rfl (Nat.le_of_ble_eq_true rfl) dX2_readRule_261 (fun H locs hP hS => ?_)
  refine lv_iconst (v := (1 : Int32)) hx hb dX2_readRule_264 (by decide) ?_
  refine lv_isub hx hb dX2_readRule_265 ?_
  refine lv_iload hx hb dX2_readRule_266 (lv_at hl 1 rfl) ?_
  refine lv_iconst (v := (1 : Int32)) hx hb dX2_readRule_268 (by decide) ?_
  refine lv_iadd hx hb dX2_readRule_269 ?_
  obtain ⟨M_8, hc_7, hF⟩ := bd_c hF
  refine wd_callv X hP hS [.ref (ad 26), .int (r_4 - (1 : Int32)), .int (x6 + (1 : Int32))] [] (c_X2_addMarks l D cA ad X.2.2.2.2 26 mr_26 (r_4 - (1 : Int32)) (x6 + (1 : Int32)) M_3 hc_7) (cwV 3 hts gX2_readRule_X2_addMarks rfl rfl rfl (by decide +kernel) ⟨(by show _ ≤ _; first | exact Nat.le_of_ble_eq_true rfl | (simp [headSpec, rm_X2_readRule]; omega) | omega), (by show _ ≤ _; first | exact Nat.le_of_ble_eq_true rfl | (simp [headSpec, rm_X2_readRule]; omega) | omega)⟩) dC_29 rfl rfl hl.1 rfl (Nat.le_of_ble_eq_true rfl) dX2_readRule_270 (fun H locs hP hS => ?_)
  refine lv_iconst (v := (3 : Int32)) hx hb dX2_readRule_273 (by decide) ?_
  cases hF
  exact wd_reti X hP hS rfl rfl dX2_readRule_274
set_option maxHeartbeats 4000000 in
set_option maxRecDepth 100000 in
theorem wb_X2_readRule_168 {p : Program} {l : Launch} {e : Env} {s : State} {m : MethodId} {args : Array Value} {below : List Frame} {meth : Method} {c : Code} {D : va_G} {cA : Nat → ClassId} {ad : Nat → Nat} (X : wd_X p s m args meth c cX2_readRule 8 wsX2_readRule RX2 (some .int) D cA ad dsC.length) {adK adV : Nat → Nat} {r : Int32} {M' : Mem} (hW : SW adK adV (wd_A ad dsC.length) s s.heap) (x1 : Int32) (x2 : Int32) (x3 : Int32) (x5 : Int32) (t0 : Int32) (M : Mem) (H : Heap) (locs : List Loc) (ls : Array Slot) (hF : B_X2_readRule_168  x1 x2 x3 x5 t0 M = some (r, M')) (hP : wd_P D cA ad dsC M H) (hS : va_S (wd_A ad dsC.length) s.heap H locs) (hl : lv_has ls 8 [(0, .ref (ad 29)), (1, .int x1), (2, .int x2), (3, .int x3), (5, .int x5)]) : W p l e (headSpec wsX2_readRule rm_X2_readRule).room s m args below meth c H locs 0 0 (MQ below (wm_Qi D cA ad dsC r M') args s 0 0 (wd_A ad dsC.length)) (F0 m 168 ls [.int t0]) := by
  have hx := X.1.1
  have hb := X.1.2.1
  have hts := X.1.2.2.2.2
  unfold B_X2_readRule_168 at hF
  refine lv_istore (lv' := [(6, .int t0), (0, .ref (ad 29)), (1, .int x1), (2, .int x2), (3, .int x3), (5, .int x5)]) hx hb dX2_readRule_168 hl (by decide) rfl (fun ls hl => ?_)
  refine lv_iload hx hb dX2_readRule_170 (lv_at hl 5 rfl) ?_
  refine lv_iconst (v := (-1 : Int32)) hx hb dX2_readRule_172 (by decide) ?_
  refine lv_icmp_eq (tgt := 185) hx hb dX2_readRule_173 (by decide) (fun c_14 => ?_) (fun c_14 => ?_)
  · have hF := if_t c_14 hF
    refine lv_iconst (v := (-1 : Int32)) hx hb dX2_readRule_185 (by decide) ?_
    cases hF
    exact wd_reti X hP hS rfl rfl dX2_readRule_186
  · have hF := if_e c_14 hF
    refine lv_aload_n hx hb dX2_readRule_176 rfl (lv_at hl 1 rfl) ?_
    refine lv_iload hx hb dX2_readRule_177 (lv_at hl 0 rfl) ?_
    obtain ⟨r_1, hc_2, hF⟩ := bd_c hF
    refine wd_callis X hP hS hW [.int t0] [] (c_X2_isEndOfRule l D cA ad X.2.2.2.2 adK adV   t0 M hc_2) (cwV 1 hts gX2_readRule_X2_isEndOfRule rfl rfl rfl (by decide +kernel) ⟨(by show _ ≤ _; first | exact Nat.le_of_ble_eq_true rfl | (simp [headSpec, rm_X2_readRule]; omega) | omega), (by show _ ≤ _; first | exact Nat.le_of_ble_eq_true rfl | (simp [headSpec, rm_X2_readRule]; omega) | omega)⟩) dC_29 rfl rfl hl.1 rfl (Nat.le_of_ble_eq_true rfl) dX2_readRule_179 (fun H locs hP hS => ?_)
    refine lv_if_ne (tgt := 187) hx hb dX2_readRule_182 (by decide) (fun c_13 => ?_) (fun c_13 => ?_)
    · have hF := if_e c_13 hF
      refine lv_aload_n hx hb dX2_readRule_187 rfl (lv_at hl 1 rfl) ?_
      refine wd_getr (q := 18) X hP 29 dC_29 rfl in_X2_readRule_X2 2 rfl (by decide) (by decide +kernel) dX2_readRule_188 ?_
      refine lv_aload_n hx hb dX2_readRule_191 rfl (lv_at hl 1 rfl) ?_
      refine wd_getr (q := 1) X hP 29 dC_29 rfl in_X2_readRule_X2 0 rfl (by decide) (by decide +kernel) dX2_readRule_192 ?_
      refine lv_iconst (v := (1 : Int32)) hx hb dX2_readRule_195 (by decide) ?_
      obtain ⟨r_3, hc_4, hF⟩ := bd_c hF
      refine wd_calli X hP hS [.int (1 : Int32)] [.ref (ad 18)] (c_X0_nameAt l D cA ad X.2.2.2.2   (1 : Int32) M hc_4) (cwV 1 hts gX2_readRule_X0_nameAt rfl rfl rfl (by decide +kernel) ⟨(by show _ ≤ _; first | exact Nat.le_of_ble_eq_true rfl | (simp [headSpec, rm_X2_readRule]; omega) | omega), (by show _ ≤ _; first | exact Nat.le_of_ble_eq_true rfl | (simp [headSpec, rm_X2_readRule]; omega) | omega)⟩) dC_1 rfl rfl hl.1 rfl (Nat.le_of_ble_eq_true rfl) dX2_readRule_196 (fun H locs hP hS => ?_)
      obtain ⟨r_5, hc_6, hF⟩ := bd_c hF
      refine wd_calli X hP hS [.int r_3] [] (c_X3_hasRoom l D cA ad X.2.2.2.2   r_3 M hc_6) (cwV 1 hts gX2_readRule_X3_hasRoom rfl rfl rfl (by decide +kernel) ⟨(by show _ ≤ _; first | exact Nat.le_of_ble_eq_true rfl | (simp [headSpec, rm_X2_readRule]; omega) | omega), (by show _ ≤ _; first | exact Nat.le_of_ble_eq_true rfl | (simp [headSpec, rm_X2_readRule]; omega) | omega)⟩) dC_18 rfl rfl hl.1 rfl (Nat.le_of_ble_eq_true rfl) dX2_readRule_199 (fun H locs hP hS => ?_)
      refine lv_if_ne (tgt := 208) hx hb dX2_readRule_202 (by decide) (fun c_12 => ?_) (fun c_12 => ?_)
      · have hF := if_e c_12 hF
        refine lv_aload_n hx hb dX2_readRule_208 rfl (lv_at hl 1 rfl) ?_
        refine wd_getr (q := 5) X hP 29 dC_29 rfl in_X2_readRule_X2 1 rfl (by decide) (by decide +kernel) dX2_readRule_209 ?_
        refine lv_iload_n hx hb dX2_readRule_212 rfl (lv_at hl 2 rfl) ?_
        refine lv_iload_n hx hb dX2_readRule_213 rfl (lv_at hl 3 rfl) ?_
        obtain ⟨r_7, hc_8, hF⟩ := bd_c hF
        refine wd_calli X hP hS [.int x1, .int x2] [] (c_X4_scopeOf l D cA ad X.2.2.2.2   x1 x2 M hc_8) (cwV 2 hts gX2_readRule_X4_scopeOf rfl rfl rfl (by decide +kernel) ⟨(by show _ ≤ _; first | exact Nat.le_of_ble_eq_true rfl | (simp [headSpec, rm_X2_readRule]; omega) | omega), (by show _ ≤ _; first | exact Nat.le_of_ble_eq_true rfl | (simp [headSpec, rm_X2_readRule]; omega) | omega)⟩) dC_5 rfl rfl hl.1 rfl (Nat.le_of_ble_eq_true rfl) dX2_readRule_214 (fun H locs hP hS => ?_)
        refine lv_istore (lv' := [(7, .int r_7), (6, .int t0), (0, .ref (ad 29)), (1, .int x1), (2, .int x2), (3, .int x3), (5, .int x5)]) hx hb dX2_readRule_217 hl (by decide) rfl (fun ls hl => ?_)
        refine lv_aload_n hx hb dX2_readRule_219 rfl (lv_at hl 2 rfl) ?_
        refine wd_getr (q := 18) X hP 29 dC_29 rfl in_X2_readRule_X2 2 rfl (by decide) (by decide +kernel) dX2_readRule_220 ?_
        refine lv_aload_n hx hb dX2_readRule_223 rfl (lv_at hl 2 rfl) ?_
        refine wd_getr (q := 1) X hP 29 dC_29 rfl in_X2_readRule_X2 0 rfl (by decide) (by decide +kernel) dX2_readRule_224 ?_
        refine lv_iconst (v := (1 : Int32)) hx hb dX2_readRule_227 (by decide) ?_
        obtain ⟨r_9, hc_10, hF⟩ := bd_c hF
        refine wd_calli X hP hS [.int (1 : Int32)] [.ref (ad 18)] (c_X0_nameAt l D cA ad X.2.2.2.2   (1 : Int32) M hc_10) (cwV 1 hts gX2_readRule_X0_nameAt rfl rfl rfl (by decide +kernel) ⟨(by show _ ≤ _; first | exact Nat.le_of_ble_eq_true rfl | (simp [headSpec, rm_X2_readRule]; omega) | omega), (by show _ ≤ _; first | exact Nat.le_of_ble_eq_true rfl | (simp [headSpec, rm_X2_readRule]; omega) | omega)⟩) dC_1 rfl rfl hl.1 rfl (Nat.le_of_ble_eq_true rfl) dX2_readRule_228 (fun H locs hP hS => ?_)
        refine lv_iload_n hx hb dX2_readRule_231 rfl (lv_at hl 3 rfl) ?_
        refine lv_iload_n hx hb dX2_readRule_232 rfl (lv_at hl 4 rfl) ?_
        refine lv_iload hx hb dX2_readRule_233 (lv_at hl 0 rfl) ?_
        refine lv_iload hx hb dX2_readRule_235 (lv_at hl 6 rfl) ?_
        refine lv_iload_n hx hb dX2_readRule_237 rfl (lv_at hl 5 rfl) ?_
        refine lv_if_ne (tgt := 245) hx hb dX2_readRule_238 (by decide) (fun c_11 => ?_) (fun c_11 => ?_)
        · have hF := if_e c_11 hF
          refine lv_iconst (v := (0 : Int32)) hx hb dX2_readRule_245 (by decide) ?_
          exact wb_X2_readRule_246 X   hW t0 (0 : Int32) x5 r_7 x2 x1 r_9 M _ _ _ hF hP hS (lv_sub hl [2, 1] rfl)
        · have hF := if_t c_11 hF
          refine lv_iconst (v := (1 : Int32)) hx hb dX2_readRule_241 (by decide) ?_
          refine lv_goto (tgt := 246) hx hb dX2_readRule_242 (by decide) ?_
          exact wb_X2_readRule_246 X   hW t0 (1 : Int32) x5 r_7 x2 x1 r_9 M _ _ _ hF hP hS (lv_sub hl [2, 1] rfl)
      · have hF := if_t c_12 hF
        refine lv_bipush (v := (-2 : Int32)) hx hb dX2_readRule_205 (by decide) ?_
        cases hF
        exact wd_reti X hP hS rfl rfl dX2_readRule_207
    · have hF := if_t c_13 hF
      refine lv_iconst (v := (-1 : Int32)) hx hb dX2_readRule_185 (by decide) ?_
      cases hF
      exact wd_reti X hP hS rfl rfl dX2_readRule_186
set_option maxHeartbeats 4000000 in
set_option maxRecDepth 100000 in
theorem wb_X2_readRule_154 {p : Program} {l : Launch} {e : Env} {s : State} {m : MethodId} {args : Array Value} {below : List Frame} {meth : Method} {c : Code} {D : va_G} {cA : Nat → ClassId} {ad : Nat → Nat} (X : wd_X p s m args meth c cX2_readRule 8 wsX2_readRule RX2 (some .int) D cA ad dsC.length) {adK adV : Nat → Nat} {r : Int32} {M' : Mem} (hW : SW adK adV (wd_A ad dsC.length) s s.heap) (x1 : Int32) (x2 : Int32) (x3 : Int32) (x4 : Int32) (t0 : Int32) (M : Mem) (H : Heap) (locs : List Loc) (ls : Array Slot) (hF : B_X2_readRule_154  x1 x2 x3 x4 t0 M = some (r, M')) (hP : wd_P D cA ad dsC M H) (hS : va_S (wd_A ad dsC.length) s.heap H locs) (hl : lv_has ls 8 [(0, .ref (ad 29)), (1, .int x1), (2, .int x2), (3, .int x3), (4, .int x4)]) : W p l e (headSpec wsX2_readRule rm_X2_readRule).room s m args below meth c H locs 0 0 (MQ below (wm_Qi D cA ad dsC r M') args s 0 0 (wd_A ad dsC.length)) (F0 m 154 ls [.int t0]) := by
  have hx := X.1.1
  have hb := X.1.2.1
  have hts := X.1.2.2.2.2
  unfold B_X2_readRule_154 at hF
  refine lv_istore (lv' := [(5, .int t0), (0, .ref (ad 29)), (1, .int x1), (2, .int x2), (3, .int x3), (4, .int x4)]) hx hb dX2_readRule_154 hl (by decide) rfl (fun ls hl => ?_)
  refine lv_iload hx hb dX2_readRule_156 (lv_at hl 5 rfl) ?_
  refine lv_if_eq (tgt := 166) hx hb dX2_readRule_158 (by decide) (fun c_1 => ?_) (fun c_1 => ?_)
  · have hF := if_t c_1 hF
    refine lv_bipush (v := (6 : Int32)) hx hb dX2_readRule_166 (by decide) ?_
    exact wb_X2_readRule_168 X   hW x1 x2 x3 t0 (6 : Int32) M _ _ _ hF hP hS (lv_sub hl [1, 2, 3, 4, 0] rfl)
  · have hF := if_e c_1 hF
    refine lv_bipush (v := (8 : Int32)) hx hb dX2_readRule_161 (by decide) ?_
    refine lv_goto (tgt := 168) hx hb dX2_readRule_163 (by decide) ?_
    exact wb_X2_readRule_168 X   hW x1 x2 x3 t0 (8 : Int32) M _ _ _ hF hP hS (lv_sub hl [1, 2, 3, 4, 0] rfl)
set_option maxHeartbeats 4000000 in
set_option maxRecDepth 100000 in
theorem wb_X2_readRule_127 {p : Program} {l : Launch} {e : Env} {s : State} {m : MethodId} {args : Array Value} {below : List Frame} {meth : Method} {c : Code} {D : va_G} {cA : Nat → ClassId} {ad : Nat → Nat} (X : wd_X p s m args meth c cX2_readRule 8 wsX2_readRule RX2 (some .int) D cA ad dsC.length) {adK adV : Nat → Nat} {r : Int32} {M' : Mem} (hW : SW adK adV (wd_A ad dsC.length) s s.heap) (x1 : Int32) (x2 : Int32) (x3 : Int32) (t0 : Int32) (M : Mem) (H : Heap) (locs : List Loc) (ls : Array Slot) (hF : B_X2_readRule_127  x1 x2 x3 t0 M = some (r, M')) (hP : wd_P D cA ad dsC M H) (hS : va_S (wd_A ad dsC.length) s.heap H locs) (hl : lv_has ls 8 [(0, .ref (ad 29)), (1, .int x1), (2, .int x2), (3, .int x3)]) : W p l e (headSpec wsX2_readRule rm_X2_readRule).room s m args below meth c H locs 0 0 (MQ below (wm_Qi D cA ad dsC r M') args s 0 0 (wd_A ad dsC.length)) (F0 m 127 ls [.int t0]) := by
  have hx := X.1.1
  have hb := X.1.2.1
  have hts := X.1.2.2.2.2
  unfold B_X2_readRule_127 at hF
  refine lv_istore (lv' := [(4, .int t0), (0, .ref (ad 29)), (1, .int x1), (2, .int x2), (3, .int x3)]) hx hb dX2_readRule_127 hl (by decide) rfl (fun ls hl => ?_)
  refine lv_iload hx hb dX2_readRule_129 (lv_at hl 0 rfl) ?_
  refine lv_if_eq (tgt := 153) hx hb dX2_readRule_131 (by decide) (fun c_5 => ?_) (fun c_5 => ?_)
  · have hF := if_t c_5 hF
    refine lv_iconst (v := (0 : Int32)) hx hb dX2_readRule_153 (by decide) ?_
    exact wb_X2_readRule_154 X   hW x1 x2 x3 t0 (0 : Int32) M _ _ _ hF hP hS (lv_sub hl [1, 2, 3, 4, 0] rfl)
  · have hF := if_e c_5 hF
    refine lv_aload_n hx hb dX2_readRule_134 rfl (lv_at hl 1 rfl) ?_
    refine wd_getr (q := 5) X hP 29 dC_29 rfl in_X2_readRule_X2 1 rfl (by decide) (by decide +kernel) dX2_readRule_135 ?_
    refine lv_aload_n hx hb dX2_readRule_138 rfl (lv_at hl 1 rfl) ?_
    refine wd_getr (q := 1) X hP 29 dC_29 rfl in_X2_readRule_X2 0 rfl (by decide) (by decide +kernel) dX2_readRule_139 ?_
    refine lv_bipush (v := (7 : Int32)) hx hb dX2_readRule_142 (by decide) ?_
    obtain ⟨r_1, hc_2, hF⟩ := bd_c hF
    refine wd_calli X hP hS [.int (7 : Int32)] [.ref (ad 5)] (c_X0_nameAt l D cA ad X.2.2.2.2   (7 : Int32) M hc_2) (cwV 1 hts gX2_readRule_X0_nameAt rfl rfl rfl (by decide +kernel) ⟨(by show _ ≤ _; first | exact Nat.le_of_ble_eq_true rfl | (simp [headSpec, rm_X2_readRule]; omega) | omega), (by show _ ≤ _; first | exact Nat.le_of_ble_eq_true rfl | (simp [headSpec, rm_X2_readRule]; omega) | omega)⟩) dC_1 rfl rfl hl.1 rfl (Nat.le_of_ble_eq_true rfl) dX2_readRule_144 (fun H locs hP hS => ?_)
    obtain ⟨r_3, hc_4, hF⟩ := bd_c hF
    refine wd_calli X hP hS [.int r_1] [] (c_X4_find l D cA ad X.2.2.2.2   r_1 M hc_4) (cwV 1 hts gX2_readRule_X4_find rfl rfl rfl (by decide +kernel) ⟨(by show _ ≤ _; first | exact Nat.le_of_ble_eq_true rfl | (simp [headSpec, rm_X2_readRule]; omega) | omega), (by show _ ≤ _; first | exact Nat.le_of_ble_eq_true rfl | (simp [headSpec, rm_X2_readRule]; omega) | omega)⟩) dC_5 rfl rfl hl.1 rfl (Nat.le_of_ble_eq_true rfl) dX2_readRule_147 (fun H locs hP hS => ?_)
    refine lv_goto (tgt := 154) hx hb dX2_readRule_150 (by decide) ?_
    exact wb_X2_readRule_154 X   hW x1 x2 x3 t0 r_3 M _ _ _ hF hP hS (lv_sub hl [1, 2, 3, 4, 0] rfl)
set_option maxHeartbeats 4000000 in
set_option maxRecDepth 100000 in
theorem wb_X2_readRule_122 {p : Program} {l : Launch} {e : Env} {s : State} {m : MethodId} {args : Array Value} {below : List Frame} {meth : Method} {c : Code} {D : va_G} {cA : Nat → ClassId} {ad : Nat → Nat} (X : wd_X p s m args meth c cX2_readRule 8 wsX2_readRule RX2 (some .int) D cA ad dsC.length) {adK adV : Nat → Nat} {r : Int32} {M' : Mem} (hW : SW adK adV (wd_A ad dsC.length) s s.heap) (x1 : Int32) (x2 : Int32) (x3 : Int32) (M : Mem) (H : Heap) (locs : List Loc) (ls : Array Slot) (hF : B_X2_readRule_122  x1 x2 x3 M = some (r, M')) (hP : wd_P D cA ad dsC M H) (hS : va_S (wd_A ad dsC.length) s.heap H locs) (hl : lv_has ls 8 [(0, .ref (ad 29)), (1, .int x1), (2, .int x2), (3, .int x3)]) : W p l e (headSpec wsX2_readRule rm_X2_readRule).room s m args below meth c H locs 0 0 (MQ below (wm_Qi D cA ad dsC r M') args s 0 0 (wd_A ad dsC.length)) (F0 m 122 ls []) := by
  have hx := X.1.1
  have hb := X.1.2.1
  have hts := X.1.2.2.2.2
  unfold B_X2_readRule_122 at hF
  refine lv_iconst (v := (1 : Int32)) hx hb dX2_readRule_122 (by decide) ?_
  refine lv_goto (tgt := 127) hx hb dX2_readRule_123 (by decide) ?_
  exact wb_X2_readRule_127 X   hW x1 x2 x3 (1 : Int32) M _ _ _ hF hP hS (lv_sub hl [0, 1, 2, 3] rfl)
set_option maxHeartbeats 4000000 in
set_option maxRecDepth 100000 in
theorem c_X2_readRule (l : Launch) (D : va_G) (cA : Nat → ClassId) (ad : Nat → Nat) (hj : wd_inj ad dsC.length) (adK adV : Nat → Nat)    (M : Mem) {r : Int32} {M' : Mem} (hF : F_X2_readRule M = some (r, M')) : wms_i adK adV l yX2_readRule wsX2_readRule rm_X2_readRule D cA ad dsC M [.ref (ad 29)] r M' := by
  refine Met.ofW (cc := cX2_readRule) (maxL := 8) (ret := (some .int)) (by decide) rfl ?_
  intro p e s m args below meth c s₁ B hml hv
  obtain ⟨rfl, hP, hK, hW⟩ := hv
  have X : wd_X p s m _ meth c cX2_readRule 8 wsX2_readRule RX2 (some .int) D cA ad dsC.length := ⟨⟨B.exec, B.bytes, hml, findClass_of_methodNamed B.named, atoms_spec (ws := wsX2_readRule) B.pre⟩, hK, B.notSynchronized, B.returns, hj⟩
  have hl := lv_entry ([.ref (ad 29)]) (n := 8) (Nat.le_of_ble_eq_true rfl)
  rw [lg_entry_eq]
  generalize (lg_sl ([.ref (ad 29)]) ++ List.replicate (8 - (lg_sl ([.ref (ad 29)])).length) Slot.unset).toArray = ls at hl ⊢
  have hl : lv_has ls 8 [(0, .ref (ad 29))] := hl
  have hS : va_S (wd_A ad dsC.length) s.heap s.heap [] := va_S.rf
  have hx := X.1.1
  have hb := X.1.2.1
  have hts := X.1.2.2.2.2
  unfold F_X2_readRule at hF
  refine lv_aload_n hx hb dX2_readRule_0 rfl (lv_at hl 0 rfl) ?_
  refine wd_getr (q := 5) X hP 29 dC_29 rfl in_X2_readRule_X2 1 rfl (by decide) (by decide +kernel) dX2_readRule_1 ?_
  refine lv_aload_n hx hb dX2_readRule_4 rfl (lv_at hl 0 rfl) ?_
  refine wd_getr (q := 1) X hP 29 dC_29 rfl in_X2_readRule_X2 0 rfl (by decide) (by decide +kernel) dX2_readRule_5 ?_
  refine lv_iconst (v := (3 : Int32)) hx hb dX2_readRule_8 (by decide) ?_
  obtain ⟨r_1, hc_2, hF⟩ := bd_c hF
  refine wd_calli X hP hS [.int (3 : Int32)] [.ref (ad 5)] (c_X0_nameAt l D cA ad X.2.2.2.2   (3 : Int32) M hc_2) (cwV 1 hts gX2_readRule_X0_nameAt rfl rfl rfl (by decide +kernel) ⟨(by show _ ≤ _; first | exact Nat.le_of_ble_eq_true rfl | (simp [headSpec, rm_X2_readRule]; omega) | omega), (by show _ ≤ _; first | exact Nat.le_of_ble_eq_true rfl | (simp [headSpec, rm_X2_readRule]; omega) | omega)⟩) dC_1 rfl rfl hl.1 rfl (Nat.le_of_ble_eq_true rfl) dX2_readRule_9 (fun H locs hP hS => ?_)
  obtain ⟨r_3, hc_4, hF⟩ := bd_c hF
  refine wd_calli X hP hS [.int r_1] [] (c_X4_find l D cA ad X.2.2.2.2   r_1 M hc_4) (cwV 1 hts gX2_readRule_X4_find rfl rfl rfl (by decide +kernel) ⟨(by show _ ≤ _; first | exact Nat.le_of_ble_eq_true rfl | (simp [headSpec, rm_X2_readRule]; omega) | omega), (by show _ ≤ _; first | exact Nat.le_of_ble_eq_true rfl | (simp [headSpec, rm_X2_readRule]; omega) | omega)⟩) dC_5 rfl rfl hl.1 rfl (Nat.le_of_ble_eq_true rfl) dX2_readRule_12 (fun H locs hP hS => ?_)
  refine lv_istore_n (lv' := [(1, .int r_3), (0, .ref (ad 29))]) hx hb dX2_readRule_15 rfl hl (by decide) rfl (fun ls hl => ?_)
  refine lv_aload_n hx hb dX2_readRule_16 rfl (lv_at hl 1 rfl) ?_
  refine wd_getr (q := 5) X hP 29 dC_29 rfl in_X2_readRule_X2 1 rfl (by decide) (by decide +kernel) dX2_readRule_17 ?_
  refine lv_aload_n hx hb dX2_readRule_20 rfl (lv_at hl 1 rfl) ?_
  refine wd_getr (q := 1) X hP 29 dC_29 rfl in_X2_readRule_X2 0 rfl (by decide) (by decide +kernel) dX2_readRule_21 ?_
  refine lv_iconst (v := (5 : Int32)) hx hb dX2_readRule_24 (by decide) ?_
  obtain ⟨r_5, hc_6, hF⟩ := bd_c hF
  refine wd_calli X hP hS [.int (5 : Int32)] [.ref (ad 5)] (c_X0_nameAt l D cA ad X.2.2.2.2   (5 : Int32) M hc_6) (cwV 1 hts gX2_readRule_X0_nameAt rfl rfl rfl (by decide +kernel) ⟨(by show _ ≤ _; first | exact Nat.le_of_ble_eq_true rfl | (simp [headSpec, rm_X2_readRule]; omega) | omega), (by show _ ≤ _; first | exact Nat.le_of_ble_eq_true rfl | (simp [headSpec, rm_X2_readRule]; omega) | omega)⟩) dC_1 rfl rfl hl.1 rfl (Nat.le_of_ble_eq_true rfl) dX2_readRule_25 (fun H locs hP hS => ?_)
  obtain ⟨r_7, hc_8, hF⟩ := bd_c hF
  refine wd_calli X hP hS [.int r_5] [] (c_X4_find l D cA ad X.2.2.2.2   r_5 M hc_8) (cwV 1 hts gX2_readRule_X4_find rfl rfl rfl (by decide +kernel) ⟨(by show _ ≤ _; first | exact Nat.le_of_ble_eq_true rfl | (simp [headSpec, rm_X2_readRule]; omega) | omega), (by show _ ≤ _; first | exact Nat.le_of_ble_eq_true rfl | (simp [headSpec, rm_X2_readRule]; omega) | omega)⟩) dC_5 rfl rfl hl.1 rfl (Nat.le_of_ble_eq_true rfl) dX2_readRule_28 (fun H locs hP hS => ?_)
  refine lv_istore_n (lv' := [(2, .int r_7), (1, .int r_3), (0, .ref (ad 29))]) hx hb dX2_readRule_31 rfl hl (by decide) rfl (fun ls hl => ?_)
  refine lv_aload_n hx hb dX2_readRule_32 rfl (lv_at hl 2 rfl) ?_
  refine wd_getr (q := 1) X hP 29 dC_29 rfl in_X2_readRule_X2 0 rfl (by decide) (by decide +kernel) dX2_readRule_33 ?_
  refine lv_iconst (v := (1 : Int32)) hx hb dX2_readRule_36 (by decide) ?_
  obtain ⟨r_9, hc_10, hF⟩ := bd_c hF
  refine wd_calli X hP hS [.int (1 : Int32)] [] (c_X0_nameAt l D cA ad X.2.2.2.2   (1 : Int32) M hc_10) (cwV 1 hts gX2_readRule_X0_nameAt rfl rfl rfl (by decide +kernel) ⟨(by show _ ≤ _; first | exact Nat.le_of_ble_eq_true rfl | (simp [headSpec, rm_X2_readRule]; omega) | omega), (by show _ ≤ _; first | exact Nat.le_of_ble_eq_true rfl | (simp [headSpec, rm_X2_readRule]; omega) | omega)⟩) dC_1 rfl rfl hl.1 rfl (Nat.le_of_ble_eq_true rfl) dX2_readRule_37 (fun H locs hP hS => ?_)
  refine lv_iconst (v := (-1 : Int32)) hx hb dX2_readRule_40 (by decide) ?_
  refine lv_icmp_eq (tgt := 70) hx hb dX2_readRule_41 (by decide) (fun c_27 => ?_) (fun c_27 => ?_)
  · have hF := if_t c_27 hF
    refine lv_iconst (v := (-1 : Int32)) hx hb dX2_readRule_70 (by decide) ?_
    cases hF
    exact wd_reti X hP hS rfl rfl dX2_readRule_71
  · have hF := if_e c_27 hF
    refine lv_aload_n hx hb dX2_readRule_44 rfl (lv_at hl 2 rfl) ?_
    refine wd_getr (q := 1) X hP 29 dC_29 rfl in_X2_readRule_X2 0 rfl (by decide) (by decide +kernel) dX2_readRule_45 ?_
    refine lv_iconst (v := (2 : Int32)) hx hb dX2_readRule_48 (by decide) ?_
    refine va_ldcS hx hb X.1.2.2.2.1 (hW.2.1 7 (by decide)) dX2_readRule_49 ?_
    obtain ⟨r_11, hc_12, hF⟩ := bd_c hF
    refine wd_callis X hP hS hW [.int (2 : Int32), .ref (adK 7)] [] (c_X0_says l D cA ad X.2.2.2.2 adK adV 7 (by decide) (2 : Int32) M hc_12) (cwV 2 hts gX2_readRule_X0_says rfl rfl rfl (by decide +kernel) ⟨(by show _ ≤ _; first | exact Nat.le_of_ble_eq_true rfl | (simp [headSpec, rm_X2_readRule]; omega) | omega), (by show _ ≤ _; first | exact Nat.le_of_ble_eq_true rfl | (simp [headSpec, rm_X2_readRule]; omega) | omega)⟩) dC_1 rfl rfl hl.1 rfl (Nat.le_of_ble_eq_true rfl) dX2_readRule_51 (fun H locs hP hS => ?_)
    refine lv_if_eq (tgt := 70) hx hb dX2_readRule_54 (by decide) (fun c_26 => ?_) (fun c_26 => ?_)
    · have hF := if_t c_26 hF
      refine lv_iconst (v := (-1 : Int32)) hx hb dX2_readRule_70 (by decide) ?_
      cases hF
      exact wd_reti X hP hS rfl rfl dX2_readRule_71
    · have hF := if_e c_26 hF
      refine lv_aload_n hx hb dX2_readRule_57 rfl (lv_at hl 2 rfl) ?_
      refine wd_getr (q := 1) X hP 29 dC_29 rfl in_X2_readRule_X2 0 rfl (by decide) (by decide +kernel) dX2_readRule_58 ?_
      refine lv_iconst (v := (4 : Int32)) hx hb dX2_readRule_61 (by decide) ?_
      refine va_ldcS hx hb X.1.2.2.2.1 (hW.2.1 8 (by decide)) dX2_readRule_62 ?_
      obtain ⟨r_13, hc_14, hF⟩ := bd_c hF
      refine wd_callis X hP hS hW [.int (4 : Int32), .ref (adK 8)] [] (c_X0_says l D cA ad X.2.2.2.2 adK adV 8 (by decide) (4 : Int32) M hc_14) (cwV 2 hts gX2_readRule_X0_says rfl rfl rfl (by decide +kernel) ⟨(by show _ ≤ _; first | exact Nat.le_of_ble_eq_true rfl | (simp [headSpec, rm_X2_readRule]; omega) | omega), (by show _ ≤ _; first | exact Nat.le_of_ble_eq_true rfl | (simp [headSpec, rm_X2_readRule]; omega) | omega)⟩) dC_1 rfl rfl hl.1 rfl (Nat.le_of_ble_eq_true rfl) dX2_readRule_64 (fun H locs hP hS => ?_)
      refine lv_if_ne (tgt := 72) hx hb dX2_readRule_67 (by decide) (fun c_25 => ?_) (fun c_25 => ?_)
      · have hF := if_e c_25 hF
        refine lv_iload_n hx hb dX2_readRule_72 rfl (lv_at hl 1 rfl) ?_
        refine lv_iconst (v := (-1 : Int32)) hx hb dX2_readRule_73 (by decide) ?_
        refine lv_icmp_eq (tgt := 90) hx hb dX2_readRule_74 (by decide) (fun c_24 => ?_) (fun c_24 => ?_)
        · have hF := if_t c_24 hF
          refine lv_iconst (v := (-1 : Int32)) hx hb dX2_readRule_90 (by decide) ?_
          cases hF
          exact wd_reti X hP hS rfl rfl dX2_readRule_91
        · have hF := if_e c_24 hF
          refine lv_iload_n hx hb dX2_readRule_77 rfl (lv_at hl 1 rfl) ?_
          refine lv_if_eq (tgt := 90) hx hb dX2_readRule_78 (by decide) (fun c_23 => ?_) (fun c_23 => ?_)
          · have hF := if_t c_23 hF
            refine lv_iconst (v := (-1 : Int32)) hx hb dX2_readRule_90 (by decide) ?_
            cases hF
            exact wd_reti X hP hS rfl rfl dX2_readRule_91
          · have hF := if_e c_23 hF
            refine lv_iload_n hx hb dX2_readRule_81 rfl (lv_at hl 0 rfl) ?_
            refine lv_iconst (v := (-1 : Int32)) hx hb dX2_readRule_82 (by decide) ?_
            refine lv_icmp_eq (tgt := 90) hx hb dX2_readRule_83 (by decide) (fun c_22 => ?_) (fun c_22 => ?_)
            · have hF := if_t c_22 hF
              refine lv_iconst (v := (-1 : Int32)) hx hb dX2_readRule_90 (by decide) ?_
              cases hF
              exact wd_reti X hP hS rfl rfl dX2_readRule_91
            · have hF := if_e c_22 hF
              refine lv_iload_n hx hb dX2_readRule_86 rfl (lv_at hl 0 rfl) ?_
              refine lv_if_ne (tgt := 92) hx hb dX2_readRule_87 (by decide) (fun c_21 => ?_) (fun c_21 => ?_)
              · have hF := if_e c_21 hF
                refine lv_aload_n hx hb dX2_readRule_92 rfl (lv_at hl 2 rfl) ?_
                refine wd_getr (q := 1) X hP 29 dC_29 rfl in_X2_readRule_X2 0 rfl (by decide) (by decide +kernel) dX2_readRule_93 ?_
                refine lv_bipush (v := (6 : Int32)) hx hb dX2_readRule_96 (by decide) ?_
                refine va_ldcS hx hb X.1.2.2.2.1 (hW.2.1 9 (by decide)) dX2_readRule_98 ?_
                obtain ⟨r_15, hc_16, hF⟩ := bd_c hF
                refine wd_callis X hP hS hW [.int (6 : Int32), .ref (adK 9)] [] (c_X0_says l D cA ad X.2.2.2.2 adK adV 9 (by decide) (6 : Int32) M hc_16) (cwV 2 hts gX2_readRule_X0_says rfl rfl rfl (by decide +kernel) ⟨(by show _ ≤ _; first | exact Nat.le_of_ble_eq_true rfl | (simp [headSpec, rm_X2_readRule]; omega) | omega), (by show _ ≤ _; first | exact Nat.le_of_ble_eq_true rfl | (simp [headSpec, rm_X2_readRule]; omega) | omega)⟩) dC_1 rfl rfl hl.1 rfl (Nat.le_of_ble_eq_true rfl) dX2_readRule_100 (fun H locs hP hS => ?_)
                refine lv_istore_n (lv' := [(3, .int r_15), (2, .int r_7), (1, .int r_3), (0, .ref (ad 29))]) hx hb dX2_readRule_103 rfl hl (by decide) rfl (fun ls hl => ?_)
                refine lv_iload_n hx hb dX2_readRule_104 rfl (lv_at hl 0 rfl) ?_
                refine lv_if_ne (tgt := 122) hx hb dX2_readRule_105 (by decide) (fun c_20 => ?_) (fun c_20 => ?_)
                · have hF := if_e c_20 hF
                  exact wb_X2_readRule_122 X   hW r_3 r_7 r_15 M _ _ _ hF hP hS (lv_sub hl [3, 2, 1, 0] rfl)
                · have hF := if_t c_20 hF
                  refine lv_aload_n hx hb dX2_readRule_108 rfl (lv_at hl 3 rfl) ?_
                  refine wd_getr (q := 1) X hP 29 dC_29 rfl in_X2_readRule_X2 0 rfl (by decide) (by decide +kernel) dX2_readRule_109 ?_
                  refine lv_bipush (v := (6 : Int32)) hx hb dX2_readRule_112 (by decide) ?_
                  refine va_ldcS hx hb X.1.2.2.2.1 (hW.2.1 10 (by decide)) dX2_readRule_114 ?_
                  obtain ⟨r_17, hc_18, hF⟩ := bd_c hF
                  refine wd_callis X hP hS hW [.int (6 : Int32), .ref (adK 10)] [] (c_X0_says l D cA ad X.2.2.2.2 adK adV 10 (by decide) (6 : Int32) M hc_18) (cwV 2 hts gX2_readRule_X0_says rfl rfl rfl (by decide +kernel) ⟨(by show _ ≤ _; first | exact Nat.le_of_ble_eq_true rfl | (simp [headSpec, rm_X2_readRule]; omega) | omega), (by show _ ≤ _; first | exact Nat.le_of_ble_eq_true rfl | (simp [headSpec, rm_X2_readRule]; omega) | omega)⟩) dC_1 rfl rfl hl.1 rfl (Nat.le_of_ble_eq_true rfl) dX2_readRule_116 (fun H locs hP hS => ?_)
                  refine lv_if_eq (tgt := 126) hx hb dX2_readRule_119 (by decide) (fun c_19 => ?_) (fun c_19 => ?_)
                  · have hF := if_t c_19 hF
                    refine lv_iconst (v := (0 : Int32)) hx hb dX2_readRule_126 (by decide) ?_
                    exact wb_X2_readRule_127 X   hW r_3 r_7 r_15 (0 : Int32) M _ _ _ hF hP hS (lv_sub hl [3, 2, 1, 0] rfl)
                  · have hF := if_e c_19 hF
                    exact wb_X2_readRule_122 X   hW r_3 r_7 r_15 M _ _ _ hF hP hS (lv_sub hl [3, 2, 1, 0] rfl)
              · have hF := if_t c_21 hF
                refine lv_iconst (v := (-1 : Int32)) hx hb dX2_readRule_90 (by decide) ?_
                cases hF
                exact wd_reti X hP hS rfl rfl dX2_readRule_91
      · have hF := if_t c_25 hF
        refine lv_iconst (v := (-1 : Int32)) hx hb dX2_readRule_70 (by decide) ?_
        cases hF
        exact wd_reti X hP hS rfl rfl dX2_readRule_71
/-! X2_read ()I -/
theorem in_X2_read_X2 : ∀ w ∈ u_ws RX2 TX2 3, w ∈ wsX2_read := by decide +kernel
set_option maxHeartbeats 4000000 in
set_option maxRecDepth 100000 in
theorem c_X2_read (l : Launch) (D : va_G) (cA : Nat → ClassId) (ad : Nat → Nat) (hj : wd_inj ad dsC.length) (adK adV : Nat → Nat)    (M : Mem) {r : Int32} {M' : Mem} (hF : F_X2_read M = some (r, M')) : wms_i adK adV l yX2_read wsX2_read rm_X2_read D cA ad dsC M [.ref (ad 29)] r M' := by
  refine Met.ofW (cc := cX2_read) (maxL := 1) (ret := (some .int)) (by decide) rfl ?_
  intro p e s m args below meth c s₁ B hml hv
  obtain ⟨rfl, hP, hK, hW⟩ := hv
  have X : wd_X p s m _ meth c cX2_read 1 wsX2_read RX2 (some .int) D cA ad dsC.length := ⟨⟨B.exec, B.bytes, hml, findClass_of_methodNamed B.named, atoms_spec (ws := wsX2_read) B.pre⟩, hK, B.notSynchronized, B.returns, hj⟩
  have hl := lv_entry ([.ref (ad 29)]) (n := 1) (Nat.le_of_ble_eq_true rfl)
  rw [lg_entry_eq]
  generalize (lg_sl ([.ref (ad 29)]) ++ List.replicate (1 - (lg_sl ([.ref (ad 29)])).length) Slot.unset).toArray = ls at hl ⊢
  have hl : lv_has ls 1 [(0, .ref (ad 29))] := hl
  have hS : va_S (wd_A ad dsC.length) s.heap s.heap [] := va_S.rf
  have hx := X.1.1
  have hb := X.1.2.1
  have hts := X.1.2.2.2.2
  unfold F_X2_read at hF
  refine lv_aload_n hx hb dX2_read_0 rfl (lv_at hl 0 rfl) ?_
  refine wd_getr (q := 1) X hP 29 dC_29 rfl in_X2_read_X2 0 rfl (by decide) (by decide +kernel) dX2_read_1 ?_
  obtain ⟨M_3, hc_2, hF⟩ := bd_c hF
  refine wd_callv X hP hS [] [] (c_X0_split l D cA ad X.2.2.2.2    M hc_2) (cwV 0 hts gX2_read_X0_split rfl rfl rfl (by decide +kernel) ⟨(by show _ ≤ _; first | exact Nat.le_of_ble_eq_true rfl | (simp [headSpec, rm_X2_read]; omega) | omega), (by show _ ≤ _; first | exact Nat.le_of_ble_eq_true rfl | (simp [headSpec, rm_X2_read]; omega) | omega)⟩) dC_1 rfl rfl hl.1 rfl (Nat.le_of_ble_eq_true rfl) dX2_read_4 (fun H locs hP hS => ?_)
  refine lv_aload_n hx hb dX2_read_7 rfl (lv_at hl 0 rfl) ?_
  refine wd_getr (q := 1) X hP 29 dC_29 rfl in_X2_read_X2 0 rfl (by decide) (by decide +kernel) dX2_read_8 ?_
  obtain ⟨r_4, hc_5, hF⟩ := bd_c hF
  refine wd_calli X hP hS [] [] (c_X0_words l D cA ad X.2.2.2.2    M_3 hc_5) (cwV 0 hts gX2_read_X0_words rfl rfl rfl (by decide +kernel) ⟨(by show _ ≤ _; first | exact Nat.le_of_ble_eq_true rfl | (simp [headSpec, rm_X2_read]; omega) | omega), (by show _ ≤ _; first | exact Nat.le_of_ble_eq_true rfl | (simp [headSpec, rm_X2_read]; omega) | omega)⟩) dC_1 rfl rfl hl.1 rfl (Nat.le_of_ble_eq_true rfl) dX2_read_11 (fun H locs hP hS => ?_)
  refine lv_if_ne (tgt := 19) hx hb dX2_read_14 (by decide) (fun c_30 => ?_) (fun c_30 => ?_)
  · have hF := if_e c_30 hF
    refine lv_aload_n hx hb dX2_read_19 rfl (lv_at hl 0 rfl) ?_
    refine wd_getr (q := 1) X hP 29 dC_29 rfl in_X2_read_X2 0 rfl (by decide) (by decide +kernel) dX2_read_20 ?_
    refine lv_iconst (v := (0 : Int32)) hx hb dX2_read_23 (by decide) ?_
    refine va_ldcS hx hb X.1.2.2.2.1 (hW.2.1 0 (by decide)) dX2_read_24 ?_
    obtain ⟨r_6, hc_7, hF⟩ := bd_c hF
    refine wd_callis X hP hS hW [.int (0 : Int32), .ref (adK 0)] [] (c_X0_says l D cA ad X.2.2.2.2 adK adV 0 (by decide) (0 : Int32) M_3 hc_7) (cwV 2 hts gX2_read_X0_says rfl rfl rfl (by decide +kernel) ⟨(by show _ ≤ _; first | exact Nat.le_of_ble_eq_true rfl | (simp [headSpec, rm_X2_read]; omega) | omega), (by show _ ≤ _; first | exact Nat.le_of_ble_eq_true rfl | (simp [headSpec, rm_X2_read]; omega) | omega)⟩) dC_1 rfl rfl hl.1 rfl (Nat.le_of_ble_eq_true rfl) dX2_read_26 (fun H locs hP hS => ?_)
    refine lv_if_eq (tgt := 37) hx hb dX2_read_29 (by decide) (fun c_29 => ?_) (fun c_29 => ?_)
    · have hF := if_t c_29 hF
      refine lv_aload_n hx hb dX2_read_37 rfl (lv_at hl 0 rfl) ?_
      refine wd_getr (q := 1) X hP 29 dC_29 rfl in_X2_read_X2 0 rfl (by decide) (by decide +kernel) dX2_read_38 ?_
      refine lv_iconst (v := (0 : Int32)) hx hb dX2_read_41 (by decide) ?_
      refine va_ldcS hx hb X.1.2.2.2.1 (hW.2.1 4 (by decide)) dX2_read_42 ?_
      obtain ⟨r_8, hc_9, hF⟩ := bd_c hF
      refine wd_callis X hP hS hW [.int (0 : Int32), .ref (adK 4)] [] (c_X0_says l D cA ad X.2.2.2.2 adK adV 4 (by decide) (0 : Int32) M_3 hc_9) (cwV 2 hts gX2_read_X0_says rfl rfl rfl (by decide +kernel) ⟨(by show _ ≤ _; first | exact Nat.le_of_ble_eq_true rfl | (simp [headSpec, rm_X2_read]; omega) | omega), (by show _ ≤ _; first | exact Nat.le_of_ble_eq_true rfl | (simp [headSpec, rm_X2_read]; omega) | omega)⟩) dC_1 rfl rfl hl.1 rfl (Nat.le_of_ble_eq_true rfl) dX2_read_44 (fun H locs hP hS => ?_)
      refine lv_if_eq (tgt := 62) hx hb dX2_read_47 (by decide) (fun c_25 => ?_) (fun c_25 => ?_)
      · have hF := if_t c_25 hF
        refine lv_aload_n hx hb dX2_read_62 rfl (lv_at hl 0 rfl) ?_
        refine wd_getr (q := 1) X hP 29 dC_29 rfl in_X2_read_X2 0 rfl (by decide) (by decide +kernel) dX2_read_63 ?_
        refine lv_iconst (v := (0 : Int32)) hx hb dX2_read_66 (by decide) ?_
        refine va_ldcS hx hb X.1.2.2.2.1 (hW.2.1 5 (by decide)) dX2_read_67 ?_
        obtain ⟨r_10, hc_11, hF⟩ := bd_c hF
        refine wd_callis X hP hS hW [.int (0 : Int32), .ref (adK 5)] [] (c_X0_says l D cA ad X.2.2.2.2 adK adV 5 (by decide) (0 : Int32) M_3 hc_11) (cwV 2 hts gX2_read_X0_says rfl rfl rfl (by decide +kernel) ⟨(by show _ ≤ _; first | exact Nat.le_of_ble_eq_true rfl | (simp [headSpec, rm_X2_read]; omega) | omega), (by show _ ≤ _; first | exact Nat.le_of_ble_eq_true rfl | (simp [headSpec, rm_X2_read]; omega) | omega)⟩) dC_1 rfl rfl hl.1 rfl (Nat.le_of_ble_eq_true rfl) dX2_read_69 (fun H locs hP hS => ?_)
        refine lv_if_eq (tgt := 87) hx hb dX2_read_72 (by decide) (fun c_21 => ?_) (fun c_21 => ?_)
        · have hF := if_t c_21 hF
          refine lv_aload_n hx hb dX2_read_87 rfl (lv_at hl 0 rfl) ?_
          refine wd_getr (q := 1) X hP 29 dC_29 rfl in_X2_read_X2 0 rfl (by decide) (by decide +kernel) dX2_read_88 ?_
          refine lv_iconst (v := (0 : Int32)) hx hb dX2_read_91 (by decide) ?_
          refine va_ldcS hx hb X.1.2.2.2.1 (hW.2.1 6 (by decide)) dX2_read_92 ?_
          obtain ⟨r_12, hc_13, hF⟩ := bd_c hF
          refine wd_callis X hP hS hW [.int (0 : Int32), .ref (adK 6)] [] (c_X0_says l D cA ad X.2.2.2.2 adK adV 6 (by decide) (0 : Int32) M_3 hc_13) (cwV 2 hts gX2_read_X0_says rfl rfl rfl (by decide +kernel) ⟨(by show _ ≤ _; first | exact Nat.le_of_ble_eq_true rfl | (simp [headSpec, rm_X2_read]; omega) | omega), (by show _ ≤ _; first | exact Nat.le_of_ble_eq_true rfl | (simp [headSpec, rm_X2_read]; omega) | omega)⟩) dC_1 rfl rfl hl.1 rfl (Nat.le_of_ble_eq_true rfl) dX2_read_94 (fun H locs hP hS => ?_)
          refine lv_if_eq (tgt := 107) hx hb dX2_read_97 (by decide) (fun c_17 => ?_) (fun c_17 => ?_)
          · have hF := if_t c_17 hF
            refine lv_iconst (v := (-1 : Int32)) hx hb dX2_read_107 (by decide) ?_
            cases hF
            exact wd_reti X hP hS rfl rfl dX2_read_108
          · have hF := if_e c_17 hF
            refine lv_aload_n hx hb dX2_read_100 rfl (lv_at hl 0 rfl) ?_
            obtain ⟨r_14, M_16, hc_15, hF⟩ := bd2_c hF
            refine wd_callis X hP hS hW [] [] (c_X2_readRule l D cA ad X.2.2.2.2 adK adV    M_3 hc_15) (cwV 0 hts gX2_read_X2_readRule rfl rfl rfl (by decide +kernel) ⟨(by show _ ≤ _; first | exact Nat.le_of_ble_eq_true rfl | (simp [headSpec, rm_X2_read]; omega) | omega), (by show _ ≤ _; first | exact Nat.le_of_ble_eq_true rfl | (simp [headSpec, rm_X2_read]; omega) | omega)⟩) dC_29 rfl rfl hl.1 rfl (Nat.le_of_ble_eq_true rfl) dX2_read_101 (fun H locs hP hS => ?_)
            refine lv_goto (tgt := 108) hx hb dX2_read_104 (by decide) ?_
            cases hF
            exact wd_reti X hP hS rfl rfl dX2_read_108
        · have hF := if_e c_21 hF
          refine lv_aload_n hx hb dX2_read_75 rfl (lv_at hl 0 rfl) ?_
          refine lv_aload_n hx hb dX2_read_76 rfl (lv_at hl 0 rfl) ?_
          refine wd_getr (q := 5) X hP 29 dC_29 rfl in_X2_read_X2 1 rfl (by decide) (by decide +kernel) dX2_read_77 ?_
          refine wd_callr X hP hS [] [.ref (ad 29)] (c_X4_leaving l D cA ad X.2.2.2.2 M_3) (cwV 0 hts gX2_read_X4_leaving rfl rfl rfl (by decide +kernel) ⟨(by show _ ≤ _; first | exact Nat.le_of_ble_eq_true rfl | (simp [headSpec, rm_X2_read]; omega) | omega), (by show _ ≤ _; first | exact Nat.le_of_ble_eq_true rfl | (simp [headSpec, rm_X2_read]; omega) | omega)⟩) dC_5 rfl rfl hl.1 rfl (Nat.le_of_ble_eq_true rfl) dX2_read_80 (fun H locs hP hS => ?_)
          obtain ⟨r_18, M_20, hc_19, hF⟩ := bd2_c hF
          refine wd_calli X hP hS [.ref (ad 15)] [] (c_X2_readMarks l D cA ad X.2.2.2.2 15 mr_15  M_3 hc_19) (cwV 1 hts gX2_read_X2_readMarks rfl rfl rfl (by decide +kernel) ⟨(by show _ ≤ _; first | exact Nat.le_of_ble_eq_true rfl | (simp [headSpec, rm_X2_read]; omega) | omega), (by show _ ≤ _; first | exact Nat.le_of_ble_eq_true rfl | (simp [headSpec, rm_X2_read]; omega) | omega)⟩) dC_29 rfl rfl hl.1 rfl (Nat.le_of_ble_eq_true rfl) dX2_read_83 (fun H locs hP hS => ?_)
          cases hF
          exact wd_reti X hP hS rfl rfl dX2_read_86
      · have hF := if_e c_25 hF
        refine lv_aload_n hx hb dX2_read_50 rfl (lv_at hl 0 rfl) ?_
        refine lv_aload_n hx hb dX2_read_51 rfl (lv_at hl 0 rfl) ?_
        refine wd_getr (q := 5) X hP 29 dC_29 rfl in_X2_read_X2 1 rfl (by decide) (by decide +kernel) dX2_read_52 ?_
        refine wd_callr X hP hS [] [.ref (ad 29)] (c_X4_entering l D cA ad X.2.2.2.2 M_3) (cwV 0 hts gX2_read_X4_entering rfl rfl rfl (by decide +kernel) ⟨(by show _ ≤ _; first | exact Nat.le_of_ble_eq_true rfl | (simp [headSpec, rm_X2_read]; omega) | omega), (by show _ ≤ _; first | exact Nat.le_of_ble_eq_true rfl | (simp [headSpec, rm_X2_read]; omega) | omega)⟩) dC_5 rfl rfl hl.1 rfl (Nat.le_of_ble_eq_true rfl) dX2_read_55 (fun H locs hP hS => ?_)
        obtain ⟨r_22, M_24, hc_23, hF⟩ := bd2_c hF
        refine wd_calli X hP hS [.ref (ad 12)] [] (c_X2_readMarks l D cA ad X.2.2.2.2 12 mr_12  M_3 hc_23) (cwV 1 hts gX2_read_X2_readMarks rfl rfl rfl (by decide +kernel) ⟨(by show _ ≤ _; first | exact Nat.le_of_ble_eq_true rfl | (simp [headSpec, rm_X2_read]; omega) | omega), (by show _ ≤ _; first | exact Nat.le_of_ble_eq_true rfl | (simp [headSpec, rm_X2_read]; omega) | omega)⟩) dC_29 rfl rfl hl.1 rfl (Nat.le_of_ble_eq_true rfl) dX2_read_58 (fun H locs hP hS => ?_)
        cases hF
        exact wd_reti X hP hS rfl rfl dX2_read_61
    · have hF := if_e c_29 hF
      refine lv_aload_n hx hb dX2_read_32 rfl (lv_at hl 0 rfl) ?_
      obtain ⟨r_26, M_28, hc_27, hF⟩ := bd2_c hF
      refine wd_callis X hP hS hW [] [] (c_X2_readState l D cA ad X.2.2.2.2 adK adV    M_3 hc_27) (cwV 0 hts gX2_read_X2_readState rfl rfl rfl (by decide +kernel) ⟨(by show _ ≤ _; first | exact Nat.le_of_ble_eq_true rfl | (simp [headSpec, rm_X2_read]; omega) | omega), (by show _ ≤ _; first | exact Nat.le_of_ble_eq_true rfl | (simp [headSpec, rm_X2_read]; omega) | omega)⟩) dC_29 rfl rfl hl.1 rfl (Nat.le_of_ble_eq_true rfl) dX2_read_33 (fun H locs hP hS => ?_)
      cases hF
      exact wd_reti X hP hS rfl rfl dX2_read_36
  · have hF := if_t c_30 hF
    refine lv_iconst (v := (0 : Int32)) hx hb dX2_read_17 (by decide) ?_
    cases hF
    exact wd_reti X hP hS rfl rfl dX2_read_18
