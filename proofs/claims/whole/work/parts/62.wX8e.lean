/-! X8_current (II)I -/
theorem in_X8_current_X8 : ∀ w ∈ u_ws RX8 TX8 39, w ∈ wsX8_current := by decide +kernel
set_option maxHeartbeats 4000000 in
set_option maxRecDepth 100000 in
theorem c_X8_current (l : Launch) (D : va_G) (cA : Nat → ClassId) (ad : Nat → Nat) (hj : wd_inj ad dsM.length)   (x1 : Int32) (x2 : Int32) (M : Mem) {r : Int32} {M' : Mem} (hF : F_X8_current x1 x2 M = some (r, M')) : wm_i l yX8_current wsX8_current rm_X8_current D cA ad dsM M [.ref (ad 0), .int x1, .int x2] r M' := by
  refine Met.ofW (cc := cX8_current) (maxL := 3) (ret := (some .int)) (by decide) rfl ?_
  intro p e s m args below meth c s₁ B hml hv
  obtain ⟨rfl, hP, hK⟩ := hv
  have X : wd_X p s m _ meth c cX8_current 3 wsX8_current RX8 (some .int) D cA ad dsM.length := ⟨⟨B.exec, B.bytes, hml, findClass_of_methodNamed B.named, atoms_spec (ws := wsX8_current) B.pre⟩, hK, B.notSynchronized, B.returns, hj⟩
  have hl := lv_entry ([.ref (ad 0), .int x1, .int x2]) (n := 3) (Nat.le_of_ble_eq_true rfl)
  rw [lg_entry_eq]
  generalize (lg_sl ([.ref (ad 0), .int x1, .int x2]) ++ List.replicate (3 - (lg_sl ([.ref (ad 0), .int x1, .int x2])).length) Slot.unset).toArray = ls at hl ⊢
  have hl : lv_has ls 3 [(0, .ref (ad 0)), (1, .int x1), (2, .int x2)] := hl
  have hS : va_S (wd_A ad dsM.length) s.heap s.heap [] := va_S.rf
  have hx := X.1.1
  have hb := X.1.2.1
  have hts := X.1.2.2.2.2
  unfold F_X8_current at hF
  refine lv_aload_n hx hb dX8_current_0 rfl (lv_at hl 0 rfl) ?_
  refine lv_iconst (v := (0 : Int32)) hx hb dX8_current_1 (by decide) ?_
  obtain ⟨M_1, e_2, hF⟩ := wr_c hF
  refine wd_puti X hP hS 0 dM_0 rfl in_X8_current_X8 tyX8_ok nmX8 0 rfl (by decide) rfl rfl (by decide +kernel) dX8_current_2 (fun H locs hP hS => ?_)
  rw [← e_2] at hP
  refine lv_iload_n hx hb dX8_current_5 rfl (lv_at hl 1 rfl) ?_
  refine lv_if_lt (tgt := 43) hx hb dX8_current_6 (by decide) (fun c_7 => ?_) (fun c_7 => ?_)
  · have hF := if_t c_7 hF
    refine lv_iconst (v := (-1 : Int32)) hx hb dX8_current_43 (by decide) ?_
    cases hF
    exact wd_reti X hP hS rfl rfl dX8_current_44
  · have hF := if_e c_7 hF
    refine lv_iload_n hx hb dX8_current_9 rfl (lv_at hl 1 rfl) ?_
    refine lv_aload_n hx hb dX8_current_10 rfl (lv_at hl 0 rfl) ?_
    refine wd_geti X hP 0 dM_0 rfl in_X8_current_X8 27 rfl (by decide) (by decide +kernel) dX8_current_11 ?_
    refine lv_icmp_ge (tgt := 43) hx hb dX8_current_14 (by decide) (fun c_6 => ?_) (fun c_6 => ?_)
    · have hF := if_t c_6 hF
      refine lv_iconst (v := (-1 : Int32)) hx hb dX8_current_43 (by decide) ?_
      cases hF
      exact wd_reti X hP hS rfl rfl dX8_current_44
    · have hF := if_e c_6 hF
      refine lv_iload_n hx hb dX8_current_17 rfl (lv_at hl 2 rfl) ?_
      refine lv_if_lt (tgt := 43) hx hb dX8_current_18 (by decide) (fun c_5 => ?_) (fun c_5 => ?_)
      · have hF := if_t c_5 hF
        refine lv_iconst (v := (-1 : Int32)) hx hb dX8_current_43 (by decide) ?_
        cases hF
        exact wd_reti X hP hS rfl rfl dX8_current_44
      · have hF := if_e c_5 hF
        refine lv_iload_n hx hb dX8_current_21 rfl (lv_at hl 2 rfl) ?_
        refine lv_aload_n hx hb dX8_current_22 rfl (lv_at hl 0 rfl) ?_
        refine wd_geti X hP 0 dM_0 rfl in_X8_current_X8 6 rfl (by decide) (by decide +kernel) dX8_current_23 ?_
        refine lv_icmp_ge (tgt := 43) hx hb dX8_current_26 (by decide) (fun c_4 => ?_) (fun c_4 => ?_)
        · have hF := if_t c_4 hF
          refine lv_iconst (v := (-1 : Int32)) hx hb dX8_current_43 (by decide) ?_
          cases hF
          exact wd_reti X hP hS rfl rfl dX8_current_44
        · have hF := if_e c_4 hF
          refine lv_aload_n hx hb dX8_current_29 rfl (lv_at hl 0 rfl) ?_
          refine wd_getr (q := 21) X hP 0 dM_0 rfl in_X8_current_X8 30 rfl (by decide) (by decide +kernel) dX8_current_30 ?_
          refine lv_bipush (v := (14 : Int32)) hx hb dX8_current_33 (by decide) ?_
          refine lv_iload_n hx hb dX8_current_35 rfl (lv_at hl 1 rfl) ?_
          refine lv_imul hx hb dX8_current_36 ?_
          refine lv_iload_n hx hb dX8_current_37 rfl (lv_at hl 2 rfl) ?_
          refine lv_iadd hx hb dX8_current_38 ?_
          obtain ⟨h_3, hF⟩ := gi_c hF
          refine wd_ild X hP 21 dM_21 h_3 dX8_current_39 ?_
          refine lv_goto (tgt := 44) hx hb dX8_current_40 (by decide) ?_
          cases hF
          exact wd_reti X hP hS rfl rfl dX8_current_44
/-! X8_event (I)I -/
theorem in_X8_event_X8 : ∀ w ∈ u_ws RX8 TX8 39, w ∈ wsX8_event := by decide +kernel
set_option maxHeartbeats 4000000 in
set_option maxRecDepth 100000 in
theorem wb_X8_event_30 {p : Program} {l : Launch} {e : Env} {s : State} {m : MethodId} {args : Array Value} {below : List Frame} {meth : Method} {c : Code} {D : va_G} {cA : Nat → ClassId} {ad : Nat → Nat} (X : wd_X p s m args meth c cX8_event 2 wsX8_event RX8 (some .int) D cA ad dsM.length) {r : Int32} {M' : Mem}   (M : Mem) (H : Heap) (locs : List Loc) (ls : Array Slot) (hF : B_X8_event_30  M = some (r, M')) (hP : wd_P D cA ad dsM M H) (hS : va_S (wd_A ad dsM.length) s.heap H locs) (hl : lv_has ls 2 [(0, .ref (ad 0))]) : W p l e (headSpec wsX8_event rm_X8_event).room s m args below meth c H locs 0 0 (MQ below (wm_Qi D cA ad dsM r M') args s 0 0 (wd_A ad dsM.length)) (F0 m 30 ls []) := by
  have hx := X.1.1
  have hb := X.1.2.1
  have hts := X.1.2.2.2.2
  unfold B_X8_event_30 at hF
  refine lv_aload_n hx hb dX8_event_30 rfl (lv_at hl 0 rfl) ?_
  refine lv_iconst (v := (2 : Int32)) hx hb dX8_event_31 (by decide) ?_
  obtain ⟨r_1, M_3, hc_2, hF⟩ := bd2_c hF
  refine wd_calli X hP hS [.int (2 : Int32)] [] (c_X8_fails l D cA ad X.2.2.2.2   (2 : Int32) M hc_2) (cwV 1 hts gX8_event_X8_fails rfl rfl rfl (by decide +kernel) ⟨(by show _ ≤ _; first | exact Nat.le_of_ble_eq_true rfl | (simp [headSpec, rm_X8_event]; omega) | omega), (by show _ ≤ _; first | exact Nat.le_of_ble_eq_true rfl | (simp [headSpec, rm_X8_event]; omega) | omega)⟩) dM_0 rfl rfl hl.1 rfl (Nat.le_of_ble_eq_true rfl) dX8_event_32 (fun H locs hP hS => ?_)
  cases hF
  exact wd_reti X hP hS rfl rfl dX8_event_35
set_option maxHeartbeats 4000000 in
set_option maxRecDepth 100000 in
theorem c_X8_event (l : Launch) (D : va_G) (cA : Nat → ClassId) (ad : Nat → Nat) (hj : wd_inj ad dsM.length)   (x1 : Int32) (M : Mem) {r : Int32} {M' : Mem} (hF : F_X8_event x1 M = some (r, M')) : wm_i l yX8_event wsX8_event rm_X8_event D cA ad dsM M [.ref (ad 0), .int x1] r M' := by
  refine Met.ofW (cc := cX8_event) (maxL := 2) (ret := (some .int)) (by decide) rfl ?_
  intro p e s m args below meth c s₁ B hml hv
  obtain ⟨rfl, hP, hK⟩ := hv
  have X : wd_X p s m _ meth c cX8_event 2 wsX8_event RX8 (some .int) D cA ad dsM.length := ⟨⟨B.exec, B.bytes, hml, findClass_of_methodNamed B.named, atoms_spec (ws := wsX8_event) B.pre⟩, hK, B.notSynchronized, B.returns, hj⟩
  have hl := lv_entry ([.ref (ad 0), .int x1]) (n := 2) (Nat.le_of_ble_eq_true rfl)
  rw [lg_entry_eq]
  generalize (lg_sl ([.ref (ad 0), .int x1]) ++ List.replicate (2 - (lg_sl ([.ref (ad 0), .int x1])).length) Slot.unset).toArray = ls at hl ⊢
  have hl : lv_has ls 2 [(0, .ref (ad 0)), (1, .int x1)] := hl
  have hS : va_S (wd_A ad dsM.length) s.heap s.heap [] := va_S.rf
  have hx := X.1.1
  have hb := X.1.2.1
  have hts := X.1.2.2.2.2
  unfold F_X8_event at hF
  refine lv_aload_n hx hb dX8_event_0 rfl (lv_at hl 0 rfl) ?_
  refine lv_iconst (v := (0 : Int32)) hx hb dX8_event_1 (by decide) ?_
  obtain ⟨M_1, e_2, hF⟩ := wr_c hF
  refine wd_puti X hP hS 0 dM_0 rfl in_X8_event_X8 tyX8_ok nmX8 0 rfl (by decide) rfl rfl (by decide +kernel) dX8_event_2 (fun H locs hP hS => ?_)
  rw [← e_2] at hP
  refine lv_aload_n hx hb dX8_event_5 rfl (lv_at hl 0 rfl) ?_
  refine wd_geti X hP 0 dM_0 rfl in_X8_event_X8 27 rfl (by decide) (by decide +kernel) dX8_event_6 ?_
  refine lv_if_ne (tgt := 18) hx hb dX8_event_9 (by decide) (fun c_14 => ?_) (fun c_14 => ?_)
  · have hF := if_e c_14 hF
    refine lv_iload_n hx hb dX8_event_18 rfl (lv_at hl 1 rfl) ?_
    refine lv_if_lt (tgt := 30) hx hb dX8_event_19 (by decide) (fun c_10 => ?_) (fun c_10 => ?_)
    · have hF := if_t c_10 hF
      exact wb_X8_event_30 X    M_1 _ _ _ hF hP hS (lv_sub hl [0] rfl)
    · have hF := if_e c_10 hF
      refine lv_iload_n hx hb dX8_event_22 rfl (lv_at hl 1 rfl) ?_
      refine lv_aload_n hx hb dX8_event_23 rfl (lv_at hl 0 rfl) ?_
      refine wd_geti X hP 0 dM_0 rfl in_X8_event_X8 14 rfl (by decide) (by decide +kernel) dX8_event_24 ?_
      refine lv_icmp_lt (tgt := 36) hx hb dX8_event_27 (by decide) (fun c_9 => ?_) (fun c_9 => ?_)
      · have hF := if_t c_9 hF
        refine lv_aload_n hx hb dX8_event_36 rfl (lv_at hl 0 rfl) ?_
        refine lv_aload_n hx hb dX8_event_37 rfl (lv_at hl 0 rfl) ?_
        refine wd_geti X hP 0 dM_0 rfl in_X8_event_X8 29 rfl (by decide) (by decide +kernel) dX8_event_38 ?_
        refine lv_aload_n hx hb dX8_event_41 rfl (lv_at hl 0 rfl) ?_
        refine wd_getr (q := 23) X hP 0 dM_0 rfl in_X8_event_X8 32 rfl (by decide) (by decide +kernel) dX8_event_42 ?_
        refine lv_bipush (v := (6 : Int32)) hx hb dX8_event_45 (by decide) ?_
        refine lv_aload_n hx hb dX8_event_47 rfl (lv_at hl 0 rfl) ?_
        refine wd_geti X hP 0 dM_0 rfl in_X8_event_X8 28 rfl (by decide) (by decide +kernel) dX8_event_48 ?_
        refine lv_imul hx hb dX8_event_51 ?_
        refine lv_iload_n hx hb dX8_event_52 rfl (lv_at hl 1 rfl) ?_
        refine lv_iadd hx hb dX8_event_53 ?_
        obtain ⟨h_3, hF⟩ := gi_c hF
        refine wd_ild X hP 23 dM_23 h_3 dX8_event_54 ?_
        refine lv_iadd hx hb dX8_event_55 ?_
        obtain ⟨M_4, e_5, hF⟩ := wr_c hF
        refine wd_puti X hP hS 0 dM_0 rfl in_X8_event_X8 tyX8_ok nmX8 29 rfl (by decide) rfl rfl (by decide +kernel) dX8_event_56 (fun H locs hP hS => ?_)
        rw [← e_5] at hP
        refine lv_aload_n hx hb dX8_event_59 rfl (lv_at hl 0 rfl) ?_
        refine lv_aload_n hx hb dX8_event_60 rfl (lv_at hl 0 rfl) ?_
        refine wd_getr (q := 22) X hP 0 dM_0 rfl in_X8_event_X8 31 rfl (by decide) (by decide +kernel) dX8_event_61 ?_
        refine lv_bipush (v := (6 : Int32)) hx hb dX8_event_64 (by decide) ?_
        refine lv_aload_n hx hb dX8_event_66 rfl (lv_at hl 0 rfl) ?_
        refine wd_geti X hP 0 dM_0 rfl in_X8_event_X8 28 rfl (by decide) (by decide +kernel) dX8_event_67 ?_
        refine lv_imul hx hb dX8_event_70 ?_
        refine lv_iload_n hx hb dX8_event_71 rfl (lv_at hl 1 rfl) ?_
        refine lv_iadd hx hb dX8_event_72 ?_
        obtain ⟨h_6, hF⟩ := gi_c hF
        refine wd_ild X hP 22 dM_22 h_6 dX8_event_73 ?_
        obtain ⟨M_7, e_8, hF⟩ := wr_c hF
        refine wd_puti X hP hS 0 dM_0 rfl in_X8_event_X8 tyX8_ok nmX8 28 rfl (by decide) rfl rfl (by decide +kernel) dX8_event_74 (fun H locs hP hS => ?_)
        rw [← e_8] at hP
        refine lv_aload_n hx hb dX8_event_77 rfl (lv_at hl 0 rfl) ?_
        refine wd_geti X hP 0 dM_0 rfl in_X8_event_X8 28 rfl (by decide) (by decide +kernel) dX8_event_78 ?_
        cases hF
        exact wd_reti X hP hS rfl rfl dX8_event_81
      · have hF := if_e c_9 hF
        exact wb_X8_event_30 X    M_1 _ _ _ hF hP hS (lv_sub hl [0] rfl)
  · have hF := if_t c_14 hF
    refine lv_aload_n hx hb dX8_event_12 rfl (lv_at hl 0 rfl) ?_
    refine lv_iconst (v := (1 : Int32)) hx hb dX8_event_13 (by decide) ?_
    obtain ⟨r_11, M_13, hc_12, hF⟩ := bd2_c hF
    refine wd_calli X hP hS [.int (1 : Int32)] [] (c_X8_fails l D cA ad X.2.2.2.2   (1 : Int32) M_1 hc_12) (cwV 1 hts gX8_event_X8_fails rfl rfl rfl (by decide +kernel) ⟨(by show _ ≤ _; first | exact Nat.le_of_ble_eq_true rfl | (simp [headSpec, rm_X8_event]; omega) | omega), (by show _ ≤ _; first | exact Nat.le_of_ble_eq_true rfl | (simp [headSpec, rm_X8_event]; omega) | omega)⟩) dM_0 rfl rfl hl.1 rfl (Nat.le_of_ble_eq_true rfl) dX8_event_14 (fun H locs hP hS => ?_)
    cases hF
    exact wd_reti X hP hS rfl rfl dX8_event_17
/-! X8_noted ()I -/
theorem in_X8_noted_X8 : ∀ w ∈ u_ws RX8 TX8 39, w ∈ wsX8_noted := by decide +kernel
set_option maxHeartbeats 4000000 in
set_option maxRecDepth 100000 in
theorem c_X8_noted (l : Launch) (D : va_G) (cA : Nat → ClassId) (ad : Nat → Nat) (hj : wd_inj ad dsM.length)    (M : Mem) {r : Int32} {M' : Mem} (hF : F_X8_noted M = some (r, M')) : wm_i l yX8_noted wsX8_noted rm_X8_noted D cA ad dsM M [.ref (ad 0)] r M' := by
  refine Met.ofW (cc := cX8_noted) (maxL := 1) (ret := (some .int)) (by decide) rfl ?_
  intro p e s m args below meth c s₁ B hml hv
  obtain ⟨rfl, hP, hK⟩ := hv
  have X : wd_X p s m _ meth c cX8_noted 1 wsX8_noted RX8 (some .int) D cA ad dsM.length := ⟨⟨B.exec, B.bytes, hml, findClass_of_methodNamed B.named, atoms_spec (ws := wsX8_noted) B.pre⟩, hK, B.notSynchronized, B.returns, hj⟩
  have hl := lv_entry ([.ref (ad 0)]) (n := 1) (Nat.le_of_ble_eq_true rfl)
  rw [lg_entry_eq]
  generalize (lg_sl ([.ref (ad 0)]) ++ List.replicate (1 - (lg_sl ([.ref (ad 0)])).length) Slot.unset).toArray = ls at hl ⊢
  have hl : lv_has ls 1 [(0, .ref (ad 0))] := hl
  have hS : va_S (wd_A ad dsM.length) s.heap s.heap [] := va_S.rf
  have hx := X.1.1
  have hb := X.1.2.1
  have hts := X.1.2.2.2.2
  unfold F_X8_noted at hF
  refine lv_aload_n hx hb dX8_noted_0 rfl (lv_at hl 0 rfl) ?_
  refine lv_iconst (v := (0 : Int32)) hx hb dX8_noted_1 (by decide) ?_
  obtain ⟨M_1, e_2, hF⟩ := wr_c hF
  refine wd_puti X hP hS 0 dM_0 rfl in_X8_noted_X8 tyX8_ok nmX8 0 rfl (by decide) rfl rfl (by decide +kernel) dX8_noted_2 (fun H locs hP hS => ?_)
  rw [← e_2] at hP
  refine lv_aload_n hx hb dX8_noted_5 rfl (lv_at hl 0 rfl) ?_
  refine wd_geti X hP 0 dM_0 rfl in_X8_noted_X8 27 rfl (by decide) (by decide +kernel) dX8_noted_6 ?_
  refine lv_if_le (tgt := 19) hx hb dX8_noted_9 (by decide) (fun c_3 => ?_) (fun c_3 => ?_)
  · have hF := if_t c_3 hF
    refine lv_iconst (v := (0 : Int32)) hx hb dX8_noted_19 (by decide) ?_
    cases hF
    exact wd_reti X hP hS rfl rfl dX8_noted_20
  · have hF := if_e c_3 hF
    refine lv_aload_n hx hb dX8_noted_12 rfl (lv_at hl 0 rfl) ?_
    refine wd_geti X hP 0 dM_0 rfl in_X8_noted_X8 29 rfl (by decide) (by decide +kernel) dX8_noted_13 ?_
    refine lv_goto (tgt := 20) hx hb dX8_noted_16 (by decide) ?_
    cases hF
    exact wd_reti X hP hS rfl rfl dX8_noted_20
