/-! X7_write (C)Z -/
theorem in_X7_write_X7 : ∀ w ∈ u_ws RX7 TX7 5, w ∈ wsX7_write := by decide +kernel
set_option maxHeartbeats 4000000 in
set_option maxRecDepth 100000 in
theorem c_X7_write (l : Launch) (D : va_G) (cA : Nat → ClassId) (ad : Nat → Nat) (hj : wd_inj ad dsC.length)   (x1 : Int32) (M : Mem) {r : Int32} {M' : Mem} (hF : F_X7_write x1 M = some (r, M')) : wm_i l yX7_write wsX7_write rm_X7_write D cA ad dsC M [.ref (ad 0), .int x1] r M' := by
  refine Met.ofW (cc := cX7_write) (maxL := 2) (ret := (some .boolean)) (by decide) rfl ?_
  intro p e s m args below meth c s₁ B hml hv
  obtain ⟨rfl, hP, hK⟩ := hv
  have X : wd_X p s m _ meth c cX7_write 2 wsX7_write RX7 (some .boolean) D cA ad dsC.length := ⟨⟨B.exec, B.bytes, hml, findClass_of_methodNamed B.named, atoms_spec (ws := wsX7_write) B.pre⟩, hK, B.notSynchronized, B.returns, hj⟩
  have hl := lv_entry ([.ref (ad 0), .int x1]) (n := 2) (Nat.le_of_ble_eq_true rfl)
  rw [lg_entry_eq]
  generalize (lg_sl ([.ref (ad 0), .int x1]) ++ List.replicate (2 - (lg_sl ([.ref (ad 0), .int x1])).length) Slot.unset).toArray = ls at hl ⊢
  have hl : lv_has ls 2 [(0, .ref (ad 0)), (1, .int x1)] := hl
  have hS : va_S (wd_A ad dsC.length) s.heap s.heap [] := va_S.rf
  have hx := X.1.1
  have hb := X.1.2.1
  have hts := X.1.2.2.2.2
  unfold F_X7_write at hF
  refine lv_aload_n hx hb dX7_write_0 rfl (lv_at hl 0 rfl) ?_
  refine wd_getr (q := 1) X hP 0 dC_0 rfl in_X7_write_X7 0 rfl (by decide) (by decide +kernel) dX7_write_1 ?_
  refine lv_iload_n hx hb dX7_write_4 rfl (lv_at hl 1 rfl) ?_
  obtain ⟨r_1, M_3, hc_2, hF⟩ := bd2_c hF
  refine wd_calli X hP hS [.int x1] [] (c_X0_append l D cA ad X.2.2.2.2   x1 M hc_2) (cwV 1 hts gX7_write_X0_append rfl rfl rfl (by decide +kernel) ⟨(by show _ ≤ _; first | exact Nat.le_of_ble_eq_true rfl | (simp [headSpec, rm_X7_write]; omega) | omega), (by show _ ≤ _; first | exact Nat.le_of_ble_eq_true rfl | (simp [headSpec, rm_X7_write]; omega) | omega)⟩) dC_1 rfl rfl hl.1 rfl (Nat.le_of_ble_eq_true rfl) dX7_write_5 (fun H locs hP hS => ?_)
  obtain ⟨h_4, hF⟩ := gz_c hF
  cases hF
  exact wd_reti X hP hS rfl h_4 dX7_write_8
/-! X7_configurations ()I -/
theorem in_X7_configurations_X7 : ∀ w ∈ u_ws RX7 TX7 5, w ∈ wsX7_configurations := by decide +kernel
set_option maxHeartbeats 4000000 in
set_option maxRecDepth 100000 in
theorem c_X7_configurations (l : Launch) (D : va_G) (cA : Nat → ClassId) (ad : Nat → Nat) (hj : wd_inj ad dsC.length)    (M : Mem) {r : Int32} (hF : F_X7_configurations M = some r) : wm_i l yX7_configurations wsX7_configurations rm_X7_configurations D cA ad dsC M [.ref (ad 0)] r M := by
  refine Met.ofW (cc := cX7_configurations) (maxL := 1) (ret := (some .int)) (by decide) rfl ?_
  intro p e s m args below meth c s₁ B hml hv
  obtain ⟨rfl, hP, hK⟩ := hv
  have X : wd_X p s m _ meth c cX7_configurations 1 wsX7_configurations RX7 (some .int) D cA ad dsC.length := ⟨⟨B.exec, B.bytes, hml, findClass_of_methodNamed B.named, atoms_spec (ws := wsX7_configurations) B.pre⟩, hK, B.notSynchronized, B.returns, hj⟩
  have hl := lv_entry ([.ref (ad 0)]) (n := 1) (Nat.le_of_ble_eq_true rfl)
  rw [lg_entry_eq]
  generalize (lg_sl ([.ref (ad 0)]) ++ List.replicate (1 - (lg_sl ([.ref (ad 0)])).length) Slot.unset).toArray = ls at hl ⊢
  have hl : lv_has ls 1 [(0, .ref (ad 0))] := hl
  have hS : va_S (wd_A ad dsC.length) s.heap s.heap [] := va_S.rf
  have hx := X.1.1
  have hb := X.1.2.1
  have hts := X.1.2.2.2.2
  unfold F_X7_configurations at hF
  refine lv_aload_n hx hb dX7_configurations_0 rfl (lv_at hl 0 rfl) ?_
  refine wd_getr (q := 30) X hP 0 dC_0 rfl in_X7_configurations_X7 4 rfl (by decide) (by decide +kernel) dX7_configurations_1 ?_
  obtain ⟨r_1, hc_2, hF⟩ := bd_c hF
  refine wd_calli X hP hS [] [] (c_X5_size l D cA ad X.2.2.2.2    M hc_2) (cwV 0 hts gX7_configurations_X5_size rfl rfl rfl (by decide +kernel) ⟨(by show _ ≤ _; first | exact Nat.le_of_ble_eq_true rfl | (simp [headSpec, rm_X7_configurations]; omega) | omega), (by show _ ≤ _; first | exact Nat.le_of_ble_eq_true rfl | (simp [headSpec, rm_X7_configurations]; omega) | omega)⟩) dC_30 rfl rfl hl.1 rfl (Nat.le_of_ble_eq_true rfl) dX7_configurations_4 (fun H locs hP hS => ?_)
  cases hF
  exact wd_reti X hP hS rfl rfl dX7_configurations_7
/-! X7_count (I)I -/
theorem in_X7_count_X7 : ∀ w ∈ u_ws RX7 TX7 5, w ∈ wsX7_count := by decide +kernel
set_option maxHeartbeats 4000000 in
set_option maxRecDepth 100000 in
theorem c_X7_count (l : Launch) (D : va_G) (cA : Nat → ClassId) (ad : Nat → Nat) (hj : wd_inj ad dsC.length)   (x1 : Int32) (M : Mem) {r : Int32} (hF : F_X7_count x1 M = some r) : wm_i l yX7_count wsX7_count rm_X7_count D cA ad dsC M [.ref (ad 0), .int x1] r M := by
  refine Met.ofW (cc := cX7_count) (maxL := 2) (ret := (some .int)) (by decide) rfl ?_
  intro p e s m args below meth c s₁ B hml hv
  obtain ⟨rfl, hP, hK⟩ := hv
  have X : wd_X p s m _ meth c cX7_count 2 wsX7_count RX7 (some .int) D cA ad dsC.length := ⟨⟨B.exec, B.bytes, hml, findClass_of_methodNamed B.named, atoms_spec (ws := wsX7_count) B.pre⟩, hK, B.notSynchronized, B.returns, hj⟩
  have hl := lv_entry ([.ref (ad 0), .int x1]) (n := 2) (Nat.le_of_ble_eq_true rfl)
  rw [lg_entry_eq]
  generalize (lg_sl ([.ref (ad 0), .int x1]) ++ List.replicate (2 - (lg_sl ([.ref (ad 0), .int x1])).length) Slot.unset).toArray = ls at hl ⊢
  have hl : lv_has ls 2 [(0, .ref (ad 0)), (1, .int x1)] := hl
  have hS : va_S (wd_A ad dsC.length) s.heap s.heap [] := va_S.rf
  have hx := X.1.1
  have hb := X.1.2.1
  have hts := X.1.2.2.2.2
  unfold F_X7_count at hF
  refine lv_iload_n hx hb dX7_count_0 rfl (lv_at hl 1 rfl) ?_
  by_cases c_1 : x1 = (0 : Int32)
  · have hF := if_t c_1 hF
    refine lv_tableIn (off := 31) (tgt := 32) hx hb dX7_count_1 (by rw [c_1]; decide) (by rw [c_1]; decide) (by rw [c_1]; rfl) (by decide) ?_
    refine lv_aload_n hx hb dX7_count_32 rfl (lv_at hl 0 rfl) ?_
    refine wd_getr (q := 5) X hP 0 dC_0 rfl in_X7_count_X7 1 rfl (by decide) (by decide +kernel) dX7_count_33 ?_
    obtain ⟨r_2, hc_3, hF⟩ := bd_c hF
    refine wd_calli X hP hS [] [] (c_X4_made l D cA ad X.2.2.2.2    M hc_3) (cwV 0 hts gX7_count_X4_made rfl rfl rfl (by decide +kernel) ⟨(by show _ ≤ _; first | exact Nat.le_of_ble_eq_true rfl | (simp [headSpec, rm_X7_count]; omega) | omega), (by show _ ≤ _; first | exact Nat.le_of_ble_eq_true rfl | (simp [headSpec, rm_X7_count]; omega) | omega)⟩) dC_5 rfl rfl hl.1 rfl (Nat.le_of_ble_eq_true rfl) dX7_count_36 (fun H locs hP hS => ?_)
    cases hF
    exact wd_reti X hP hS rfl rfl dX7_count_39
  · have hF := if_e c_1 hF
    by_cases c_4 : x1 = (1 : Int32)
    · have hF := if_t c_4 hF
      refine lv_tableIn (off := 39) (tgt := 40) hx hb dX7_count_1 (by rw [c_4]; decide) (by rw [c_4]; decide) (by rw [c_4]; rfl) (by decide) ?_
      refine lv_aload_n hx hb dX7_count_40 rfl (lv_at hl 0 rfl) ?_
      refine wd_getr (q := 18) X hP 0 dC_0 rfl in_X7_count_X7 2 rfl (by decide) (by decide +kernel) dX7_count_41 ?_
      obtain ⟨r_5, hc_6, hF⟩ := bd_c hF
      refine wd_calli X hP hS [] [] (c_X3_made l D cA ad X.2.2.2.2    M hc_6) (cwV 0 hts gX7_count_X3_made rfl rfl rfl (by decide +kernel) ⟨(by show _ ≤ _; first | exact Nat.le_of_ble_eq_true rfl | (simp [headSpec, rm_X7_count]; omega) | omega), (by show _ ≤ _; first | exact Nat.le_of_ble_eq_true rfl | (simp [headSpec, rm_X7_count]; omega) | omega)⟩) dC_18 rfl rfl hl.1 rfl (Nat.le_of_ble_eq_true rfl) dX7_count_44 (fun H locs hP hS => ?_)
      cases hF
      exact wd_reti X hP hS rfl rfl dX7_count_47
    · have hF := if_e c_4 hF
      by_cases c_7 : x1 = (2 : Int32)
      · have hF := if_t c_7 hF
        refine lv_tableIn (off := 47) (tgt := 48) hx hb dX7_count_1 (by rw [c_7]; decide) (by rw [c_7]; decide) (by rw [c_7]; rfl) (by decide) ?_
        refine lv_aload_n hx hb dX7_count_48 rfl (lv_at hl 0 rfl) ?_
        refine wd_getr (q := 18) X hP 0 dC_0 rfl in_X7_count_X7 2 rfl (by decide) (by decide +kernel) dX7_count_49 ?_
        obtain ⟨r_8, hc_9, hF⟩ := bd_c hF
        refine wd_calli X hP hS [] [] (c_X3_events l D cA ad X.2.2.2.2    M hc_9) (cwV 0 hts gX7_count_X3_events rfl rfl rfl (by decide +kernel) ⟨(by show _ ≤ _; first | exact Nat.le_of_ble_eq_true rfl | (simp [headSpec, rm_X7_count]; omega) | omega), (by show _ ≤ _; first | exact Nat.le_of_ble_eq_true rfl | (simp [headSpec, rm_X7_count]; omega) | omega)⟩) dC_18 rfl rfl hl.1 rfl (Nat.le_of_ble_eq_true rfl) dX7_count_52 (fun H locs hP hS => ?_)
        cases hF
        exact wd_reti X hP hS rfl rfl dX7_count_55
      · have hF := if_e c_7 hF
        by_cases c_10 : x1 = (3 : Int32)
        · have hF := if_t c_10 hF
          refine lv_tableIn (off := 55) (tgt := 56) hx hb dX7_count_1 (by rw [c_10]; decide) (by rw [c_10]; decide) (by rw [c_10]; rfl) (by decide) ?_
          refine lv_aload_n hx hb dX7_count_56 rfl (lv_at hl 0 rfl) ?_
          refine wd_getr (q := 30) X hP 0 dC_0 rfl in_X7_count_X7 4 rfl (by decide) (by decide +kernel) dX7_count_57 ?_
          obtain ⟨r_11, hc_12, hF⟩ := bd_c hF
          refine wd_calli X hP hS [] [] (c_X5_place l D cA ad X.2.2.2.2    M hc_12) (cwV 0 hts gX7_count_X5_place rfl rfl rfl (by decide +kernel) ⟨(by show _ ≤ _; first | exact Nat.le_of_ble_eq_true rfl | (simp [headSpec, rm_X7_count]; omega) | omega), (by show _ ≤ _; first | exact Nat.le_of_ble_eq_true rfl | (simp [headSpec, rm_X7_count]; omega) | omega)⟩) dC_30 rfl rfl hl.1 rfl (Nat.le_of_ble_eq_true rfl) dX7_count_60 (fun H locs hP hS => ?_)
          cases hF
          exact wd_reti X hP hS rfl rfl dX7_count_63
        · have hF := if_e c_10 hF
          refine lv_tableOut (tgt := 64) hx hb dX7_count_1 (sw_out x1 c_1 c_4 c_7 c_10) (by decide) ?_
          refine lv_iconst (v := (-1 : Int32)) hx hb dX7_count_64 (by decide) ?_
          cases hF
          exact wd_reti X hP hS rfl rfl dX7_count_65
/-! X7_trace (III)I -/
theorem in_X7_trace_X7 : ∀ w ∈ u_ws RX7 TX7 5, w ∈ wsX7_trace := by decide +kernel
set_option maxHeartbeats 4000000 in
set_option maxRecDepth 100000 in
theorem c_X7_trace (l : Launch) (D : va_G) (cA : Nat → ClassId) (ad : Nat → Nat) (hj : wd_inj ad dsC.length)   (x1 : Int32) (x2 : Int32) (x3 : Int32) (M : Mem) {r : Int32} (hF : F_X7_trace x1 x2 x3 M = some r) : wm_i l yX7_trace wsX7_trace rm_X7_trace D cA ad dsC M [.ref (ad 0), .int x1, .int x2, .int x3] r M := by
  refine Met.ofW (cc := cX7_trace) (maxL := 4) (ret := (some .int)) (by decide) rfl ?_
  intro p e s m args below meth c s₁ B hml hv
  obtain ⟨rfl, hP, hK⟩ := hv
  have X : wd_X p s m _ meth c cX7_trace 4 wsX7_trace RX7 (some .int) D cA ad dsC.length := ⟨⟨B.exec, B.bytes, hml, findClass_of_methodNamed B.named, atoms_spec (ws := wsX7_trace) B.pre⟩, hK, B.notSynchronized, B.returns, hj⟩
  have hl := lv_entry ([.ref (ad 0), .int x1, .int x2, .int x3]) (n := 4) (Nat.le_of_ble_eq_true rfl)
  rw [lg_entry_eq]
  generalize (lg_sl ([.ref (ad 0), .int x1, .int x2, .int x3]) ++ List.replicate (4 - (lg_sl ([.ref (ad 0), .int x1, .int x2, .int x3])).length) Slot.unset).toArray = ls at hl ⊢
  have hl : lv_has ls 4 [(0, .ref (ad 0)), (1, .int x1), (2, .int x2), (3, .int x3)] := hl
  have hS : va_S (wd_A ad dsC.length) s.heap s.heap [] := va_S.rf
  have hx := X.1.1
  have hb := X.1.2.1
  have hts := X.1.2.2.2.2
  unfold F_X7_trace at hF
  refine lv_aload_n hx hb dX7_trace_0 rfl (lv_at hl 0 rfl) ?_
  refine wd_getr (q := 30) X hP 0 dC_0 rfl in_X7_trace_X7 4 rfl (by decide) (by decide +kernel) dX7_trace_1 ?_
  refine lv_iload_n hx hb dX7_trace_4 rfl (lv_at hl 1 rfl) ?_
  refine lv_iload_n hx hb dX7_trace_5 rfl (lv_at hl 2 rfl) ?_
  refine lv_iload_n hx hb dX7_trace_6 rfl (lv_at hl 3 rfl) ?_
  obtain ⟨r_1, hc_2, hF⟩ := bd_c hF
  refine wd_calli X hP hS [.int x1, .int x2, .int x3] [] (c_X5_traceLetter l D cA ad X.2.2.2.2   x1 x2 x3 M hc_2) (cwV 3 hts gX7_trace_X5_traceLetter rfl rfl rfl (by decide +kernel) ⟨(by show _ ≤ _; first | exact Nat.le_of_ble_eq_true rfl | (simp [headSpec, rm_X7_trace]; omega) | omega), (by show _ ≤ _; first | exact Nat.le_of_ble_eq_true rfl | (simp [headSpec, rm_X7_trace]; omega) | omega)⟩) dC_30 rfl rfl hl.1 rfl (Nat.le_of_ble_eq_true rfl) dX7_trace_7 (fun H locs hP hS => ?_)
  cases hF
  exact wd_reti X hP hS rfl rfl dX7_trace_10
/-! X7_active (II)Z -/
theorem in_X7_active_X7 : ∀ w ∈ u_ws RX7 TX7 5, w ∈ wsX7_active := by decide +kernel
set_option maxHeartbeats 4000000 in
set_option maxRecDepth 100000 in
theorem c_X7_active (l : Launch) (D : va_G) (cA : Nat → ClassId) (ad : Nat → Nat) (hj : wd_inj ad dsC.length)   (x1 : Int32) (x2 : Int32) (M : Mem) {r : Int32} {M' : Mem} (hF : F_X7_active x1 x2 M = some (r, M')) : wm_i l yX7_active wsX7_active rm_X7_active D cA ad dsC M [.ref (ad 0), .int x1, .int x2] r M' := by
  refine Met.ofW (cc := cX7_active) (maxL := 3) (ret := (some .boolean)) (by decide) rfl ?_
  intro p e s m args below meth c s₁ B hml hv
  obtain ⟨rfl, hP, hK⟩ := hv
  have X : wd_X p s m _ meth c cX7_active 3 wsX7_active RX7 (some .boolean) D cA ad dsC.length := ⟨⟨B.exec, B.bytes, hml, findClass_of_methodNamed B.named, atoms_spec (ws := wsX7_active) B.pre⟩, hK, B.notSynchronized, B.returns, hj⟩
  have hl := lv_entry ([.ref (ad 0), .int x1, .int x2]) (n := 3) (Nat.le_of_ble_eq_true rfl)
  rw [lg_entry_eq]
  generalize (lg_sl ([.ref (ad 0), .int x1, .int x2]) ++ List.replicate (3 - (lg_sl ([.ref (ad 0), .int x1, .int x2])).length) Slot.unset).toArray = ls at hl ⊢
  have hl : lv_has ls 3 [(0, .ref (ad 0)), (1, .int x1), (2, .int x2)] := hl
  have hS : va_S (wd_A ad dsC.length) s.heap s.heap [] := va_S.rf
  have hx := X.1.1
  have hb := X.1.2.1
  have hts := X.1.2.2.2.2
  unfold F_X7_active at hF
  refine lv_aload_n hx hb dX7_active_0 rfl (lv_at hl 0 rfl) ?_
  refine wd_getr (q := 30) X hP 0 dC_0 rfl in_X7_active_X7 4 rfl (by decide) (by decide +kernel) dX7_active_1 ?_
  refine lv_iload_n hx hb dX7_active_4 rfl (lv_at hl 1 rfl) ?_
  refine lv_iload_n hx hb dX7_active_5 rfl (lv_at hl 2 rfl) ?_
  obtain ⟨r_1, M_3, hc_2, hF⟩ := bd2_c hF
  refine wd_calli X hP hS [.int x1, .int x2] [] (c_X5_isActive l D cA ad X.2.2.2.2   x1 x2 M hc_2) (cwV 2 hts gX7_active_X5_isActive rfl rfl rfl (by decide +kernel) ⟨(by show _ ≤ _; first | exact Nat.le_of_ble_eq_true rfl | (simp [headSpec, rm_X7_active]; omega) | omega), (by show _ ≤ _; first | exact Nat.le_of_ble_eq_true rfl | (simp [headSpec, rm_X7_active]; omega) | omega)⟩) dC_30 rfl rfl hl.1 rfl (Nat.le_of_ble_eq_true rfl) dX7_active_6 (fun H locs hP hS => ?_)
  obtain ⟨h_4, hF⟩ := gz_c hF
  cases hF
  exact wd_reti X hP hS rfl h_4 dX7_active_9
/-! X7_current (II)I -/
theorem in_X7_current_X7 : ∀ w ∈ u_ws RX7 TX7 5, w ∈ wsX7_current := by decide +kernel
set_option maxHeartbeats 4000000 in
set_option maxRecDepth 100000 in
theorem c_X7_current (l : Launch) (D : va_G) (cA : Nat → ClassId) (ad : Nat → Nat) (hj : wd_inj ad dsC.length)   (x1 : Int32) (x2 : Int32) (M : Mem) {r : Int32} (hF : F_X7_current x1 x2 M = some r) : wm_i l yX7_current wsX7_current rm_X7_current D cA ad dsC M [.ref (ad 0), .int x1, .int x2] r M := by
  refine Met.ofW (cc := cX7_current) (maxL := 3) (ret := (some .int)) (by decide) rfl ?_
  intro p e s m args below meth c s₁ B hml hv
  obtain ⟨rfl, hP, hK⟩ := hv
  have X : wd_X p s m _ meth c cX7_current 3 wsX7_current RX7 (some .int) D cA ad dsC.length := ⟨⟨B.exec, B.bytes, hml, findClass_of_methodNamed B.named, atoms_spec (ws := wsX7_current) B.pre⟩, hK, B.notSynchronized, B.returns, hj⟩
  have hl := lv_entry ([.ref (ad 0), .int x1, .int x2]) (n := 3) (Nat.le_of_ble_eq_true rfl)
  rw [lg_entry_eq]
  generalize (lg_sl ([.ref (ad 0), .int x1, .int x2]) ++ List.replicate (3 - (lg_sl ([.ref (ad 0), .int x1, .int x2])).length) Slot.unset).toArray = ls at hl ⊢
  have hl : lv_has ls 3 [(0, .ref (ad 0)), (1, .int x1), (2, .int x2)] := hl
  have hS : va_S (wd_A ad dsC.length) s.heap s.heap [] := va_S.rf
  have hx := X.1.1
  have hb := X.1.2.1
  have hts := X.1.2.2.2.2
  unfold F_X7_current at hF
  refine lv_aload_n hx hb dX7_current_0 rfl (lv_at hl 0 rfl) ?_
  refine wd_getr (q := 30) X hP 0 dC_0 rfl in_X7_current_X7 4 rfl (by decide) (by decide +kernel) dX7_current_1 ?_
  refine lv_iload_n hx hb dX7_current_4 rfl (lv_at hl 1 rfl) ?_
  refine lv_iload_n hx hb dX7_current_5 rfl (lv_at hl 2 rfl) ?_
  obtain ⟨r_1, hc_2, hF⟩ := bd_c hF
  refine wd_calli X hP hS [.int x1, .int x2] [] (c_X5_currentChild l D cA ad X.2.2.2.2   x1 x2 M hc_2) (cwV 2 hts gX7_current_X5_currentChild rfl rfl rfl (by decide +kernel) ⟨(by show _ ≤ _; first | exact Nat.le_of_ble_eq_true rfl | (simp [headSpec, rm_X7_current]; omega) | omega), (by show _ ≤ _; first | exact Nat.le_of_ble_eq_true rfl | (simp [headSpec, rm_X7_current]; omega) | omega)⟩) dC_30 rfl rfl hl.1 rfl (Nat.le_of_ble_eq_true rfl) dX7_current_6 (fun H locs hP hS => ?_)
  cases hF
  exact wd_reti X hP hS rfl rfl dX7_current_9
/-! X7_noted ()I -/
theorem in_X7_noted_X7 : ∀ w ∈ u_ws RX7 TX7 5, w ∈ wsX7_noted := by decide +kernel
set_option maxHeartbeats 4000000 in
set_option maxRecDepth 100000 in
theorem c_X7_noted (l : Launch) (D : va_G) (cA : Nat → ClassId) (ad : Nat → Nat) (hj : wd_inj ad dsC.length)    (M : Mem) {r : Int32} (hF : F_X7_noted M = some r) : wm_i l yX7_noted wsX7_noted rm_X7_noted D cA ad dsC M [.ref (ad 0)] r M := by
  refine Met.ofW (cc := cX7_noted) (maxL := 1) (ret := (some .int)) (by decide) rfl ?_
  intro p e s m args below meth c s₁ B hml hv
  obtain ⟨rfl, hP, hK⟩ := hv
  have X : wd_X p s m _ meth c cX7_noted 1 wsX7_noted RX7 (some .int) D cA ad dsC.length := ⟨⟨B.exec, B.bytes, hml, findClass_of_methodNamed B.named, atoms_spec (ws := wsX7_noted) B.pre⟩, hK, B.notSynchronized, B.returns, hj⟩
  have hl := lv_entry ([.ref (ad 0)]) (n := 1) (Nat.le_of_ble_eq_true rfl)
  rw [lg_entry_eq]
  generalize (lg_sl ([.ref (ad 0)]) ++ List.replicate (1 - (lg_sl ([.ref (ad 0)])).length) Slot.unset).toArray = ls at hl ⊢
  have hl : lv_has ls 1 [(0, .ref (ad 0))] := hl
  have hS : va_S (wd_A ad dsC.length) s.heap s.heap [] := va_S.rf
  have hx := X.1.1
  have hb := X.1.2.1
  have hts := X.1.2.2.2.2
  unfold F_X7_noted at hF
  refine lv_aload_n hx hb dX7_noted_0 rfl (lv_at hl 0 rfl) ?_
  refine wd_getr (q := 30) X hP 0 dC_0 rfl in_X7_noted_X7 4 rfl (by decide) (by decide +kernel) dX7_noted_1 ?_
  obtain ⟨r_1, hc_2, hF⟩ := bd_c hF
  refine wd_calli X hP hS [] [] (c_X5_marksNoted l D cA ad X.2.2.2.2    M hc_2) (cwV 0 hts gX7_noted_X5_marksNoted rfl rfl rfl (by decide +kernel) ⟨(by show _ ≤ _; first | exact Nat.le_of_ble_eq_true rfl | (simp [headSpec, rm_X7_noted]; omega) | omega), (by show _ ≤ _; first | exact Nat.le_of_ble_eq_true rfl | (simp [headSpec, rm_X7_noted]; omega) | omega)⟩) dC_30 rfl rfl hl.1 rfl (Nat.le_of_ble_eq_true rfl) dX7_noted_4 (fun H locs hP hS => ?_)
  cases hF
  exact wd_reti X hP hS rfl rfl dX7_noted_7
