/-! X1_isRow (I)Z -/
theorem in_X1_isRow_X1 : ∀ w ∈ u_ws RX1 TX1 4, w ∈ wsX1_isRow := by decide +kernel
set_option maxHeartbeats 4000000 in
set_option maxRecDepth 100000 in
theorem c_X1_isRow (l : Launch) (D : va_G) (cA : Nat → ClassId) (ad : Nat → Nat) (hj : wd_inj ad dsC.length) (o : Nat) (ho : mr_ok o) (x1 : Int32) (M : Mem) {r : Int32} (hF : F_X1_isRow o x1 M = some r) : wm_i l yX1_isRow wsX1_isRow rm_X1_isRow D cA ad dsC M [.ref (ad o), .int x1] r M := by
  refine Met.ofW (cc := cX1_isRow) (maxL := 2) (ret := (some .boolean)) (by decide) rfl ?_
  intro p e s m args below meth c s₁ B hml hv
  obtain ⟨rfl, hP, hK⟩ := hv
  have X : wd_X p s m _ meth c cX1_isRow 2 wsX1_isRow RX1 (some .boolean) D cA ad dsC.length := ⟨⟨B.exec, B.bytes, hml, findClass_of_methodNamed B.named, atoms_spec (ws := wsX1_isRow) B.pre⟩, hK, B.notSynchronized, B.returns, hj⟩
  have hl := lv_entry ([.ref (ad o), .int x1]) (n := 2) (Nat.le_of_ble_eq_true rfl)
  rw [lg_entry_eq]
  generalize (lg_sl ([.ref (ad o), .int x1]) ++ List.replicate (2 - (lg_sl ([.ref (ad o), .int x1])).length) Slot.unset).toArray = ls at hl ⊢
  have hl : lv_has ls 2 [(0, .ref (ad o)), (1, .int x1)] := hl
  have hS : va_S (wd_A ad dsC.length) s.heap s.heap [] := va_S.rf
  have hx := X.1.1
  have hb := X.1.2.1
  have hts := X.1.2.2.2.2
  unfold F_X1_isRow at hF
  refine lv_iload_n hx hb dX1_isRow_0 rfl (lv_at hl 1 rfl) ?_
  refine lv_if_lt (tgt := 16) hx hb dX1_isRow_1 (by decide) (fun c_2 => ?_) (fun c_2 => ?_)
  · have hF := if_t c_2 hF
    refine lv_iconst (v := (0 : Int32)) hx hb dX1_isRow_16 (by decide) ?_
    cases hF
    exact wd_reti X hP hS rfl (by decide) dX1_isRow_17
  · have hF := if_e c_2 hF
    refine lv_iload_n hx hb dX1_isRow_4 rfl (lv_at hl 1 rfl) ?_
    refine lv_aload_n hx hb dX1_isRow_5 rfl (lv_at hl 0 rfl) ?_
    refine wd_geti X hP o ho.1 rfl in_X1_isRow_X1 0 rfl (by decide) (by decide +kernel) dX1_isRow_6 ?_
    refine lv_icmp_ge (tgt := 16) hx hb dX1_isRow_9 (by decide) (fun c_1 => ?_) (fun c_1 => ?_)
    · have hF := if_t c_1 hF
      refine lv_iconst (v := (0 : Int32)) hx hb dX1_isRow_16 (by decide) ?_
      cases hF
      exact wd_reti X hP hS rfl (by decide) dX1_isRow_17
    · have hF := if_e c_1 hF
      refine lv_iconst (v := (1 : Int32)) hx hb dX1_isRow_12 (by decide) ?_
      refine lv_goto (tgt := 17) hx hb dX1_isRow_13 (by decide) ?_
      cases hF
      exact wd_reti X hP hS rfl (by decide) dX1_isRow_17
/-! X1_sizeOf (I)I -/
theorem in_X1_sizeOf_X1 : ∀ w ∈ u_ws RX1 TX1 4, w ∈ wsX1_sizeOf := by decide +kernel
set_option maxHeartbeats 4000000 in
set_option maxRecDepth 100000 in
theorem c_X1_sizeOf (l : Launch) (D : va_G) (cA : Nat → ClassId) (ad : Nat → Nat) (hj : wd_inj ad dsC.length) (o : Nat) (ho : mr_ok o) (x1 : Int32) (M : Mem) {r : Int32} (hF : F_X1_sizeOf o x1 M = some r) : wm_i l yX1_sizeOf wsX1_sizeOf rm_X1_sizeOf D cA ad dsC M [.ref (ad o), .int x1] r M := by
  refine Met.ofW (cc := cX1_sizeOf) (maxL := 2) (ret := (some .int)) (by decide) rfl ?_
  intro p e s m args below meth c s₁ B hml hv
  obtain ⟨rfl, hP, hK⟩ := hv
  have X : wd_X p s m _ meth c cX1_sizeOf 2 wsX1_sizeOf RX1 (some .int) D cA ad dsC.length := ⟨⟨B.exec, B.bytes, hml, findClass_of_methodNamed B.named, atoms_spec (ws := wsX1_sizeOf) B.pre⟩, hK, B.notSynchronized, B.returns, hj⟩
  have hl := lv_entry ([.ref (ad o), .int x1]) (n := 2) (Nat.le_of_ble_eq_true rfl)
  rw [lg_entry_eq]
  generalize (lg_sl ([.ref (ad o), .int x1]) ++ List.replicate (2 - (lg_sl ([.ref (ad o), .int x1])).length) Slot.unset).toArray = ls at hl ⊢
  have hl : lv_has ls 2 [(0, .ref (ad o)), (1, .int x1)] := hl
  have hS : va_S (wd_A ad dsC.length) s.heap s.heap [] := va_S.rf
  have hx := X.1.1
  have hb := X.1.2.1
  have hts := X.1.2.2.2.2
  unfold F_X1_sizeOf at hF
  refine lv_aload_n hx hb dX1_sizeOf_0 rfl (lv_at hl 0 rfl) ?_
  refine lv_iload_n hx hb dX1_sizeOf_1 rfl (lv_at hl 1 rfl) ?_
  obtain ⟨r_1, hc_2, hF⟩ := bd_c hF
  refine wd_calli X hP hS [.int x1] [] (c_X1_isRow l D cA ad X.2.2.2.2 o ho x1 M hc_2) (cwV 1 hts gX1_sizeOf_X1_isRow rfl rfl rfl (by decide +kernel) ⟨(by show _ ≤ _; first | exact Nat.le_of_ble_eq_true rfl | (simp [headSpec, rm_X1_sizeOf]; omega) | omega), (by show _ ≤ _; first | exact Nat.le_of_ble_eq_true rfl | (simp [headSpec, rm_X1_sizeOf]; omega) | omega)⟩) ho.1 rfl rfl hl.1 rfl (Nat.le_of_ble_eq_true rfl) dX1_sizeOf_2 (fun H locs hP hS => ?_)
  refine lv_if_eq (tgt := 17) hx hb dX1_sizeOf_5 (by decide) (fun c_4 => ?_) (fun c_4 => ?_)
  · have hF := if_t c_4 hF
    refine lv_iconst (v := (0 : Int32)) hx hb dX1_sizeOf_17 (by decide) ?_
    cases hF
    exact wd_reti X hP hS rfl rfl dX1_sizeOf_18
  · have hF := if_e c_4 hF
    refine lv_aload_n hx hb dX1_sizeOf_8 rfl (lv_at hl 0 rfl) ?_
    refine wd_getr (q := (o + 2)) X hP o ho.1 rfl in_X1_sizeOf_X1 3 rfl (by decide) (by decide +kernel) dX1_sizeOf_9 ?_
    refine lv_iload_n hx hb dX1_sizeOf_12 rfl (lv_at hl 1 rfl) ?_
    obtain ⟨h_3, hF⟩ := gi_c hF
    refine wd_ild X hP (o + 2) ho.2.2 h_3 dX1_sizeOf_13 ?_
    refine lv_goto (tgt := 18) hx hb dX1_sizeOf_14 (by decide) ?_
    cases hF
    exact wd_reti X hP hS rfl rfl dX1_sizeOf_18
/-! X1_letterAt (II)I -/
theorem in_X1_letterAt_X1 : ∀ w ∈ u_ws RX1 TX1 4, w ∈ wsX1_letterAt := by decide +kernel
set_option maxHeartbeats 4000000 in
set_option maxRecDepth 100000 in
theorem c_X1_letterAt (l : Launch) (D : va_G) (cA : Nat → ClassId) (ad : Nat → Nat) (hj : wd_inj ad dsC.length) (o : Nat) (ho : mr_ok o) (x1 : Int32) (x2 : Int32) (M : Mem) {r : Int32} (hF : F_X1_letterAt o x1 x2 M = some r) : wm_i l yX1_letterAt wsX1_letterAt rm_X1_letterAt D cA ad dsC M [.ref (ad o), .int x1, .int x2] r M := by
  refine Met.ofW (cc := cX1_letterAt) (maxL := 3) (ret := (some .int)) (by decide) rfl ?_
  intro p e s m args below meth c s₁ B hml hv
  obtain ⟨rfl, hP, hK⟩ := hv
  have X : wd_X p s m _ meth c cX1_letterAt 3 wsX1_letterAt RX1 (some .int) D cA ad dsC.length := ⟨⟨B.exec, B.bytes, hml, findClass_of_methodNamed B.named, atoms_spec (ws := wsX1_letterAt) B.pre⟩, hK, B.notSynchronized, B.returns, hj⟩
  have hl := lv_entry ([.ref (ad o), .int x1, .int x2]) (n := 3) (Nat.le_of_ble_eq_true rfl)
  rw [lg_entry_eq]
  generalize (lg_sl ([.ref (ad o), .int x1, .int x2]) ++ List.replicate (3 - (lg_sl ([.ref (ad o), .int x1, .int x2])).length) Slot.unset).toArray = ls at hl ⊢
  have hl : lv_has ls 3 [(0, .ref (ad o)), (1, .int x1), (2, .int x2)] := hl
  have hS : va_S (wd_A ad dsC.length) s.heap s.heap [] := va_S.rf
  have hx := X.1.1
  have hb := X.1.2.1
  have hts := X.1.2.2.2.2
  unfold F_X1_letterAt at hF
  refine lv_iload_n hx hb dX1_letterAt_0 rfl (lv_at hl 2 rfl) ?_
  refine lv_if_lt (tgt := 29) hx hb dX1_letterAt_1 (by decide) (fun c_5 => ?_) (fun c_5 => ?_)
  · have hF := if_t c_5 hF
    refine lv_iconst (v := (-1 : Int32)) hx hb dX1_letterAt_29 (by decide) ?_
    cases hF
    exact wd_reti X hP hS rfl rfl dX1_letterAt_30
  · have hF := if_e c_5 hF
    refine lv_iload_n hx hb dX1_letterAt_4 rfl (lv_at hl 2 rfl) ?_
    refine lv_aload_n hx hb dX1_letterAt_5 rfl (lv_at hl 0 rfl) ?_
    refine lv_iload_n hx hb dX1_letterAt_6 rfl (lv_at hl 1 rfl) ?_
    obtain ⟨r_1, hc_2, hF⟩ := bd_c hF
    refine wd_calli X hP hS [.int x1] [.int x2] (c_X1_sizeOf l D cA ad X.2.2.2.2 o ho x1 M hc_2) (cwV 1 hts gX1_letterAt_X1_sizeOf rfl rfl rfl (by decide +kernel) ⟨(by show _ ≤ _; first | exact Nat.le_of_ble_eq_true rfl | (simp [headSpec, rm_X1_letterAt]; omega) | omega), (by show _ ≤ _; first | exact Nat.le_of_ble_eq_true rfl | (simp [headSpec, rm_X1_letterAt]; omega) | omega)⟩) ho.1 rfl rfl hl.1 rfl (Nat.le_of_ble_eq_true rfl) dX1_letterAt_7 (fun H locs hP hS => ?_)
    refine lv_icmp_ge (tgt := 29) hx hb dX1_letterAt_10 (by decide) (fun c_4 => ?_) (fun c_4 => ?_)
    · have hF := if_t c_4 hF
      refine lv_iconst (v := (-1 : Int32)) hx hb dX1_letterAt_29 (by decide) ?_
      cases hF
      exact wd_reti X hP hS rfl rfl dX1_letterAt_30
    · have hF := if_e c_4 hF
      refine lv_aload_n hx hb dX1_letterAt_13 rfl (lv_at hl 0 rfl) ?_
      refine wd_getr (q := (o + 1)) X hP o ho.1 rfl in_X1_letterAt_X1 2 rfl (by decide) (by decide +kernel) dX1_letterAt_14 ?_
      refine lv_iload_n hx hb dX1_letterAt_17 rfl (lv_at hl 1 rfl) ?_
      refine lv_aload_n hx hb dX1_letterAt_18 rfl (lv_at hl 0 rfl) ?_
      refine wd_geti X hP o ho.1 rfl in_X1_letterAt_X1 1 rfl (by decide) (by decide +kernel) dX1_letterAt_19 ?_
      refine lv_imul hx hb dX1_letterAt_22 ?_
      refine lv_iload_n hx hb dX1_letterAt_23 rfl (lv_at hl 2 rfl) ?_
      refine lv_iadd hx hb dX1_letterAt_24 ?_
      obtain ⟨h_3, hF⟩ := gi_c hF
      refine wd_cld X hP (o + 1) ho.2.1 h_3 dX1_letterAt_25 ?_
      refine lv_goto (tgt := 30) hx hb dX1_letterAt_26 (by decide) ?_
      cases hF
      exact wd_reti X hP hS rfl rfl dX1_letterAt_30
/-! X1_hasRoom (II)Z -/
theorem in_X1_hasRoom_X1 : ∀ w ∈ u_ws RX1 TX1 4, w ∈ wsX1_hasRoom := by decide +kernel
set_option maxHeartbeats 4000000 in
set_option maxRecDepth 100000 in
theorem c_X1_hasRoom (l : Launch) (D : va_G) (cA : Nat → ClassId) (ad : Nat → Nat) (hj : wd_inj ad dsC.length) (o : Nat) (ho : mr_ok o) (x1 : Int32) (x2 : Int32) (M : Mem) {r : Int32} (hF : F_X1_hasRoom o x1 x2 M = some r) : wm_i l yX1_hasRoom wsX1_hasRoom rm_X1_hasRoom D cA ad dsC M [.ref (ad o), .int x1, .int x2] r M := by
  refine Met.ofW (cc := cX1_hasRoom) (maxL := 3) (ret := (some .boolean)) (by decide) rfl ?_
  intro p e s m args below meth c s₁ B hml hv
  obtain ⟨rfl, hP, hK⟩ := hv
  have X : wd_X p s m _ meth c cX1_hasRoom 3 wsX1_hasRoom RX1 (some .boolean) D cA ad dsC.length := ⟨⟨B.exec, B.bytes, hml, findClass_of_methodNamed B.named, atoms_spec (ws := wsX1_hasRoom) B.pre⟩, hK, B.notSynchronized, B.returns, hj⟩
  have hl := lv_entry ([.ref (ad o), .int x1, .int x2]) (n := 3) (Nat.le_of_ble_eq_true rfl)
  rw [lg_entry_eq]
  generalize (lg_sl ([.ref (ad o), .int x1, .int x2]) ++ List.replicate (3 - (lg_sl ([.ref (ad o), .int x1, .int x2])).length) Slot.unset).toArray = ls at hl ⊢
  have hl : lv_has ls 3 [(0, .ref (ad o)), (1, .int x1), (2, .int x2)] := hl
  have hS : va_S (wd_A ad dsC.length) s.heap s.heap [] := va_S.rf
  have hx := X.1.1
  have hb := X.1.2.1
  have hts := X.1.2.2.2.2
  unfold F_X1_hasRoom at hF
  refine lv_aload_n hx hb dX1_hasRoom_0 rfl (lv_at hl 0 rfl) ?_
  refine lv_iload_n hx hb dX1_hasRoom_1 rfl (lv_at hl 1 rfl) ?_
  obtain ⟨r_1, hc_2, hF⟩ := bd_c hF
  refine wd_calli X hP hS [.int x1] [] (c_X1_isRow l D cA ad X.2.2.2.2 o ho x1 M hc_2) (cwV 1 hts gX1_hasRoom_X1_isRow rfl rfl rfl (by decide +kernel) ⟨(by show _ ≤ _; first | exact Nat.le_of_ble_eq_true rfl | (simp [headSpec, rm_X1_hasRoom]; omega) | omega), (by show _ ≤ _; first | exact Nat.le_of_ble_eq_true rfl | (simp [headSpec, rm_X1_hasRoom]; omega) | omega)⟩) ho.1 rfl rfl hl.1 rfl (Nat.le_of_ble_eq_true rfl) dX1_hasRoom_2 (fun H locs hP hS => ?_)
  refine lv_if_eq (tgt := 27) hx hb dX1_hasRoom_5 (by decide) (fun c_5 => ?_) (fun c_5 => ?_)
  · have hF := if_t c_5 hF
    refine lv_iconst (v := (0 : Int32)) hx hb dX1_hasRoom_27 (by decide) ?_
    cases hF
    exact wd_reti X hP hS rfl (by decide) dX1_hasRoom_28
  · have hF := if_e c_5 hF
    refine lv_iload_n hx hb dX1_hasRoom_8 rfl (lv_at hl 2 rfl) ?_
    refine lv_aload_n hx hb dX1_hasRoom_9 rfl (lv_at hl 0 rfl) ?_
    refine wd_geti X hP o ho.1 rfl in_X1_hasRoom_X1 1 rfl (by decide) (by decide +kernel) dX1_hasRoom_10 ?_
    refine lv_aload_n hx hb dX1_hasRoom_13 rfl (lv_at hl 0 rfl) ?_
    refine wd_getr (q := (o + 2)) X hP o ho.1 rfl in_X1_hasRoom_X1 3 rfl (by decide) (by decide +kernel) dX1_hasRoom_14 ?_
    refine lv_iload_n hx hb dX1_hasRoom_17 rfl (lv_at hl 1 rfl) ?_
    obtain ⟨h_3, hF⟩ := gi_c hF
    refine wd_ild X hP (o + 2) ho.2.2 h_3 dX1_hasRoom_18 ?_
    refine lv_isub hx hb dX1_hasRoom_19 ?_
    refine lv_icmp_gt (tgt := 27) hx hb dX1_hasRoom_20 (by decide) (fun c_4 => ?_) (fun c_4 => ?_)
    · have hF := if_t c_4 hF
      refine lv_iconst (v := (0 : Int32)) hx hb dX1_hasRoom_27 (by decide) ?_
      cases hF
      exact wd_reti X hP hS rfl (by decide) dX1_hasRoom_28
    · have hF := if_e c_4 hF
      refine lv_iconst (v := (1 : Int32)) hx hb dX1_hasRoom_23 (by decide) ?_
      refine lv_goto (tgt := 28) hx hb dX1_hasRoom_24 (by decide) ?_
      cases hF
      exact wd_reti X hP hS rfl (by decide) dX1_hasRoom_28
/-! X1_empty (I)V -/
theorem in_X1_empty_X1 : ∀ w ∈ u_ws RX1 TX1 4, w ∈ wsX1_empty := by decide +kernel
set_option maxHeartbeats 4000000 in
set_option maxRecDepth 100000 in
theorem c_X1_empty (l : Launch) (D : va_G) (cA : Nat → ClassId) (ad : Nat → Nat) (hj : wd_inj ad dsC.length) (o : Nat) (ho : mr_ok o) (x1 : Int32) (M : Mem) {M' : Mem} (hF : F_X1_empty o x1 M = some M') : wm_v l yX1_empty wsX1_empty rm_X1_empty D cA ad dsC M [.ref (ad o), .int x1] M' := by
  refine Met.ofW (cc := cX1_empty) (maxL := 2) (ret := none) (by decide) rfl ?_
  intro p e s m args below meth c s₁ B hml hv
  obtain ⟨rfl, hP, hK⟩ := hv
  have X : wd_X p s m _ meth c cX1_empty 2 wsX1_empty RX1 none D cA ad dsC.length := ⟨⟨B.exec, B.bytes, hml, findClass_of_methodNamed B.named, atoms_spec (ws := wsX1_empty) B.pre⟩, hK, B.notSynchronized, B.returns, hj⟩
  have hl := lv_entry ([.ref (ad o), .int x1]) (n := 2) (Nat.le_of_ble_eq_true rfl)
  rw [lg_entry_eq]
  generalize (lg_sl ([.ref (ad o), .int x1]) ++ List.replicate (2 - (lg_sl ([.ref (ad o), .int x1])).length) Slot.unset).toArray = ls at hl ⊢
  have hl : lv_has ls 2 [(0, .ref (ad o)), (1, .int x1)] := hl
  have hS : va_S (wd_A ad dsC.length) s.heap s.heap [] := va_S.rf
  have hx := X.1.1
  have hb := X.1.2.1
  have hts := X.1.2.2.2.2
  unfold F_X1_empty at hF
  refine lv_aload_n hx hb dX1_empty_0 rfl (lv_at hl 0 rfl) ?_
  refine lv_iload_n hx hb dX1_empty_1 rfl (lv_at hl 1 rfl) ?_
  obtain ⟨r_1, hc_2, hF⟩ := bd_c hF
  refine wd_calli X hP hS [.int x1] [] (c_X1_isRow l D cA ad X.2.2.2.2 o ho x1 M hc_2) (cwV 1 hts gX1_empty_X1_isRow rfl rfl rfl (by decide +kernel) ⟨(by show _ ≤ _; first | exact Nat.le_of_ble_eq_true rfl | (simp [headSpec, rm_X1_empty]; omega) | omega), (by show _ ≤ _; first | exact Nat.le_of_ble_eq_true rfl | (simp [headSpec, rm_X1_empty]; omega) | omega)⟩) ho.1 rfl rfl hl.1 rfl (Nat.le_of_ble_eq_true rfl) dX1_empty_2 (fun H locs hP hS => ?_)
  refine lv_if_eq (tgt := 15) hx hb dX1_empty_5 (by decide) (fun c_6 => ?_) (fun c_6 => ?_)
  · have hF := if_t c_6 hF
    cases hF
    exact wd_retv X hP hS dX1_empty_15
  · have hF := if_e c_6 hF
    refine lv_aload_n hx hb dX1_empty_8 rfl (lv_at hl 0 rfl) ?_
    refine wd_getr (q := (o + 2)) X hP o ho.1 rfl in_X1_empty_X1 3 rfl (by decide) (by decide +kernel) dX1_empty_9 ?_
    refine lv_iload_n hx hb dX1_empty_12 rfl (lv_at hl 1 rfl) ?_
    refine lv_iconst (v := (0 : Int32)) hx hb dX1_empty_13 (by decide) ?_
    obtain ⟨h_3, hF⟩ := gi_c hF
    obtain ⟨M_4, e_5, hF⟩ := wr_c hF
    refine wd_ist X hP hS (o + 2) ho.2.2 h_3 dX1_empty_14 (fun H locs hP hS => ?_)
    rw [← e_5] at hP
    cases hF
    exact wd_retv X hP hS dX1_empty_15
/-! X1_add (IC)V -/
theorem in_X1_add_X1 : ∀ w ∈ u_ws RX1 TX1 4, w ∈ wsX1_add := by decide +kernel
set_option maxHeartbeats 4000000 in
set_option maxRecDepth 100000 in
theorem c_X1_add (l : Launch) (D : va_G) (cA : Nat → ClassId) (ad : Nat → Nat) (hj : wd_inj ad dsC.length) (o : Nat) (ho : mr_ok o) (x1 : Int32) (x2 : Int32) (M : Mem) {M' : Mem} (hF : F_X1_add o x1 x2 M = some M') : wm_v l yX1_add wsX1_add rm_X1_add D cA ad dsC M [.ref (ad o), .int x1, .int x2] M' := by
  refine Met.ofW (cc := cX1_add) (maxL := 3) (ret := none) (by decide) rfl ?_
  intro p e s m args below meth c s₁ B hml hv
  obtain ⟨rfl, hP, hK⟩ := hv
  have X : wd_X p s m _ meth c cX1_add 3 wsX1_add RX1 none D cA ad dsC.length := ⟨⟨B.exec, B.bytes, hml, findClass_of_methodNamed B.named, atoms_spec (ws := wsX1_add) B.pre⟩, hK, B.notSynchronized, B.returns, hj⟩
  have hl := lv_entry ([.ref (ad o), .int x1, .int x2]) (n := 3) (Nat.le_of_ble_eq_true rfl)
  rw [lg_entry_eq]
  generalize (lg_sl ([.ref (ad o), .int x1, .int x2]) ++ List.replicate (3 - (lg_sl ([.ref (ad o), .int x1, .int x2])).length) Slot.unset).toArray = ls at hl ⊢
  have hl : lv_has ls 3 [(0, .ref (ad o)), (1, .int x1), (2, .int x2)] := hl
  have hS : va_S (wd_A ad dsC.length) s.heap s.heap [] := va_S.rf
  have hx := X.1.1
  have hb := X.1.2.1
  have hts := X.1.2.2.2.2
  unfold F_X1_add at hF
  refine lv_aload_n hx hb dX1_add_0 rfl (lv_at hl 0 rfl) ?_
  refine lv_iload_n hx hb dX1_add_1 rfl (lv_at hl 1 rfl) ?_
  obtain ⟨r_1, hc_2, hF⟩ := bd_c hF
  refine wd_calli X hP hS [.int x1] [] (c_X1_isRow l D cA ad X.2.2.2.2 o ho x1 M hc_2) (cwV 1 hts gX1_add_X1_isRow rfl rfl rfl (by decide +kernel) ⟨(by show _ ≤ _; first | exact Nat.le_of_ble_eq_true rfl | (simp [headSpec, rm_X1_add]; omega) | omega), (by show _ ≤ _; first | exact Nat.le_of_ble_eq_true rfl | (simp [headSpec, rm_X1_add]; omega) | omega)⟩) ho.1 rfl rfl hl.1 rfl (Nat.le_of_ble_eq_true rfl) dX1_add_2 (fun H locs hP hS => ?_)
  refine lv_if_eq (tgt := 50) hx hb dX1_add_5 (by decide) (fun c_13 => ?_) (fun c_13 => ?_)
  · have hF := if_t c_13 hF
    cases hF
    exact wd_retv X hP hS dX1_add_50
  · have hF := if_e c_13 hF
    refine lv_aload_n hx hb dX1_add_8 rfl (lv_at hl 0 rfl) ?_
    refine wd_getr (q := (o + 2)) X hP o ho.1 rfl in_X1_add_X1 3 rfl (by decide) (by decide +kernel) dX1_add_9 ?_
    refine lv_iload_n hx hb dX1_add_12 rfl (lv_at hl 1 rfl) ?_
    obtain ⟨h_3, hF⟩ := gi_c hF
    refine wd_ild X hP (o + 2) ho.2.2 h_3 dX1_add_13 ?_
    refine lv_aload_n hx hb dX1_add_14 rfl (lv_at hl 0 rfl) ?_
    refine wd_geti X hP o ho.1 rfl in_X1_add_X1 1 rfl (by decide) (by decide +kernel) dX1_add_15 ?_
    refine lv_icmp_ge (tgt := 50) hx hb dX1_add_18 (by decide) (fun c_12 => ?_) (fun c_12 => ?_)
    · have hF := if_t c_12 hF
      cases hF
      exact wd_retv X hP hS dX1_add_50
    · have hF := if_e c_12 hF
      refine lv_aload_n hx hb dX1_add_21 rfl (lv_at hl 0 rfl) ?_
      refine wd_getr (q := (o + 1)) X hP o ho.1 rfl in_X1_add_X1 2 rfl (by decide) (by decide +kernel) dX1_add_22 ?_
      refine lv_iload_n hx hb dX1_add_25 rfl (lv_at hl 1 rfl) ?_
      refine lv_aload_n hx hb dX1_add_26 rfl (lv_at hl 0 rfl) ?_
      refine wd_geti X hP o ho.1 rfl in_X1_add_X1 1 rfl (by decide) (by decide +kernel) dX1_add_27 ?_
      refine lv_imul hx hb dX1_add_30 ?_
      refine lv_aload_n hx hb dX1_add_31 rfl (lv_at hl 0 rfl) ?_
      refine wd_getr (q := (o + 2)) X hP o ho.1 rfl in_X1_add_X1 3 rfl (by decide) (by decide +kernel) dX1_add_32 ?_
      refine lv_iload_n hx hb dX1_add_35 rfl (lv_at hl 1 rfl) ?_
      obtain ⟨h_4, hF⟩ := gi_c hF
      refine wd_ild X hP (o + 2) ho.2.2 h_4 dX1_add_36 ?_
      refine lv_iadd hx hb dX1_add_37 ?_
      refine lv_iload_n hx hb dX1_add_38 rfl (lv_at hl 2 rfl) ?_
      obtain ⟨h_5, hF⟩ := gi_c hF
      obtain ⟨M_6, e_7, hF⟩ := wr_c hF
      refine wd_cst X hP hS (o + 1) ho.2.1 h_5 dX1_add_39 (fun H locs hP hS => ?_)
      rw [← e_7] at hP
      refine lv_aload_n hx hb dX1_add_40 rfl (lv_at hl 0 rfl) ?_
      refine wd_getr (q := (o + 2)) X hP o ho.1 rfl in_X1_add_X1 3 rfl (by decide) (by decide +kernel) dX1_add_41 ?_
      refine lv_iload_n hx hb dX1_add_44 rfl (lv_at hl 1 rfl) ?_
      refine lv_dup2_11 hx hb dX1_add_45 rfl rfl ?_
      obtain ⟨h_8, hF⟩ := gi_c hF
      refine wd_ild X hP (o + 2) ho.2.2 h_8 dX1_add_46 ?_
      refine lv_iconst (v := (1 : Int32)) hx hb dX1_add_47 (by decide) ?_
      refine lv_iadd hx hb dX1_add_48 ?_
      obtain ⟨h_9, hF⟩ := gi_c hF
      obtain ⟨M_10, e_11, hF⟩ := wr_c hF
      refine wd_ist X hP hS (o + 2) ho.2.2 h_9 dX1_add_49 (fun H locs hP hS => ?_)
      rw [← e_11] at hP
      cases hF
      exact wd_retv X hP hS dX1_add_50
/-! X1_addRow (ILChartTable$MarkRows;I)V -/
theorem in_X1_addRow_X1 : ∀ w ∈ u_ws RX1 TX1 4, w ∈ wsX1_addRow := by decide +kernel
set_option maxHeartbeats 4000000 in
set_option maxRecDepth 100000 in
theorem wb_X1_addRow_61 {p : Program} {l : Launch} {e : Env} {s : State} {m : MethodId} {args : Array Value} {below : List Frame} {meth : Method} {c : Code} {D : va_G} {cA : Nat → ClassId} {ad : Nat → Nat} (X : wd_X p s m args meth c cX1_addRow 7 wsX1_addRow RX1 none D cA ad dsC.length) {kh61 : Int32 → Int32 → Int32 → Int32 → Int32 → Mem → Option Mem} {o : Nat} {o2 : Nat} {M' : Mem} (hk61 : ∀ (x1 : Int32) (x3 : Int32) (x4 : Int32) (x5 : Int32) (x6 : Int32) (M : Mem) (H : Heap) (locs : List Loc) (ls : Array Slot), kh61 x1 x3 x4 x5 x6 M = some M' → wd_P D cA ad dsC M H → va_S (wd_A ad dsC.length) s.heap H locs → lv_has ls 7 [(0, .ref (ad o)), (1, .int x1), (2, .ref (ad o2)), (3, .int x3), (4, .int x4), (5, .int x5), (6, .int x6)] → W p l e (headSpec wsX1_addRow rm_X1_addRow).room s m args below meth c H locs 0 0 (MQ below (wm_Qv D cA ad dsC M') args s 0 0 (wd_A ad dsC.length)) (F0 m 61 ls [])) (ho : mr_ok o) (ho2 : mr_ok o2) (x1 : Int32) (x3 : Int32) (x4 : Int32) (x5 : Int32) (x6 : Int32) (M : Mem) (H : Heap) (locs : List Loc) (ls : Array Slot) (hF : B_X1_addRow_61 kh61 o o2 x1 x3 x4 x5 x6 M = some M') (hP : wd_P D cA ad dsC M H) (hS : va_S (wd_A ad dsC.length) s.heap H locs) (hl : lv_has ls 7 [(0, .ref (ad o)), (1, .int x1), (2, .ref (ad o2)), (3, .int x3), (4, .int x4), (5, .int x5), (6, .int x6)]) : W p l e (headSpec wsX1_addRow rm_X1_addRow).room s m args below meth c H locs 0 0 (MQ below (wm_Qv D cA ad dsC M') args s 0 0 (wd_A ad dsC.length)) (F0 m 61 ls []) := by
  have hx := X.1.1
  have hb := X.1.2.1
  have hts := X.1.2.2.2.2
  unfold B_X1_addRow_61 at hF
  refine lv_iload hx hb dX1_addRow_61 (lv_at hl 6 rfl) ?_
  refine lv_iload hx hb dX1_addRow_63 (lv_at hl 4 rfl) ?_
  refine lv_icmp_ge (tgt := 98) hx hb dX1_addRow_65 (by decide) (fun c_11 => ?_) (fun c_11 => ?_)
  · have hF := if_t c_11 hF
    refine lv_aload_n hx hb dX1_addRow_98 rfl (lv_at hl 0 rfl) ?_
    refine wd_getr (q := (o + 2)) X hP o ho.1 rfl in_X1_addRow_X1 3 rfl (by decide) (by decide +kernel) dX1_addRow_99 ?_
    refine lv_iload_n hx hb dX1_addRow_102 rfl (lv_at hl 1 rfl) ?_
    refine lv_dup2_11 hx hb dX1_addRow_103 rfl rfl ?_
    obtain ⟨h_1, hF⟩ := gi_c hF
    refine wd_ild X hP (o + 2) ho.2.2 h_1 dX1_addRow_104 ?_
    refine lv_iload hx hb dX1_addRow_105 (lv_at hl 4 rfl) ?_
    refine lv_iadd hx hb dX1_addRow_107 ?_
    obtain ⟨h_2, hF⟩ := gi_c hF
    obtain ⟨M_3, e_4, hF⟩ := wr_c hF
    refine wd_ist X hP hS (o + 2) ho.2.2 h_2 dX1_addRow_108 (fun H locs hP hS => ?_)
    rw [← e_4] at hP
    cases hF
    exact wd_retv X hP hS dX1_addRow_109
  · have hF := if_e c_11 hF
    refine lv_aload_n hx hb dX1_addRow_68 rfl (lv_at hl 0 rfl) ?_
    refine wd_getr (q := (o + 1)) X hP o ho.1 rfl in_X1_addRow_X1 2 rfl (by decide) (by decide +kernel) dX1_addRow_69 ?_
    refine lv_iload hx hb dX1_addRow_72 (lv_at hl 5 rfl) ?_
    refine lv_iload hx hb dX1_addRow_74 (lv_at hl 6 rfl) ?_
    refine lv_iadd hx hb dX1_addRow_76 ?_
    refine lv_aload_n hx hb dX1_addRow_77 rfl (lv_at hl 2 rfl) ?_
    refine wd_getr (q := (o2 + 1)) X hP o2 ho2.1 rfl in_X1_addRow_X1 2 rfl (by decide) (by decide +kernel) dX1_addRow_78 ?_
    refine lv_iload_n hx hb dX1_addRow_81 rfl (lv_at hl 3 rfl) ?_
    refine lv_aload_n hx hb dX1_addRow_82 rfl (lv_at hl 2 rfl) ?_
    refine wd_geti X hP o2 ho2.1 rfl in_X1_addRow_X1 1 rfl (by decide) (by decide +kernel) dX1_addRow_83 ?_
    refine lv_imul hx hb dX1_addRow_86 ?_
    refine lv_iload hx hb dX1_addRow_87 (lv_at hl 6 rfl) ?_
    refine lv_iadd hx hb dX1_addRow_89 ?_
    obtain ⟨h_5, hF⟩ := gi_c hF
    refine wd_cld X hP (o2 + 1) ho2.2.1 h_5 dX1_addRow_90 ?_
    obtain ⟨h_6, hF⟩ := gi_c hF
    obtain ⟨M_7, e_8, hF⟩ := wr_c hF
    refine wd_cst X hP hS (o + 1) ho.2.1 h_6 dX1_addRow_91 (fun H locs hP hS => ?_)
    rw [← e_8] at hP
    obtain ⟨x6_9, e_10, hF⟩ := nm_c hF
    refine lv_iinc (v := x6_9) (lv' := [(6, .int x6_9), (0, .ref (ad o)), (1, .int x1), (2, .ref (ad o2)), (3, .int x3), (4, .int x4), (5, .int x5)]) hx hb dX1_addRow_92 hl (k := 6) rfl (by rw [e_10]; rfl) (by decide) rfl (fun ls hl => ?_)
    refine lv_goto (tgt := 61) hx hb dX1_addRow_95 (by decide) ?_
    exact hk61 x1 x3 x4 x5 x6_9 M_7 _ _ _ hF hP hS (lv_sub hl [1, 2, 3, 4, 5, 6, 0] rfl)
set_option maxHeartbeats 4000000 in
set_option maxRecDepth 100000 in
theorem wh_X1_addRow_61 {p : Program} {l : Launch} {e : Env} {s : State} {m : MethodId} {args : Array Value} {below : List Frame} {meth : Method} {c : Code} {D : va_G} {cA : Nat → ClassId} {ad : Nat → Nat} (X : wd_X p s m args meth c cX1_addRow 7 wsX1_addRow RX1 none D cA ad dsC.length) {o : Nat} {o2 : Nat} {M' : Mem} (ho : mr_ok o) (ho2 : mr_ok o2) : ∀ (n : Nat) (x1 : Int32) (x3 : Int32) (x4 : Int32) (x5 : Int32) (x6 : Int32) (M : Mem) (H : Heap) (locs : List Loc) (ls : Array Slot), H_X1_addRow_61 o o2 n x1 x3 x4 x5 x6 M = some M' → wd_P D cA ad dsC M H → va_S (wd_A ad dsC.length) s.heap H locs → lv_has ls 7 [(0, .ref (ad o)), (1, .int x1), (2, .ref (ad o2)), (3, .int x3), (4, .int x4), (5, .int x5), (6, .int x6)] → W p l e (headSpec wsX1_addRow rm_X1_addRow).room s m args below meth c H locs 0 0 (MQ below (wm_Qv D cA ad dsC M') args s 0 0 (wd_A ad dsC.length)) (F0 m 61 ls []) := by
  intro n
  induction n with
  | zero => intro x1 x3 x4 x5 x6 M H locs ls hF; cases hF
  | succ n ih => intro x1 x3 x4 x5 x6 M H locs ls hF hP hS hl; exact wb_X1_addRow_61 X (kh61 := H_X1_addRow_61 o o2 n) ih ho ho2 x1 x3 x4 x5 x6 M H locs ls hF hP hS hl
set_option maxHeartbeats 4000000 in
set_option maxRecDepth 100000 in
theorem c_X1_addRow (l : Launch) (D : va_G) (cA : Nat → ClassId) (ad : Nat → Nat) (hj : wd_inj ad dsC.length) (o : Nat) (o2 : Nat) (ho : mr_ok o) (ho2 : mr_ok o2) (x1 : Int32) (x3 : Int32) (M : Mem) {M' : Mem} (hF : F_X1_addRow o o2 x1 x3 M = some M') : wm_v l yX1_addRow wsX1_addRow rm_X1_addRow D cA ad dsC M [.ref (ad o), .int x1, .ref (ad o2), .int x3] M' := by
  refine Met.ofW (cc := cX1_addRow) (maxL := 7) (ret := none) (by decide) rfl ?_
  intro p e s m args below meth c s₁ B hml hv
  obtain ⟨rfl, hP, hK⟩ := hv
  have X : wd_X p s m _ meth c cX1_addRow 7 wsX1_addRow RX1 none D cA ad dsC.length := ⟨⟨B.exec, B.bytes, hml, findClass_of_methodNamed B.named, atoms_spec (ws := wsX1_addRow) B.pre⟩, hK, B.notSynchronized, B.returns, hj⟩
  have hl := lv_entry ([.ref (ad o), .int x1, .ref (ad o2), .int x3]) (n := 7) (Nat.le_of_ble_eq_true rfl)
  rw [lg_entry_eq]
  generalize (lg_sl ([.ref (ad o), .int x1, .ref (ad o2), .int x3]) ++ List.replicate (7 - (lg_sl ([.ref (ad o), .int x1, .ref (ad o2), .int x3])).length) Slot.unset).toArray = ls at hl ⊢
  have hl : lv_has ls 7 [(0, .ref (ad o)), (1, .int x1), (2, .ref (ad o2)), (3, .int x3)] := hl
  have hS : va_S (wd_A ad dsC.length) s.heap s.heap [] := va_S.rf
  have hx := X.1.1
  have hb := X.1.2.1
  have hts := X.1.2.2.2.2
  unfold F_X1_addRow at hF
  refine lv_aload_n hx hb dX1_addRow_0 rfl (lv_at hl 2 rfl) ?_
  refine lv_ifnull hx hb dX1_addRow_1 ?_
  refine lv_aload_n hx hb dX1_addRow_4 rfl (lv_at hl 0 rfl) ?_
  refine lv_iload_n hx hb dX1_addRow_5 rfl (lv_at hl 1 rfl) ?_
  obtain ⟨r_1, hc_2, hF⟩ := bd_c hF
  refine wd_calli X hP hS [.int x1] [] (c_X1_isRow l D cA ad X.2.2.2.2 o ho x1 M hc_2) (cwV 1 hts gX1_addRow_X1_isRow rfl rfl rfl (by decide +kernel) ⟨(by show _ ≤ _; first | exact Nat.le_of_ble_eq_true rfl | (simp [headSpec, rm_X1_addRow]; omega) | omega), (by show _ ≤ _; first | exact Nat.le_of_ble_eq_true rfl | (simp [headSpec, rm_X1_addRow]; omega) | omega)⟩) ho.1 rfl rfl hl.1 rfl (Nat.le_of_ble_eq_true rfl) dX1_addRow_6 (fun H locs hP hS => ?_)
  refine lv_if_eq (tgt := 20) hx hb dX1_addRow_9 (by decide) (fun c_13 => ?_) (fun c_13 => ?_)
  · have hF := if_t c_13 hF
    cases hF
    exact wd_retv X hP hS dX1_addRow_20
  · have hF := if_e c_13 hF
    refine lv_aload_n hx hb dX1_addRow_12 rfl (lv_at hl 2 rfl) ?_
    refine lv_iload_n hx hb dX1_addRow_13 rfl (lv_at hl 3 rfl) ?_
    obtain ⟨r_3, hc_4, hF⟩ := bd_c hF
    refine wd_calli X hP hS [.int x3] [] (c_X1_isRow l D cA ad X.2.2.2.2 o2 ho2 x3 M hc_4) (cwV 1 hts gX1_addRow_X1_isRow rfl rfl rfl (by decide +kernel) ⟨(by show _ ≤ _; first | exact Nat.le_of_ble_eq_true rfl | (simp [headSpec, rm_X1_addRow]; omega) | omega), (by show _ ≤ _; first | exact Nat.le_of_ble_eq_true rfl | (simp [headSpec, rm_X1_addRow]; omega) | omega)⟩) ho2.1 rfl rfl hl.1 rfl (Nat.le_of_ble_eq_true rfl) dX1_addRow_14 (fun H locs hP hS => ?_)
    refine lv_if_ne (tgt := 21) hx hb dX1_addRow_17 (by decide) (fun c_12 => ?_) (fun c_12 => ?_)
    · have hF := if_e c_12 hF
      refine lv_aload_n hx hb dX1_addRow_21 rfl (lv_at hl 2 rfl) ?_
      refine wd_getr (q := (o2 + 2)) X hP o2 ho2.1 rfl in_X1_addRow_X1 3 rfl (by decide) (by decide +kernel) dX1_addRow_22 ?_
      refine lv_iload_n hx hb dX1_addRow_25 rfl (lv_at hl 3 rfl) ?_
      obtain ⟨h_5, hF⟩ := gi_c hF
      refine wd_ild X hP (o2 + 2) ho2.2.2 h_5 dX1_addRow_26 ?_
      refine lv_aload_n hx hb dX1_addRow_27 rfl (lv_at hl 0 rfl) ?_
      refine wd_geti X hP o ho.1 rfl in_X1_addRow_X1 1 rfl (by decide) (by decide +kernel) dX1_addRow_28 ?_
      refine lv_aload_n hx hb dX1_addRow_31 rfl (lv_at hl 0 rfl) ?_
      refine wd_getr (q := (o + 2)) X hP o ho.1 rfl in_X1_addRow_X1 3 rfl (by decide) (by decide +kernel) dX1_addRow_32 ?_
      refine lv_iload_n hx hb dX1_addRow_35 rfl (lv_at hl 1 rfl) ?_
      obtain ⟨h_6, hF⟩ := gi_c hF
      refine wd_ild X hP (o + 2) ho.2.2 h_6 dX1_addRow_36 ?_
      refine lv_isub hx hb dX1_addRow_37 ?_
      refine va_mmin hx hb (X.1.2.2.1.trans hl.1.symm) X.1.2.2.2.1 (hts _ (by decide +kernel)) (hts _ (by decide +kernel)) (hts _ (by decide +kernel)) (hts _ (by decide +kernel)) (by show _ ≤ _; first | exact Nat.le_of_ble_eq_true rfl | (simp [headSpec, rm_X1_addRow]; omega) | omega) (by show _ ≤ _; first | exact Nat.le_of_ble_eq_true rfl | (simp [headSpec, rm_X1_addRow]; omega) | omega) (Nat.zero_le _) (Nat.zero_le _) dX1_addRow_38 ?_
      obtain ⟨x4_7, e_8, hF⟩ := nm_c hF
      refine wd_top e_8 ?_
      refine lv_istore (lv' := [(4, .int x4_7), (0, .ref (ad o)), (1, .int x1), (2, .ref (ad o2)), (3, .int x3)]) hx hb dX1_addRow_41 hl (by decide) rfl (fun ls hl => ?_)
      refine lv_iload_n hx hb dX1_addRow_43 rfl (lv_at hl 2 rfl) ?_
      refine lv_aload_n hx hb dX1_addRow_44 rfl (lv_at hl 1 rfl) ?_
      refine wd_geti X hP o ho.1 rfl in_X1_addRow_X1 1 rfl (by decide) (by decide +kernel) dX1_addRow_45 ?_
      refine lv_imul hx hb dX1_addRow_48 ?_
      refine lv_aload_n hx hb dX1_addRow_49 rfl (lv_at hl 1 rfl) ?_
      refine wd_getr (q := (o + 2)) X hP o ho.1 rfl in_X1_addRow_X1 3 rfl (by decide) (by decide +kernel) dX1_addRow_50 ?_
      refine lv_iload_n hx hb dX1_addRow_53 rfl (lv_at hl 2 rfl) ?_
      obtain ⟨h_9, hF⟩ := gi_c hF
      refine wd_ild X hP (o + 2) ho.2.2 h_9 dX1_addRow_54 ?_
      refine lv_iadd hx hb dX1_addRow_55 ?_
      obtain ⟨x5_10, e_11, hF⟩ := nm_c hF
      refine wd_top e_11 ?_
      refine lv_istore (lv' := [(5, .int x5_10), (4, .int x4_7), (0, .ref (ad o)), (1, .int x1), (2, .ref (ad o2)), (3, .int x3)]) hx hb dX1_addRow_56 hl (by decide) rfl (fun ls hl => ?_)
      refine lv_iconst (v := (0 : Int32)) hx hb dX1_addRow_58 (by decide) ?_
      refine lv_istore (lv' := [(6, .int (0 : Int32)), (5, .int x5_10), (4, .int x4_7), (0, .ref (ad o)), (1, .int x1), (2, .ref (ad o2)), (3, .int x3)]) hx hb dX1_addRow_59 hl (by decide) rfl (fun ls hl => ?_)
      exact wh_X1_addRow_61 X   ho ho2 100 x1 x3 x4_7 x5_10 (0 : Int32) M _ _ _ hF hP hS (lv_sub hl [3, 4, 5, 6, 2, 1, 0] rfl)
    · have hF := if_t c_12 hF
      cases hF
      exact wd_retv X hP hS dX1_addRow_20
