/-! X5_drop ()V -/
theorem in_X5_drop_X5 : ∀ w ∈ u_ws RX5 TX5 9, w ∈ wsX5_drop := by decide +kernel
set_option maxHeartbeats 4000000 in
set_option maxRecDepth 100000 in
theorem c_X5_drop (l : Launch) (D : va_G) (cA : Nat → ClassId) (ad : Nat → Nat) (hj : wd_inj ad dsC.length)    (M : Mem) {M' : Mem} (hF : F_X5_drop M = some M') : wm_v l yX5_drop wsX5_drop rm_X5_drop D cA ad dsC M [.ref (ad 30)] M' := by
  refine Met.ofW (cc := cX5_drop) (maxL := 1) (ret := none) (by decide) rfl ?_
  intro p e s m args below meth c s₁ B hml hv
  obtain ⟨rfl, hP, hK⟩ := hv
  have X : wd_X p s m _ meth c cX5_drop 1 wsX5_drop RX5 none D cA ad dsC.length := ⟨⟨B.exec, B.bytes, hml, findClass_of_methodNamed B.named, atoms_spec (ws := wsX5_drop) B.pre⟩, hK, B.notSynchronized, B.returns, hj⟩
  have hl := lv_entry ([.ref (ad 30)]) (n := 1) (Nat.le_of_ble_eq_true rfl)
  rw [lg_entry_eq]
  generalize (lg_sl ([.ref (ad 30)]) ++ List.replicate (1 - (lg_sl ([.ref (ad 30)])).length) Slot.unset).toArray = ls at hl ⊢
  have hl : lv_has ls 1 [(0, .ref (ad 30))] := hl
  have hS : va_S (wd_A ad dsC.length) s.heap s.heap [] := va_S.rf
  have hx := X.1.1
  have hb := X.1.2.1
  have hts := X.1.2.2.2.2
  unfold F_X5_drop at hF
  refine lv_aload_n hx hb dX5_drop_0 rfl (lv_at hl 0 rfl) ?_
  refine lv_iconst (v := (0 : Int32)) hx hb dX5_drop_1 (by decide) ?_
  obtain ⟨M_1, e_2, hF⟩ := wr_c hF
  refine wd_puti X hP hS 30 dC_30 rfl in_X5_drop_X5 tyX5_ok nmX5 6 rfl (by decide) rfl rfl (by decide +kernel) dX5_drop_2 (fun H locs hP hS => ?_)
  rw [← e_2] at hP
  cases hF
  exact wd_retv X hP hS dX5_drop_5
/-! X5_size ()I -/
theorem in_X5_size_X5 : ∀ w ∈ u_ws RX5 TX5 9, w ∈ wsX5_size := by decide +kernel
set_option maxHeartbeats 4000000 in
set_option maxRecDepth 100000 in
theorem c_X5_size (l : Launch) (D : va_G) (cA : Nat → ClassId) (ad : Nat → Nat) (hj : wd_inj ad dsC.length)    (M : Mem) {r : Int32} (hF : F_X5_size M = some r) : wm_i l yX5_size wsX5_size rm_X5_size D cA ad dsC M [.ref (ad 30)] r M := by
  refine Met.ofW (cc := cX5_size) (maxL := 1) (ret := (some .int)) (by decide) rfl ?_
  intro p e s m args below meth c s₁ B hml hv
  obtain ⟨rfl, hP, hK⟩ := hv
  have X : wd_X p s m _ meth c cX5_size 1 wsX5_size RX5 (some .int) D cA ad dsC.length := ⟨⟨B.exec, B.bytes, hml, findClass_of_methodNamed B.named, atoms_spec (ws := wsX5_size) B.pre⟩, hK, B.notSynchronized, B.returns, hj⟩
  have hl := lv_entry ([.ref (ad 30)]) (n := 1) (Nat.le_of_ble_eq_true rfl)
  rw [lg_entry_eq]
  generalize (lg_sl ([.ref (ad 30)]) ++ List.replicate (1 - (lg_sl ([.ref (ad 30)])).length) Slot.unset).toArray = ls at hl ⊢
  have hl : lv_has ls 1 [(0, .ref (ad 30))] := hl
  have hS : va_S (wd_A ad dsC.length) s.heap s.heap [] := va_S.rf
  have hx := X.1.1
  have hb := X.1.2.1
  have hts := X.1.2.2.2.2
  unfold F_X5_size at hF
  refine lv_aload_n hx hb dX5_size_0 rfl (lv_at hl 0 rfl) ?_
  refine wd_geti X hP 30 dC_30 rfl in_X5_size_X5 6 rfl (by decide) (by decide +kernel) dX5_size_1 ?_
  cases hF
  exact wd_reti X hP hS rfl rfl dX5_size_4
/-! X5_place ()I -/
theorem in_X5_place_X5 : ∀ w ∈ u_ws RX5 TX5 9, w ∈ wsX5_place := by decide +kernel
set_option maxHeartbeats 4000000 in
set_option maxRecDepth 100000 in
theorem c_X5_place (l : Launch) (D : va_G) (cA : Nat → ClassId) (ad : Nat → Nat) (hj : wd_inj ad dsC.length)    (M : Mem) {r : Int32} (hF : F_X5_place M = some r) : wm_i l yX5_place wsX5_place rm_X5_place D cA ad dsC M [.ref (ad 30)] r M := by
  refine Met.ofW (cc := cX5_place) (maxL := 1) (ret := (some .int)) (by decide) rfl ?_
  intro p e s m args below meth c s₁ B hml hv
  obtain ⟨rfl, hP, hK⟩ := hv
  have X : wd_X p s m _ meth c cX5_place 1 wsX5_place RX5 (some .int) D cA ad dsC.length := ⟨⟨B.exec, B.bytes, hml, findClass_of_methodNamed B.named, atoms_spec (ws := wsX5_place) B.pre⟩, hK, B.notSynchronized, B.returns, hj⟩
  have hl := lv_entry ([.ref (ad 30)]) (n := 1) (Nat.le_of_ble_eq_true rfl)
  rw [lg_entry_eq]
  generalize (lg_sl ([.ref (ad 30)]) ++ List.replicate (1 - (lg_sl ([.ref (ad 30)])).length) Slot.unset).toArray = ls at hl ⊢
  have hl : lv_has ls 1 [(0, .ref (ad 30))] := hl
  have hS : va_S (wd_A ad dsC.length) s.heap s.heap [] := va_S.rf
  have hx := X.1.1
  have hb := X.1.2.1
  have hts := X.1.2.2.2.2
  unfold F_X5_place at hF
  refine lv_aload_n hx hb dX5_place_0 rfl (lv_at hl 0 rfl) ?_
  refine wd_geti X hP 30 dC_30 rfl in_X5_place_X5 6 rfl (by decide) (by decide +kernel) dX5_place_1 ?_
  refine lv_if_ne (tgt := 11) hx hb dX5_place_4 (by decide) (fun c_1 => ?_) (fun c_1 => ?_)
  · have hF := if_e c_1 hF
    refine lv_aload_n hx hb dX5_place_11 rfl (lv_at hl 0 rfl) ?_
    refine wd_geti X hP 30 dC_30 rfl in_X5_place_X5 7 rfl (by decide) (by decide +kernel) dX5_place_12 ?_
    cases hF
    exact wd_reti X hP hS rfl rfl dX5_place_15
  · have hF := if_t c_1 hF
    refine lv_iconst (v := (-1 : Int32)) hx hb dX5_place_7 (by decide) ?_
    refine lv_goto (tgt := 15) hx hb dX5_place_8 (by decide) ?_
    cases hF
    exact wd_reti X hP hS rfl rfl dX5_place_15
/-! X5_marksNoted ()I -/
theorem in_X5_marksNoted_X5 : ∀ w ∈ u_ws RX5 TX5 9, w ∈ wsX5_marksNoted := by decide +kernel
set_option maxHeartbeats 4000000 in
set_option maxRecDepth 100000 in
theorem c_X5_marksNoted (l : Launch) (D : va_G) (cA : Nat → ClassId) (ad : Nat → Nat) (hj : wd_inj ad dsC.length)    (M : Mem) {r : Int32} (hF : F_X5_marksNoted M = some r) : wm_i l yX5_marksNoted wsX5_marksNoted rm_X5_marksNoted D cA ad dsC M [.ref (ad 30)] r M := by
  refine Met.ofW (cc := cX5_marksNoted) (maxL := 1) (ret := (some .int)) (by decide) rfl ?_
  intro p e s m args below meth c s₁ B hml hv
  obtain ⟨rfl, hP, hK⟩ := hv
  have X : wd_X p s m _ meth c cX5_marksNoted 1 wsX5_marksNoted RX5 (some .int) D cA ad dsC.length := ⟨⟨B.exec, B.bytes, hml, findClass_of_methodNamed B.named, atoms_spec (ws := wsX5_marksNoted) B.pre⟩, hK, B.notSynchronized, B.returns, hj⟩
  have hl := lv_entry ([.ref (ad 30)]) (n := 1) (Nat.le_of_ble_eq_true rfl)
  rw [lg_entry_eq]
  generalize (lg_sl ([.ref (ad 30)]) ++ List.replicate (1 - (lg_sl ([.ref (ad 30)])).length) Slot.unset).toArray = ls at hl ⊢
  have hl : lv_has ls 1 [(0, .ref (ad 30))] := hl
  have hS : va_S (wd_A ad dsC.length) s.heap s.heap [] := va_S.rf
  have hx := X.1.1
  have hb := X.1.2.1
  have hts := X.1.2.2.2.2
  unfold F_X5_marksNoted at hF
  refine lv_aload_n hx hb dX5_marksNoted_0 rfl (lv_at hl 0 rfl) ?_
  refine wd_geti X hP 30 dC_30 rfl in_X5_marksNoted_X5 6 rfl (by decide) (by decide +kernel) dX5_marksNoted_1 ?_
  refine lv_if_ne (tgt := 11) hx hb dX5_marksNoted_4 (by decide) (fun c_1 => ?_) (fun c_1 => ?_)
  · have hF := if_e c_1 hF
    refine lv_aload_n hx hb dX5_marksNoted_11 rfl (lv_at hl 0 rfl) ?_
    refine wd_geti X hP 30 dC_30 rfl in_X5_marksNoted_X5 8 rfl (by decide) (by decide +kernel) dX5_marksNoted_12 ?_
    cases hF
    exact wd_reti X hP hS rfl rfl dX5_marksNoted_15
  · have hF := if_t c_1 hF
    refine lv_iconst (v := (0 : Int32)) hx hb dX5_marksNoted_7 (by decide) ?_
    refine lv_goto (tgt := 15) hx hb dX5_marksNoted_8 (by decide) ?_
    cases hF
    exact wd_reti X hP hS rfl rfl dX5_marksNoted_15
/-! X5_isConfiguration (I)Z -/
theorem in_X5_isConfiguration_X5 : ∀ w ∈ u_ws RX5 TX5 9, w ∈ wsX5_isConfiguration := by decide +kernel
set_option maxHeartbeats 4000000 in
set_option maxRecDepth 100000 in
theorem c_X5_isConfiguration (l : Launch) (D : va_G) (cA : Nat → ClassId) (ad : Nat → Nat) (hj : wd_inj ad dsC.length)   (x1 : Int32) (M : Mem) {r : Int32} (hF : F_X5_isConfiguration x1 M = some r) : wm_i l yX5_isConfiguration wsX5_isConfiguration rm_X5_isConfiguration D cA ad dsC M [.ref (ad 30), .int x1] r M := by
  refine Met.ofW (cc := cX5_isConfiguration) (maxL := 2) (ret := (some .boolean)) (by decide) rfl ?_
  intro p e s m args below meth c s₁ B hml hv
  obtain ⟨rfl, hP, hK⟩ := hv
  have X : wd_X p s m _ meth c cX5_isConfiguration 2 wsX5_isConfiguration RX5 (some .boolean) D cA ad dsC.length := ⟨⟨B.exec, B.bytes, hml, findClass_of_methodNamed B.named, atoms_spec (ws := wsX5_isConfiguration) B.pre⟩, hK, B.notSynchronized, B.returns, hj⟩
  have hl := lv_entry ([.ref (ad 30), .int x1]) (n := 2) (Nat.le_of_ble_eq_true rfl)
  rw [lg_entry_eq]
  generalize (lg_sl ([.ref (ad 30), .int x1]) ++ List.replicate (2 - (lg_sl ([.ref (ad 30), .int x1])).length) Slot.unset).toArray = ls at hl ⊢
  have hl : lv_has ls 2 [(0, .ref (ad 30)), (1, .int x1)] := hl
  have hS : va_S (wd_A ad dsC.length) s.heap s.heap [] := va_S.rf
  have hx := X.1.1
  have hb := X.1.2.1
  have hts := X.1.2.2.2.2
  unfold F_X5_isConfiguration at hF
  refine lv_iload_n hx hb dX5_isConfiguration_0 rfl (lv_at hl 1 rfl) ?_
  refine lv_if_lt (tgt := 16) hx hb dX5_isConfiguration_1 (by decide) (fun c_2 => ?_) (fun c_2 => ?_)
  · have hF := if_t c_2 hF
    refine lv_iconst (v := (0 : Int32)) hx hb dX5_isConfiguration_16 (by decide) ?_
    cases hF
    exact wd_reti X hP hS rfl (by decide) dX5_isConfiguration_17
  · have hF := if_e c_2 hF
    refine lv_iload_n hx hb dX5_isConfiguration_4 rfl (lv_at hl 1 rfl) ?_
    refine lv_aload_n hx hb dX5_isConfiguration_5 rfl (lv_at hl 0 rfl) ?_
    refine wd_geti X hP 30 dC_30 rfl in_X5_isConfiguration_X5 6 rfl (by decide) (by decide +kernel) dX5_isConfiguration_6 ?_
    refine lv_icmp_ge (tgt := 16) hx hb dX5_isConfiguration_9 (by decide) (fun c_1 => ?_) (fun c_1 => ?_)
    · have hF := if_t c_1 hF
      refine lv_iconst (v := (0 : Int32)) hx hb dX5_isConfiguration_16 (by decide) ?_
      cases hF
      exact wd_reti X hP hS rfl (by decide) dX5_isConfiguration_17
    · have hF := if_e c_1 hF
      refine lv_iconst (v := (1 : Int32)) hx hb dX5_isConfiguration_12 (by decide) ?_
      refine lv_goto (tgt := 17) hx hb dX5_isConfiguration_13 (by decide) ?_
      cases hF
      exact wd_reti X hP hS rfl (by decide) dX5_isConfiguration_17
/-! X5_currentChild (II)I -/
theorem in_X5_currentChild_X5 : ∀ w ∈ u_ws RX5 TX5 9, w ∈ wsX5_currentChild := by decide +kernel
set_option maxHeartbeats 4000000 in
set_option maxRecDepth 100000 in
theorem c_X5_currentChild (l : Launch) (D : va_G) (cA : Nat → ClassId) (ad : Nat → Nat) (hj : wd_inj ad dsC.length)   (x1 : Int32) (x2 : Int32) (M : Mem) {r : Int32} (hF : F_X5_currentChild x1 x2 M = some r) : wm_i l yX5_currentChild wsX5_currentChild rm_X5_currentChild D cA ad dsC M [.ref (ad 30), .int x1, .int x2] r M := by
  refine Met.ofW (cc := cX5_currentChild) (maxL := 3) (ret := (some .int)) (by decide) rfl ?_
  intro p e s m args below meth c s₁ B hml hv
  obtain ⟨rfl, hP, hK⟩ := hv
  have X : wd_X p s m _ meth c cX5_currentChild 3 wsX5_currentChild RX5 (some .int) D cA ad dsC.length := ⟨⟨B.exec, B.bytes, hml, findClass_of_methodNamed B.named, atoms_spec (ws := wsX5_currentChild) B.pre⟩, hK, B.notSynchronized, B.returns, hj⟩
  have hl := lv_entry ([.ref (ad 30), .int x1, .int x2]) (n := 3) (Nat.le_of_ble_eq_true rfl)
  rw [lg_entry_eq]
  generalize (lg_sl ([.ref (ad 30), .int x1, .int x2]) ++ List.replicate (3 - (lg_sl ([.ref (ad 30), .int x1, .int x2])).length) Slot.unset).toArray = ls at hl ⊢
  have hl : lv_has ls 3 [(0, .ref (ad 30)), (1, .int x1), (2, .int x2)] := hl
  have hS : va_S (wd_A ad dsC.length) s.heap s.heap [] := va_S.rf
  have hx := X.1.1
  have hb := X.1.2.1
  have hts := X.1.2.2.2.2
  unfold F_X5_currentChild at hF
  refine lv_aload_n hx hb dX5_currentChild_0 rfl (lv_at hl 0 rfl) ?_
  refine lv_iload_n hx hb dX5_currentChild_1 rfl (lv_at hl 1 rfl) ?_
  obtain ⟨r_1, hc_2, hF⟩ := bd_c hF
  refine wd_calli X hP hS [.int x1] [] (c_X5_isConfiguration l D cA ad X.2.2.2.2   x1 M hc_2) (cwV 1 hts gX5_currentChild_X5_isConfiguration rfl rfl rfl (by decide +kernel) ⟨(by show _ ≤ _; first | exact Nat.le_of_ble_eq_true rfl | (simp [headSpec, rm_X5_currentChild]; omega) | omega), (by show _ ≤ _; first | exact Nat.le_of_ble_eq_true rfl | (simp [headSpec, rm_X5_currentChild]; omega) | omega)⟩) dC_30 rfl rfl hl.1 rfl (Nat.le_of_ble_eq_true rfl) dX5_currentChild_2 (fun H locs hP hS => ?_)
  refine lv_if_eq (tgt := 33) hx hb dX5_currentChild_5 (by decide) (fun c_7 => ?_) (fun c_7 => ?_)
  · have hF := if_t c_7 hF
    refine lv_iconst (v := (-1 : Int32)) hx hb dX5_currentChild_33 (by decide) ?_
    cases hF
    exact wd_reti X hP hS rfl rfl dX5_currentChild_34
  · have hF := if_e c_7 hF
    refine lv_aload_n hx hb dX5_currentChild_8 rfl (lv_at hl 0 rfl) ?_
    refine wd_getr (q := 5) X hP 30 dC_30 rfl in_X5_currentChild_X5 0 rfl (by decide) (by decide +kernel) dX5_currentChild_9 ?_
    refine lv_iload_n hx hb dX5_currentChild_12 rfl (lv_at hl 2 rfl) ?_
    obtain ⟨r_3, hc_4, hF⟩ := bd_c hF
    refine wd_calli X hP hS [.int x2] [] (c_X4_isState l D cA ad X.2.2.2.2   x2 M hc_4) (cwV 1 hts gX5_currentChild_X4_isState rfl rfl rfl (by decide +kernel) ⟨(by show _ ≤ _; first | exact Nat.le_of_ble_eq_true rfl | (simp [headSpec, rm_X5_currentChild]; omega) | omega), (by show _ ≤ _; first | exact Nat.le_of_ble_eq_true rfl | (simp [headSpec, rm_X5_currentChild]; omega) | omega)⟩) dC_5 rfl rfl hl.1 rfl (Nat.le_of_ble_eq_true rfl) dX5_currentChild_13 (fun H locs hP hS => ?_)
    refine lv_if_eq (tgt := 33) hx hb dX5_currentChild_16 (by decide) (fun c_6 => ?_) (fun c_6 => ?_)
    · have hF := if_t c_6 hF
      refine lv_iconst (v := (-1 : Int32)) hx hb dX5_currentChild_33 (by decide) ?_
      cases hF
      exact wd_reti X hP hS rfl rfl dX5_currentChild_34
    · have hF := if_e c_6 hF
      refine lv_aload_n hx hb dX5_currentChild_19 rfl (lv_at hl 0 rfl) ?_
      refine wd_getr (q := 36) X hP 30 dC_30 rfl in_X5_currentChild_X5 4 rfl (by decide) (by decide +kernel) dX5_currentChild_20 ?_
      refine lv_iload_n hx hb dX5_currentChild_23 rfl (lv_at hl 1 rfl) ?_
      refine lv_bipush (v := (14 : Int32)) hx hb dX5_currentChild_24 (by decide) ?_
      refine lv_imul hx hb dX5_currentChild_26 ?_
      refine lv_iload_n hx hb dX5_currentChild_27 rfl (lv_at hl 2 rfl) ?_
      refine lv_iadd hx hb dX5_currentChild_28 ?_
      obtain ⟨h_5, hF⟩ := gi_c hF
      refine wd_ild X hP 36 dC_36 h_5 dX5_currentChild_29 ?_
      refine lv_goto (tgt := 34) hx hb dX5_currentChild_30 (by decide) ?_
      cases hF
      exact wd_reti X hP hS rfl rfl dX5_currentChild_34
/-! X5_isWalk (I)Z -/
theorem in_X5_isWalk_X5 : ∀ w ∈ u_ws RX5 TX5 9, w ∈ wsX5_isWalk := by decide +kernel
set_option maxHeartbeats 4000000 in
set_option maxRecDepth 100000 in
theorem wb_X5_isWalk_2 {p : Program} {l : Launch} {e : Env} {s : State} {m : MethodId} {args : Array Value} {below : List Frame} {meth : Method} {c : Code} {D : va_G} {cA : Nat → ClassId} {ad : Nat → Nat} (X : wd_X p s m args meth c cX5_isWalk 3 wsX5_isWalk RX5 (some .boolean) D cA ad dsC.length) {kh2 : Int32 → Int32 → Option Int32} {M : Mem} {r : Int32} (hk2 : ∀ (x1 : Int32) (x2 : Int32) (H : Heap) (locs : List Loc) (ls : Array Slot), kh2 x1 x2 = some r → wd_P D cA ad dsC M H → va_S (wd_A ad dsC.length) s.heap H locs → lv_has ls 3 [(0, .ref (ad 30)), (1, .int x1), (2, .int x2)] → W p l e (headSpec wsX5_isWalk rm_X5_isWalk).room s m args below meth c H locs 0 0 (MQ below (wm_Qi D cA ad dsC r M) args s 0 0 (wd_A ad dsC.length)) (F0 m 2 ls [])) (x1 : Int32) (x2 : Int32) (H : Heap) (locs : List Loc) (ls : Array Slot) (hF : B_X5_isWalk_2 kh2 M x1 x2 = some r) (hP : wd_P D cA ad dsC M H) (hS : va_S (wd_A ad dsC.length) s.heap H locs) (hl : lv_has ls 3 [(0, .ref (ad 30)), (1, .int x1), (2, .int x2)]) : W p l e (headSpec wsX5_isWalk rm_X5_isWalk).room s m args below meth c H locs 0 0 (MQ below (wm_Qi D cA ad dsC r M) args s 0 0 (wd_A ad dsC.length)) (F0 m 2 ls []) := by
  have hx := X.1.1
  have hb := X.1.2.1
  have hts := X.1.2.2.2.2
  unfold B_X5_isWalk_2 at hF
  refine lv_iload_n hx hb dX5_isWalk_2 rfl (lv_at hl 2 rfl) ?_
  refine lv_bipush (v := (14 : Int32)) hx hb dX5_isWalk_3 (by decide) ?_
  refine lv_icmp_ge (tgt := 33) hx hb dX5_isWalk_5 (by decide) (fun c_8 => ?_) (fun c_8 => ?_)
  · have hF := if_t c_8 hF
    refine lv_iconst (v := (1 : Int32)) hx hb dX5_isWalk_33 (by decide) ?_
    cases hF
    exact wd_reti X hP hS rfl (by decide) dX5_isWalk_34
  · have hF := if_e c_8 hF
    refine lv_aload_n hx hb dX5_isWalk_8 rfl (lv_at hl 0 rfl) ?_
    refine lv_iload_n hx hb dX5_isWalk_9 rfl (lv_at hl 1 rfl) ?_
    refine lv_iload_n hx hb dX5_isWalk_10 rfl (lv_at hl 2 rfl) ?_
    obtain ⟨r_1, hc_2, hF⟩ := bd_c hF
    refine wd_calli X hP hS [.int x1, .int x2] [] (c_X5_currentChild l D cA ad X.2.2.2.2   x1 x2 M hc_2) (cwV 2 hts gX5_isWalk_X5_currentChild rfl rfl rfl (by decide +kernel) ⟨(by show _ ≤ _; first | exact Nat.le_of_ble_eq_true rfl | (simp [headSpec, rm_X5_isWalk]; omega) | omega), (by show _ ≤ _; first | exact Nat.le_of_ble_eq_true rfl | (simp [headSpec, rm_X5_isWalk]; omega) | omega)⟩) dC_30 rfl rfl hl.1 rfl (Nat.le_of_ble_eq_true rfl) dX5_isWalk_11 (fun H locs hP hS => ?_)
    refine lv_aload_n hx hb dX5_isWalk_14 rfl (lv_at hl 0 rfl) ?_
    refine wd_getr (q := 34) X hP 30 dC_30 rfl in_X5_isWalk_X5 3 rfl (by decide) (by decide +kernel) dX5_isWalk_15 ?_
    refine lv_iload_n hx hb dX5_isWalk_18 rfl (lv_at hl 2 rfl) ?_
    obtain ⟨r_3, hc_4, hF⟩ := bd_c hF
    refine wd_calli X hP hS [.int x2] [.int r_1] (c_X6_currentChild l D cA ad X.2.2.2.2   x2 M hc_4) (cwV 1 hts gX5_isWalk_X6_currentChild rfl rfl rfl (by decide +kernel) ⟨(by show _ ≤ _; first | exact Nat.le_of_ble_eq_true rfl | (simp [headSpec, rm_X5_isWalk]; omega) | omega), (by show _ ≤ _; first | exact Nat.le_of_ble_eq_true rfl | (simp [headSpec, rm_X5_isWalk]; omega) | omega)⟩) dC_34 rfl rfl hl.1 rfl (Nat.le_of_ble_eq_true rfl) dX5_isWalk_19 (fun H locs hP hS => ?_)
    refine lv_icmp_eq (tgt := 27) hx hb dX5_isWalk_22 (by decide) (fun c_7 => ?_) (fun c_7 => ?_)
    · have hF := if_t c_7 hF
      obtain ⟨x2_5, e_6, hF⟩ := nm_c hF
      refine lv_iinc (v := x2_5) (lv' := [(2, .int x2_5), (0, .ref (ad 30)), (1, .int x1)]) hx hb dX5_isWalk_27 hl (k := 2) rfl (by rw [e_6]; rfl) (by decide) rfl (fun ls hl => ?_)
      refine lv_goto (tgt := 2) hx hb dX5_isWalk_30 (by decide) ?_
      exact hk2 x1 x2_5 _ _ _ hF hP hS (lv_sub hl [1, 2, 0] rfl)
    · have hF := if_e c_7 hF
      refine lv_iconst (v := (0 : Int32)) hx hb dX5_isWalk_25 (by decide) ?_
      cases hF
      exact wd_reti X hP hS rfl (by decide) dX5_isWalk_26
set_option maxHeartbeats 4000000 in
set_option maxRecDepth 100000 in
theorem wh_X5_isWalk_2 {p : Program} {l : Launch} {e : Env} {s : State} {m : MethodId} {args : Array Value} {below : List Frame} {meth : Method} {c : Code} {D : va_G} {cA : Nat → ClassId} {ad : Nat → Nat} (X : wd_X p s m args meth c cX5_isWalk 3 wsX5_isWalk RX5 (some .boolean) D cA ad dsC.length) {M : Mem} {r : Int32}  : ∀ (n : Nat) (x1 : Int32) (x2 : Int32) (H : Heap) (locs : List Loc) (ls : Array Slot), H_X5_isWalk_2 M n x1 x2 = some r → wd_P D cA ad dsC M H → va_S (wd_A ad dsC.length) s.heap H locs → lv_has ls 3 [(0, .ref (ad 30)), (1, .int x1), (2, .int x2)] → W p l e (headSpec wsX5_isWalk rm_X5_isWalk).room s m args below meth c H locs 0 0 (MQ below (wm_Qi D cA ad dsC r M) args s 0 0 (wd_A ad dsC.length)) (F0 m 2 ls []) := by
  intro n
  induction n with
  | zero => intro x1 x2 H locs ls hF; cases hF
  | succ n ih => intro x1 x2 H locs ls hF hP hS hl; exact wb_X5_isWalk_2 X (kh2 := H_X5_isWalk_2 M n) ih x1 x2 H locs ls hF hP hS hl
set_option maxHeartbeats 4000000 in
set_option maxRecDepth 100000 in
theorem c_X5_isWalk (l : Launch) (D : va_G) (cA : Nat → ClassId) (ad : Nat → Nat) (hj : wd_inj ad dsC.length)   (x1 : Int32) (M : Mem) {r : Int32} (hF : F_X5_isWalk x1 M = some r) : wm_i l yX5_isWalk wsX5_isWalk rm_X5_isWalk D cA ad dsC M [.ref (ad 30), .int x1] r M := by
  refine Met.ofW (cc := cX5_isWalk) (maxL := 3) (ret := (some .boolean)) (by decide) rfl ?_
  intro p e s m args below meth c s₁ B hml hv
  obtain ⟨rfl, hP, hK⟩ := hv
  have X : wd_X p s m _ meth c cX5_isWalk 3 wsX5_isWalk RX5 (some .boolean) D cA ad dsC.length := ⟨⟨B.exec, B.bytes, hml, findClass_of_methodNamed B.named, atoms_spec (ws := wsX5_isWalk) B.pre⟩, hK, B.notSynchronized, B.returns, hj⟩
  have hl := lv_entry ([.ref (ad 30), .int x1]) (n := 3) (Nat.le_of_ble_eq_true rfl)
  rw [lg_entry_eq]
  generalize (lg_sl ([.ref (ad 30), .int x1]) ++ List.replicate (3 - (lg_sl ([.ref (ad 30), .int x1])).length) Slot.unset).toArray = ls at hl ⊢
  have hl : lv_has ls 3 [(0, .ref (ad 30)), (1, .int x1)] := hl
  have hS : va_S (wd_A ad dsC.length) s.heap s.heap [] := va_S.rf
  have hx := X.1.1
  have hb := X.1.2.1
  have hts := X.1.2.2.2.2
  unfold F_X5_isWalk at hF
  refine lv_iconst (v := (0 : Int32)) hx hb dX5_isWalk_0 (by decide) ?_
  refine lv_istore_n (lv' := [(2, .int (0 : Int32)), (0, .ref (ad 30)), (1, .int x1)]) hx hb dX5_isWalk_1 rfl hl (by decide) rfl (fun ls hl => ?_)
  exact wh_X5_isWalk_2 X    100 x1 (0 : Int32) _ _ _ hF hP hS (lv_sub hl [1, 2, 0] rfl)
/-! X5_numberOfWalk ()I -/
theorem in_X5_numberOfWalk_X5 : ∀ w ∈ u_ws RX5 TX5 9, w ∈ wsX5_numberOfWalk := by decide +kernel
set_option maxHeartbeats 4000000 in
set_option maxRecDepth 100000 in
theorem wb_X5_numberOfWalk_39 {p : Program} {l : Launch} {e : Env} {s : State} {m : MethodId} {args : Array Value} {below : List Frame} {meth : Method} {c : Code} {D : va_G} {cA : Nat → ClassId} {ad : Nat → Nat} (X : wd_X p s m args meth c cX5_numberOfWalk 2 wsX5_numberOfWalk RX5 (some .int) D cA ad dsC.length) {kh39 : Int32 → Mem → Option (Int32 × Mem)} {r : Int32} {M' : Mem} (hk39 : ∀ (x1 : Int32) (M : Mem) (H : Heap) (locs : List Loc) (ls : Array Slot), kh39 x1 M = some (r, M') → wd_P D cA ad dsC M H → va_S (wd_A ad dsC.length) s.heap H locs → lv_has ls 2 [(0, .ref (ad 30)), (1, .int x1)] → W p l e (headSpec wsX5_numberOfWalk rm_X5_numberOfWalk).room s m args below meth c H locs 0 0 (MQ below (wm_Qi D cA ad dsC r M') args s 0 0 (wd_A ad dsC.length)) (F0 m 39 ls [])) (x1 : Int32) (M : Mem) (H : Heap) (locs : List Loc) (ls : Array Slot) (hF : B_X5_numberOfWalk_39 kh39 x1 M = some (r, M')) (hP : wd_P D cA ad dsC M H) (hS : va_S (wd_A ad dsC.length) s.heap H locs) (hl : lv_has ls 2 [(0, .ref (ad 30)), (1, .int x1)]) : W p l e (headSpec wsX5_numberOfWalk rm_X5_numberOfWalk).room s m args below meth c H locs 0 0 (MQ below (wm_Qi D cA ad dsC r M') args s 0 0 (wd_A ad dsC.length)) (F0 m 39 ls []) := by
  have hx := X.1.1
  have hb := X.1.2.1
  have hts := X.1.2.2.2.2
  unfold B_X5_numberOfWalk_39 at hF
  refine lv_iload_n hx hb dX5_numberOfWalk_39 rfl (lv_at hl 1 rfl) ?_
  refine lv_bipush (v := (14 : Int32)) hx hb dX5_numberOfWalk_40 (by decide) ?_
  refine lv_icmp_ge (tgt := 73) hx hb dX5_numberOfWalk_42 (by decide) (fun c_10 => ?_) (fun c_10 => ?_)
  · have hF := if_t c_10 hF
    refine lv_aload_n hx hb dX5_numberOfWalk_73 rfl (lv_at hl 0 rfl) ?_
    refine lv_dup hx hb dX5_numberOfWalk_74 rfl ?_
    refine wd_geti X hP 30 dC_30 rfl in_X5_numberOfWalk_X5 6 rfl (by decide) (by decide +kernel) dX5_numberOfWalk_75 ?_
    refine lv_iconst (v := (1 : Int32)) hx hb dX5_numberOfWalk_78 (by decide) ?_
    refine lv_iadd hx hb dX5_numberOfWalk_79 ?_
    obtain ⟨M_1, e_2, hF⟩ := wr_c hF
    refine wd_puti X hP hS 30 dC_30 rfl in_X5_numberOfWalk_X5 tyX5_ok nmX5 6 rfl (by decide) rfl rfl (by decide +kernel) dX5_numberOfWalk_80 (fun H locs hP hS => ?_)
    rw [← e_2] at hP
    refine lv_aload_n hx hb dX5_numberOfWalk_83 rfl (lv_at hl 0 rfl) ?_
    refine wd_geti X hP 30 dC_30 rfl in_X5_numberOfWalk_X5 6 rfl (by decide) (by decide +kernel) dX5_numberOfWalk_84 ?_
    refine lv_iconst (v := (1 : Int32)) hx hb dX5_numberOfWalk_87 (by decide) ?_
    refine lv_isub hx hb dX5_numberOfWalk_88 ?_
    cases hF
    exact wd_reti X hP hS rfl rfl dX5_numberOfWalk_89
  · have hF := if_e c_10 hF
    refine lv_aload_n hx hb dX5_numberOfWalk_45 rfl (lv_at hl 0 rfl) ?_
    refine wd_getr (q := 36) X hP 30 dC_30 rfl in_X5_numberOfWalk_X5 4 rfl (by decide) (by decide +kernel) dX5_numberOfWalk_46 ?_
    refine lv_aload_n hx hb dX5_numberOfWalk_49 rfl (lv_at hl 0 rfl) ?_
    refine wd_geti X hP 30 dC_30 rfl in_X5_numberOfWalk_X5 6 rfl (by decide) (by decide +kernel) dX5_numberOfWalk_50 ?_
    refine lv_bipush (v := (14 : Int32)) hx hb dX5_numberOfWalk_53 (by decide) ?_
    refine lv_imul hx hb dX5_numberOfWalk_55 ?_
    refine lv_iload_n hx hb dX5_numberOfWalk_56 rfl (lv_at hl 1 rfl) ?_
    refine lv_iadd hx hb dX5_numberOfWalk_57 ?_
    refine lv_aload_n hx hb dX5_numberOfWalk_58 rfl (lv_at hl 0 rfl) ?_
    refine wd_getr (q := 34) X hP 30 dC_30 rfl in_X5_numberOfWalk_X5 3 rfl (by decide) (by decide +kernel) dX5_numberOfWalk_59 ?_
    refine lv_iload_n hx hb dX5_numberOfWalk_62 rfl (lv_at hl 1 rfl) ?_
    obtain ⟨r_3, hc_4, hF⟩ := bd_c hF
    refine wd_calli X hP hS [.int x1] [.int (((M 30 6) * (14 : Int32)) + x1), .ref (ad 36)] (c_X6_currentChild l D cA ad X.2.2.2.2   x1 M hc_4) (cwV 1 hts gX5_numberOfWalk_X6_currentChild rfl rfl rfl (by decide +kernel) ⟨(by show _ ≤ _; first | exact Nat.le_of_ble_eq_true rfl | (simp [headSpec, rm_X5_numberOfWalk]; omega) | omega), (by show _ ≤ _; first | exact Nat.le_of_ble_eq_true rfl | (simp [headSpec, rm_X5_numberOfWalk]; omega) | omega)⟩) dC_34 rfl rfl hl.1 rfl (Nat.le_of_ble_eq_true rfl) dX5_numberOfWalk_63 (fun H locs hP hS => ?_)
    obtain ⟨h_5, hF⟩ := gi_c hF
    obtain ⟨M_6, e_7, hF⟩ := wr_c hF
    refine wd_ist X hP hS 36 dC_36 h_5 dX5_numberOfWalk_66 (fun H locs hP hS => ?_)
    rw [← e_7] at hP
    obtain ⟨x1_8, e_9, hF⟩ := nm_c hF
    refine lv_iinc (v := x1_8) (lv' := [(1, .int x1_8), (0, .ref (ad 30))]) hx hb dX5_numberOfWalk_67 hl (k := 1) rfl (by rw [e_9]; rfl) (by decide) rfl (fun ls hl => ?_)
    refine lv_goto (tgt := 39) hx hb dX5_numberOfWalk_70 (by decide) ?_
    exact hk39 x1_8 M_6 _ _ _ hF hP hS (lv_sub hl [1, 0] rfl)
set_option maxHeartbeats 4000000 in
set_option maxRecDepth 100000 in
theorem wh_X5_numberOfWalk_39 {p : Program} {l : Launch} {e : Env} {s : State} {m : MethodId} {args : Array Value} {below : List Frame} {meth : Method} {c : Code} {D : va_G} {cA : Nat → ClassId} {ad : Nat → Nat} (X : wd_X p s m args meth c cX5_numberOfWalk 2 wsX5_numberOfWalk RX5 (some .int) D cA ad dsC.length) {r : Int32} {M' : Mem}  : ∀ (n : Nat) (x1 : Int32) (M : Mem) (H : Heap) (locs : List Loc) (ls : Array Slot), H_X5_numberOfWalk_39  n x1 M = some (r, M') → wd_P D cA ad dsC M H → va_S (wd_A ad dsC.length) s.heap H locs → lv_has ls 2 [(0, .ref (ad 30)), (1, .int x1)] → W p l e (headSpec wsX5_numberOfWalk rm_X5_numberOfWalk).room s m args below meth c H locs 0 0 (MQ below (wm_Qi D cA ad dsC r M') args s 0 0 (wd_A ad dsC.length)) (F0 m 39 ls []) := by
  intro n
  induction n with
  | zero => intro x1 M H locs ls hF; cases hF
  | succ n ih => intro x1 M H locs ls hF hP hS hl; exact wb_X5_numberOfWalk_39 X (kh39 := H_X5_numberOfWalk_39  n) ih x1 M H locs ls hF hP hS hl
set_option maxHeartbeats 4000000 in
set_option maxRecDepth 100000 in
theorem wb_X5_numberOfWalk_2 {p : Program} {l : Launch} {e : Env} {s : State} {m : MethodId} {args : Array Value} {below : List Frame} {meth : Method} {c : Code} {D : va_G} {cA : Nat → ClassId} {ad : Nat → Nat} (X : wd_X p s m args meth c cX5_numberOfWalk 2 wsX5_numberOfWalk RX5 (some .int) D cA ad dsC.length) {kh2 : Int32 → Mem → Option (Int32 × Mem)} {r : Int32} {M' : Mem} (hk2 : ∀ (x1 : Int32) (M : Mem) (H : Heap) (locs : List Loc) (ls : Array Slot), kh2 x1 M = some (r, M') → wd_P D cA ad dsC M H → va_S (wd_A ad dsC.length) s.heap H locs → lv_has ls 2 [(0, .ref (ad 30)), (1, .int x1)] → W p l e (headSpec wsX5_numberOfWalk rm_X5_numberOfWalk).room s m args below meth c H locs 0 0 (MQ below (wm_Qi D cA ad dsC r M') args s 0 0 (wd_A ad dsC.length)) (F0 m 2 ls [])) (x1 : Int32) (M : Mem) (H : Heap) (locs : List Loc) (ls : Array Slot) (hF : B_X5_numberOfWalk_2 kh2 x1 M = some (r, M')) (hP : wd_P D cA ad dsC M H) (hS : va_S (wd_A ad dsC.length) s.heap H locs) (hl : lv_has ls 2 [(0, .ref (ad 30)), (1, .int x1)]) : W p l e (headSpec wsX5_numberOfWalk rm_X5_numberOfWalk).room s m args below meth c H locs 0 0 (MQ below (wm_Qi D cA ad dsC r M') args s 0 0 (wd_A ad dsC.length)) (F0 m 2 ls []) := by
  have hx := X.1.1
  have hb := X.1.2.1
  have hts := X.1.2.2.2.2
  unfold B_X5_numberOfWalk_2 at hF
  refine lv_iload_n hx hb dX5_numberOfWalk_2 rfl (lv_at hl 1 rfl) ?_
  refine lv_aload_n hx hb dX5_numberOfWalk_3 rfl (lv_at hl 0 rfl) ?_
  refine wd_geti X hP 30 dC_30 rfl in_X5_numberOfWalk_X5 6 rfl (by decide) (by decide +kernel) dX5_numberOfWalk_4 ?_
  refine lv_icmp_ge (tgt := 26) hx hb dX5_numberOfWalk_7 (by decide) (fun c_7 => ?_) (fun c_7 => ?_)
  · have hF := if_t c_7 hF
    refine lv_aload_n hx hb dX5_numberOfWalk_26 rfl (lv_at hl 0 rfl) ?_
    refine wd_geti X hP 30 dC_30 rfl in_X5_numberOfWalk_X5 6 rfl (by decide) (by decide +kernel) dX5_numberOfWalk_27 ?_
    refine lv_bipush (v := (30 : Int32)) hx hb dX5_numberOfWalk_30 (by decide) ?_
    refine lv_icmp_lt (tgt := 37) hx hb dX5_numberOfWalk_32 (by decide) (fun c_1 => ?_) (fun c_1 => ?_)
    · have hF := if_t c_1 hF
      refine lv_iconst (v := (0 : Int32)) hx hb dX5_numberOfWalk_37 (by decide) ?_
      refine lv_istore_n (lv' := [(1, .int (0 : Int32)), (0, .ref (ad 30))]) hx hb dX5_numberOfWalk_38 rfl hl (by decide) rfl (fun ls hl => ?_)
      exact wh_X5_numberOfWalk_39 X    100 (0 : Int32) M _ _ _ hF hP hS (lv_sub hl [1, 0] rfl)
    · have hF := if_e c_1 hF
      refine lv_iconst (v := (-1 : Int32)) hx hb dX5_numberOfWalk_35 (by decide) ?_
      cases hF
      exact wd_reti X hP hS rfl rfl dX5_numberOfWalk_36
  · have hF := if_e c_7 hF
    refine lv_aload_n hx hb dX5_numberOfWalk_10 rfl (lv_at hl 0 rfl) ?_
    refine lv_iload_n hx hb dX5_numberOfWalk_11 rfl (lv_at hl 1 rfl) ?_
    obtain ⟨r_2, hc_3, hF⟩ := bd_c hF
    refine wd_calli X hP hS [.int x1] [] (c_X5_isWalk l D cA ad X.2.2.2.2   x1 M hc_3) (cwV 1 hts gX5_numberOfWalk_X5_isWalk rfl rfl rfl (by decide +kernel) ⟨(by show _ ≤ _; first | exact Nat.le_of_ble_eq_true rfl | (simp [headSpec, rm_X5_numberOfWalk]; omega) | omega), (by show _ ≤ _; first | exact Nat.le_of_ble_eq_true rfl | (simp [headSpec, rm_X5_numberOfWalk]; omega) | omega)⟩) dC_30 rfl rfl hl.1 rfl (Nat.le_of_ble_eq_true rfl) dX5_numberOfWalk_12 (fun H locs hP hS => ?_)
    refine lv_if_eq (tgt := 20) hx hb dX5_numberOfWalk_15 (by decide) (fun c_6 => ?_) (fun c_6 => ?_)
    · have hF := if_t c_6 hF
      obtain ⟨x1_4, e_5, hF⟩ := nm_c hF
      refine lv_iinc (v := x1_4) (lv' := [(1, .int x1_4), (0, .ref (ad 30))]) hx hb dX5_numberOfWalk_20 hl (k := 1) rfl (by rw [e_5]; rfl) (by decide) rfl (fun ls hl => ?_)
      refine lv_goto (tgt := 2) hx hb dX5_numberOfWalk_23 (by decide) ?_
      exact hk2 x1_4 M _ _ _ hF hP hS (lv_sub hl [1, 0] rfl)
    · have hF := if_e c_6 hF
      refine lv_iload_n hx hb dX5_numberOfWalk_18 rfl (lv_at hl 1 rfl) ?_
      cases hF
      exact wd_reti X hP hS rfl rfl dX5_numberOfWalk_19
set_option maxHeartbeats 4000000 in
set_option maxRecDepth 100000 in
theorem wh_X5_numberOfWalk_2 {p : Program} {l : Launch} {e : Env} {s : State} {m : MethodId} {args : Array Value} {below : List Frame} {meth : Method} {c : Code} {D : va_G} {cA : Nat → ClassId} {ad : Nat → Nat} (X : wd_X p s m args meth c cX5_numberOfWalk 2 wsX5_numberOfWalk RX5 (some .int) D cA ad dsC.length) {r : Int32} {M' : Mem}  : ∀ (n : Nat) (x1 : Int32) (M : Mem) (H : Heap) (locs : List Loc) (ls : Array Slot), H_X5_numberOfWalk_2  n x1 M = some (r, M') → wd_P D cA ad dsC M H → va_S (wd_A ad dsC.length) s.heap H locs → lv_has ls 2 [(0, .ref (ad 30)), (1, .int x1)] → W p l e (headSpec wsX5_numberOfWalk rm_X5_numberOfWalk).room s m args below meth c H locs 0 0 (MQ below (wm_Qi D cA ad dsC r M') args s 0 0 (wd_A ad dsC.length)) (F0 m 2 ls []) := by
  intro n
  induction n with
  | zero => intro x1 M H locs ls hF; cases hF
  | succ n ih => intro x1 M H locs ls hF hP hS hl; exact wb_X5_numberOfWalk_2 X (kh2 := H_X5_numberOfWalk_2  n) ih x1 M H locs ls hF hP hS hl
set_option maxHeartbeats 4000000 in
set_option maxRecDepth 100000 in
theorem c_X5_numberOfWalk (l : Launch) (D : va_G) (cA : Nat → ClassId) (ad : Nat → Nat) (hj : wd_inj ad dsC.length)    (M : Mem) {r : Int32} {M' : Mem} (hF : F_X5_numberOfWalk M = some (r, M')) : wm_i l yX5_numberOfWalk wsX5_numberOfWalk rm_X5_numberOfWalk D cA ad dsC M [.ref (ad 30)] r M' := by
  refine Met.ofW (cc := cX5_numberOfWalk) (maxL := 2) (ret := (some .int)) (by decide) rfl ?_
  intro p e s m args below meth c s₁ B hml hv
  obtain ⟨rfl, hP, hK⟩ := hv
  have X : wd_X p s m _ meth c cX5_numberOfWalk 2 wsX5_numberOfWalk RX5 (some .int) D cA ad dsC.length := ⟨⟨B.exec, B.bytes, hml, findClass_of_methodNamed B.named, atoms_spec (ws := wsX5_numberOfWalk) B.pre⟩, hK, B.notSynchronized, B.returns, hj⟩
  have hl := lv_entry ([.ref (ad 30)]) (n := 2) (Nat.le_of_ble_eq_true rfl)
  rw [lg_entry_eq]
  generalize (lg_sl ([.ref (ad 30)]) ++ List.replicate (2 - (lg_sl ([.ref (ad 30)])).length) Slot.unset).toArray = ls at hl ⊢
  have hl : lv_has ls 2 [(0, .ref (ad 30))] := hl
  have hS : va_S (wd_A ad dsC.length) s.heap s.heap [] := va_S.rf
  have hx := X.1.1
  have hb := X.1.2.1
  have hts := X.1.2.2.2.2
  unfold F_X5_numberOfWalk at hF
  refine lv_iconst (v := (0 : Int32)) hx hb dX5_numberOfWalk_0 (by decide) ?_
  refine lv_istore_n (lv' := [(1, .int (0 : Int32)), (0, .ref (ad 30))]) hx hb dX5_numberOfWalk_1 rfl hl (by decide) rfl (fun ls hl => ?_)
  exact wh_X5_numberOfWalk_2 X    100 (0 : Int32) M _ _ _ hF hP hS (lv_sub hl [1, 0] rfl)
/-! X5_cellOf (II)I -/
theorem in_X5_cellOf_X5 : ∀ w ∈ u_ws RX5 TX5 9, w ∈ wsX5_cellOf := by decide +kernel
set_option maxHeartbeats 4000000 in
set_option maxRecDepth 100000 in
theorem c_X5_cellOf (l : Launch) (D : va_G) (cA : Nat → ClassId) (ad : Nat → Nat) (hj : wd_inj ad dsC.length)   (x1 : Int32) (x2 : Int32) (M : Mem) {r : Int32} (hF : F_X5_cellOf x1 x2 M = some r) : wm_i l yX5_cellOf wsX5_cellOf rm_X5_cellOf D cA ad dsC M [.ref (ad 30), .int x1, .int x2] r M := by
  refine Met.ofW (cc := cX5_cellOf) (maxL := 3) (ret := (some .int)) (by decide) rfl ?_
  intro p e s m args below meth c s₁ B hml hv
  obtain ⟨rfl, hP, hK⟩ := hv
  have X : wd_X p s m _ meth c cX5_cellOf 3 wsX5_cellOf RX5 (some .int) D cA ad dsC.length := ⟨⟨B.exec, B.bytes, hml, findClass_of_methodNamed B.named, atoms_spec (ws := wsX5_cellOf) B.pre⟩, hK, B.notSynchronized, B.returns, hj⟩
  have hl := lv_entry ([.ref (ad 30), .int x1, .int x2]) (n := 3) (Nat.le_of_ble_eq_true rfl)
  rw [lg_entry_eq]
  generalize (lg_sl ([.ref (ad 30), .int x1, .int x2]) ++ List.replicate (3 - (lg_sl ([.ref (ad 30), .int x1, .int x2])).length) Slot.unset).toArray = ls at hl ⊢
  have hl : lv_has ls 3 [(0, .ref (ad 30)), (1, .int x1), (2, .int x2)] := hl
  have hS : va_S (wd_A ad dsC.length) s.heap s.heap [] := va_S.rf
  have hx := X.1.1
  have hb := X.1.2.1
  have hts := X.1.2.2.2.2
  unfold F_X5_cellOf at hF
  refine lv_aload_n hx hb dX5_cellOf_0 rfl (lv_at hl 0 rfl) ?_
  refine lv_iload_n hx hb dX5_cellOf_1 rfl (lv_at hl 1 rfl) ?_
  obtain ⟨r_1, hc_2, hF⟩ := bd_c hF
  refine wd_calli X hP hS [.int x1] [] (c_X5_isConfiguration l D cA ad X.2.2.2.2   x1 M hc_2) (cwV 1 hts gX5_cellOf_X5_isConfiguration rfl rfl rfl (by decide +kernel) ⟨(by show _ ≤ _; first | exact Nat.le_of_ble_eq_true rfl | (simp [headSpec, rm_X5_cellOf]; omega) | omega), (by show _ ≤ _; first | exact Nat.le_of_ble_eq_true rfl | (simp [headSpec, rm_X5_cellOf]; omega) | omega)⟩) dC_30 rfl rfl hl.1 rfl (Nat.le_of_ble_eq_true rfl) dX5_cellOf_2 (fun H locs hP hS => ?_)
  refine lv_if_eq (tgt := 28) hx hb dX5_cellOf_5 (by decide) (fun c_6 => ?_) (fun c_6 => ?_)
  · have hF := if_t c_6 hF
    refine lv_iconst (v := (-1 : Int32)) hx hb dX5_cellOf_28 (by decide) ?_
    cases hF
    exact wd_reti X hP hS rfl rfl dX5_cellOf_29
  · have hF := if_e c_6 hF
    refine lv_aload_n hx hb dX5_cellOf_8 rfl (lv_at hl 0 rfl) ?_
    refine wd_getr (q := 18) X hP 30 dC_30 rfl in_X5_cellOf_X5 1 rfl (by decide) (by decide +kernel) dX5_cellOf_9 ?_
    refine lv_iload_n hx hb dX5_cellOf_12 rfl (lv_at hl 2 rfl) ?_
    obtain ⟨r_3, hc_4, hF⟩ := bd_c hF
    refine wd_calli X hP hS [.int x2] [] (c_X3_isEvent l D cA ad X.2.2.2.2   x2 M hc_4) (cwV 1 hts gX5_cellOf_X3_isEvent rfl rfl rfl (by decide +kernel) ⟨(by show _ ≤ _; first | exact Nat.le_of_ble_eq_true rfl | (simp [headSpec, rm_X5_cellOf]; omega) | omega), (by show _ ≤ _; first | exact Nat.le_of_ble_eq_true rfl | (simp [headSpec, rm_X5_cellOf]; omega) | omega)⟩) dC_18 rfl rfl hl.1 rfl (Nat.le_of_ble_eq_true rfl) dX5_cellOf_13 (fun H locs hP hS => ?_)
    refine lv_if_eq (tgt := 28) hx hb dX5_cellOf_16 (by decide) (fun c_5 => ?_) (fun c_5 => ?_)
    · have hF := if_t c_5 hF
      refine lv_iconst (v := (-1 : Int32)) hx hb dX5_cellOf_28 (by decide) ?_
      cases hF
      exact wd_reti X hP hS rfl rfl dX5_cellOf_29
    · have hF := if_e c_5 hF
      refine lv_iload_n hx hb dX5_cellOf_19 rfl (lv_at hl 1 rfl) ?_
      refine lv_bipush (v := (6 : Int32)) hx hb dX5_cellOf_20 (by decide) ?_
      refine lv_imul hx hb dX5_cellOf_22 ?_
      refine lv_iload_n hx hb dX5_cellOf_23 rfl (lv_at hl 2 rfl) ?_
      refine lv_iadd hx hb dX5_cellOf_24 ?_
      refine lv_goto (tgt := 29) hx hb dX5_cellOf_25 (by decide) ?_
      cases hF
      exact wd_reti X hP hS rfl rfl dX5_cellOf_29
/-! X5_setWalk (I)V -/
theorem in_X5_setWalk_X5 : ∀ w ∈ u_ws RX5 TX5 9, w ∈ wsX5_setWalk := by decide +kernel
set_option maxHeartbeats 4000000 in
set_option maxRecDepth 100000 in
theorem wb_X5_setWalk_2 {p : Program} {l : Launch} {e : Env} {s : State} {m : MethodId} {args : Array Value} {below : List Frame} {meth : Method} {c : Code} {D : va_G} {cA : Nat → ClassId} {ad : Nat → Nat} (X : wd_X p s m args meth c cX5_setWalk 3 wsX5_setWalk RX5 none D cA ad dsC.length) {kh2 : Int32 → Int32 → Mem → Option Mem} {M' : Mem} (hk2 : ∀ (x1 : Int32) (x2 : Int32) (M : Mem) (H : Heap) (locs : List Loc) (ls : Array Slot), kh2 x1 x2 M = some M' → wd_P D cA ad dsC M H → va_S (wd_A ad dsC.length) s.heap H locs → lv_has ls 3 [(0, .ref (ad 30)), (1, .int x1), (2, .int x2)] → W p l e (headSpec wsX5_setWalk rm_X5_setWalk).room s m args below meth c H locs 0 0 (MQ below (wm_Qv D cA ad dsC M') args s 0 0 (wd_A ad dsC.length)) (F0 m 2 ls [])) (x1 : Int32) (x2 : Int32) (M : Mem) (H : Heap) (locs : List Loc) (ls : Array Slot) (hF : B_X5_setWalk_2 kh2 x1 x2 M = some M') (hP : wd_P D cA ad dsC M H) (hS : va_S (wd_A ad dsC.length) s.heap H locs) (hl : lv_has ls 3 [(0, .ref (ad 30)), (1, .int x1), (2, .int x2)]) : W p l e (headSpec wsX5_setWalk rm_X5_setWalk).room s m args below meth c H locs 0 0 (MQ below (wm_Qv D cA ad dsC M') args s 0 0 (wd_A ad dsC.length)) (F0 m 2 ls []) := by
  have hx := X.1.1
  have hb := X.1.2.1
  have hts := X.1.2.2.2.2
  unfold B_X5_setWalk_2 at hF
  refine lv_iload_n hx hb dX5_setWalk_2 rfl (lv_at hl 2 rfl) ?_
  refine lv_bipush (v := (14 : Int32)) hx hb dX5_setWalk_3 (by decide) ?_
  refine lv_icmp_ge (tgt := 28) hx hb dX5_setWalk_5 (by decide) (fun c_8 => ?_) (fun c_8 => ?_)
  · have hF := if_t c_8 hF
    cases hF
    exact wd_retv X hP hS dX5_setWalk_28
  · have hF := if_e c_8 hF
    refine lv_aload_n hx hb dX5_setWalk_8 rfl (lv_at hl 0 rfl) ?_
    refine wd_getr (q := 34) X hP 30 dC_30 rfl in_X5_setWalk_X5 3 rfl (by decide) (by decide +kernel) dX5_setWalk_9 ?_
    refine lv_iload_n hx hb dX5_setWalk_12 rfl (lv_at hl 2 rfl) ?_
    refine lv_aload_n hx hb dX5_setWalk_13 rfl (lv_at hl 0 rfl) ?_
    refine lv_iload_n hx hb dX5_setWalk_14 rfl (lv_at hl 1 rfl) ?_
    refine lv_iload_n hx hb dX5_setWalk_15 rfl (lv_at hl 2 rfl) ?_
    obtain ⟨r_1, hc_2, hF⟩ := bd_c hF
    refine wd_calli X hP hS [.int x1, .int x2] [.int x2, .ref (ad 34)] (c_X5_currentChild l D cA ad X.2.2.2.2   x1 x2 M hc_2) (cwV 2 hts gX5_setWalk_X5_currentChild rfl rfl rfl (by decide +kernel) ⟨(by show _ ≤ _; first | exact Nat.le_of_ble_eq_true rfl | (simp [headSpec, rm_X5_setWalk]; omega) | omega), (by show _ ≤ _; first | exact Nat.le_of_ble_eq_true rfl | (simp [headSpec, rm_X5_setWalk]; omega) | omega)⟩) dC_30 rfl rfl hl.1 rfl (Nat.le_of_ble_eq_true rfl) dX5_setWalk_16 (fun H locs hP hS => ?_)
    obtain ⟨M_5, hc_4, hF⟩ := bd_c hF
    refine wd_callv X hP hS [.int x2, .int r_1] [] (c_X6_makeCurrent l D cA ad X.2.2.2.2   x2 r_1 M hc_4) (cwV 2 hts gX5_setWalk_X6_makeCurrent rfl rfl rfl (by decide +kernel) ⟨(by show _ ≤ _; first | exact Nat.le_of_ble_eq_true rfl | (simp [headSpec, rm_X5_setWalk]; omega) | omega), (by show _ ≤ _; first | exact Nat.le_of_ble_eq_true rfl | (simp [headSpec, rm_X5_setWalk]; omega) | omega)⟩) dC_34 rfl rfl hl.1 rfl (Nat.le_of_ble_eq_true rfl) dX5_setWalk_19 (fun H locs hP hS => ?_)
    obtain ⟨x2_6, e_7, hF⟩ := nm_c hF
    refine lv_iinc (v := x2_6) (lv' := [(2, .int x2_6), (0, .ref (ad 30)), (1, .int x1)]) hx hb dX5_setWalk_22 hl (k := 2) rfl (by rw [e_7]; rfl) (by decide) rfl (fun ls hl => ?_)
    refine lv_goto (tgt := 2) hx hb dX5_setWalk_25 (by decide) ?_
    exact hk2 x1 x2_6 M_5 _ _ _ hF hP hS (lv_sub hl [1, 2, 0] rfl)
set_option maxHeartbeats 4000000 in
set_option maxRecDepth 100000 in
theorem wh_X5_setWalk_2 {p : Program} {l : Launch} {e : Env} {s : State} {m : MethodId} {args : Array Value} {below : List Frame} {meth : Method} {c : Code} {D : va_G} {cA : Nat → ClassId} {ad : Nat → Nat} (X : wd_X p s m args meth c cX5_setWalk 3 wsX5_setWalk RX5 none D cA ad dsC.length) {M' : Mem}  : ∀ (n : Nat) (x1 : Int32) (x2 : Int32) (M : Mem) (H : Heap) (locs : List Loc) (ls : Array Slot), H_X5_setWalk_2  n x1 x2 M = some M' → wd_P D cA ad dsC M H → va_S (wd_A ad dsC.length) s.heap H locs → lv_has ls 3 [(0, .ref (ad 30)), (1, .int x1), (2, .int x2)] → W p l e (headSpec wsX5_setWalk rm_X5_setWalk).room s m args below meth c H locs 0 0 (MQ below (wm_Qv D cA ad dsC M') args s 0 0 (wd_A ad dsC.length)) (F0 m 2 ls []) := by
  intro n
  induction n with
  | zero => intro x1 x2 M H locs ls hF; cases hF
  | succ n ih => intro x1 x2 M H locs ls hF hP hS hl; exact wb_X5_setWalk_2 X (kh2 := H_X5_setWalk_2  n) ih x1 x2 M H locs ls hF hP hS hl
set_option maxHeartbeats 4000000 in
set_option maxRecDepth 100000 in
theorem c_X5_setWalk (l : Launch) (D : va_G) (cA : Nat → ClassId) (ad : Nat → Nat) (hj : wd_inj ad dsC.length)   (x1 : Int32) (M : Mem) {M' : Mem} (hF : F_X5_setWalk x1 M = some M') : wm_v l yX5_setWalk wsX5_setWalk rm_X5_setWalk D cA ad dsC M [.ref (ad 30), .int x1] M' := by
  refine Met.ofW (cc := cX5_setWalk) (maxL := 3) (ret := none) (by decide) rfl ?_
  intro p e s m args below meth c s₁ B hml hv
  obtain ⟨rfl, hP, hK⟩ := hv
  have X : wd_X p s m _ meth c cX5_setWalk 3 wsX5_setWalk RX5 none D cA ad dsC.length := ⟨⟨B.exec, B.bytes, hml, findClass_of_methodNamed B.named, atoms_spec (ws := wsX5_setWalk) B.pre⟩, hK, B.notSynchronized, B.returns, hj⟩
  have hl := lv_entry ([.ref (ad 30), .int x1]) (n := 3) (Nat.le_of_ble_eq_true rfl)
  rw [lg_entry_eq]
  generalize (lg_sl ([.ref (ad 30), .int x1]) ++ List.replicate (3 - (lg_sl ([.ref (ad 30), .int x1])).length) Slot.unset).toArray = ls at hl ⊢
  have hl : lv_has ls 3 [(0, .ref (ad 30)), (1, .int x1)] := hl
  have hS : va_S (wd_A ad dsC.length) s.heap s.heap [] := va_S.rf
  have hx := X.1.1
  have hb := X.1.2.1
  have hts := X.1.2.2.2.2
  unfold F_X5_setWalk at hF
  refine lv_iconst (v := (0 : Int32)) hx hb dX5_setWalk_0 (by decide) ?_
  refine lv_istore_n (lv' := [(2, .int (0 : Int32)), (0, .ref (ad 30)), (1, .int x1)]) hx hb dX5_setWalk_1 rfl hl (by decide) rfl (fun ls hl => ?_)
  exact wh_X5_setWalk_2 X    100 x1 (0 : Int32) M _ _ _ hF hP hS (lv_sub hl [1, 2, 0] rfl)
/-! X5_build ()Z -/
theorem in_X5_build_X5 : ∀ w ∈ u_ws RX5 TX5 9, w ∈ wsX5_build := by decide +kernel
set_option maxHeartbeats 4000000 in
set_option maxRecDepth 100000 in
theorem wb_X5_build_120 {p : Program} {l : Launch} {e : Env} {s : State} {m : MethodId} {args : Array Value} {below : List Frame} {meth : Method} {c : Code} {D : va_G} {cA : Nat → ClassId} {ad : Nat → Nat} (X : wd_X p s m args meth c cX5_build 5 wsX5_build RX5 (some .boolean) D cA ad dsC.length) {r : Int32} {M' : Mem}   (M : Mem) (H : Heap) (locs : List Loc) (ls : Array Slot) (hF : B_X5_build_120  M = some (r, M')) (hP : wd_P D cA ad dsC M H) (hS : va_S (wd_A ad dsC.length) s.heap H locs) (hl : lv_has ls 5 [(0, .ref (ad 30))]) : W p l e (headSpec wsX5_build rm_X5_build).room s m args below meth c H locs 0 0 (MQ below (wm_Qi D cA ad dsC r M') args s 0 0 (wd_A ad dsC.length)) (F0 m 120 ls []) := by
  have hx := X.1.1
  have hb := X.1.2.1
  have hts := X.1.2.2.2.2
  unfold B_X5_build_120 at hF
  refine lv_aload_n hx hb dX5_build_120 rfl (lv_at hl 0 rfl) ?_
  refine lv_iconst (v := (0 : Int32)) hx hb dX5_build_121 (by decide) ?_
  obtain ⟨M_1, e_2, hF⟩ := wr_c hF
  refine wd_puti X hP hS 30 dC_30 rfl in_X5_build_X5 tyX5_ok nmX5 7 rfl (by decide) rfl rfl (by decide +kernel) dX5_build_122 (fun H locs hP hS => ?_)
  rw [← e_2] at hP
  refine lv_aload_n hx hb dX5_build_125 rfl (lv_at hl 0 rfl) ?_
  refine lv_aload_n hx hb dX5_build_126 rfl (lv_at hl 0 rfl) ?_
  refine wd_getr (q := 31) X hP 30 dC_30 rfl in_X5_build_X5 2 rfl (by decide) (by decide +kernel) dX5_build_127 ?_
  refine lv_sipush (v := (180 : Int32)) hx hb dX5_build_130 (by decide) ?_
  obtain ⟨r_3, hc_4, hF⟩ := bd_c hF
  refine wd_calli X hP hS [.int (180 : Int32)] [.ref (ad 30)] (c_X1_sizeOf l D cA ad X.2.2.2.2 31 mr_31 (180 : Int32) M_1 hc_4) (cwV 1 hts gX5_build_X1_sizeOf rfl rfl rfl (by decide +kernel) ⟨(by show _ ≤ _; first | exact Nat.le_of_ble_eq_true rfl | (simp [headSpec, rm_X5_build]; omega) | omega), (by show _ ≤ _; first | exact Nat.le_of_ble_eq_true rfl | (simp [headSpec, rm_X5_build]; omega) | omega)⟩) dC_31 rfl rfl hl.1 rfl (Nat.le_of_ble_eq_true rfl) dX5_build_133 (fun H locs hP hS => ?_)
  obtain ⟨M_5, e_6, hF⟩ := wr_c hF
  refine wd_puti X hP hS 30 dC_30 rfl in_X5_build_X5 tyX5_ok nmX5 8 rfl (by decide) rfl rfl (by decide +kernel) dX5_build_136 (fun H locs hP hS => ?_)
  rw [← e_6] at hP
  refine lv_iconst (v := (1 : Int32)) hx hb dX5_build_139 (by decide) ?_
  cases hF
  exact wd_reti X hP hS rfl (by decide) dX5_build_140
set_option maxHeartbeats 4000000 in
set_option maxRecDepth 100000 in
theorem wb_X5_build_114 {p : Program} {l : Launch} {e : Env} {s : State} {m : MethodId} {args : Array Value} {below : List Frame} {meth : Method} {c : Code} {D : va_G} {cA : Nat → ClassId} {ad : Nat → Nat} (X : wd_X p s m args meth c cX5_build 5 wsX5_build RX5 (some .boolean) D cA ad dsC.length) {kh22 : Int32 → Mem → Option (Int32 × Mem)} {r : Int32} {M' : Mem} (hk22 : ∀ (x1 : Int32) (M : Mem) (H : Heap) (locs : List Loc) (ls : Array Slot), kh22 x1 M = some (r, M') → wd_P D cA ad dsC M H → va_S (wd_A ad dsC.length) s.heap H locs → lv_has ls 5 [(0, .ref (ad 30)), (1, .int x1)] → W p l e (headSpec wsX5_build rm_X5_build).room s m args below meth c H locs 0 0 (MQ below (wm_Qi D cA ad dsC r M') args s 0 0 (wd_A ad dsC.length)) (F0 m 22 ls [])) (x1 : Int32) (M : Mem) (H : Heap) (locs : List Loc) (ls : Array Slot) (hF : B_X5_build_114 kh22 x1 M = some (r, M')) (hP : wd_P D cA ad dsC M H) (hS : va_S (wd_A ad dsC.length) s.heap H locs) (hl : lv_has ls 5 [(0, .ref (ad 30)), (1, .int x1)]) : W p l e (headSpec wsX5_build rm_X5_build).room s m args below meth c H locs 0 0 (MQ below (wm_Qi D cA ad dsC r M') args s 0 0 (wd_A ad dsC.length)) (F0 m 114 ls []) := by
  have hx := X.1.1
  have hb := X.1.2.1
  have hts := X.1.2.2.2.2
  unfold B_X5_build_114 at hF
  obtain ⟨x1_1, e_2, hF⟩ := nm_c hF
  refine lv_iinc (v := x1_1) (lv' := [(1, .int x1_1), (0, .ref (ad 30))]) hx hb dX5_build_114 hl (k := 1) rfl (by rw [e_2]; rfl) (by decide) rfl (fun ls hl => ?_)
  refine lv_goto (tgt := 22) hx hb dX5_build_117 (by decide) ?_
  exact hk22 x1_1 M _ _ _ hF hP hS (lv_sub hl [1, 0] rfl)
set_option maxHeartbeats 4000000 in
set_option maxRecDepth 100000 in
theorem wb_X5_build_93 {p : Program} {l : Launch} {e : Env} {s : State} {m : MethodId} {args : Array Value} {below : List Frame} {meth : Method} {c : Code} {D : va_G} {cA : Nat → ClassId} {ad : Nat → Nat} (X : wd_X p s m args meth c cX5_build 5 wsX5_build RX5 (some .boolean) D cA ad dsC.length) {r : Int32} {M' : Mem}   (M : Mem) (H : Heap) (locs : List Loc) (ls : Array Slot) (hF : B_X5_build_93  M = some (r, M')) (hP : wd_P D cA ad dsC M H) (hS : va_S (wd_A ad dsC.length) s.heap H locs) (hl : lv_has ls 5 [(0, .ref (ad 30))]) : W p l e (headSpec wsX5_build rm_X5_build).room s m args below meth c H locs 0 0 (MQ below (wm_Qi D cA ad dsC r M') args s 0 0 (wd_A ad dsC.length)) (F0 m 93 ls []) := by
  have hx := X.1.1
  have hb := X.1.2.1
  have hts := X.1.2.2.2.2
  unfold B_X5_build_93 at hF
  refine lv_aload_n hx hb dX5_build_93 rfl (lv_at hl 0 rfl) ?_
  refine lv_iconst (v := (0 : Int32)) hx hb dX5_build_94 (by decide) ?_
  obtain ⟨M_1, e_2, hF⟩ := wr_c hF
  refine wd_puti X hP hS 30 dC_30 rfl in_X5_build_X5 tyX5_ok nmX5 6 rfl (by decide) rfl rfl (by decide +kernel) dX5_build_95 (fun H locs hP hS => ?_)
  rw [← e_2] at hP
  refine lv_iconst (v := (0 : Int32)) hx hb dX5_build_98 (by decide) ?_
  cases hF
  exact wd_reti X hP hS rfl (by decide) dX5_build_99
set_option maxHeartbeats 4000000 in
set_option maxRecDepth 100000 in
theorem wb_X5_build_38 {p : Program} {l : Launch} {e : Env} {s : State} {m : MethodId} {args : Array Value} {below : List Frame} {meth : Method} {c : Code} {D : va_G} {cA : Nat → ClassId} {ad : Nat → Nat} (X : wd_X p s m args meth c cX5_build 5 wsX5_build RX5 (some .boolean) D cA ad dsC.length) {kh22 : Int32 → Mem → Option (Int32 × Mem)} {kh38 : Int32 → Int32 → Mem → Option (Int32 × Mem)} {r : Int32} {M' : Mem} (hk22 : ∀ (x1 : Int32) (M : Mem) (H : Heap) (locs : List Loc) (ls : Array Slot), kh22 x1 M = some (r, M') → wd_P D cA ad dsC M H → va_S (wd_A ad dsC.length) s.heap H locs → lv_has ls 5 [(0, .ref (ad 30)), (1, .int x1)] → W p l e (headSpec wsX5_build rm_X5_build).room s m args below meth c H locs 0 0 (MQ below (wm_Qi D cA ad dsC r M') args s 0 0 (wd_A ad dsC.length)) (F0 m 22 ls [])) (hk38 : ∀ (x1 : Int32) (x2 : Int32) (M : Mem) (H : Heap) (locs : List Loc) (ls : Array Slot), kh38 x1 x2 M = some (r, M') → wd_P D cA ad dsC M H → va_S (wd_A ad dsC.length) s.heap H locs → lv_has ls 5 [(0, .ref (ad 30)), (1, .int x1), (2, .int x2)] → W p l e (headSpec wsX5_build rm_X5_build).room s m args below meth c H locs 0 0 (MQ below (wm_Qi D cA ad dsC r M') args s 0 0 (wd_A ad dsC.length)) (F0 m 38 ls [])) (x1 : Int32) (x2 : Int32) (M : Mem) (H : Heap) (locs : List Loc) (ls : Array Slot) (hF : B_X5_build_38 kh22 kh38 x1 x2 M = some (r, M')) (hP : wd_P D cA ad dsC M H) (hS : va_S (wd_A ad dsC.length) s.heap H locs) (hl : lv_has ls 5 [(0, .ref (ad 30)), (1, .int x1), (2, .int x2)]) : W p l e (headSpec wsX5_build rm_X5_build).room s m args below meth c H locs 0 0 (MQ below (wm_Qi D cA ad dsC r M') args s 0 0 (wd_A ad dsC.length)) (F0 m 38 ls []) := by
  have hx := X.1.1
  have hb := X.1.2.1
  have hts := X.1.2.2.2.2
  unfold B_X5_build_38 at hF
  refine lv_iload_n hx hb dX5_build_38 rfl (lv_at hl 2 rfl) ?_
  refine lv_bipush (v := (6 : Int32)) hx hb dX5_build_39 (by decide) ?_
  refine lv_icmp_ge (tgt := 114) hx hb dX5_build_41 (by decide) (fun c_22 => ?_) (fun c_22 => ?_)
  · have hF := if_t c_22 hF
    exact wb_X5_build_114 X  hk22  x1 M _ _ _ hF hP hS (lv_sub hl [0, 1] rfl)
  · have hF := if_e c_22 hF
    refine lv_iload_n hx hb dX5_build_44 rfl (lv_at hl 2 rfl) ?_
    refine lv_aload_n hx hb dX5_build_45 rfl (lv_at hl 0 rfl) ?_
    refine wd_getr (q := 18) X hP 30 dC_30 rfl in_X5_build_X5 1 rfl (by decide) (by decide +kernel) dX5_build_46 ?_
    obtain ⟨r_1, hc_2, hF⟩ := bd_c hF
    refine wd_calli X hP hS [] [.int x2] (c_X3_events l D cA ad X.2.2.2.2    M hc_2) (cwV 0 hts gX5_build_X3_events rfl rfl rfl (by decide +kernel) ⟨(by show _ ≤ _; first | exact Nat.le_of_ble_eq_true rfl | (simp [headSpec, rm_X5_build]; omega) | omega), (by show _ ≤ _; first | exact Nat.le_of_ble_eq_true rfl | (simp [headSpec, rm_X5_build]; omega) | omega)⟩) dC_18 rfl rfl hl.1 rfl (Nat.le_of_ble_eq_true rfl) dX5_build_49 (fun H locs hP hS => ?_)
    refine lv_icmp_ge (tgt := 114) hx hb dX5_build_52 (by decide) (fun c_21 => ?_) (fun c_21 => ?_)
    · have hF := if_t c_21 hF
      exact wb_X5_build_114 X  hk22  x1 M _ _ _ hF hP hS (lv_sub hl [0, 1] rfl)
    · have hF := if_e c_21 hF
      refine lv_aload_n hx hb dX5_build_55 rfl (lv_at hl 0 rfl) ?_
      refine lv_iload_n hx hb dX5_build_56 rfl (lv_at hl 1 rfl) ?_
      refine lv_iload_n hx hb dX5_build_57 rfl (lv_at hl 2 rfl) ?_
      obtain ⟨r_3, hc_4, hF⟩ := bd_c hF
      refine wd_calli X hP hS [.int x1, .int x2] [] (c_X5_cellOf l D cA ad X.2.2.2.2   x1 x2 M hc_4) (cwV 2 hts gX5_build_X5_cellOf rfl rfl rfl (by decide +kernel) ⟨(by show _ ≤ _; first | exact Nat.le_of_ble_eq_true rfl | (simp [headSpec, rm_X5_build]; omega) | omega), (by show _ ≤ _; first | exact Nat.le_of_ble_eq_true rfl | (simp [headSpec, rm_X5_build]; omega) | omega)⟩) dC_30 rfl rfl hl.1 rfl (Nat.le_of_ble_eq_true rfl) dX5_build_58 (fun H locs hP hS => ?_)
      refine lv_istore_n (lv' := [(3, .int r_3), (0, .ref (ad 30)), (1, .int x1), (2, .int x2)]) hx hb dX5_build_61 rfl hl (by decide) rfl (fun ls hl => ?_)
      refine lv_aload_n hx hb dX5_build_62 rfl (lv_at hl 1 rfl) ?_
      refine lv_iload_n hx hb dX5_build_63 rfl (lv_at hl 2 rfl) ?_
      obtain ⟨M_7, hc_6, hF⟩ := bd_c hF
      refine wd_callv X hP hS [.int x1] [] (c_X5_setWalk l D cA ad X.2.2.2.2   x1 M hc_6) (cwV 1 hts gX5_build_X5_setWalk rfl rfl rfl (by decide +kernel) ⟨(by show _ ≤ _; first | exact Nat.le_of_ble_eq_true rfl | (simp [headSpec, rm_X5_build]; omega) | omega), (by show _ ≤ _; first | exact Nat.le_of_ble_eq_true rfl | (simp [headSpec, rm_X5_build]; omega) | omega)⟩) dC_30 rfl rfl hl.1 rfl (Nat.le_of_ble_eq_true rfl) dX5_build_64 (fun H locs hP hS => ?_)
      refine lv_aload_n hx hb dX5_build_67 rfl (lv_at hl 1 rfl) ?_
      refine wd_getr (q := 34) X hP 30 dC_30 rfl in_X5_build_X5 3 rfl (by decide) (by decide +kernel) dX5_build_68 ?_
      refine lv_iload_n hx hb dX5_build_71 rfl (lv_at hl 3 rfl) ?_
      refine lv_iload_n hx hb dX5_build_72 rfl (lv_at hl 0 rfl) ?_
      obtain ⟨M_10, hc_9, hF⟩ := bd_c hF
      refine wd_callv X hP hS [.int x2, .int r_3] [] (c_X6_receive l D cA ad X.2.2.2.2   x2 r_3 M_7 hc_9) (cwV 2 hts gX5_build_X6_receive rfl rfl rfl (by decide +kernel) ⟨(by show _ ≤ _; first | exact Nat.le_of_ble_eq_true rfl | (simp [headSpec, rm_X5_build]; omega) | omega), (by show _ ≤ _; first | exact Nat.le_of_ble_eq_true rfl | (simp [headSpec, rm_X5_build]; omega) | omega)⟩) dC_34 rfl rfl hl.1 rfl (Nat.le_of_ble_eq_true rfl) dX5_build_73 (fun H locs hP hS => ?_)
      refine lv_aload_n hx hb dX5_build_76 rfl (lv_at hl 1 rfl) ?_
      obtain ⟨r_11, M_13, hc_12, hF⟩ := bd2_c hF
      refine wd_calli X hP hS [] [] (c_X5_numberOfWalk l D cA ad X.2.2.2.2    M_10 hc_12) (cwV 0 hts gX5_build_X5_numberOfWalk rfl rfl rfl (by decide +kernel) ⟨(by show _ ≤ _; first | exact Nat.le_of_ble_eq_true rfl | (simp [headSpec, rm_X5_build]; omega) | omega), (by show _ ≤ _; first | exact Nat.le_of_ble_eq_true rfl | (simp [headSpec, rm_X5_build]; omega) | omega)⟩) dC_30 rfl rfl hl.1 rfl (Nat.le_of_ble_eq_true rfl) dX5_build_77 (fun H locs hP hS => ?_)
      refine lv_istore (lv' := [(4, .int r_11), (3, .int r_3), (0, .ref (ad 30)), (1, .int x1), (2, .int x2)]) hx hb dX5_build_80 hl (by decide) rfl (fun ls hl => ?_)
      refine lv_iload_n hx hb dX5_build_82 rfl (lv_at hl 1 rfl) ?_
      refine lv_iconst (v := (-1 : Int32)) hx hb dX5_build_83 (by decide) ?_
      refine lv_icmp_eq (tgt := 93) hx hb dX5_build_84 (by decide) (fun c_20 => ?_) (fun c_20 => ?_)
      · have hF := if_t c_20 hF
        exact wb_X5_build_93 X    M_13 _ _ _ hF hP hS (lv_sub hl [2] rfl)
      · have hF := if_e c_20 hF
        refine lv_iload hx hb dX5_build_87 (lv_at hl 0 rfl) ?_
        refine lv_iconst (v := (-1 : Int32)) hx hb dX5_build_89 (by decide) ?_
        refine lv_icmp_ne (tgt := 100) hx hb dX5_build_90 (by decide) (fun c_19 => ?_) (fun c_19 => ?_)
        · have hF := if_e c_19 hF
          refine lv_aload_n hx hb dX5_build_100 rfl (lv_at hl 2 rfl) ?_
          refine wd_getr (q := 37) X hP 30 dC_30 rfl in_X5_build_X5 5 rfl (by decide) (by decide +kernel) dX5_build_101 ?_
          refine lv_iload_n hx hb dX5_build_104 rfl (lv_at hl 1 rfl) ?_
          refine lv_iload hx hb dX5_build_105 (lv_at hl 0 rfl) ?_
          obtain ⟨h_14, hF⟩ := gi_c hF
          obtain ⟨M_15, e_16, hF⟩ := wr_c hF
          refine wd_ist X hP hS 37 dC_37 h_14 dX5_build_107 (fun H locs hP hS => ?_)
          rw [← e_16] at hP
          obtain ⟨x2_17, e_18, hF⟩ := nm_c hF
          refine lv_iinc (v := x2_17) (lv' := [(2, .int x2_17), (4, .int r_11), (3, .int r_3), (0, .ref (ad 30)), (1, .int x1)]) hx hb dX5_build_108 hl (k := 4) rfl (by rw [e_18]; rfl) (by decide) rfl (fun ls hl => ?_)
          refine lv_goto (tgt := 38) hx hb dX5_build_111 (by decide) ?_
          exact hk38 x1 x2_17 M_15 _ _ _ hF hP hS (lv_sub hl [3, 4, 0] rfl)
        · have hF := if_t c_19 hF
          exact wb_X5_build_93 X    M_13 _ _ _ hF hP hS (lv_sub hl [2] rfl)
set_option maxHeartbeats 4000000 in
set_option maxRecDepth 100000 in
theorem wh_X5_build_38 {p : Program} {l : Launch} {e : Env} {s : State} {m : MethodId} {args : Array Value} {below : List Frame} {meth : Method} {c : Code} {D : va_G} {cA : Nat → ClassId} {ad : Nat → Nat} (X : wd_X p s m args meth c cX5_build 5 wsX5_build RX5 (some .boolean) D cA ad dsC.length) {kh22 : Int32 → Mem → Option (Int32 × Mem)} {r : Int32} {M' : Mem} (hk22 : ∀ (x1 : Int32) (M : Mem) (H : Heap) (locs : List Loc) (ls : Array Slot), kh22 x1 M = some (r, M') → wd_P D cA ad dsC M H → va_S (wd_A ad dsC.length) s.heap H locs → lv_has ls 5 [(0, .ref (ad 30)), (1, .int x1)] → W p l e (headSpec wsX5_build rm_X5_build).room s m args below meth c H locs 0 0 (MQ below (wm_Qi D cA ad dsC r M') args s 0 0 (wd_A ad dsC.length)) (F0 m 22 ls [])) : ∀ (n : Nat) (x1 : Int32) (x2 : Int32) (M : Mem) (H : Heap) (locs : List Loc) (ls : Array Slot), H_X5_build_38 kh22 n x1 x2 M = some (r, M') → wd_P D cA ad dsC M H → va_S (wd_A ad dsC.length) s.heap H locs → lv_has ls 5 [(0, .ref (ad 30)), (1, .int x1), (2, .int x2)] → W p l e (headSpec wsX5_build rm_X5_build).room s m args below meth c H locs 0 0 (MQ below (wm_Qi D cA ad dsC r M') args s 0 0 (wd_A ad dsC.length)) (F0 m 38 ls []) := by
  intro n
  induction n with
  | zero => intro x1 x2 M H locs ls hF; cases hF
  | succ n ih => intro x1 x2 M H locs ls hF hP hS hl; exact wb_X5_build_38 X (kh38 := H_X5_build_38 kh22 n) hk22 ih x1 x2 M H locs ls hF hP hS hl
set_option maxHeartbeats 4000000 in
set_option maxRecDepth 100000 in
theorem wb_X5_build_22 {p : Program} {l : Launch} {e : Env} {s : State} {m : MethodId} {args : Array Value} {below : List Frame} {meth : Method} {c : Code} {D : va_G} {cA : Nat → ClassId} {ad : Nat → Nat} (X : wd_X p s m args meth c cX5_build 5 wsX5_build RX5 (some .boolean) D cA ad dsC.length) {kh22 : Int32 → Mem → Option (Int32 × Mem)} {r : Int32} {M' : Mem} (hk22 : ∀ (x1 : Int32) (M : Mem) (H : Heap) (locs : List Loc) (ls : Array Slot), kh22 x1 M = some (r, M') → wd_P D cA ad dsC M H → va_S (wd_A ad dsC.length) s.heap H locs → lv_has ls 5 [(0, .ref (ad 30)), (1, .int x1)] → W p l e (headSpec wsX5_build rm_X5_build).room s m args below meth c H locs 0 0 (MQ below (wm_Qi D cA ad dsC r M') args s 0 0 (wd_A ad dsC.length)) (F0 m 22 ls [])) (x1 : Int32) (M : Mem) (H : Heap) (locs : List Loc) (ls : Array Slot) (hF : B_X5_build_22 kh22 x1 M = some (r, M')) (hP : wd_P D cA ad dsC M H) (hS : va_S (wd_A ad dsC.length) s.heap H locs) (hl : lv_has ls 5 [(0, .ref (ad 30)), (1, .int x1)]) : W p l e (headSpec wsX5_build rm_X5_build).room s m args below meth c H locs 0 0 (MQ below (wm_Qi D cA ad dsC r M') args s 0 0 (wd_A ad dsC.length)) (F0 m 22 ls []) := by
  have hx := X.1.1
  have hb := X.1.2.1
  have hts := X.1.2.2.2.2
  unfold B_X5_build_22 at hF
  refine lv_iload_n hx hb dX5_build_22 rfl (lv_at hl 1 rfl) ?_
  refine lv_bipush (v := (30 : Int32)) hx hb dX5_build_23 (by decide) ?_
  refine lv_icmp_ge (tgt := 120) hx hb dX5_build_25 (by decide) (fun c_2 => ?_) (fun c_2 => ?_)
  · have hF := if_t c_2 hF
    exact wb_X5_build_120 X    M _ _ _ hF hP hS (lv_sub hl [0] rfl)
  · have hF := if_e c_2 hF
    refine lv_iload_n hx hb dX5_build_28 rfl (lv_at hl 1 rfl) ?_
    refine lv_aload_n hx hb dX5_build_29 rfl (lv_at hl 0 rfl) ?_
    refine wd_geti X hP 30 dC_30 rfl in_X5_build_X5 6 rfl (by decide) (by decide +kernel) dX5_build_30 ?_
    refine lv_icmp_ge (tgt := 120) hx hb dX5_build_33 (by decide) (fun c_1 => ?_) (fun c_1 => ?_)
    · have hF := if_t c_1 hF
      exact wb_X5_build_120 X    M _ _ _ hF hP hS (lv_sub hl [0] rfl)
    · have hF := if_e c_1 hF
      refine lv_iconst (v := (0 : Int32)) hx hb dX5_build_36 (by decide) ?_
      refine lv_istore_n (lv' := [(2, .int (0 : Int32)), (0, .ref (ad 30)), (1, .int x1)]) hx hb dX5_build_37 rfl hl (by decide) rfl (fun ls hl => ?_)
      exact wh_X5_build_38 X  hk22  100 x1 (0 : Int32) M _ _ _ hF hP hS (lv_sub hl [1, 2, 0] rfl)
set_option maxHeartbeats 4000000 in
set_option maxRecDepth 100000 in
theorem wh_X5_build_22 {p : Program} {l : Launch} {e : Env} {s : State} {m : MethodId} {args : Array Value} {below : List Frame} {meth : Method} {c : Code} {D : va_G} {cA : Nat → ClassId} {ad : Nat → Nat} (X : wd_X p s m args meth c cX5_build 5 wsX5_build RX5 (some .boolean) D cA ad dsC.length) {r : Int32} {M' : Mem}  : ∀ (n : Nat) (x1 : Int32) (M : Mem) (H : Heap) (locs : List Loc) (ls : Array Slot), H_X5_build_22  n x1 M = some (r, M') → wd_P D cA ad dsC M H → va_S (wd_A ad dsC.length) s.heap H locs → lv_has ls 5 [(0, .ref (ad 30)), (1, .int x1)] → W p l e (headSpec wsX5_build rm_X5_build).room s m args below meth c H locs 0 0 (MQ below (wm_Qi D cA ad dsC r M') args s 0 0 (wd_A ad dsC.length)) (F0 m 22 ls []) := by
  intro n
  induction n with
  | zero => intro x1 M H locs ls hF; cases hF
  | succ n ih => intro x1 M H locs ls hF hP hS hl; exact wb_X5_build_22 X (kh22 := H_X5_build_22  n) ih x1 M H locs ls hF hP hS hl
set_option maxHeartbeats 4000000 in
set_option maxRecDepth 100000 in
theorem c_X5_build (l : Launch) (D : va_G) (cA : Nat → ClassId) (ad : Nat → Nat) (hj : wd_inj ad dsC.length)    (M : Mem) {r : Int32} {M' : Mem} (hF : F_X5_build M = some (r, M')) : wm_i l yX5_build wsX5_build rm_X5_build D cA ad dsC M [.ref (ad 30)] r M' := by
  refine Met.ofW (cc := cX5_build) (maxL := 5) (ret := (some .boolean)) (by decide) rfl ?_
  intro p e s m args below meth c s₁ B hml hv
  obtain ⟨rfl, hP, hK⟩ := hv
  have X : wd_X p s m _ meth c cX5_build 5 wsX5_build RX5 (some .boolean) D cA ad dsC.length := ⟨⟨B.exec, B.bytes, hml, findClass_of_methodNamed B.named, atoms_spec (ws := wsX5_build) B.pre⟩, hK, B.notSynchronized, B.returns, hj⟩
  have hl := lv_entry ([.ref (ad 30)]) (n := 5) (Nat.le_of_ble_eq_true rfl)
  rw [lg_entry_eq]
  generalize (lg_sl ([.ref (ad 30)]) ++ List.replicate (5 - (lg_sl ([.ref (ad 30)])).length) Slot.unset).toArray = ls at hl ⊢
  have hl : lv_has ls 5 [(0, .ref (ad 30))] := hl
  have hS : va_S (wd_A ad dsC.length) s.heap s.heap [] := va_S.rf
  have hx := X.1.1
  have hb := X.1.2.1
  have hts := X.1.2.2.2.2
  unfold F_X5_build at hF
  refine lv_aload_n hx hb dX5_build_0 rfl (lv_at hl 0 rfl) ?_
  refine lv_iconst (v := (0 : Int32)) hx hb dX5_build_1 (by decide) ?_
  obtain ⟨M_1, e_2, hF⟩ := wr_c hF
  refine wd_puti X hP hS 30 dC_30 rfl in_X5_build_X5 tyX5_ok nmX5 6 rfl (by decide) rfl rfl (by decide +kernel) dX5_build_2 (fun H locs hP hS => ?_)
  rw [← e_2] at hP
  refine lv_aload_n hx hb dX5_build_5 rfl (lv_at hl 0 rfl) ?_
  refine wd_getr (q := 34) X hP 30 dC_30 rfl in_X5_build_X5 3 rfl (by decide) (by decide +kernel) dX5_build_6 ?_
  refine lv_sipush (v := (180 : Int32)) hx hb dX5_build_9 (by decide) ?_
  obtain ⟨M_5, hc_4, hF⟩ := bd_c hF
  refine wd_callv X hP hS [.int (180 : Int32)] [] (c_X6_start l D cA ad X.2.2.2.2   (180 : Int32) M_1 hc_4) (cwV 1 hts gX5_build_X6_start rfl rfl rfl (by decide +kernel) ⟨(by show _ ≤ _; first | exact Nat.le_of_ble_eq_true rfl | (simp [headSpec, rm_X5_build]; omega) | omega), (by show _ ≤ _; first | exact Nat.le_of_ble_eq_true rfl | (simp [headSpec, rm_X5_build]; omega) | omega)⟩) dC_34 rfl rfl hl.1 rfl (Nat.le_of_ble_eq_true rfl) dX5_build_12 (fun H locs hP hS => ?_)
  refine lv_aload_n hx hb dX5_build_15 rfl (lv_at hl 0 rfl) ?_
  obtain ⟨r_6, M_8, hc_7, hF⟩ := bd2_c hF
  refine wd_calli X hP hS [] [] (c_X5_numberOfWalk l D cA ad X.2.2.2.2    M_5 hc_7) (cwV 0 hts gX5_build_X5_numberOfWalk rfl rfl rfl (by decide +kernel) ⟨(by show _ ≤ _; first | exact Nat.le_of_ble_eq_true rfl | (simp [headSpec, rm_X5_build]; omega) | omega), (by show _ ≤ _; first | exact Nat.le_of_ble_eq_true rfl | (simp [headSpec, rm_X5_build]; omega) | omega)⟩) dC_30 rfl rfl hl.1 rfl (Nat.le_of_ble_eq_true rfl) dX5_build_16 (fun H locs hP hS => ?_)
  refine lv_pop hx hb dX5_build_19 rfl ?_
  refine lv_iconst (v := (0 : Int32)) hx hb dX5_build_20 (by decide) ?_
  refine lv_istore_n (lv' := [(1, .int (0 : Int32)), (0, .ref (ad 30))]) hx hb dX5_build_21 rfl hl (by decide) rfl (fun ls hl => ?_)
  exact wh_X5_build_22 X    100 (0 : Int32) M_8 _ _ _ hF hP hS (lv_sub hl [1, 0] rfl)
/-! X5_following (II)I -/
theorem in_X5_following_X5 : ∀ w ∈ u_ws RX5 TX5 9, w ∈ wsX5_following := by decide +kernel
set_option maxHeartbeats 4000000 in
set_option maxRecDepth 100000 in
theorem c_X5_following (l : Launch) (D : va_G) (cA : Nat → ClassId) (ad : Nat → Nat) (hj : wd_inj ad dsC.length)   (x1 : Int32) (x2 : Int32) (M : Mem) {r : Int32} (hF : F_X5_following x1 x2 M = some r) : wm_i l yX5_following wsX5_following rm_X5_following D cA ad dsC M [.ref (ad 30), .int x1, .int x2] r M := by
  refine Met.ofW (cc := cX5_following) (maxL := 4) (ret := (some .int)) (by decide) rfl ?_
  intro p e s m args below meth c s₁ B hml hv
  obtain ⟨rfl, hP, hK⟩ := hv
  have X : wd_X p s m _ meth c cX5_following 4 wsX5_following RX5 (some .int) D cA ad dsC.length := ⟨⟨B.exec, B.bytes, hml, findClass_of_methodNamed B.named, atoms_spec (ws := wsX5_following) B.pre⟩, hK, B.notSynchronized, B.returns, hj⟩
  have hl := lv_entry ([.ref (ad 30), .int x1, .int x2]) (n := 4) (Nat.le_of_ble_eq_true rfl)
  rw [lg_entry_eq]
  generalize (lg_sl ([.ref (ad 30), .int x1, .int x2]) ++ List.replicate (4 - (lg_sl ([.ref (ad 30), .int x1, .int x2])).length) Slot.unset).toArray = ls at hl ⊢
  have hl : lv_has ls 4 [(0, .ref (ad 30)), (1, .int x1), (2, .int x2)] := hl
  have hS : va_S (wd_A ad dsC.length) s.heap s.heap [] := va_S.rf
  have hx := X.1.1
  have hb := X.1.2.1
  have hts := X.1.2.2.2.2
  unfold F_X5_following at hF
  refine lv_aload_n hx hb dX5_following_0 rfl (lv_at hl 0 rfl) ?_
  refine lv_iload_n hx hb dX5_following_1 rfl (lv_at hl 1 rfl) ?_
  refine lv_iload_n hx hb dX5_following_2 rfl (lv_at hl 2 rfl) ?_
  obtain ⟨r_1, hc_2, hF⟩ := bd_c hF
  refine wd_calli X hP hS [.int x1, .int x2] [] (c_X5_cellOf l D cA ad X.2.2.2.2   x1 x2 M hc_2) (cwV 2 hts gX5_following_X5_cellOf rfl rfl rfl (by decide +kernel) ⟨(by show _ ≤ _; first | exact Nat.le_of_ble_eq_true rfl | (simp [headSpec, rm_X5_following]; omega) | omega), (by show _ ≤ _; first | exact Nat.le_of_ble_eq_true rfl | (simp [headSpec, rm_X5_following]; omega) | omega)⟩) dC_30 rfl rfl hl.1 rfl (Nat.le_of_ble_eq_true rfl) dX5_following_3 (fun H locs hP hS => ?_)
  refine lv_istore_n (lv' := [(3, .int r_1), (0, .ref (ad 30)), (1, .int x1), (2, .int x2)]) hx hb dX5_following_6 rfl hl (by decide) rfl (fun ls hl => ?_)
  refine lv_iload_n hx hb dX5_following_7 rfl (lv_at hl 0 rfl) ?_
  refine lv_iconst (v := (-1 : Int32)) hx hb dX5_following_8 (by decide) ?_
  refine lv_icmp_ne (tgt := 16) hx hb dX5_following_9 (by decide) (fun c_4 => ?_) (fun c_4 => ?_)
  · have hF := if_e c_4 hF
    refine lv_aload_n hx hb dX5_following_16 rfl (lv_at hl 1 rfl) ?_
    refine wd_getr (q := 37) X hP 30 dC_30 rfl in_X5_following_X5 5 rfl (by decide) (by decide +kernel) dX5_following_17 ?_
    refine lv_iload_n hx hb dX5_following_20 rfl (lv_at hl 0 rfl) ?_
    obtain ⟨h_3, hF⟩ := gi_c hF
    refine wd_ild X hP 37 dC_37 h_3 dX5_following_21 ?_
    cases hF
    exact wd_reti X hP hS rfl rfl dX5_following_22
  · have hF := if_t c_4 hF
    refine lv_iconst (v := (-1 : Int32)) hx hb dX5_following_12 (by decide) ?_
    refine lv_goto (tgt := 22) hx hb dX5_following_13 (by decide) ?_
    cases hF
    exact wd_reti X hP hS rfl rfl dX5_following_22
/-! X5_traceLetter (III)I -/
theorem in_X5_traceLetter_X5 : ∀ w ∈ u_ws RX5 TX5 9, w ∈ wsX5_traceLetter := by decide +kernel
set_option maxHeartbeats 4000000 in
set_option maxRecDepth 100000 in
theorem wb_X5_traceLetter_44 {p : Program} {l : Launch} {e : Env} {s : State} {m : MethodId} {args : Array Value} {below : List Frame} {meth : Method} {c : Code} {D : va_G} {cA : Nat → ClassId} {ad : Nat → Nat} (X : wd_X p s m args meth c cX5_traceLetter 5 wsX5_traceLetter RX5 (some .int) D cA ad dsC.length) {M : Mem} {r : Int32}  (x3 : Int32) (t0 : Int32) (H : Heap) (locs : List Loc) (ls : Array Slot) (hF : B_X5_traceLetter_44 M x3 t0 = some r) (hP : wd_P D cA ad dsC M H) (hS : va_S (wd_A ad dsC.length) s.heap H locs) (hl : lv_has ls 5 [(3, .int x3)]) : W p l e (headSpec wsX5_traceLetter rm_X5_traceLetter).room s m args below meth c H locs 0 0 (MQ below (wm_Qi D cA ad dsC r M) args s 0 0 (wd_A ad dsC.length)) (F0 m 44 ls [.int t0, .ref (ad 31)]) := by
  have hx := X.1.1
  have hb := X.1.2.1
  have hts := X.1.2.2.2.2
  unfold B_X5_traceLetter_44 at hF
  refine lv_iload_n hx hb dX5_traceLetter_44 rfl (lv_at hl 0 rfl) ?_
  obtain ⟨r_1, hc_2, hF⟩ := bd_c hF
  refine wd_calli X hP hS [.int t0, .int x3] [] (c_X1_letterAt l D cA ad X.2.2.2.2 31 mr_31 t0 x3 M hc_2) (cwV 2 hts gX5_traceLetter_X1_letterAt rfl rfl rfl (by decide +kernel) ⟨(by show _ ≤ _; first | exact Nat.le_of_ble_eq_true rfl | (simp [headSpec, rm_X5_traceLetter]; omega) | omega), (by show _ ≤ _; first | exact Nat.le_of_ble_eq_true rfl | (simp [headSpec, rm_X5_traceLetter]; omega) | omega)⟩) dC_31 rfl rfl hl.1 rfl (Nat.le_of_ble_eq_true rfl) dX5_traceLetter_45 (fun H locs hP hS => ?_)
  cases hF
  exact wd_reti X hP hS rfl rfl dX5_traceLetter_48
set_option maxHeartbeats 4000000 in
set_option maxRecDepth 100000 in
theorem wb_X5_traceLetter_21 {p : Program} {l : Launch} {e : Env} {s : State} {m : MethodId} {args : Array Value} {below : List Frame} {meth : Method} {c : Code} {D : va_G} {cA : Nat → ClassId} {ad : Nat → Nat} (X : wd_X p s m args meth c cX5_traceLetter 5 wsX5_traceLetter RX5 (some .int) D cA ad dsC.length) {M : Mem} {r : Int32}  (x1 : Int32) (x2 : Int32) (x3 : Int32) (t0 : Int32) (H : Heap) (locs : List Loc) (ls : Array Slot) (hF : B_X5_traceLetter_21 M x1 x2 x3 t0 = some r) (hP : wd_P D cA ad dsC M H) (hS : va_S (wd_A ad dsC.length) s.heap H locs) (hl : lv_has ls 5 [(0, .ref (ad 30)), (1, .int x1), (2, .int x2), (3, .int x3)]) : W p l e (headSpec wsX5_traceLetter rm_X5_traceLetter).room s m args below meth c H locs 0 0 (MQ below (wm_Qi D cA ad dsC r M) args s 0 0 (wd_A ad dsC.length)) (F0 m 21 ls [.int t0]) := by
  have hx := X.1.1
  have hb := X.1.2.1
  have hts := X.1.2.2.2.2
  unfold B_X5_traceLetter_21 at hF
  refine lv_istore (lv' := [(4, .int t0), (0, .ref (ad 30)), (1, .int x1), (2, .int x2), (3, .int x3)]) hx hb dX5_traceLetter_21 hl (by decide) rfl (fun ls hl => ?_)
  refine lv_aload_n hx hb dX5_traceLetter_23 rfl (lv_at hl 1 rfl) ?_
  refine wd_getr (q := 31) X hP 30 dC_30 rfl in_X5_traceLetter_X5 2 rfl (by decide) (by decide +kernel) dX5_traceLetter_24 ?_
  refine lv_iload hx hb dX5_traceLetter_27 (lv_at hl 0 rfl) ?_
  refine lv_if_eq (tgt := 38) hx hb dX5_traceLetter_29 (by decide) (fun c_3 => ?_) (fun c_3 => ?_)
  · have hF := if_t c_3 hF
    refine lv_aload_n hx hb dX5_traceLetter_38 rfl (lv_at hl 1 rfl) ?_
    refine lv_iload_n hx hb dX5_traceLetter_39 rfl (lv_at hl 2 rfl) ?_
    refine lv_iload_n hx hb dX5_traceLetter_40 rfl (lv_at hl 3 rfl) ?_
    obtain ⟨r_1, hc_2, hF⟩ := bd_c hF
    refine wd_calli X hP hS [.int x1, .int x2] [.ref (ad 31)] (c_X5_cellOf l D cA ad X.2.2.2.2   x1 x2 M hc_2) (cwV 2 hts gX5_traceLetter_X5_cellOf rfl rfl rfl (by decide +kernel) ⟨(by show _ ≤ _; first | exact Nat.le_of_ble_eq_true rfl | (simp [headSpec, rm_X5_traceLetter]; omega) | omega), (by show _ ≤ _; first | exact Nat.le_of_ble_eq_true rfl | (simp [headSpec, rm_X5_traceLetter]; omega) | omega)⟩) dC_30 rfl rfl hl.1 rfl (Nat.le_of_ble_eq_true rfl) dX5_traceLetter_41 (fun H locs hP hS => ?_)
    exact wb_X5_traceLetter_44 X    x3 r_1 _ _ _ hF hP hS (lv_sub hl [4] rfl)
  · have hF := if_e c_3 hF
    refine lv_sipush (v := (180 : Int32)) hx hb dX5_traceLetter_32 (by decide) ?_
    refine lv_goto (tgt := 44) hx hb dX5_traceLetter_35 (by decide) ?_
    exact wb_X5_traceLetter_44 X    x3 (180 : Int32) _ _ _ hF hP hS (lv_sub hl [4] rfl)
set_option maxHeartbeats 4000000 in
set_option maxRecDepth 100000 in
theorem wb_X5_traceLetter_20 {p : Program} {l : Launch} {e : Env} {s : State} {m : MethodId} {args : Array Value} {below : List Frame} {meth : Method} {c : Code} {D : va_G} {cA : Nat → ClassId} {ad : Nat → Nat} (X : wd_X p s m args meth c cX5_traceLetter 5 wsX5_traceLetter RX5 (some .int) D cA ad dsC.length) {M : Mem} {r : Int32}  (x1 : Int32) (x2 : Int32) (x3 : Int32) (H : Heap) (locs : List Loc) (ls : Array Slot) (hF : B_X5_traceLetter_20 M x1 x2 x3 = some r) (hP : wd_P D cA ad dsC M H) (hS : va_S (wd_A ad dsC.length) s.heap H locs) (hl : lv_has ls 5 [(0, .ref (ad 30)), (1, .int x1), (2, .int x2), (3, .int x3)]) : W p l e (headSpec wsX5_traceLetter rm_X5_traceLetter).room s m args below meth c H locs 0 0 (MQ below (wm_Qi D cA ad dsC r M) args s 0 0 (wd_A ad dsC.length)) (F0 m 20 ls []) := by
  have hx := X.1.1
  have hb := X.1.2.1
  have hts := X.1.2.2.2.2
  unfold B_X5_traceLetter_20 at hF
  refine lv_iconst (v := (0 : Int32)) hx hb dX5_traceLetter_20 (by decide) ?_
  exact wb_X5_traceLetter_21 X    x1 x2 x3 (0 : Int32) _ _ _ hF hP hS (lv_sub hl [0, 1, 2, 3] rfl)
set_option maxHeartbeats 4000000 in
set_option maxRecDepth 100000 in
theorem c_X5_traceLetter (l : Launch) (D : va_G) (cA : Nat → ClassId) (ad : Nat → Nat) (hj : wd_inj ad dsC.length)   (x1 : Int32) (x2 : Int32) (x3 : Int32) (M : Mem) {r : Int32} (hF : F_X5_traceLetter x1 x2 x3 M = some r) : wm_i l yX5_traceLetter wsX5_traceLetter rm_X5_traceLetter D cA ad dsC M [.ref (ad 30), .int x1, .int x2, .int x3] r M := by
  refine Met.ofW (cc := cX5_traceLetter) (maxL := 5) (ret := (some .int)) (by decide) rfl ?_
  intro p e s m args below meth c s₁ B hml hv
  obtain ⟨rfl, hP, hK⟩ := hv
  have X : wd_X p s m _ meth c cX5_traceLetter 5 wsX5_traceLetter RX5 (some .int) D cA ad dsC.length := ⟨⟨B.exec, B.bytes, hml, findClass_of_methodNamed B.named, atoms_spec (ws := wsX5_traceLetter) B.pre⟩, hK, B.notSynchronized, B.returns, hj⟩
  have hl := lv_entry ([.ref (ad 30), .int x1, .int x2, .int x3]) (n := 5) (Nat.le_of_ble_eq_true rfl)
  rw [lg_entry_eq]
  generalize (lg_sl ([.ref (ad 30), .int x1, .int x2, .int x3]) ++ List.replicate (5 - (lg_sl ([.ref (ad 30), .int x1, .int x2, .int x3])).length) Slot.unset).toArray = ls at hl ⊢
  have hl : lv_has ls 5 [(0, .ref (ad 30)), (1, .int x1), (2, .int x2), (3, .int x3)] := hl
  have hS : va_S (wd_A ad dsC.length) s.heap s.heap [] := va_S.rf
  have hx := X.1.1
  have hb := X.1.2.1
  have hts := X.1.2.2.2.2
  unfold F_X5_traceLetter at hF
  refine lv_aload_n hx hb dX5_traceLetter_0 rfl (lv_at hl 0 rfl) ?_
  refine wd_geti X hP 30 dC_30 rfl in_X5_traceLetter_X5 6 rfl (by decide) (by decide +kernel) dX5_traceLetter_1 ?_
  refine lv_if_le (tgt := 20) hx hb dX5_traceLetter_4 (by decide) (fun c_3 => ?_) (fun c_3 => ?_)
  · have hF := if_t c_3 hF
    exact wb_X5_traceLetter_20 X    x1 x2 x3 _ _ _ hF hP hS (lv_sub hl [0, 1, 2, 3] rfl)
  · have hF := if_e c_3 hF
    refine lv_iload_n hx hb dX5_traceLetter_7 rfl (lv_at hl 1 rfl) ?_
    refine lv_if_ne (tgt := 20) hx hb dX5_traceLetter_8 (by decide) (fun c_2 => ?_) (fun c_2 => ?_)
    · have hF := if_e c_2 hF
      exact wb_X5_traceLetter_20 X    x1 x2 x3 _ _ _ hF hP hS (lv_sub hl [0, 1, 2, 3] rfl)
    · have hF := if_t c_2 hF
      refine lv_iload_n hx hb dX5_traceLetter_11 rfl (lv_at hl 2 rfl) ?_
      refine lv_iconst (v := (-1 : Int32)) hx hb dX5_traceLetter_12 (by decide) ?_
      refine lv_icmp_ne (tgt := 20) hx hb dX5_traceLetter_13 (by decide) (fun c_1 => ?_) (fun c_1 => ?_)
      · have hF := if_e c_1 hF
        exact wb_X5_traceLetter_20 X    x1 x2 x3 _ _ _ hF hP hS (lv_sub hl [0, 1, 2, 3] rfl)
      · have hF := if_t c_1 hF
        refine lv_iconst (v := (1 : Int32)) hx hb dX5_traceLetter_16 (by decide) ?_
        refine lv_goto (tgt := 21) hx hb dX5_traceLetter_17 (by decide) ?_
        exact wb_X5_traceLetter_21 X    x1 x2 x3 (1 : Int32) _ _ _ hF hP hS (lv_sub hl [0, 1, 2, 3] rfl)
/-! X5_isActive (II)Z -/
theorem in_X5_isActive_X5 : ∀ w ∈ u_ws RX5 TX5 9, w ∈ wsX5_isActive := by decide +kernel
set_option maxHeartbeats 4000000 in
set_option maxRecDepth 100000 in
theorem c_X5_isActive (l : Launch) (D : va_G) (cA : Nat → ClassId) (ad : Nat → Nat) (hj : wd_inj ad dsC.length)   (x1 : Int32) (x2 : Int32) (M : Mem) {r : Int32} {M' : Mem} (hF : F_X5_isActive x1 x2 M = some (r, M')) : wm_i l yX5_isActive wsX5_isActive rm_X5_isActive D cA ad dsC M [.ref (ad 30), .int x1, .int x2] r M' := by
  refine Met.ofW (cc := cX5_isActive) (maxL := 3) (ret := (some .boolean)) (by decide) rfl ?_
  intro p e s m args below meth c s₁ B hml hv
  obtain ⟨rfl, hP, hK⟩ := hv
  have X : wd_X p s m _ meth c cX5_isActive 3 wsX5_isActive RX5 (some .boolean) D cA ad dsC.length := ⟨⟨B.exec, B.bytes, hml, findClass_of_methodNamed B.named, atoms_spec (ws := wsX5_isActive) B.pre⟩, hK, B.notSynchronized, B.returns, hj⟩
  have hl := lv_entry ([.ref (ad 30), .int x1, .int x2]) (n := 3) (Nat.le_of_ble_eq_true rfl)
  rw [lg_entry_eq]
  generalize (lg_sl ([.ref (ad 30), .int x1, .int x2]) ++ List.replicate (3 - (lg_sl ([.ref (ad 30), .int x1, .int x2])).length) Slot.unset).toArray = ls at hl ⊢
  have hl : lv_has ls 3 [(0, .ref (ad 30)), (1, .int x1), (2, .int x2)] := hl
  have hS : va_S (wd_A ad dsC.length) s.heap s.heap [] := va_S.rf
  have hx := X.1.1
  have hb := X.1.2.1
  have hts := X.1.2.2.2.2
  unfold F_X5_isActive at hF
  refine lv_aload_n hx hb dX5_isActive_0 rfl (lv_at hl 0 rfl) ?_
  refine lv_iload_n hx hb dX5_isActive_1 rfl (lv_at hl 1 rfl) ?_
  obtain ⟨r_1, hc_2, hF⟩ := bd_c hF
  refine wd_calli X hP hS [.int x1] [] (c_X5_isConfiguration l D cA ad X.2.2.2.2   x1 M hc_2) (cwV 1 hts gX5_isActive_X5_isConfiguration rfl rfl rfl (by decide +kernel) ⟨(by show _ ≤ _; first | exact Nat.le_of_ble_eq_true rfl | (simp [headSpec, rm_X5_isActive]; omega) | omega), (by show _ ≤ _; first | exact Nat.le_of_ble_eq_true rfl | (simp [headSpec, rm_X5_isActive]; omega) | omega)⟩) dC_30 rfl rfl hl.1 rfl (Nat.le_of_ble_eq_true rfl) dX5_isActive_2 (fun H locs hP hS => ?_)
  refine lv_if_eq (tgt := 19) hx hb dX5_isActive_5 (by decide) (fun c_12 => ?_) (fun c_12 => ?_)
  · have hF := if_t c_12 hF
    refine lv_iconst (v := (0 : Int32)) hx hb dX5_isActive_19 (by decide) ?_
    cases hF
    exact wd_reti X hP hS rfl (by decide) dX5_isActive_20
  · have hF := if_e c_12 hF
    refine lv_aload_n hx hb dX5_isActive_8 rfl (lv_at hl 0 rfl) ?_
    refine wd_getr (q := 5) X hP 30 dC_30 rfl in_X5_isActive_X5 0 rfl (by decide) (by decide +kernel) dX5_isActive_9 ?_
    refine lv_iload_n hx hb dX5_isActive_12 rfl (lv_at hl 2 rfl) ?_
    obtain ⟨r_3, hc_4, hF⟩ := bd_c hF
    refine wd_calli X hP hS [.int x2] [] (c_X4_isState l D cA ad X.2.2.2.2   x2 M hc_4) (cwV 1 hts gX5_isActive_X4_isState rfl rfl rfl (by decide +kernel) ⟨(by show _ ≤ _; first | exact Nat.le_of_ble_eq_true rfl | (simp [headSpec, rm_X5_isActive]; omega) | omega), (by show _ ≤ _; first | exact Nat.le_of_ble_eq_true rfl | (simp [headSpec, rm_X5_isActive]; omega) | omega)⟩) dC_5 rfl rfl hl.1 rfl (Nat.le_of_ble_eq_true rfl) dX5_isActive_13 (fun H locs hP hS => ?_)
    refine lv_if_ne (tgt := 21) hx hb dX5_isActive_16 (by decide) (fun c_11 => ?_) (fun c_11 => ?_)
    · have hF := if_e c_11 hF
      refine lv_aload_n hx hb dX5_isActive_21 rfl (lv_at hl 0 rfl) ?_
      refine lv_iload_n hx hb dX5_isActive_22 rfl (lv_at hl 1 rfl) ?_
      obtain ⟨M_7, hc_6, hF⟩ := bd_c hF
      refine wd_callv X hP hS [.int x1] [] (c_X5_setWalk l D cA ad X.2.2.2.2   x1 M hc_6) (cwV 1 hts gX5_isActive_X5_setWalk rfl rfl rfl (by decide +kernel) ⟨(by show _ ≤ _; first | exact Nat.le_of_ble_eq_true rfl | (simp [headSpec, rm_X5_isActive]; omega) | omega), (by show _ ≤ _; first | exact Nat.le_of_ble_eq_true rfl | (simp [headSpec, rm_X5_isActive]; omega) | omega)⟩) dC_30 rfl rfl hl.1 rfl (Nat.le_of_ble_eq_true rfl) dX5_isActive_23 (fun H locs hP hS => ?_)
      refine lv_aload_n hx hb dX5_isActive_26 rfl (lv_at hl 0 rfl) ?_
      refine wd_getr (q := 34) X hP 30 dC_30 rfl in_X5_isActive_X5 3 rfl (by decide) (by decide +kernel) dX5_isActive_27 ?_
      refine lv_iload_n hx hb dX5_isActive_30 rfl (lv_at hl 2 rfl) ?_
      obtain ⟨r_8, hc_9, hF⟩ := bd_c hF
      refine wd_calli X hP hS [.int x2] [] (c_X6_isActive l D cA ad X.2.2.2.2   x2 M_7 hc_9) (cwV 1 hts gX5_isActive_X6_isActive rfl rfl rfl (by decide +kernel) ⟨(by show _ ≤ _; first | exact Nat.le_of_ble_eq_true rfl | (simp [headSpec, rm_X5_isActive]; omega) | omega), (by show _ ≤ _; first | exact Nat.le_of_ble_eq_true rfl | (simp [headSpec, rm_X5_isActive]; omega) | omega)⟩) dC_34 rfl rfl hl.1 rfl (Nat.le_of_ble_eq_true rfl) dX5_isActive_31 (fun H locs hP hS => ?_)
      obtain ⟨h_10, hF⟩ := gz_c hF
      cases hF
      exact wd_reti X hP hS rfl h_10 dX5_isActive_34
    · have hF := if_t c_11 hF
      refine lv_iconst (v := (0 : Int32)) hx hb dX5_isActive_19 (by decide) ?_
      cases hF
      exact wd_reti X hP hS rfl (by decide) dX5_isActive_20
/-! X5_step (I)I -/
theorem in_X5_step_X5 : ∀ w ∈ u_ws RX5 TX5 9, w ∈ wsX5_step := by decide +kernel
set_option maxHeartbeats 4000000 in
set_option maxRecDepth 100000 in
theorem wb_X5_step_42 {p : Program} {l : Launch} {e : Env} {s : State} {m : MethodId} {args : Array Value} {below : List Frame} {meth : Method} {c : Code} {D : va_G} {cA : Nat → ClassId} {ad : Nat → Nat} (X : wd_X p s m args meth c cX5_step 3 wsX5_step RX5 (some .int) D cA ad dsC.length) {r : Int32} {M' : Mem}   (M : Mem) (H : Heap) (locs : List Loc) (ls : Array Slot) (hF : B_X5_step_42  M = some (r, M')) (hP : wd_P D cA ad dsC M H) (hS : va_S (wd_A ad dsC.length) s.heap H locs) (hl : lv_has ls 3 [(0, .ref (ad 30))]) : W p l e (headSpec wsX5_step rm_X5_step).room s m args below meth c H locs 0 0 (MQ below (wm_Qi D cA ad dsC r M') args s 0 0 (wd_A ad dsC.length)) (F0 m 42 ls []) := by
  have hx := X.1.1
  have hb := X.1.2.1
  have hts := X.1.2.2.2.2
  unfold B_X5_step_42 at hF
  refine lv_aload_n hx hb dX5_step_42 rfl (lv_at hl 0 rfl) ?_
  refine wd_geti X hP 30 dC_30 rfl in_X5_step_X5 7 rfl (by decide) (by decide +kernel) dX5_step_43 ?_
  cases hF
  exact wd_reti X hP hS rfl rfl dX5_step_46
set_option maxHeartbeats 4000000 in
set_option maxRecDepth 100000 in
theorem c_X5_step (l : Launch) (D : va_G) (cA : Nat → ClassId) (ad : Nat → Nat) (hj : wd_inj ad dsC.length)   (x1 : Int32) (M : Mem) {r : Int32} {M' : Mem} (hF : F_X5_step x1 M = some (r, M')) : wm_i l yX5_step wsX5_step rm_X5_step D cA ad dsC M [.ref (ad 30), .int x1] r M' := by
  refine Met.ofW (cc := cX5_step) (maxL := 3) (ret := (some .int)) (by decide) rfl ?_
  intro p e s m args below meth c s₁ B hml hv
  obtain ⟨rfl, hP, hK⟩ := hv
  have X : wd_X p s m _ meth c cX5_step 3 wsX5_step RX5 (some .int) D cA ad dsC.length := ⟨⟨B.exec, B.bytes, hml, findClass_of_methodNamed B.named, atoms_spec (ws := wsX5_step) B.pre⟩, hK, B.notSynchronized, B.returns, hj⟩
  have hl := lv_entry ([.ref (ad 30), .int x1]) (n := 3) (Nat.le_of_ble_eq_true rfl)
  rw [lg_entry_eq]
  generalize (lg_sl ([.ref (ad 30), .int x1]) ++ List.replicate (3 - (lg_sl ([.ref (ad 30), .int x1])).length) Slot.unset).toArray = ls at hl ⊢
  have hl : lv_has ls 3 [(0, .ref (ad 30)), (1, .int x1)] := hl
  have hS : va_S (wd_A ad dsC.length) s.heap s.heap [] := va_S.rf
  have hx := X.1.1
  have hb := X.1.2.1
  have hts := X.1.2.2.2.2
  unfold F_X5_step at hF
  refine lv_aload_n hx hb dX5_step_0 rfl (lv_at hl 0 rfl) ?_
  refine lv_aload_n hx hb dX5_step_1 rfl (lv_at hl 0 rfl) ?_
  refine wd_geti X hP 30 dC_30 rfl in_X5_step_X5 7 rfl (by decide) (by decide +kernel) dX5_step_2 ?_
  refine lv_iload_n hx hb dX5_step_5 rfl (lv_at hl 1 rfl) ?_
  obtain ⟨r_1, hc_2, hF⟩ := bd_c hF
  refine wd_calli X hP hS [.int (M 30 7), .int x1] [] (c_X5_cellOf l D cA ad X.2.2.2.2   (M 30 7) x1 M hc_2) (cwV 2 hts gX5_step_X5_cellOf rfl rfl rfl (by decide +kernel) ⟨(by show _ ≤ _; first | exact Nat.le_of_ble_eq_true rfl | (simp [headSpec, rm_X5_step]; omega) | omega), (by show _ ≤ _; first | exact Nat.le_of_ble_eq_true rfl | (simp [headSpec, rm_X5_step]; omega) | omega)⟩) dC_30 rfl rfl hl.1 rfl (Nat.le_of_ble_eq_true rfl) dX5_step_6 (fun H locs hP hS => ?_)
  refine lv_istore_n (lv' := [(2, .int r_1), (0, .ref (ad 30)), (1, .int x1)]) hx hb dX5_step_9 rfl hl (by decide) rfl (fun ls hl => ?_)
  refine lv_iload_n hx hb dX5_step_10 rfl (lv_at hl 0 rfl) ?_
  refine lv_iconst (v := (-1 : Int32)) hx hb dX5_step_11 (by decide) ?_
  refine lv_icmp_eq (tgt := 42) hx hb dX5_step_12 (by decide) (fun c_10 => ?_) (fun c_10 => ?_)
  · have hF := if_t c_10 hF
    exact wb_X5_step_42 X    M _ _ _ hF hP hS (lv_sub hl [1] rfl)
  · have hF := if_e c_10 hF
    refine lv_aload_n hx hb dX5_step_15 rfl (lv_at hl 1 rfl) ?_
    refine lv_aload_n hx hb dX5_step_16 rfl (lv_at hl 1 rfl) ?_
    refine wd_getr (q := 37) X hP 30 dC_30 rfl in_X5_step_X5 5 rfl (by decide) (by decide +kernel) dX5_step_17 ?_
    refine lv_iload_n hx hb dX5_step_20 rfl (lv_at hl 0 rfl) ?_
    obtain ⟨h_3, hF⟩ := gi_c hF
    refine wd_ild X hP 37 dC_37 h_3 dX5_step_21 ?_
    obtain ⟨M_4, e_5, hF⟩ := wr_c hF
    refine wd_puti X hP hS 30 dC_30 rfl in_X5_step_X5 tyX5_ok nmX5 7 rfl (by decide) rfl rfl (by decide +kernel) dX5_step_22 (fun H locs hP hS => ?_)
    rw [← e_5] at hP
    refine lv_aload_n hx hb dX5_step_25 rfl (lv_at hl 1 rfl) ?_
    refine lv_dup hx hb dX5_step_26 rfl ?_
    refine wd_geti X hP 30 dC_30 rfl in_X5_step_X5 8 rfl (by decide) (by decide +kernel) dX5_step_27 ?_
    refine lv_aload_n hx hb dX5_step_30 rfl (lv_at hl 1 rfl) ?_
    refine wd_getr (q := 31) X hP 30 dC_30 rfl in_X5_step_X5 2 rfl (by decide) (by decide +kernel) dX5_step_31 ?_
    refine lv_iload_n hx hb dX5_step_34 rfl (lv_at hl 0 rfl) ?_
    obtain ⟨r_6, hc_7, hF⟩ := bd_c hF
    refine wd_calli X hP hS [.int r_1] [.int (M_4 30 8), .ref (ad 30)] (c_X1_sizeOf l D cA ad X.2.2.2.2 31 mr_31 r_1 M_4 hc_7) (cwV 1 hts gX5_step_X1_sizeOf rfl rfl rfl (by decide +kernel) ⟨(by show _ ≤ _; first | exact Nat.le_of_ble_eq_true rfl | (simp [headSpec, rm_X5_step]; omega) | omega), (by show _ ≤ _; first | exact Nat.le_of_ble_eq_true rfl | (simp [headSpec, rm_X5_step]; omega) | omega)⟩) dC_31 rfl rfl hl.1 rfl (Nat.le_of_ble_eq_true rfl) dX5_step_35 (fun H locs hP hS => ?_)
    refine lv_iadd hx hb dX5_step_38 ?_
    obtain ⟨M_8, e_9, hF⟩ := wr_c hF
    refine wd_puti X hP hS 30 dC_30 rfl in_X5_step_X5 tyX5_ok nmX5 8 rfl (by decide) rfl rfl (by decide +kernel) dX5_step_39 (fun H locs hP hS => ?_)
    rw [← e_9] at hP
    exact wb_X5_step_42 X    M_8 _ _ _ hF hP hS (lv_sub hl [1] rfl)
