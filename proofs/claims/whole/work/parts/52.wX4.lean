/-! X4_find (I)I -/
theorem in_X4_find_X4 : ∀ w ∈ u_ws RX4 TX4 9, w ∈ wsX4_find := by decide +kernel
set_option maxHeartbeats 4000000 in
set_option maxRecDepth 100000 in
theorem wb_X4_find_2 {p : Program} {l : Launch} {e : Env} {s : State} {m : MethodId} {args : Array Value} {below : List Frame} {meth : Method} {c : Code} {D : va_G} {cA : Nat → ClassId} {ad : Nat → Nat} (X : wd_X p s m args meth c cX4_find 3 wsX4_find RX4 (some .int) D cA ad dsC.length) {kh2 : Int32 → Int32 → Option Int32} {M : Mem} {r : Int32} (hk2 : ∀ (x1 : Int32) (x2 : Int32) (H : Heap) (locs : List Loc) (ls : Array Slot), kh2 x1 x2 = some r → wd_P D cA ad dsC M H → va_S (wd_A ad dsC.length) s.heap H locs → lv_has ls 3 [(0, .ref (ad 5)), (1, .int x1), (2, .int x2)] → W p l e (headSpec wsX4_find rm_X4_find).room s m args below meth c H locs 0 0 (MQ below (wm_Qi D cA ad dsC r M) args s 0 0 (wd_A ad dsC.length)) (F0 m 2 ls [])) (x1 : Int32) (x2 : Int32) (H : Heap) (locs : List Loc) (ls : Array Slot) (hF : B_X4_find_2 kh2 M x1 x2 = some r) (hP : wd_P D cA ad dsC M H) (hS : va_S (wd_A ad dsC.length) s.heap H locs) (hl : lv_has ls 3 [(0, .ref (ad 5)), (1, .int x1), (2, .int x2)]) : W p l e (headSpec wsX4_find rm_X4_find).room s m args below meth c H locs 0 0 (MQ below (wm_Qi D cA ad dsC r M) args s 0 0 (wd_A ad dsC.length)) (F0 m 2 ls []) := by
  have hx := X.1.1
  have hb := X.1.2.1
  have hts := X.1.2.2.2.2
  unfold B_X4_find_2 at hF
  refine lv_iload_n hx hb dX4_find_2 rfl (lv_at hl 2 rfl) ?_
  refine lv_aload_n hx hb dX4_find_3 rfl (lv_at hl 0 rfl) ?_
  refine wd_geti X hP 5 dC_5 rfl in_X4_find_X4 8 rfl (by decide) (by decide +kernel) dX4_find_4 ?_
  refine lv_icmp_ge (tgt := 28) hx hb dX4_find_7 (by decide) (fun c_5 => ?_) (fun c_5 => ?_)
  · have hF := if_t c_5 hF
    refine lv_iconst (v := (-1 : Int32)) hx hb dX4_find_28 (by decide) ?_
    cases hF
    exact wd_reti X hP hS rfl rfl dX4_find_29
  · have hF := if_e c_5 hF
    refine lv_aload_n hx hb dX4_find_10 rfl (lv_at hl 0 rfl) ?_
    refine wd_getr (q := 6) X hP 5 dC_5 rfl in_X4_find_X4 0 rfl (by decide) (by decide +kernel) dX4_find_11 ?_
    refine lv_iload_n hx hb dX4_find_14 rfl (lv_at hl 2 rfl) ?_
    obtain ⟨h_1, hF⟩ := gi_c hF
    refine wd_ild X hP 6 dC_6 h_1 dX4_find_15 ?_
    refine lv_iload_n hx hb dX4_find_16 rfl (lv_at hl 1 rfl) ?_
    refine lv_icmp_ne (tgt := 22) hx hb dX4_find_17 (by decide) (fun c_4 => ?_) (fun c_4 => ?_)
    · have hF := if_e c_4 hF
      obtain ⟨x2_2, e_3, hF⟩ := nm_c hF
      refine lv_iinc (v := x2_2) (lv' := [(2, .int x2_2), (0, .ref (ad 5)), (1, .int x1)]) hx hb dX4_find_22 hl (k := 2) rfl (by rw [e_3]; rfl) (by decide) rfl (fun ls hl => ?_)
      refine lv_goto (tgt := 2) hx hb dX4_find_25 (by decide) ?_
      exact hk2 x1 x2_2 _ _ _ hF hP hS (lv_sub hl [1, 2, 0] rfl)
    · have hF := if_t c_4 hF
      refine lv_iload_n hx hb dX4_find_20 rfl (lv_at hl 2 rfl) ?_
      cases hF
      exact wd_reti X hP hS rfl rfl dX4_find_21
set_option maxHeartbeats 4000000 in
set_option maxRecDepth 100000 in
theorem wh_X4_find_2 {p : Program} {l : Launch} {e : Env} {s : State} {m : MethodId} {args : Array Value} {below : List Frame} {meth : Method} {c : Code} {D : va_G} {cA : Nat → ClassId} {ad : Nat → Nat} (X : wd_X p s m args meth c cX4_find 3 wsX4_find RX4 (some .int) D cA ad dsC.length) {M : Mem} {r : Int32}  : ∀ (n : Nat) (x1 : Int32) (x2 : Int32) (H : Heap) (locs : List Loc) (ls : Array Slot), H_X4_find_2 M n x1 x2 = some r → wd_P D cA ad dsC M H → va_S (wd_A ad dsC.length) s.heap H locs → lv_has ls 3 [(0, .ref (ad 5)), (1, .int x1), (2, .int x2)] → W p l e (headSpec wsX4_find rm_X4_find).room s m args below meth c H locs 0 0 (MQ below (wm_Qi D cA ad dsC r M) args s 0 0 (wd_A ad dsC.length)) (F0 m 2 ls []) := by
  intro n
  induction n with
  | zero => intro x1 x2 H locs ls hF; cases hF
  | succ n ih => intro x1 x2 H locs ls hF hP hS hl; exact wb_X4_find_2 X (kh2 := H_X4_find_2 M n) ih x1 x2 H locs ls hF hP hS hl
set_option maxHeartbeats 4000000 in
set_option maxRecDepth 100000 in
theorem c_X4_find (l : Launch) (D : va_G) (cA : Nat → ClassId) (ad : Nat → Nat) (hj : wd_inj ad dsC.length)   (x1 : Int32) (M : Mem) {r : Int32} (hF : F_X4_find x1 M = some r) : wm_i l yX4_find wsX4_find rm_X4_find D cA ad dsC M [.ref (ad 5), .int x1] r M := by
  refine Met.ofW (cc := cX4_find) (maxL := 3) (ret := (some .int)) (by decide) rfl ?_
  intro p e s m args below meth c s₁ B hml hv
  obtain ⟨rfl, hP, hK⟩ := hv
  have X : wd_X p s m _ meth c cX4_find 3 wsX4_find RX4 (some .int) D cA ad dsC.length := ⟨⟨B.exec, B.bytes, hml, findClass_of_methodNamed B.named, atoms_spec (ws := wsX4_find) B.pre⟩, hK, B.notSynchronized, B.returns, hj⟩
  have hl := lv_entry ([.ref (ad 5), .int x1]) (n := 3) (Nat.le_of_ble_eq_true rfl)
  rw [lg_entry_eq]
  generalize (lg_sl ([.ref (ad 5), .int x1]) ++ List.replicate (3 - (lg_sl ([.ref (ad 5), .int x1])).length) Slot.unset).toArray = ls at hl ⊢
  have hl : lv_has ls 3 [(0, .ref (ad 5)), (1, .int x1)] := hl
  have hS : va_S (wd_A ad dsC.length) s.heap s.heap [] := va_S.rf
  have hx := X.1.1
  have hb := X.1.2.1
  have hts := X.1.2.2.2.2
  unfold F_X4_find at hF
  refine lv_iconst (v := (0 : Int32)) hx hb dX4_find_0 (by decide) ?_
  refine lv_istore_n (lv' := [(2, .int (0 : Int32)), (0, .ref (ad 5)), (1, .int x1)]) hx hb dX4_find_1 rfl hl (by decide) rfl (fun ls hl => ?_)
  exact wh_X4_find_2 X    100 x1 (0 : Int32) _ _ _ hF hP hS (lv_sub hl [1, 2, 0] rfl)
/-! X4_isState (I)Z -/
theorem in_X4_isState_X4 : ∀ w ∈ u_ws RX4 TX4 9, w ∈ wsX4_isState := by decide +kernel
set_option maxHeartbeats 4000000 in
set_option maxRecDepth 100000 in
theorem c_X4_isState (l : Launch) (D : va_G) (cA : Nat → ClassId) (ad : Nat → Nat) (hj : wd_inj ad dsC.length)   (x1 : Int32) (M : Mem) {r : Int32} (hF : F_X4_isState x1 M = some r) : wm_i l yX4_isState wsX4_isState rm_X4_isState D cA ad dsC M [.ref (ad 5), .int x1] r M := by
  refine Met.ofW (cc := cX4_isState) (maxL := 2) (ret := (some .boolean)) (by decide) rfl ?_
  intro p e s m args below meth c s₁ B hml hv
  obtain ⟨rfl, hP, hK⟩ := hv
  have X : wd_X p s m _ meth c cX4_isState 2 wsX4_isState RX4 (some .boolean) D cA ad dsC.length := ⟨⟨B.exec, B.bytes, hml, findClass_of_methodNamed B.named, atoms_spec (ws := wsX4_isState) B.pre⟩, hK, B.notSynchronized, B.returns, hj⟩
  have hl := lv_entry ([.ref (ad 5), .int x1]) (n := 2) (Nat.le_of_ble_eq_true rfl)
  rw [lg_entry_eq]
  generalize (lg_sl ([.ref (ad 5), .int x1]) ++ List.replicate (2 - (lg_sl ([.ref (ad 5), .int x1])).length) Slot.unset).toArray = ls at hl ⊢
  have hl : lv_has ls 2 [(0, .ref (ad 5)), (1, .int x1)] := hl
  have hS : va_S (wd_A ad dsC.length) s.heap s.heap [] := va_S.rf
  have hx := X.1.1
  have hb := X.1.2.1
  have hts := X.1.2.2.2.2
  unfold F_X4_isState at hF
  refine lv_iload_n hx hb dX4_isState_0 rfl (lv_at hl 1 rfl) ?_
  refine lv_if_lt (tgt := 16) hx hb dX4_isState_1 (by decide) (fun c_2 => ?_) (fun c_2 => ?_)
  · have hF := if_t c_2 hF
    refine lv_iconst (v := (0 : Int32)) hx hb dX4_isState_16 (by decide) ?_
    cases hF
    exact wd_reti X hP hS rfl (by decide) dX4_isState_17
  · have hF := if_e c_2 hF
    refine lv_iload_n hx hb dX4_isState_4 rfl (lv_at hl 1 rfl) ?_
    refine lv_aload_n hx hb dX4_isState_5 rfl (lv_at hl 0 rfl) ?_
    refine wd_geti X hP 5 dC_5 rfl in_X4_isState_X4 8 rfl (by decide) (by decide +kernel) dX4_isState_6 ?_
    refine lv_icmp_ge (tgt := 16) hx hb dX4_isState_9 (by decide) (fun c_1 => ?_) (fun c_1 => ?_)
    · have hF := if_t c_1 hF
      refine lv_iconst (v := (0 : Int32)) hx hb dX4_isState_16 (by decide) ?_
      cases hF
      exact wd_reti X hP hS rfl (by decide) dX4_isState_17
    · have hF := if_e c_1 hF
      refine lv_iconst (v := (1 : Int32)) hx hb dX4_isState_12 (by decide) ?_
      refine lv_goto (tgt := 17) hx hb dX4_isState_13 (by decide) ?_
      cases hF
      exact wd_reti X hP hS rfl (by decide) dX4_isState_17
/-! X4_depthOf (I)I -/
theorem in_X4_depthOf_X4 : ∀ w ∈ u_ws RX4 TX4 9, w ∈ wsX4_depthOf := by decide +kernel
set_option maxHeartbeats 4000000 in
set_option maxRecDepth 100000 in
theorem c_X4_depthOf (l : Launch) (D : va_G) (cA : Nat → ClassId) (ad : Nat → Nat) (hj : wd_inj ad dsC.length)   (x1 : Int32) (M : Mem) {r : Int32} (hF : F_X4_depthOf x1 M = some r) : wm_i l yX4_depthOf wsX4_depthOf rm_X4_depthOf D cA ad dsC M [.ref (ad 5), .int x1] r M := by
  refine Met.ofW (cc := cX4_depthOf) (maxL := 2) (ret := (some .int)) (by decide) rfl ?_
  intro p e s m args below meth c s₁ B hml hv
  obtain ⟨rfl, hP, hK⟩ := hv
  have X : wd_X p s m _ meth c cX4_depthOf 2 wsX4_depthOf RX4 (some .int) D cA ad dsC.length := ⟨⟨B.exec, B.bytes, hml, findClass_of_methodNamed B.named, atoms_spec (ws := wsX4_depthOf) B.pre⟩, hK, B.notSynchronized, B.returns, hj⟩
  have hl := lv_entry ([.ref (ad 5), .int x1]) (n := 2) (Nat.le_of_ble_eq_true rfl)
  rw [lg_entry_eq]
  generalize (lg_sl ([.ref (ad 5), .int x1]) ++ List.replicate (2 - (lg_sl ([.ref (ad 5), .int x1])).length) Slot.unset).toArray = ls at hl ⊢
  have hl : lv_has ls 2 [(0, .ref (ad 5)), (1, .int x1)] := hl
  have hS : va_S (wd_A ad dsC.length) s.heap s.heap [] := va_S.rf
  have hx := X.1.1
  have hb := X.1.2.1
  have hts := X.1.2.2.2.2
  unfold F_X4_depthOf at hF
  refine lv_aload_n hx hb dX4_depthOf_0 rfl (lv_at hl 0 rfl) ?_
  refine lv_iload_n hx hb dX4_depthOf_1 rfl (lv_at hl 1 rfl) ?_
  obtain ⟨r_1, hc_2, hF⟩ := bd_c hF
  refine wd_calli X hP hS [.int x1] [] (c_X4_isState l D cA ad X.2.2.2.2   x1 M hc_2) (cwV 1 hts gX4_depthOf_X4_isState rfl rfl rfl (by decide +kernel) ⟨(by show _ ≤ _; first | exact Nat.le_of_ble_eq_true rfl | (simp [headSpec, rm_X4_depthOf]; omega) | omega), (by show _ ≤ _; first | exact Nat.le_of_ble_eq_true rfl | (simp [headSpec, rm_X4_depthOf]; omega) | omega)⟩) dC_5 rfl rfl hl.1 rfl (Nat.le_of_ble_eq_true rfl) dX4_depthOf_2 (fun H locs hP hS => ?_)
  refine lv_if_eq (tgt := 17) hx hb dX4_depthOf_5 (by decide) (fun c_4 => ?_) (fun c_4 => ?_)
  · have hF := if_t c_4 hF
    refine lv_iconst (v := (0 : Int32)) hx hb dX4_depthOf_17 (by decide) ?_
    cases hF
    exact wd_reti X hP hS rfl rfl dX4_depthOf_18
  · have hF := if_e c_4 hF
    refine lv_aload_n hx hb dX4_depthOf_8 rfl (lv_at hl 0 rfl) ?_
    refine wd_getr (q := 8) X hP 5 dC_5 rfl in_X4_depthOf_X4 2 rfl (by decide) (by decide +kernel) dX4_depthOf_9 ?_
    refine lv_iload_n hx hb dX4_depthOf_12 rfl (lv_at hl 1 rfl) ?_
    obtain ⟨h_3, hF⟩ := gi_c hF
    refine wd_ild X hP 8 dC_8 h_3 dX4_depthOf_13 ?_
    refine lv_goto (tgt := 18) hx hb dX4_depthOf_14 (by decide) ?_
    cases hF
    exact wd_reti X hP hS rfl rfl dX4_depthOf_18
/-! X4_isFull ()Z -/
theorem in_X4_isFull_X4 : ∀ w ∈ u_ws RX4 TX4 9, w ∈ wsX4_isFull := by decide +kernel
set_option maxHeartbeats 4000000 in
set_option maxRecDepth 100000 in
theorem c_X4_isFull (l : Launch) (D : va_G) (cA : Nat → ClassId) (ad : Nat → Nat) (hj : wd_inj ad dsC.length)    (M : Mem) {r : Int32} (hF : F_X4_isFull M = some r) : wm_i l yX4_isFull wsX4_isFull rm_X4_isFull D cA ad dsC M [.ref (ad 5)] r M := by
  refine Met.ofW (cc := cX4_isFull) (maxL := 1) (ret := (some .boolean)) (by decide) rfl ?_
  intro p e s m args below meth c s₁ B hml hv
  obtain ⟨rfl, hP, hK⟩ := hv
  have X : wd_X p s m _ meth c cX4_isFull 1 wsX4_isFull RX4 (some .boolean) D cA ad dsC.length := ⟨⟨B.exec, B.bytes, hml, findClass_of_methodNamed B.named, atoms_spec (ws := wsX4_isFull) B.pre⟩, hK, B.notSynchronized, B.returns, hj⟩
  have hl := lv_entry ([.ref (ad 5)]) (n := 1) (Nat.le_of_ble_eq_true rfl)
  rw [lg_entry_eq]
  generalize (lg_sl ([.ref (ad 5)]) ++ List.replicate (1 - (lg_sl ([.ref (ad 5)])).length) Slot.unset).toArray = ls at hl ⊢
  have hl : lv_has ls 1 [(0, .ref (ad 5))] := hl
  have hS : va_S (wd_A ad dsC.length) s.heap s.heap [] := va_S.rf
  have hx := X.1.1
  have hb := X.1.2.1
  have hts := X.1.2.2.2.2
  unfold F_X4_isFull at hF
  refine lv_aload_n hx hb dX4_isFull_0 rfl (lv_at hl 0 rfl) ?_
  refine wd_geti X hP 5 dC_5 rfl in_X4_isFull_X4 8 rfl (by decide) (by decide +kernel) dX4_isFull_1 ?_
  refine lv_bipush (v := (14 : Int32)) hx hb dX4_isFull_4 (by decide) ?_
  refine lv_icmp_lt (tgt := 13) hx hb dX4_isFull_6 (by decide) (fun c_1 => ?_) (fun c_1 => ?_)
  · have hF := if_t c_1 hF
    refine lv_iconst (v := (0 : Int32)) hx hb dX4_isFull_13 (by decide) ?_
    cases hF
    exact wd_reti X hP hS rfl (by decide) dX4_isFull_14
  · have hF := if_e c_1 hF
    refine lv_iconst (v := (1 : Int32)) hx hb dX4_isFull_9 (by decide) ?_
    refine lv_goto (tgt := 14) hx hb dX4_isFull_10 (by decide) ?_
    cases hF
    exact wd_reti X hP hS rfl (by decide) dX4_isFull_14
/-! X4_make (IIZZ)V -/
theorem in_X4_make_X4 : ∀ w ∈ u_ws RX4 TX4 9, w ∈ wsX4_make := by decide +kernel
set_option maxHeartbeats 4000000 in
set_option maxRecDepth 100000 in
theorem wb_X4_make_104 {p : Program} {l : Launch} {e : Env} {s : State} {m : MethodId} {args : Array Value} {below : List Frame} {meth : Method} {c : Code} {D : va_G} {cA : Nat → ClassId} {ad : Nat → Nat} (X : wd_X p s m args meth c cX4_make 5 wsX4_make RX4 none D cA ad dsC.length) {M' : Mem}   (M : Mem) (H : Heap) (locs : List Loc) (ls : Array Slot) (hF : B_X4_make_104  M = some M') (hP : wd_P D cA ad dsC M H) (hS : va_S (wd_A ad dsC.length) s.heap H locs) (hl : lv_has ls 5 [(0, .ref (ad 5))]) : W p l e (headSpec wsX4_make rm_X4_make).room s m args below meth c H locs 0 0 (MQ below (wm_Qv D cA ad dsC M') args s 0 0 (wd_A ad dsC.length)) (F0 m 104 ls []) := by
  have hx := X.1.1
  have hb := X.1.2.1
  have hts := X.1.2.2.2.2
  unfold B_X4_make_104 at hF
  refine lv_aload_n hx hb dX4_make_104 rfl (lv_at hl 0 rfl) ?_
  refine lv_dup hx hb dX4_make_105 rfl ?_
  refine wd_geti X hP 5 dC_5 rfl in_X4_make_X4 8 rfl (by decide) (by decide +kernel) dX4_make_106 ?_
  refine lv_iconst (v := (1 : Int32)) hx hb dX4_make_109 (by decide) ?_
  refine lv_iadd hx hb dX4_make_110 ?_
  obtain ⟨M_1, e_2, hF⟩ := wr_c hF
  refine wd_puti X hP hS 5 dC_5 rfl in_X4_make_X4 tyX4_ok nmX4 8 rfl (by decide) rfl rfl (by decide +kernel) dX4_make_111 (fun H locs hP hS => ?_)
  rw [← e_2] at hP
  cases hF
  exact wd_retv X hP hS dX4_make_114
set_option maxHeartbeats 4000000 in
set_option maxRecDepth 100000 in
theorem c_X4_make (l : Launch) (D : va_G) (cA : Nat → ClassId) (ad : Nat → Nat) (hj : wd_inj ad dsC.length)   (x1 : Int32) (x2 : Int32) (x3 : Int32) (x4 : Int32) (M : Mem) {M' : Mem} (hF : F_X4_make x1 x2 x3 x4 M = some M') : wm_v l yX4_make wsX4_make rm_X4_make D cA ad dsC M [.ref (ad 5), .int x1, .int x2, .int x3, .int x4] M' := by
  refine Met.ofW (cc := cX4_make) (maxL := 5) (ret := none) (by decide) rfl ?_
  intro p e s m args below meth c s₁ B hml hv
  obtain ⟨rfl, hP, hK⟩ := hv
  have X : wd_X p s m _ meth c cX4_make 5 wsX4_make RX4 none D cA ad dsC.length := ⟨⟨B.exec, B.bytes, hml, findClass_of_methodNamed B.named, atoms_spec (ws := wsX4_make) B.pre⟩, hK, B.notSynchronized, B.returns, hj⟩
  have hl := lv_entry ([.ref (ad 5), .int x1, .int x2, .int x3, .int x4]) (n := 5) (Nat.le_of_ble_eq_true rfl)
  rw [lg_entry_eq]
  generalize (lg_sl ([.ref (ad 5), .int x1, .int x2, .int x3, .int x4]) ++ List.replicate (5 - (lg_sl ([.ref (ad 5), .int x1, .int x2, .int x3, .int x4])).length) Slot.unset).toArray = ls at hl ⊢
  have hl : lv_has ls 5 [(0, .ref (ad 5)), (1, .int x1), (2, .int x2), (3, .int x3), (4, .int x4)] := hl
  have hS : va_S (wd_A ad dsC.length) s.heap s.heap [] := va_S.rf
  have hx := X.1.1
  have hb := X.1.2.1
  have hts := X.1.2.2.2.2
  unfold F_X4_make at hF
  refine lv_aload_n hx hb dX4_make_0 rfl (lv_at hl 0 rfl) ?_
  obtain ⟨r_1, hc_2, hF⟩ := bd_c hF
  refine wd_calli X hP hS [] [] (c_X4_isFull l D cA ad X.2.2.2.2    M hc_2) (cwV 0 hts gX4_make_X4_isFull rfl rfl rfl (by decide +kernel) ⟨(by show _ ≤ _; first | exact Nat.le_of_ble_eq_true rfl | (simp [headSpec, rm_X4_make]; omega) | omega), (by show _ ≤ _; first | exact Nat.le_of_ble_eq_true rfl | (simp [headSpec, rm_X4_make]; omega) | omega)⟩) dC_5 rfl rfl hl.1 rfl (Nat.le_of_ble_eq_true rfl) dX4_make_1 (fun H locs hP hS => ?_)
  refine lv_if_ne (tgt := 15) hx hb dX4_make_4 (by decide) (fun c_30 => ?_) (fun c_30 => ?_)
  · have hF := if_e c_30 hF
    cases hF
    exact wd_retv X hP hS dX4_make_15
  · have hF := if_t c_30 hF
    refine lv_aload_n hx hb dX4_make_7 rfl (lv_at hl 0 rfl) ?_
    refine lv_iload_n hx hb dX4_make_8 rfl (lv_at hl 2 rfl) ?_
    obtain ⟨r_3, hc_4, hF⟩ := bd_c hF
    refine wd_calli X hP hS [.int x2] [] (c_X4_isState l D cA ad X.2.2.2.2   x2 M hc_4) (cwV 1 hts gX4_make_X4_isState rfl rfl rfl (by decide +kernel) ⟨(by show _ ≤ _; first | exact Nat.le_of_ble_eq_true rfl | (simp [headSpec, rm_X4_make]; omega) | omega), (by show _ ≤ _; first | exact Nat.le_of_ble_eq_true rfl | (simp [headSpec, rm_X4_make]; omega) | omega)⟩) dC_5 rfl rfl hl.1 rfl (Nat.le_of_ble_eq_true rfl) dX4_make_9 (fun H locs hP hS => ?_)
    refine lv_if_ne (tgt := 16) hx hb dX4_make_12 (by decide) (fun c_29 => ?_) (fun c_29 => ?_)
    · have hF := if_e c_29 hF
      refine lv_aload_n hx hb dX4_make_16 rfl (lv_at hl 0 rfl) ?_
      refine wd_getr (q := 6) X hP 5 dC_5 rfl in_X4_make_X4 0 rfl (by decide) (by decide +kernel) dX4_make_17 ?_
      refine lv_aload_n hx hb dX4_make_20 rfl (lv_at hl 0 rfl) ?_
      refine wd_geti X hP 5 dC_5 rfl in_X4_make_X4 8 rfl (by decide) (by decide +kernel) dX4_make_21 ?_
      refine lv_iload_n hx hb dX4_make_24 rfl (lv_at hl 1 rfl) ?_
      obtain ⟨h_5, hF⟩ := gi_c hF
      obtain ⟨M_6, e_7, hF⟩ := wr_c hF
      refine wd_ist X hP hS 6 dC_6 h_5 dX4_make_25 (fun H locs hP hS => ?_)
      rw [← e_7] at hP
      refine lv_aload_n hx hb dX4_make_26 rfl (lv_at hl 0 rfl) ?_
      refine wd_getr (q := 7) X hP 5 dC_5 rfl in_X4_make_X4 1 rfl (by decide) (by decide +kernel) dX4_make_27 ?_
      refine lv_aload_n hx hb dX4_make_30 rfl (lv_at hl 0 rfl) ?_
      refine wd_geti X hP 5 dC_5 rfl in_X4_make_X4 8 rfl (by decide) (by decide +kernel) dX4_make_31 ?_
      refine lv_iload_n hx hb dX4_make_34 rfl (lv_at hl 2 rfl) ?_
      obtain ⟨h_8, hF⟩ := gi_c hF
      obtain ⟨M_9, e_10, hF⟩ := wr_c hF
      refine wd_ist X hP hS 7 dC_7 h_8 dX4_make_35 (fun H locs hP hS => ?_)
      rw [← e_10] at hP
      refine lv_aload_n hx hb dX4_make_36 rfl (lv_at hl 0 rfl) ?_
      refine wd_getr (q := 8) X hP 5 dC_5 rfl in_X4_make_X4 2 rfl (by decide) (by decide +kernel) dX4_make_37 ?_
      refine lv_aload_n hx hb dX4_make_40 rfl (lv_at hl 0 rfl) ?_
      refine wd_geti X hP 5 dC_5 rfl in_X4_make_X4 8 rfl (by decide) (by decide +kernel) dX4_make_41 ?_
      refine lv_aload_n hx hb dX4_make_44 rfl (lv_at hl 0 rfl) ?_
      refine wd_getr (q := 8) X hP 5 dC_5 rfl in_X4_make_X4 2 rfl (by decide) (by decide +kernel) dX4_make_45 ?_
      refine lv_iload_n hx hb dX4_make_48 rfl (lv_at hl 2 rfl) ?_
      obtain ⟨h_11, hF⟩ := gi_c hF
      refine wd_ild X hP 8 dC_8 h_11 dX4_make_49 ?_
      refine lv_iconst (v := (1 : Int32)) hx hb dX4_make_50 (by decide) ?_
      refine lv_iadd hx hb dX4_make_51 ?_
      obtain ⟨h_12, hF⟩ := gi_c hF
      obtain ⟨M_13, e_14, hF⟩ := wr_c hF
      refine wd_ist X hP hS 8 dC_8 h_12 dX4_make_52 (fun H locs hP hS => ?_)
      rw [← e_14] at hP
      refine lv_aload_n hx hb dX4_make_53 rfl (lv_at hl 0 rfl) ?_
      refine wd_getr (q := 9) X hP 5 dC_5 rfl in_X4_make_X4 3 rfl (by decide) (by decide +kernel) dX4_make_54 ?_
      refine lv_aload_n hx hb dX4_make_57 rfl (lv_at hl 0 rfl) ?_
      refine wd_geti X hP 5 dC_5 rfl in_X4_make_X4 8 rfl (by decide) (by decide +kernel) dX4_make_58 ?_
      refine lv_iconst (v := (-1 : Int32)) hx hb dX4_make_61 (by decide) ?_
      obtain ⟨h_15, hF⟩ := gi_c hF
      obtain ⟨M_16, e_17, hF⟩ := wr_c hF
      refine wd_ist X hP hS 9 dC_9 h_15 dX4_make_62 (fun H locs hP hS => ?_)
      rw [← e_17] at hP
      refine lv_aload_n hx hb dX4_make_63 rfl (lv_at hl 0 rfl) ?_
      refine wd_getr (q := 10) X hP 5 dC_5 rfl in_X4_make_X4 4 rfl (by decide) (by decide +kernel) dX4_make_64 ?_
      refine lv_aload_n hx hb dX4_make_67 rfl (lv_at hl 0 rfl) ?_
      refine wd_geti X hP 5 dC_5 rfl in_X4_make_X4 8 rfl (by decide) (by decide +kernel) dX4_make_68 ?_
      refine lv_iload_n hx hb dX4_make_71 rfl (lv_at hl 3 rfl) ?_
      obtain ⟨h_18, hF⟩ := gi_c hF
      obtain ⟨M_19, e_20, hF⟩ := wr_c hF
      refine wd_zst X hP hS 10 dC_10 h_18 dX4_make_72 (fun H locs hP hS => ?_)
      rw [← e_20] at hP
      refine lv_aload_n hx hb dX4_make_73 rfl (lv_at hl 0 rfl) ?_
      refine wd_getr (q := 11) X hP 5 dC_5 rfl in_X4_make_X4 5 rfl (by decide) (by decide +kernel) dX4_make_74 ?_
      refine lv_aload_n hx hb dX4_make_77 rfl (lv_at hl 0 rfl) ?_
      refine wd_geti X hP 5 dC_5 rfl in_X4_make_X4 8 rfl (by decide) (by decide +kernel) dX4_make_78 ?_
      refine lv_iload hx hb dX4_make_81 (lv_at hl 4 rfl) ?_
      obtain ⟨h_21, hF⟩ := gi_c hF
      obtain ⟨M_22, e_23, hF⟩ := wr_c hF
      refine wd_zst X hP hS 11 dC_11 h_21 dX4_make_83 (fun H locs hP hS => ?_)
      rw [← e_23] at hP
      refine lv_aload_n hx hb dX4_make_84 rfl (lv_at hl 0 rfl) ?_
      refine wd_getr (q := 9) X hP 5 dC_5 rfl in_X4_make_X4 3 rfl (by decide) (by decide +kernel) dX4_make_85 ?_
      refine lv_iload_n hx hb dX4_make_88 rfl (lv_at hl 2 rfl) ?_
      obtain ⟨h_24, hF⟩ := gi_c hF
      refine wd_ild X hP 9 dC_9 h_24 dX4_make_89 ?_
      refine lv_iconst (v := (-1 : Int32)) hx hb dX4_make_90 (by decide) ?_
      refine lv_icmp_ne (tgt := 104) hx hb dX4_make_91 (by decide) (fun c_28 => ?_) (fun c_28 => ?_)
      · have hF := if_e c_28 hF
        exact wb_X4_make_104 X    M_22 _ _ _ hF hP hS (lv_sub hl [0] rfl)
      · have hF := if_t c_28 hF
        refine lv_aload_n hx hb dX4_make_94 rfl (lv_at hl 0 rfl) ?_
        refine wd_getr (q := 9) X hP 5 dC_5 rfl in_X4_make_X4 3 rfl (by decide) (by decide +kernel) dX4_make_95 ?_
        refine lv_iload_n hx hb dX4_make_98 rfl (lv_at hl 2 rfl) ?_
        refine lv_aload_n hx hb dX4_make_99 rfl (lv_at hl 0 rfl) ?_
        refine wd_geti X hP 5 dC_5 rfl in_X4_make_X4 8 rfl (by decide) (by decide +kernel) dX4_make_100 ?_
        obtain ⟨h_25, hF⟩ := gi_c hF
        obtain ⟨M_26, e_27, hF⟩ := wr_c hF
        refine wd_ist X hP hS 9 dC_9 h_25 dX4_make_103 (fun H locs hP hS => ?_)
        rw [← e_27] at hP
        exact wb_X4_make_104 X    M_26 _ _ _ hF hP hS (lv_sub hl [0] rfl)
    · have hF := if_t c_29 hF
      cases hF
      exact wd_retv X hP hS dX4_make_15
/-! X4_entering ()LChartTable$MarkRows; -/
theorem in_X4_entering_X4 : ∀ w ∈ u_ws RX4 TX4 9, w ∈ wsX4_entering := by decide +kernel
set_option maxHeartbeats 4000000 in
set_option maxRecDepth 100000 in
theorem c_X4_entering (l : Launch) (D : va_G) (cA : Nat → ClassId) (ad : Nat → Nat) (hj : wd_inj ad dsC.length) (M : Mem) : wm_r l yX4_entering wsX4_entering rm_X4_entering D cA ad dsC M [.ref (ad 5)] 12 M := by
  refine Met.ofW (cc := cX4_entering) (maxL := 1) (ret := (some (.object "ChartTable$MarkRows"))) (by decide) rfl ?_
  intro p e s m args below meth c s₁ B hml hv
  obtain ⟨rfl, hP, hK⟩ := hv
  have X : wd_X p s m _ meth c cX4_entering 1 wsX4_entering RX4 (some (.object "ChartTable$MarkRows")) D cA ad dsC.length := ⟨⟨B.exec, B.bytes, hml, findClass_of_methodNamed B.named, atoms_spec (ws := wsX4_entering) B.pre⟩, hK, B.notSynchronized, B.returns, hj⟩
  have hl := lv_entry ([.ref (ad 5)]) (n := 1) (Nat.le_of_ble_eq_true rfl)
  rw [lg_entry_eq]
  generalize (lg_sl ([.ref (ad 5)]) ++ List.replicate (1 - (lg_sl ([.ref (ad 5)])).length) Slot.unset).toArray = ls at hl ⊢
  have hl : lv_has ls 1 [(0, .ref (ad 5))] := hl
  have hS : va_S (wd_A ad dsC.length) s.heap s.heap [] := va_S.rf
  have hx := X.1.1
  have hb := X.1.2.1
  have hts := X.1.2.2.2.2
  refine lv_aload_n hx hb dX4_entering_0 rfl (lv_at hl 0 rfl) ?_
  refine wd_getr (q := 12) X hP 5 dC_5 rfl in_X4_entering_X4 6 rfl (by decide) (by decide +kernel) dX4_entering_1 ?_
  exact W.aret (v := .ref (ad 12)) hx hb X.2.2.2.1 (Or.inl ⟨_, rfl⟩) (Or.inr ⟨_, rfl⟩) (fun t ht hW => ⟨⟨M, ad 12, rfl, rfl, rfl, by show wd_P D cA ad dsC M t.heap; rw [ht]; exact hP, va_K.moved hW.alike hK⟩, hS.F ht⟩) hS.2.2 dX4_entering_4 X.2.2.1
/-! X4_leaving ()LChartTable$MarkRows; -/
theorem in_X4_leaving_X4 : ∀ w ∈ u_ws RX4 TX4 9, w ∈ wsX4_leaving := by decide +kernel
set_option maxHeartbeats 4000000 in
set_option maxRecDepth 100000 in
theorem c_X4_leaving (l : Launch) (D : va_G) (cA : Nat → ClassId) (ad : Nat → Nat) (hj : wd_inj ad dsC.length) (M : Mem) : wm_r l yX4_leaving wsX4_leaving rm_X4_leaving D cA ad dsC M [.ref (ad 5)] 15 M := by
  refine Met.ofW (cc := cX4_leaving) (maxL := 1) (ret := (some (.object "ChartTable$MarkRows"))) (by decide) rfl ?_
  intro p e s m args below meth c s₁ B hml hv
  obtain ⟨rfl, hP, hK⟩ := hv
  have X : wd_X p s m _ meth c cX4_leaving 1 wsX4_leaving RX4 (some (.object "ChartTable$MarkRows")) D cA ad dsC.length := ⟨⟨B.exec, B.bytes, hml, findClass_of_methodNamed B.named, atoms_spec (ws := wsX4_leaving) B.pre⟩, hK, B.notSynchronized, B.returns, hj⟩
  have hl := lv_entry ([.ref (ad 5)]) (n := 1) (Nat.le_of_ble_eq_true rfl)
  rw [lg_entry_eq]
  generalize (lg_sl ([.ref (ad 5)]) ++ List.replicate (1 - (lg_sl ([.ref (ad 5)])).length) Slot.unset).toArray = ls at hl ⊢
  have hl : lv_has ls 1 [(0, .ref (ad 5))] := hl
  have hS : va_S (wd_A ad dsC.length) s.heap s.heap [] := va_S.rf
  have hx := X.1.1
  have hb := X.1.2.1
  have hts := X.1.2.2.2.2
  refine lv_aload_n hx hb dX4_leaving_0 rfl (lv_at hl 0 rfl) ?_
  refine wd_getr (q := 15) X hP 5 dC_5 rfl in_X4_leaving_X4 7 rfl (by decide) (by decide +kernel) dX4_leaving_1 ?_
  exact W.aret (v := .ref (ad 15)) hx hb X.2.2.2.1 (Or.inl ⟨_, rfl⟩) (Or.inr ⟨_, rfl⟩) (fun t ht hW => ⟨⟨M, ad 15, rfl, rfl, rfl, by show wd_P D cA ad dsC M t.heap; rw [ht]; exact hP, va_K.moved hW.alike hK⟩, hS.F ht⟩) hS.2.2 dX4_leaving_4 X.2.2.1
/-! X4_parentOf (I)I -/
theorem in_X4_parentOf_X4 : ∀ w ∈ u_ws RX4 TX4 9, w ∈ wsX4_parentOf := by decide +kernel
set_option maxHeartbeats 4000000 in
set_option maxRecDepth 100000 in
theorem c_X4_parentOf (l : Launch) (D : va_G) (cA : Nat → ClassId) (ad : Nat → Nat) (hj : wd_inj ad dsC.length)   (x1 : Int32) (M : Mem) {r : Int32} (hF : F_X4_parentOf x1 M = some r) : wm_i l yX4_parentOf wsX4_parentOf rm_X4_parentOf D cA ad dsC M [.ref (ad 5), .int x1] r M := by
  refine Met.ofW (cc := cX4_parentOf) (maxL := 2) (ret := (some .int)) (by decide) rfl ?_
  intro p e s m args below meth c s₁ B hml hv
  obtain ⟨rfl, hP, hK⟩ := hv
  have X : wd_X p s m _ meth c cX4_parentOf 2 wsX4_parentOf RX4 (some .int) D cA ad dsC.length := ⟨⟨B.exec, B.bytes, hml, findClass_of_methodNamed B.named, atoms_spec (ws := wsX4_parentOf) B.pre⟩, hK, B.notSynchronized, B.returns, hj⟩
  have hl := lv_entry ([.ref (ad 5), .int x1]) (n := 2) (Nat.le_of_ble_eq_true rfl)
  rw [lg_entry_eq]
  generalize (lg_sl ([.ref (ad 5), .int x1]) ++ List.replicate (2 - (lg_sl ([.ref (ad 5), .int x1])).length) Slot.unset).toArray = ls at hl ⊢
  have hl : lv_has ls 2 [(0, .ref (ad 5)), (1, .int x1)] := hl
  have hS : va_S (wd_A ad dsC.length) s.heap s.heap [] := va_S.rf
  have hx := X.1.1
  have hb := X.1.2.1
  have hts := X.1.2.2.2.2
  unfold F_X4_parentOf at hF
  refine lv_aload_n hx hb dX4_parentOf_0 rfl (lv_at hl 0 rfl) ?_
  refine lv_iload_n hx hb dX4_parentOf_1 rfl (lv_at hl 1 rfl) ?_
  obtain ⟨r_1, hc_2, hF⟩ := bd_c hF
  refine wd_calli X hP hS [.int x1] [] (c_X4_isState l D cA ad X.2.2.2.2   x1 M hc_2) (cwV 1 hts gX4_parentOf_X4_isState rfl rfl rfl (by decide +kernel) ⟨(by show _ ≤ _; first | exact Nat.le_of_ble_eq_true rfl | (simp [headSpec, rm_X4_parentOf]; omega) | omega), (by show _ ≤ _; first | exact Nat.le_of_ble_eq_true rfl | (simp [headSpec, rm_X4_parentOf]; omega) | omega)⟩) dC_5 rfl rfl hl.1 rfl (Nat.le_of_ble_eq_true rfl) dX4_parentOf_2 (fun H locs hP hS => ?_)
  refine lv_if_eq (tgt := 17) hx hb dX4_parentOf_5 (by decide) (fun c_4 => ?_) (fun c_4 => ?_)
  · have hF := if_t c_4 hF
    refine lv_iconst (v := (-1 : Int32)) hx hb dX4_parentOf_17 (by decide) ?_
    cases hF
    exact wd_reti X hP hS rfl rfl dX4_parentOf_18
  · have hF := if_e c_4 hF
    refine lv_aload_n hx hb dX4_parentOf_8 rfl (lv_at hl 0 rfl) ?_
    refine wd_getr (q := 7) X hP 5 dC_5 rfl in_X4_parentOf_X4 1 rfl (by decide) (by decide +kernel) dX4_parentOf_9 ?_
    refine lv_iload_n hx hb dX4_parentOf_12 rfl (lv_at hl 1 rfl) ?_
    obtain ⟨h_3, hF⟩ := gi_c hF
    refine wd_ild X hP 7 dC_7 h_3 dX4_parentOf_13 ?_
    refine lv_goto (tgt := 18) hx hb dX4_parentOf_14 (by decide) ?_
    cases hF
    exact wd_reti X hP hS rfl rfl dX4_parentOf_18
/-! X4_isWhole (I)Z -/
theorem in_X4_isWhole_X4 : ∀ w ∈ u_ws RX4 TX4 9, w ∈ wsX4_isWhole := by decide +kernel
set_option maxHeartbeats 4000000 in
set_option maxRecDepth 100000 in
theorem c_X4_isWhole (l : Launch) (D : va_G) (cA : Nat → ClassId) (ad : Nat → Nat) (hj : wd_inj ad dsC.length)   (x1 : Int32) (M : Mem) {r : Int32} (hF : F_X4_isWhole x1 M = some r) : wm_i l yX4_isWhole wsX4_isWhole rm_X4_isWhole D cA ad dsC M [.ref (ad 5), .int x1] r M := by
  refine Met.ofW (cc := cX4_isWhole) (maxL := 2) (ret := (some .boolean)) (by decide) rfl ?_
  intro p e s m args below meth c s₁ B hml hv
  obtain ⟨rfl, hP, hK⟩ := hv
  have X : wd_X p s m _ meth c cX4_isWhole 2 wsX4_isWhole RX4 (some .boolean) D cA ad dsC.length := ⟨⟨B.exec, B.bytes, hml, findClass_of_methodNamed B.named, atoms_spec (ws := wsX4_isWhole) B.pre⟩, hK, B.notSynchronized, B.returns, hj⟩
  have hl := lv_entry ([.ref (ad 5), .int x1]) (n := 2) (Nat.le_of_ble_eq_true rfl)
  rw [lg_entry_eq]
  generalize (lg_sl ([.ref (ad 5), .int x1]) ++ List.replicate (2 - (lg_sl ([.ref (ad 5), .int x1])).length) Slot.unset).toArray = ls at hl ⊢
  have hl : lv_has ls 2 [(0, .ref (ad 5)), (1, .int x1)] := hl
  have hS : va_S (wd_A ad dsC.length) s.heap s.heap [] := va_S.rf
  have hx := X.1.1
  have hb := X.1.2.1
  have hts := X.1.2.2.2.2
  unfold F_X4_isWhole at hF
  refine lv_aload_n hx hb dX4_isWhole_0 rfl (lv_at hl 0 rfl) ?_
  refine lv_iload_n hx hb dX4_isWhole_1 rfl (lv_at hl 1 rfl) ?_
  obtain ⟨r_1, hc_2, hF⟩ := bd_c hF
  refine wd_calli X hP hS [.int x1] [] (c_X4_isState l D cA ad X.2.2.2.2   x1 M hc_2) (cwV 1 hts gX4_isWhole_X4_isState rfl rfl rfl (by decide +kernel) ⟨(by show _ ≤ _; first | exact Nat.le_of_ble_eq_true rfl | (simp [headSpec, rm_X4_isWhole]; omega) | omega), (by show _ ≤ _; first | exact Nat.le_of_ble_eq_true rfl | (simp [headSpec, rm_X4_isWhole]; omega) | omega)⟩) dC_5 rfl rfl hl.1 rfl (Nat.le_of_ble_eq_true rfl) dX4_isWhole_2 (fun H locs hP hS => ?_)
  refine lv_if_eq (tgt := 21) hx hb dX4_isWhole_5 (by decide) (fun c_5 => ?_) (fun c_5 => ?_)
  · have hF := if_t c_5 hF
    refine lv_iconst (v := (0 : Int32)) hx hb dX4_isWhole_21 (by decide) ?_
    cases hF
    exact wd_reti X hP hS rfl (by decide) dX4_isWhole_22
  · have hF := if_e c_5 hF
    refine lv_aload_n hx hb dX4_isWhole_8 rfl (lv_at hl 0 rfl) ?_
    refine wd_getr (q := 10) X hP 5 dC_5 rfl in_X4_isWhole_X4 4 rfl (by decide) (by decide +kernel) dX4_isWhole_9 ?_
    refine lv_iload_n hx hb dX4_isWhole_12 rfl (lv_at hl 1 rfl) ?_
    obtain ⟨h_3, hF⟩ := gi_c hF
    refine wd_zld X hP 10 dC_10 h_3 dX4_isWhole_13 ?_
    refine lv_if_eq (tgt := 21) hx hb dX4_isWhole_14 (by decide) (fun c_4 => ?_) (fun c_4 => ?_)
    · have hF := if_t c_4 hF
      refine lv_iconst (v := (0 : Int32)) hx hb dX4_isWhole_21 (by decide) ?_
      cases hF
      exact wd_reti X hP hS rfl (by decide) dX4_isWhole_22
    · have hF := if_e c_4 hF
      refine lv_iconst (v := (1 : Int32)) hx hb dX4_isWhole_17 (by decide) ?_
      refine lv_goto (tgt := 22) hx hb dX4_isWhole_18 (by decide) ?_
      cases hF
      exact wd_reti X hP hS rfl (by decide) dX4_isWhole_22
/-! X4_childToward (II)I -/
theorem in_X4_childToward_X4 : ∀ w ∈ u_ws RX4 TX4 9, w ∈ wsX4_childToward := by decide +kernel
set_option maxHeartbeats 4000000 in
set_option maxRecDepth 100000 in
theorem wb_X4_childToward_15 {p : Program} {l : Launch} {e : Env} {s : State} {m : MethodId} {args : Array Value} {below : List Frame} {meth : Method} {c : Code} {D : va_G} {cA : Nat → ClassId} {ad : Nat → Nat} (X : wd_X p s m args meth c cX4_childToward 5 wsX4_childToward RX4 (some .int) D cA ad dsC.length) {kh15 : Int32 → Int32 → Int32 → Option Int32} {M : Mem} {r : Int32} (hk15 : ∀ (x1 : Int32) (x3 : Int32) (x4 : Int32) (H : Heap) (locs : List Loc) (ls : Array Slot), kh15 x1 x3 x4 = some r → wd_P D cA ad dsC M H → va_S (wd_A ad dsC.length) s.heap H locs → lv_has ls 5 [(0, .ref (ad 5)), (1, .int x1), (3, .int x3), (4, .int x4)] → W p l e (headSpec wsX4_childToward rm_X4_childToward).room s m args below meth c H locs 0 0 (MQ below (wm_Qi D cA ad dsC r M) args s 0 0 (wd_A ad dsC.length)) (F0 m 15 ls [])) (x1 : Int32) (x3 : Int32) (x4 : Int32) (H : Heap) (locs : List Loc) (ls : Array Slot) (hF : B_X4_childToward_15 kh15 M x1 x3 x4 = some r) (hP : wd_P D cA ad dsC M H) (hS : va_S (wd_A ad dsC.length) s.heap H locs) (hl : lv_has ls 5 [(0, .ref (ad 5)), (1, .int x1), (3, .int x3), (4, .int x4)]) : W p l e (headSpec wsX4_childToward rm_X4_childToward).room s m args below meth c H locs 0 0 (MQ below (wm_Qi D cA ad dsC r M) args s 0 0 (wd_A ad dsC.length)) (F0 m 15 ls []) := by
  have hx := X.1.1
  have hb := X.1.2.1
  have hts := X.1.2.2.2.2
  unfold B_X4_childToward_15 at hF
  refine lv_iload hx hb dX4_childToward_15 (lv_at hl 3 rfl) ?_
  refine lv_bipush (v := (6 : Int32)) hx hb dX4_childToward_17 (by decide) ?_
  refine lv_icmp_gt (tgt := 55) hx hb dX4_childToward_19 (by decide) (fun c_11 => ?_) (fun c_11 => ?_)
  · have hF := if_t c_11 hF
    refine lv_iconst (v := (-1 : Int32)) hx hb dX4_childToward_55 (by decide) ?_
    cases hF
    exact wd_reti X hP hS rfl rfl dX4_childToward_56
  · have hF := if_e c_11 hF
    refine lv_aload_n hx hb dX4_childToward_22 rfl (lv_at hl 0 rfl) ?_
    refine lv_iload_n hx hb dX4_childToward_23 rfl (lv_at hl 2 rfl) ?_
    obtain ⟨r_1, hc_2, hF⟩ := bd_c hF
    refine wd_calli X hP hS [.int x3] [] (c_X4_isState l D cA ad X.2.2.2.2   x3 M hc_2) (cwV 1 hts gX4_childToward_X4_isState rfl rfl rfl (by decide +kernel) ⟨(by show _ ≤ _; first | exact Nat.le_of_ble_eq_true rfl | (simp [headSpec, rm_X4_childToward]; omega) | omega), (by show _ ≤ _; first | exact Nat.le_of_ble_eq_true rfl | (simp [headSpec, rm_X4_childToward]; omega) | omega)⟩) dC_5 rfl rfl hl.1 rfl (Nat.le_of_ble_eq_true rfl) dX4_childToward_24 (fun H locs hP hS => ?_)
    refine lv_if_eq (tgt := 55) hx hb dX4_childToward_27 (by decide) (fun c_10 => ?_) (fun c_10 => ?_)
    · have hF := if_t c_10 hF
      refine lv_iconst (v := (-1 : Int32)) hx hb dX4_childToward_55 (by decide) ?_
      cases hF
      exact wd_reti X hP hS rfl rfl dX4_childToward_56
    · have hF := if_e c_10 hF
      refine lv_aload_n hx hb dX4_childToward_30 rfl (lv_at hl 0 rfl) ?_
      refine wd_getr (q := 7) X hP 5 dC_5 rfl in_X4_childToward_X4 1 rfl (by decide) (by decide +kernel) dX4_childToward_31 ?_
      refine lv_iload_n hx hb dX4_childToward_34 rfl (lv_at hl 2 rfl) ?_
      obtain ⟨h_3, hF⟩ := gi_c hF
      refine wd_ild X hP 7 dC_7 h_3 dX4_childToward_35 ?_
      refine lv_iload_n hx hb dX4_childToward_36 rfl (lv_at hl 1 rfl) ?_
      refine lv_icmp_ne (tgt := 42) hx hb dX4_childToward_37 (by decide) (fun c_9 => ?_) (fun c_9 => ?_)
      · have hF := if_e c_9 hF
        refine lv_aload_n hx hb dX4_childToward_42 rfl (lv_at hl 0 rfl) ?_
        refine wd_getr (q := 7) X hP 5 dC_5 rfl in_X4_childToward_X4 1 rfl (by decide) (by decide +kernel) dX4_childToward_43 ?_
        refine lv_iload_n hx hb dX4_childToward_46 rfl (lv_at hl 2 rfl) ?_
        obtain ⟨h_4, hF⟩ := gi_c hF
        refine wd_ild X hP 7 dC_7 h_4 dX4_childToward_47 ?_
        obtain ⟨x3_5, e_6, hF⟩ := nm_c hF
        refine wd_top e_6 ?_
        refine lv_istore_n (lv' := [(3, .int x3_5), (0, .ref (ad 5)), (1, .int x1), (4, .int x4)]) hx hb dX4_childToward_48 rfl hl (by decide) rfl (fun ls hl => ?_)
        obtain ⟨x4_7, e_8, hF⟩ := nm_c hF
        refine lv_iinc (v := x4_7) (lv' := [(4, .int x4_7), (3, .int x3_5), (0, .ref (ad 5)), (1, .int x1)]) hx hb dX4_childToward_49 hl (k := 3) rfl (by rw [e_8]; rfl) (by decide) rfl (fun ls hl => ?_)
        refine lv_goto (tgt := 15) hx hb dX4_childToward_52 (by decide) ?_
        exact hk15 x1 x3_5 x4_7 _ _ _ hF hP hS (lv_sub hl [2, 3, 1, 0] rfl)
      · have hF := if_t c_9 hF
        refine lv_iload_n hx hb dX4_childToward_40 rfl (lv_at hl 2 rfl) ?_
        cases hF
        exact wd_reti X hP hS rfl rfl dX4_childToward_41
set_option maxHeartbeats 4000000 in
set_option maxRecDepth 100000 in
theorem wh_X4_childToward_15 {p : Program} {l : Launch} {e : Env} {s : State} {m : MethodId} {args : Array Value} {below : List Frame} {meth : Method} {c : Code} {D : va_G} {cA : Nat → ClassId} {ad : Nat → Nat} (X : wd_X p s m args meth c cX4_childToward 5 wsX4_childToward RX4 (some .int) D cA ad dsC.length) {M : Mem} {r : Int32}  : ∀ (n : Nat) (x1 : Int32) (x3 : Int32) (x4 : Int32) (H : Heap) (locs : List Loc) (ls : Array Slot), H_X4_childToward_15 M n x1 x3 x4 = some r → wd_P D cA ad dsC M H → va_S (wd_A ad dsC.length) s.heap H locs → lv_has ls 5 [(0, .ref (ad 5)), (1, .int x1), (3, .int x3), (4, .int x4)] → W p l e (headSpec wsX4_childToward rm_X4_childToward).room s m args below meth c H locs 0 0 (MQ below (wm_Qi D cA ad dsC r M) args s 0 0 (wd_A ad dsC.length)) (F0 m 15 ls []) := by
  intro n
  induction n with
  | zero => intro x1 x3 x4 H locs ls hF; cases hF
  | succ n ih => intro x1 x3 x4 H locs ls hF hP hS hl; exact wb_X4_childToward_15 X (kh15 := H_X4_childToward_15 M n) ih x1 x3 x4 H locs ls hF hP hS hl
set_option maxHeartbeats 4000000 in
set_option maxRecDepth 100000 in
theorem c_X4_childToward (l : Launch) (D : va_G) (cA : Nat → ClassId) (ad : Nat → Nat) (hj : wd_inj ad dsC.length)   (x1 : Int32) (x2 : Int32) (M : Mem) {r : Int32} (hF : F_X4_childToward x1 x2 M = some r) : wm_i l yX4_childToward wsX4_childToward rm_X4_childToward D cA ad dsC M [.ref (ad 5), .int x1, .int x2] r M := by
  refine Met.ofW (cc := cX4_childToward) (maxL := 5) (ret := (some .int)) (by decide) rfl ?_
  intro p e s m args below meth c s₁ B hml hv
  obtain ⟨rfl, hP, hK⟩ := hv
  have X : wd_X p s m _ meth c cX4_childToward 5 wsX4_childToward RX4 (some .int) D cA ad dsC.length := ⟨⟨B.exec, B.bytes, hml, findClass_of_methodNamed B.named, atoms_spec (ws := wsX4_childToward) B.pre⟩, hK, B.notSynchronized, B.returns, hj⟩
  have hl := lv_entry ([.ref (ad 5), .int x1, .int x2]) (n := 5) (Nat.le_of_ble_eq_true rfl)
  rw [lg_entry_eq]
  generalize (lg_sl ([.ref (ad 5), .int x1, .int x2]) ++ List.replicate (5 - (lg_sl ([.ref (ad 5), .int x1, .int x2])).length) Slot.unset).toArray = ls at hl ⊢
  have hl : lv_has ls 5 [(0, .ref (ad 5)), (1, .int x1), (2, .int x2)] := hl
  have hS : va_S (wd_A ad dsC.length) s.heap s.heap [] := va_S.rf
  have hx := X.1.1
  have hb := X.1.2.1
  have hts := X.1.2.2.2.2
  unfold F_X4_childToward at hF
  refine lv_aload_n hx hb dX4_childToward_0 rfl (lv_at hl 0 rfl) ?_
  refine lv_iload_n hx hb dX4_childToward_1 rfl (lv_at hl 1 rfl) ?_
  obtain ⟨r_1, hc_2, hF⟩ := bd_c hF
  refine wd_calli X hP hS [.int x1] [] (c_X4_isState l D cA ad X.2.2.2.2   x1 M hc_2) (cwV 1 hts gX4_childToward_X4_isState rfl rfl rfl (by decide +kernel) ⟨(by show _ ≤ _; first | exact Nat.le_of_ble_eq_true rfl | (simp [headSpec, rm_X4_childToward]; omega) | omega), (by show _ ≤ _; first | exact Nat.le_of_ble_eq_true rfl | (simp [headSpec, rm_X4_childToward]; omega) | omega)⟩) dC_5 rfl rfl hl.1 rfl (Nat.le_of_ble_eq_true rfl) dX4_childToward_2 (fun H locs hP hS => ?_)
  refine lv_if_ne (tgt := 10) hx hb dX4_childToward_5 (by decide) (fun c_3 => ?_) (fun c_3 => ?_)
  · have hF := if_e c_3 hF
    refine lv_iload_n hx hb dX4_childToward_10 rfl (lv_at hl 2 rfl) ?_
    refine lv_istore_n (lv' := [(3, .int x2), (0, .ref (ad 5)), (1, .int x1), (2, .int x2)]) hx hb dX4_childToward_11 rfl hl (by decide) rfl (fun ls hl => ?_)
    refine lv_iconst (v := (0 : Int32)) hx hb dX4_childToward_12 (by decide) ?_
    refine lv_istore (lv' := [(4, .int (0 : Int32)), (3, .int x2), (0, .ref (ad 5)), (1, .int x1), (2, .int x2)]) hx hb dX4_childToward_13 hl (by decide) rfl (fun ls hl => ?_)
    exact wh_X4_childToward_15 X    100 x1 x2 (0 : Int32) _ _ _ hF hP hS (lv_sub hl [2, 3, 1, 0] rfl)
  · have hF := if_t c_3 hF
    refine lv_iconst (v := (-1 : Int32)) hx hb dX4_childToward_8 (by decide) ?_
    cases hF
    exact wd_reti X hP hS rfl rfl dX4_childToward_9
/-! X4_scopeOf (II)I -/
set_option maxHeartbeats 4000000 in
set_option maxRecDepth 100000 in
theorem wb_X4_scopeOf_40 {p : Program} {l : Launch} {e : Env} {s : State} {m : MethodId} {args : Array Value} {below : List Frame} {meth : Method} {c : Code} {D : va_G} {cA : Nat → ClassId} {ad : Nat → Nat} (X : wd_X p s m args meth c cX4_scopeOf 5 wsX4_scopeOf RX4 (some .int) D cA ad dsC.length) {kh9 : Int32 → Int32 → Int32 → Option Int32} {M : Mem} {r : Int32} (hk9 : ∀ (x2 : Int32) (x3 : Int32) (x4 : Int32) (H : Heap) (locs : List Loc) (ls : Array Slot), kh9 x2 x3 x4 = some r → wd_P D cA ad dsC M H → va_S (wd_A ad dsC.length) s.heap H locs → lv_has ls 5 [(0, .ref (ad 5)), (2, .int x2), (3, .int x3), (4, .int x4)] → W p l e (headSpec wsX4_scopeOf rm_X4_scopeOf).room s m args below meth c H locs 0 0 (MQ below (wm_Qi D cA ad dsC r M) args s 0 0 (wd_A ad dsC.length)) (F0 m 9 ls [])) (x2 : Int32) (x3 : Int32) (x4 : Int32) (H : Heap) (locs : List Loc) (ls : Array Slot) (hF : B_X4_scopeOf_40 kh9 M x2 x3 x4 = some r) (hP : wd_P D cA ad dsC M H) (hS : va_S (wd_A ad dsC.length) s.heap H locs) (hl : lv_has ls 5 [(0, .ref (ad 5)), (2, .int x2), (3, .int x3), (4, .int x4)]) : W p l e (headSpec wsX4_scopeOf rm_X4_scopeOf).room s m args below meth c H locs 0 0 (MQ below (wm_Qi D cA ad dsC r M) args s 0 0 (wd_A ad dsC.length)) (F0 m 40 ls []) := by
  have hx := X.1.1
  have hb := X.1.2.1
  have hts := X.1.2.2.2.2
  unfold B_X4_scopeOf_40 at hF
  refine lv_aload_n hx hb dX4_scopeOf_40 rfl (lv_at hl 0 rfl) ?_
  refine lv_iload_n hx hb dX4_scopeOf_41 rfl (lv_at hl 2 rfl) ?_
  obtain ⟨r_1, hc_2, hF⟩ := bd_c hF
  refine wd_calli X hP hS [.int x3] [] (c_X4_parentOf l D cA ad X.2.2.2.2   x3 M hc_2) (cwV 1 hts gX4_scopeOf_X4_parentOf rfl rfl rfl (by decide +kernel) ⟨(by show _ ≤ _; first | exact Nat.le_of_ble_eq_true rfl | (simp [headSpec, rm_X4_scopeOf]; omega) | omega), (by show _ ≤ _; first | exact Nat.le_of_ble_eq_true rfl | (simp [headSpec, rm_X4_scopeOf]; omega) | omega)⟩) dC_5 rfl rfl hl.1 rfl (Nat.le_of_ble_eq_true rfl) dX4_scopeOf_42 (fun H locs hP hS => ?_)
  refine lv_istore_n (lv' := [(3, .int r_1), (0, .ref (ad 5)), (2, .int x2), (4, .int x4)]) hx hb dX4_scopeOf_45 rfl hl (by decide) rfl (fun ls hl => ?_)
  obtain ⟨x4_3, e_4, hF⟩ := nm_c hF
  refine lv_iinc (v := x4_3) (lv' := [(4, .int x4_3), (3, .int r_1), (0, .ref (ad 5)), (2, .int x2)]) hx hb dX4_scopeOf_46 hl (k := 3) rfl (by rw [e_4]; rfl) (by decide) rfl (fun ls hl => ?_)
  refine lv_goto (tgt := 9) hx hb dX4_scopeOf_49 (by decide) ?_
  exact hk9 x2 r_1 x4_3 _ _ _ hF hP hS (lv_sub hl [2, 3, 1, 0] rfl)
set_option maxHeartbeats 4000000 in
set_option maxRecDepth 100000 in
theorem wb_X4_scopeOf_9 {p : Program} {l : Launch} {e : Env} {s : State} {m : MethodId} {args : Array Value} {below : List Frame} {meth : Method} {c : Code} {D : va_G} {cA : Nat → ClassId} {ad : Nat → Nat} (X : wd_X p s m args meth c cX4_scopeOf 5 wsX4_scopeOf RX4 (some .int) D cA ad dsC.length) {kh9 : Int32 → Int32 → Int32 → Option Int32} {M : Mem} {r : Int32} (hk9 : ∀ (x2 : Int32) (x3 : Int32) (x4 : Int32) (H : Heap) (locs : List Loc) (ls : Array Slot), kh9 x2 x3 x4 = some r → wd_P D cA ad dsC M H → va_S (wd_A ad dsC.length) s.heap H locs → lv_has ls 5 [(0, .ref (ad 5)), (2, .int x2), (3, .int x3), (4, .int x4)] → W p l e (headSpec wsX4_scopeOf rm_X4_scopeOf).room s m args below meth c H locs 0 0 (MQ below (wm_Qi D cA ad dsC r M) args s 0 0 (wd_A ad dsC.length)) (F0 m 9 ls [])) (x2 : Int32) (x3 : Int32) (x4 : Int32) (H : Heap) (locs : List Loc) (ls : Array Slot) (hF : B_X4_scopeOf_9 kh9 M x2 x3 x4 = some r) (hP : wd_P D cA ad dsC M H) (hS : va_S (wd_A ad dsC.length) s.heap H locs) (hl : lv_has ls 5 [(0, .ref (ad 5)), (2, .int x2), (3, .int x3), (4, .int x4)]) : W p l e (headSpec wsX4_scopeOf rm_X4_scopeOf).room s m args below meth c H locs 0 0 (MQ below (wm_Qi D cA ad dsC r M) args s 0 0 (wd_A ad dsC.length)) (F0 m 9 ls []) := by
  have hx := X.1.1
  have hb := X.1.2.1
  have hts := X.1.2.2.2.2
  unfold B_X4_scopeOf_9 at hF
  refine lv_iload hx hb dX4_scopeOf_9 (lv_at hl 3 rfl) ?_
  refine lv_bipush (v := (6 : Int32)) hx hb dX4_scopeOf_11 (by decide) ?_
  refine lv_icmp_gt (tgt := 52) hx hb dX4_scopeOf_13 (by decide) (fun c_8 => ?_) (fun c_8 => ?_)
  · have hF := if_t c_8 hF
    refine lv_iconst (v := (0 : Int32)) hx hb dX4_scopeOf_52 (by decide) ?_
    cases hF
    exact wd_reti X hP hS rfl rfl dX4_scopeOf_53
  · have hF := if_e c_8 hF
    refine lv_iload_n hx hb dX4_scopeOf_16 rfl (lv_at hl 2 rfl) ?_
    refine lv_if_le (tgt := 52) hx hb dX4_scopeOf_17 (by decide) (fun c_7 => ?_) (fun c_7 => ?_)
    · have hF := if_t c_7 hF
      refine lv_iconst (v := (0 : Int32)) hx hb dX4_scopeOf_52 (by decide) ?_
      cases hF
      exact wd_reti X hP hS rfl rfl dX4_scopeOf_53
    · have hF := if_e c_7 hF
      refine lv_aload_n hx hb dX4_scopeOf_20 rfl (lv_at hl 0 rfl) ?_
      refine lv_iload_n hx hb dX4_scopeOf_21 rfl (lv_at hl 2 rfl) ?_
      obtain ⟨r_1, hc_2, hF⟩ := bd_c hF
      refine wd_calli X hP hS [.int x3] [] (c_X4_isWhole l D cA ad X.2.2.2.2   x3 M hc_2) (cwV 1 hts gX4_scopeOf_X4_isWhole rfl rfl rfl (by decide +kernel) ⟨(by show _ ≤ _; first | exact Nat.le_of_ble_eq_true rfl | (simp [headSpec, rm_X4_scopeOf]; omega) | omega), (by show _ ≤ _; first | exact Nat.le_of_ble_eq_true rfl | (simp [headSpec, rm_X4_scopeOf]; omega) | omega)⟩) dC_5 rfl rfl hl.1 rfl (Nat.le_of_ble_eq_true rfl) dX4_scopeOf_22 (fun H locs hP hS => ?_)
      refine lv_if_ne (tgt := 40) hx hb dX4_scopeOf_25 (by decide) (fun c_6 => ?_) (fun c_6 => ?_)
      · have hF := if_e c_6 hF
        exact wb_X4_scopeOf_40 X  hk9  x2 x3 x4 _ _ _ hF hP hS (lv_sub hl [0, 1, 2, 3] rfl)
      · have hF := if_t c_6 hF
        refine lv_aload_n hx hb dX4_scopeOf_28 rfl (lv_at hl 0 rfl) ?_
        refine lv_iload_n hx hb dX4_scopeOf_29 rfl (lv_at hl 2 rfl) ?_
        refine lv_iload_n hx hb dX4_scopeOf_30 rfl (lv_at hl 1 rfl) ?_
        obtain ⟨r_3, hc_4, hF⟩ := bd_c hF
        refine wd_calli X hP hS [.int x3, .int x2] [] (c_X4_childToward l D cA ad X.2.2.2.2   x3 x2 M hc_4) (cwV 2 hts gX4_scopeOf_X4_childToward rfl rfl rfl (by decide +kernel) ⟨(by show _ ≤ _; first | exact Nat.le_of_ble_eq_true rfl | (simp [headSpec, rm_X4_scopeOf]; omega) | omega), (by show _ ≤ _; first | exact Nat.le_of_ble_eq_true rfl | (simp [headSpec, rm_X4_scopeOf]; omega) | omega)⟩) dC_5 rfl rfl hl.1 rfl (Nat.le_of_ble_eq_true rfl) dX4_scopeOf_31 (fun H locs hP hS => ?_)
        refine lv_iconst (v := (-1 : Int32)) hx hb dX4_scopeOf_34 (by decide) ?_
        refine lv_icmp_eq (tgt := 40) hx hb dX4_scopeOf_35 (by decide) (fun c_5 => ?_) (fun c_5 => ?_)
        · have hF := if_t c_5 hF
          exact wb_X4_scopeOf_40 X  hk9  x2 x3 x4 _ _ _ hF hP hS (lv_sub hl [0, 1, 2, 3] rfl)
        · have hF := if_e c_5 hF
          refine lv_iload_n hx hb dX4_scopeOf_38 rfl (lv_at hl 2 rfl) ?_
          cases hF
          exact wd_reti X hP hS rfl rfl dX4_scopeOf_39
set_option maxHeartbeats 4000000 in
set_option maxRecDepth 100000 in
theorem wh_X4_scopeOf_9 {p : Program} {l : Launch} {e : Env} {s : State} {m : MethodId} {args : Array Value} {below : List Frame} {meth : Method} {c : Code} {D : va_G} {cA : Nat → ClassId} {ad : Nat → Nat} (X : wd_X p s m args meth c cX4_scopeOf 5 wsX4_scopeOf RX4 (some .int) D cA ad dsC.length) {M : Mem} {r : Int32}  : ∀ (n : Nat) (x2 : Int32) (x3 : Int32) (x4 : Int32) (H : Heap) (locs : List Loc) (ls : Array Slot), H_X4_scopeOf_9 M n x2 x3 x4 = some r → wd_P D cA ad dsC M H → va_S (wd_A ad dsC.length) s.heap H locs → lv_has ls 5 [(0, .ref (ad 5)), (2, .int x2), (3, .int x3), (4, .int x4)] → W p l e (headSpec wsX4_scopeOf rm_X4_scopeOf).room s m args below meth c H locs 0 0 (MQ below (wm_Qi D cA ad dsC r M) args s 0 0 (wd_A ad dsC.length)) (F0 m 9 ls []) := by
  intro n
  induction n with
  | zero => intro x2 x3 x4 H locs ls hF; cases hF
  | succ n ih => intro x2 x3 x4 H locs ls hF hP hS hl; exact wb_X4_scopeOf_9 X (kh9 := H_X4_scopeOf_9 M n) ih x2 x3 x4 H locs ls hF hP hS hl
set_option maxHeartbeats 4000000 in
set_option maxRecDepth 100000 in
theorem c_X4_scopeOf (l : Launch) (D : va_G) (cA : Nat → ClassId) (ad : Nat → Nat) (hj : wd_inj ad dsC.length)   (x1 : Int32) (x2 : Int32) (M : Mem) {r : Int32} (hF : F_X4_scopeOf x1 x2 M = some r) : wm_i l yX4_scopeOf wsX4_scopeOf rm_X4_scopeOf D cA ad dsC M [.ref (ad 5), .int x1, .int x2] r M := by
  refine Met.ofW (cc := cX4_scopeOf) (maxL := 5) (ret := (some .int)) (by decide) rfl ?_
  intro p e s m args below meth c s₁ B hml hv
  obtain ⟨rfl, hP, hK⟩ := hv
  have X : wd_X p s m _ meth c cX4_scopeOf 5 wsX4_scopeOf RX4 (some .int) D cA ad dsC.length := ⟨⟨B.exec, B.bytes, hml, findClass_of_methodNamed B.named, atoms_spec (ws := wsX4_scopeOf) B.pre⟩, hK, B.notSynchronized, B.returns, hj⟩
  have hl := lv_entry ([.ref (ad 5), .int x1, .int x2]) (n := 5) (Nat.le_of_ble_eq_true rfl)
  rw [lg_entry_eq]
  generalize (lg_sl ([.ref (ad 5), .int x1, .int x2]) ++ List.replicate (5 - (lg_sl ([.ref (ad 5), .int x1, .int x2])).length) Slot.unset).toArray = ls at hl ⊢
  have hl : lv_has ls 5 [(0, .ref (ad 5)), (1, .int x1), (2, .int x2)] := hl
  have hS : va_S (wd_A ad dsC.length) s.heap s.heap [] := va_S.rf
  have hx := X.1.1
  have hb := X.1.2.1
  have hts := X.1.2.2.2.2
  unfold F_X4_scopeOf at hF
  refine lv_aload_n hx hb dX4_scopeOf_0 rfl (lv_at hl 0 rfl) ?_
  refine lv_iload_n hx hb dX4_scopeOf_1 rfl (lv_at hl 1 rfl) ?_
  obtain ⟨r_1, hc_2, hF⟩ := bd_c hF
  refine wd_calli X hP hS [.int x1] [] (c_X4_parentOf l D cA ad X.2.2.2.2   x1 M hc_2) (cwV 1 hts gX4_scopeOf_X4_parentOf rfl rfl rfl (by decide +kernel) ⟨(by show _ ≤ _; first | exact Nat.le_of_ble_eq_true rfl | (simp [headSpec, rm_X4_scopeOf]; omega) | omega), (by show _ ≤ _; first | exact Nat.le_of_ble_eq_true rfl | (simp [headSpec, rm_X4_scopeOf]; omega) | omega)⟩) dC_5 rfl rfl hl.1 rfl (Nat.le_of_ble_eq_true rfl) dX4_scopeOf_2 (fun H locs hP hS => ?_)
  refine lv_istore_n (lv' := [(3, .int r_1), (0, .ref (ad 5)), (1, .int x1), (2, .int x2)]) hx hb dX4_scopeOf_5 rfl hl (by decide) rfl (fun ls hl => ?_)
  refine lv_iconst (v := (0 : Int32)) hx hb dX4_scopeOf_6 (by decide) ?_
  refine lv_istore (lv' := [(4, .int (0 : Int32)), (3, .int r_1), (0, .ref (ad 5)), (1, .int x1), (2, .int x2)]) hx hb dX4_scopeOf_7 hl (by decide) rfl (fun ls hl => ?_)
  exact wh_X4_scopeOf_9 X    100 x2 r_1 (0 : Int32) _ _ _ hF hP hS (lv_sub hl [2, 4, 1, 0] rfl)
/-! X4_made ()I -/
theorem in_X4_made_X4 : ∀ w ∈ u_ws RX4 TX4 9, w ∈ wsX4_made := by decide +kernel
set_option maxHeartbeats 4000000 in
set_option maxRecDepth 100000 in
theorem c_X4_made (l : Launch) (D : va_G) (cA : Nat → ClassId) (ad : Nat → Nat) (hj : wd_inj ad dsC.length)    (M : Mem) {r : Int32} (hF : F_X4_made M = some r) : wm_i l yX4_made wsX4_made rm_X4_made D cA ad dsC M [.ref (ad 5)] r M := by
  refine Met.ofW (cc := cX4_made) (maxL := 1) (ret := (some .int)) (by decide) rfl ?_
  intro p e s m args below meth c s₁ B hml hv
  obtain ⟨rfl, hP, hK⟩ := hv
  have X : wd_X p s m _ meth c cX4_made 1 wsX4_made RX4 (some .int) D cA ad dsC.length := ⟨⟨B.exec, B.bytes, hml, findClass_of_methodNamed B.named, atoms_spec (ws := wsX4_made) B.pre⟩, hK, B.notSynchronized, B.returns, hj⟩
  have hl := lv_entry ([.ref (ad 5)]) (n := 1) (Nat.le_of_ble_eq_true rfl)
  rw [lg_entry_eq]
  generalize (lg_sl ([.ref (ad 5)]) ++ List.replicate (1 - (lg_sl ([.ref (ad 5)])).length) Slot.unset).toArray = ls at hl ⊢
  have hl : lv_has ls 1 [(0, .ref (ad 5))] := hl
  have hS : va_S (wd_A ad dsC.length) s.heap s.heap [] := va_S.rf
  have hx := X.1.1
  have hb := X.1.2.1
  have hts := X.1.2.2.2.2
  unfold F_X4_made at hF
  refine lv_aload_n hx hb dX4_made_0 rfl (lv_at hl 0 rfl) ?_
  refine wd_geti X hP 5 dC_5 rfl in_X4_made_X4 8 rfl (by decide) (by decide +kernel) dX4_made_1 ?_
  cases hF
  exact wd_reti X hP hS rfl rfl dX4_made_4
/-! X4_isRemembering (I)Z -/
theorem in_X4_isRemembering_X4 : ∀ w ∈ u_ws RX4 TX4 9, w ∈ wsX4_isRemembering := by decide +kernel
set_option maxHeartbeats 4000000 in
set_option maxRecDepth 100000 in
theorem c_X4_isRemembering (l : Launch) (D : va_G) (cA : Nat → ClassId) (ad : Nat → Nat) (hj : wd_inj ad dsC.length)   (x1 : Int32) (M : Mem) {r : Int32} (hF : F_X4_isRemembering x1 M = some r) : wm_i l yX4_isRemembering wsX4_isRemembering rm_X4_isRemembering D cA ad dsC M [.ref (ad 5), .int x1] r M := by
  refine Met.ofW (cc := cX4_isRemembering) (maxL := 2) (ret := (some .boolean)) (by decide) rfl ?_
  intro p e s m args below meth c s₁ B hml hv
  obtain ⟨rfl, hP, hK⟩ := hv
  have X : wd_X p s m _ meth c cX4_isRemembering 2 wsX4_isRemembering RX4 (some .boolean) D cA ad dsC.length := ⟨⟨B.exec, B.bytes, hml, findClass_of_methodNamed B.named, atoms_spec (ws := wsX4_isRemembering) B.pre⟩, hK, B.notSynchronized, B.returns, hj⟩
  have hl := lv_entry ([.ref (ad 5), .int x1]) (n := 2) (Nat.le_of_ble_eq_true rfl)
  rw [lg_entry_eq]
  generalize (lg_sl ([.ref (ad 5), .int x1]) ++ List.replicate (2 - (lg_sl ([.ref (ad 5), .int x1])).length) Slot.unset).toArray = ls at hl ⊢
  have hl : lv_has ls 2 [(0, .ref (ad 5)), (1, .int x1)] := hl
  have hS : va_S (wd_A ad dsC.length) s.heap s.heap [] := va_S.rf
  have hx := X.1.1
  have hb := X.1.2.1
  have hts := X.1.2.2.2.2
  unfold F_X4_isRemembering at hF
  refine lv_aload_n hx hb dX4_isRemembering_0 rfl (lv_at hl 0 rfl) ?_
  refine lv_iload_n hx hb dX4_isRemembering_1 rfl (lv_at hl 1 rfl) ?_
  obtain ⟨r_1, hc_2, hF⟩ := bd_c hF
  refine wd_calli X hP hS [.int x1] [] (c_X4_isState l D cA ad X.2.2.2.2   x1 M hc_2) (cwV 1 hts gX4_isRemembering_X4_isState rfl rfl rfl (by decide +kernel) ⟨(by show _ ≤ _; first | exact Nat.le_of_ble_eq_true rfl | (simp [headSpec, rm_X4_isRemembering]; omega) | omega), (by show _ ≤ _; first | exact Nat.le_of_ble_eq_true rfl | (simp [headSpec, rm_X4_isRemembering]; omega) | omega)⟩) dC_5 rfl rfl hl.1 rfl (Nat.le_of_ble_eq_true rfl) dX4_isRemembering_2 (fun H locs hP hS => ?_)
  refine lv_if_eq (tgt := 21) hx hb dX4_isRemembering_5 (by decide) (fun c_5 => ?_) (fun c_5 => ?_)
  · have hF := if_t c_5 hF
    refine lv_iconst (v := (0 : Int32)) hx hb dX4_isRemembering_21 (by decide) ?_
    cases hF
    exact wd_reti X hP hS rfl (by decide) dX4_isRemembering_22
  · have hF := if_e c_5 hF
    refine lv_aload_n hx hb dX4_isRemembering_8 rfl (lv_at hl 0 rfl) ?_
    refine wd_getr (q := 11) X hP 5 dC_5 rfl in_X4_isRemembering_X4 5 rfl (by decide) (by decide +kernel) dX4_isRemembering_9 ?_
    refine lv_iload_n hx hb dX4_isRemembering_12 rfl (lv_at hl 1 rfl) ?_
    obtain ⟨h_3, hF⟩ := gi_c hF
    refine wd_zld X hP 11 dC_11 h_3 dX4_isRemembering_13 ?_
    refine lv_if_eq (tgt := 21) hx hb dX4_isRemembering_14 (by decide) (fun c_4 => ?_) (fun c_4 => ?_)
    · have hF := if_t c_4 hF
      refine lv_iconst (v := (0 : Int32)) hx hb dX4_isRemembering_21 (by decide) ?_
      cases hF
      exact wd_reti X hP hS rfl (by decide) dX4_isRemembering_22
    · have hF := if_e c_4 hF
      refine lv_iconst (v := (1 : Int32)) hx hb dX4_isRemembering_17 (by decide) ?_
      refine lv_goto (tgt := 22) hx hb dX4_isRemembering_18 (by decide) ?_
      cases hF
      exact wd_reti X hP hS rfl (by decide) dX4_isRemembering_22
/-! X4_currentAtFirst (I)I -/
theorem in_X4_currentAtFirst_X4 : ∀ w ∈ u_ws RX4 TX4 9, w ∈ wsX4_currentAtFirst := by decide +kernel
set_option maxHeartbeats 4000000 in
set_option maxRecDepth 100000 in
theorem c_X4_currentAtFirst (l : Launch) (D : va_G) (cA : Nat → ClassId) (ad : Nat → Nat) (hj : wd_inj ad dsC.length)   (x1 : Int32) (M : Mem) {r : Int32} (hF : F_X4_currentAtFirst x1 M = some r) : wm_i l yX4_currentAtFirst wsX4_currentAtFirst rm_X4_currentAtFirst D cA ad dsC M [.ref (ad 5), .int x1] r M := by
  refine Met.ofW (cc := cX4_currentAtFirst) (maxL := 2) (ret := (some .int)) (by decide) rfl ?_
  intro p e s m args below meth c s₁ B hml hv
  obtain ⟨rfl, hP, hK⟩ := hv
  have X : wd_X p s m _ meth c cX4_currentAtFirst 2 wsX4_currentAtFirst RX4 (some .int) D cA ad dsC.length := ⟨⟨B.exec, B.bytes, hml, findClass_of_methodNamed B.named, atoms_spec (ws := wsX4_currentAtFirst) B.pre⟩, hK, B.notSynchronized, B.returns, hj⟩
  have hl := lv_entry ([.ref (ad 5), .int x1]) (n := 2) (Nat.le_of_ble_eq_true rfl)
  rw [lg_entry_eq]
  generalize (lg_sl ([.ref (ad 5), .int x1]) ++ List.replicate (2 - (lg_sl ([.ref (ad 5), .int x1])).length) Slot.unset).toArray = ls at hl ⊢
  have hl : lv_has ls 2 [(0, .ref (ad 5)), (1, .int x1)] := hl
  have hS : va_S (wd_A ad dsC.length) s.heap s.heap [] := va_S.rf
  have hx := X.1.1
  have hb := X.1.2.1
  have hts := X.1.2.2.2.2
  unfold F_X4_currentAtFirst at hF
  refine lv_aload_n hx hb dX4_currentAtFirst_0 rfl (lv_at hl 0 rfl) ?_
  refine lv_iload_n hx hb dX4_currentAtFirst_1 rfl (lv_at hl 1 rfl) ?_
  obtain ⟨r_1, hc_2, hF⟩ := bd_c hF
  refine wd_calli X hP hS [.int x1] [] (c_X4_isState l D cA ad X.2.2.2.2   x1 M hc_2) (cwV 1 hts gX4_currentAtFirst_X4_isState rfl rfl rfl (by decide +kernel) ⟨(by show _ ≤ _; first | exact Nat.le_of_ble_eq_true rfl | (simp [headSpec, rm_X4_currentAtFirst]; omega) | omega), (by show _ ≤ _; first | exact Nat.le_of_ble_eq_true rfl | (simp [headSpec, rm_X4_currentAtFirst]; omega) | omega)⟩) dC_5 rfl rfl hl.1 rfl (Nat.le_of_ble_eq_true rfl) dX4_currentAtFirst_2 (fun H locs hP hS => ?_)
  refine lv_if_eq (tgt := 26) hx hb dX4_currentAtFirst_5 (by decide) (fun c_6 => ?_) (fun c_6 => ?_)
  · have hF := if_t c_6 hF
    refine lv_iconst (v := (-1 : Int32)) hx hb dX4_currentAtFirst_26 (by decide) ?_
    cases hF
    exact wd_reti X hP hS rfl rfl dX4_currentAtFirst_27
  · have hF := if_e c_6 hF
    refine lv_aload_n hx hb dX4_currentAtFirst_8 rfl (lv_at hl 0 rfl) ?_
    refine wd_getr (q := 10) X hP 5 dC_5 rfl in_X4_currentAtFirst_X4 4 rfl (by decide) (by decide +kernel) dX4_currentAtFirst_9 ?_
    refine lv_iload_n hx hb dX4_currentAtFirst_12 rfl (lv_at hl 1 rfl) ?_
    obtain ⟨h_3, hF⟩ := gi_c hF
    refine wd_zld X hP 10 dC_10 h_3 dX4_currentAtFirst_13 ?_
    refine lv_if_ne (tgt := 26) hx hb dX4_currentAtFirst_14 (by decide) (fun c_5 => ?_) (fun c_5 => ?_)
    · have hF := if_e c_5 hF
      refine lv_iconst (v := (-1 : Int32)) hx hb dX4_currentAtFirst_26 (by decide) ?_
      cases hF
      exact wd_reti X hP hS rfl rfl dX4_currentAtFirst_27
    · have hF := if_t c_5 hF
      refine lv_aload_n hx hb dX4_currentAtFirst_17 rfl (lv_at hl 0 rfl) ?_
      refine wd_getr (q := 9) X hP 5 dC_5 rfl in_X4_currentAtFirst_X4 3 rfl (by decide) (by decide +kernel) dX4_currentAtFirst_18 ?_
      refine lv_iload_n hx hb dX4_currentAtFirst_21 rfl (lv_at hl 1 rfl) ?_
      obtain ⟨h_4, hF⟩ := gi_c hF
      refine wd_ild X hP 9 dC_9 h_4 dX4_currentAtFirst_22 ?_
      refine lv_goto (tgt := 27) hx hb dX4_currentAtFirst_23 (by decide) ?_
      cases hF
      exact wd_reti X hP hS rfl rfl dX4_currentAtFirst_27
