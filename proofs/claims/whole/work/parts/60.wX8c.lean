/-! X8_put (C)V -/
theorem in_X8_put_X8 : ∀ w ∈ u_ws RX8 TX8 39, w ∈ wsX8_put := by decide +kernel
set_option maxHeartbeats 4000000 in
set_option maxRecDepth 100000 in
theorem wb_X8_put_40 {p : Program} {l : Launch} {e : Env} {s : State} {m : MethodId} {args : Array Value} {below : List Frame} {meth : Method} {c : Code} {D : va_G} {cA : Nat → ClassId} {ad : Nat → Nat} (X : wd_X p s m args meth c cX8_put 2 wsX8_put RX8 none D cA ad dsM.length) {M' : Mem}  (t0 : Int32) (M : Mem) (H : Heap) (locs : List Loc) (ls : Array Slot) (hF : B_X8_put_40  t0 M = some M') (hP : wd_P D cA ad dsM M H) (hS : va_S (wd_A ad dsM.length) s.heap H locs) (hl : lv_has ls 2 []) : W p l e (headSpec wsX8_put rm_X8_put).room s m args below meth c H locs 0 0 (MQ below (wm_Qv D cA ad dsM M') args s 0 0 (wd_A ad dsM.length)) (F0 m 40 ls [.int t0, .ref (ad 0)]) := by
  have hx := X.1.1
  have hb := X.1.2.1
  have hts := X.1.2.2.2.2
  unfold B_X8_put_40 at hF
  obtain ⟨M_1, e_2, hF⟩ := wr_c hF
  refine wd_puti X hP hS 0 dM_0 rfl in_X8_put_X8 tyX8_ok nmX8 26 rfl (by decide) rfl rfl (by decide +kernel) dX8_put_40 (fun H locs hP hS => ?_)
  rw [← e_2] at hP
  cases hF
  exact wd_retv X hP hS dX8_put_43
set_option maxHeartbeats 4000000 in
set_option maxRecDepth 100000 in
theorem wb_X8_put_19 {p : Program} {l : Launch} {e : Env} {s : State} {m : MethodId} {args : Array Value} {below : List Frame} {meth : Method} {c : Code} {D : va_G} {cA : Nat → ClassId} {ad : Nat → Nat} (X : wd_X p s m args meth c cX8_put 2 wsX8_put RX8 none D cA ad dsM.length) {M' : Mem}   (M : Mem) (H : Heap) (locs : List Loc) (ls : Array Slot) (hF : B_X8_put_19  M = some M') (hP : wd_P D cA ad dsM M H) (hS : va_S (wd_A ad dsM.length) s.heap H locs) (hl : lv_has ls 2 [(0, .ref (ad 0))]) : W p l e (headSpec wsX8_put rm_X8_put).room s m args below meth c H locs 0 0 (MQ below (wm_Qv D cA ad dsM M') args s 0 0 (wd_A ad dsM.length)) (F0 m 19 ls []) := by
  have hx := X.1.1
  have hb := X.1.2.1
  have hts := X.1.2.2.2.2
  unfold B_X8_put_19 at hF
  refine lv_aload_n hx hb dX8_put_19 rfl (lv_at hl 0 rfl) ?_
  refine lv_aload_n hx hb dX8_put_20 rfl (lv_at hl 0 rfl) ?_
  refine wd_geti X hP 0 dM_0 rfl in_X8_put_X8 26 rfl (by decide) (by decide +kernel) dX8_put_21 ?_
  refine lv_bipush (v := (40 : Int32)) hx hb dX8_put_24 (by decide) ?_
  refine lv_icmp_ge (tgt := 38) hx hb dX8_put_26 (by decide) (fun c_1 => ?_) (fun c_1 => ?_)
  · have hF := if_t c_1 hF
    refine lv_bipush (v := (40 : Int32)) hx hb dX8_put_38 (by decide) ?_
    exact wb_X8_put_40 X    (40 : Int32) M _ _ _ hF hP hS (lv_sub hl [] rfl)
  · have hF := if_e c_1 hF
    refine lv_aload_n hx hb dX8_put_29 rfl (lv_at hl 0 rfl) ?_
    refine wd_geti X hP 0 dM_0 rfl in_X8_put_X8 26 rfl (by decide) (by decide +kernel) dX8_put_30 ?_
    refine lv_iconst (v := (1 : Int32)) hx hb dX8_put_33 (by decide) ?_
    refine lv_iadd hx hb dX8_put_34 ?_
    refine lv_goto (tgt := 40) hx hb dX8_put_35 (by decide) ?_
    exact wb_X8_put_40 X    ((M 0 26) + (1 : Int32)) M _ _ _ hF hP hS (lv_sub hl [] rfl)
set_option maxHeartbeats 4000000 in
set_option maxRecDepth 100000 in
theorem c_X8_put (l : Launch) (D : va_G) (cA : Nat → ClassId) (ad : Nat → Nat) (hj : wd_inj ad dsM.length)   (x1 : Int32) (M : Mem) {M' : Mem} (hF : F_X8_put x1 M = some M') : wm_v l yX8_put wsX8_put rm_X8_put D cA ad dsM M [.ref (ad 0), .int x1] M' := by
  refine Met.ofW (cc := cX8_put) (maxL := 2) (ret := none) (by decide) rfl ?_
  intro p e s m args below meth c s₁ B hml hv
  obtain ⟨rfl, hP, hK⟩ := hv
  have X : wd_X p s m _ meth c cX8_put 2 wsX8_put RX8 none D cA ad dsM.length := ⟨⟨B.exec, B.bytes, hml, findClass_of_methodNamed B.named, atoms_spec (ws := wsX8_put) B.pre⟩, hK, B.notSynchronized, B.returns, hj⟩
  have hl := lv_entry ([.ref (ad 0), .int x1]) (n := 2) (Nat.le_of_ble_eq_true rfl)
  rw [lg_entry_eq]
  generalize (lg_sl ([.ref (ad 0), .int x1]) ++ List.replicate (2 - (lg_sl ([.ref (ad 0), .int x1])).length) Slot.unset).toArray = ls at hl ⊢
  have hl : lv_has ls 2 [(0, .ref (ad 0)), (1, .int x1)] := hl
  have hS : va_S (wd_A ad dsM.length) s.heap s.heap [] := va_S.rf
  have hx := X.1.1
  have hb := X.1.2.1
  have hts := X.1.2.2.2.2
  unfold F_X8_put at hF
  refine lv_aload_n hx hb dX8_put_0 rfl (lv_at hl 0 rfl) ?_
  refine wd_geti X hP 0 dM_0 rfl in_X8_put_X8 26 rfl (by decide) (by decide +kernel) dX8_put_1 ?_
  refine lv_bipush (v := (40 : Int32)) hx hb dX8_put_4 (by decide) ?_
  refine lv_icmp_ge (tgt := 19) hx hb dX8_put_6 (by decide) (fun c_4 => ?_) (fun c_4 => ?_)
  · have hF := if_t c_4 hF
    exact wb_X8_put_19 X    M _ _ _ hF hP hS (lv_sub hl [0] rfl)
  · have hF := if_e c_4 hF
    refine lv_aload_n hx hb dX8_put_9 rfl (lv_at hl 0 rfl) ?_
    refine wd_getr (q := 20) X hP 0 dM_0 rfl in_X8_put_X8 25 rfl (by decide) (by decide +kernel) dX8_put_10 ?_
    refine lv_aload_n hx hb dX8_put_13 rfl (lv_at hl 0 rfl) ?_
    refine wd_geti X hP 0 dM_0 rfl in_X8_put_X8 26 rfl (by decide) (by decide +kernel) dX8_put_14 ?_
    refine lv_iload_n hx hb dX8_put_17 rfl (lv_at hl 1 rfl) ?_
    obtain ⟨h_1, hF⟩ := gi_c hF
    obtain ⟨M_2, e_3, hF⟩ := wr_c hF
    refine wd_cst X hP hS 20 dM_20 h_1 dX8_put_18 (fun H locs hP hS => ?_)
    rw [← e_3] at hP
    exact wb_X8_put_19 X    M_2 _ _ _ hF hP hS (lv_sub hl [0] rfl)
/-! X8_notes (I)V -/
theorem in_X8_notes_X8 : ∀ w ∈ u_ws RX8 TX8 39, w ∈ wsX8_notes := by decide +kernel
set_option maxHeartbeats 4000000 in
set_option maxRecDepth 100000 in
theorem wb_X8_notes_2 {p : Program} {l : Launch} {e : Env} {s : State} {m : MethodId} {args : Array Value} {below : List Frame} {meth : Method} {c : Code} {D : va_G} {cA : Nat → ClassId} {ad : Nat → Nat} (X : wd_X p s m args meth c cX8_notes 3 wsX8_notes RX8 none D cA ad dsM.length) {kh2 : Int32 → Int32 → Mem → Option Mem} {M' : Mem} (hk2 : ∀ (x1 : Int32) (x2 : Int32) (M : Mem) (H : Heap) (locs : List Loc) (ls : Array Slot), kh2 x1 x2 M = some M' → wd_P D cA ad dsM M H → va_S (wd_A ad dsM.length) s.heap H locs → lv_has ls 3 [(0, .ref (ad 0)), (1, .int x1), (2, .int x2)] → W p l e (headSpec wsX8_notes rm_X8_notes).room s m args below meth c H locs 0 0 (MQ below (wm_Qv D cA ad dsM M') args s 0 0 (wd_A ad dsM.length)) (F0 m 2 ls [])) (x1 : Int32) (x2 : Int32) (M : Mem) (H : Heap) (locs : List Loc) (ls : Array Slot) (hF : B_X8_notes_2 kh2 x1 x2 M = some M') (hP : wd_P D cA ad dsM M H) (hS : va_S (wd_A ad dsM.length) s.heap H locs) (hl : lv_has ls 3 [(0, .ref (ad 0)), (1, .int x1), (2, .int x2)]) : W p l e (headSpec wsX8_notes rm_X8_notes).room s m args below meth c H locs 0 0 (MQ below (wm_Qv D cA ad dsM M') args s 0 0 (wd_A ad dsM.length)) (F0 m 2 ls []) := by
  have hx := X.1.1
  have hb := X.1.2.1
  have hts := X.1.2.2.2.2
  unfold B_X8_notes_2 at hF
  refine lv_iload_n hx hb dX8_notes_2 rfl (lv_at hl 2 rfl) ?_
  refine lv_aload_n hx hb dX8_notes_3 rfl (lv_at hl 0 rfl) ?_
  refine wd_getr (q := 8) X hP 0 dM_0 rfl in_X8_notes_X8 11 rfl (by decide) (by decide +kernel) dX8_notes_4 ?_
  refine lv_iload_n hx hb dX8_notes_7 rfl (lv_at hl 1 rfl) ?_
  obtain ⟨h_1, hF⟩ := gi_c hF
  refine wd_ild X hP 8 dM_8 h_1 dX8_notes_8 ?_
  refine lv_icmp_ge (tgt := 33) hx hb dX8_notes_9 (by decide) (fun c_8 => ?_) (fun c_8 => ?_)
  · have hF := if_t c_8 hF
    cases hF
    exact wd_retv X hP hS dX8_notes_33
  · have hF := if_e c_8 hF
    refine lv_aload_n hx hb dX8_notes_12 rfl (lv_at hl 0 rfl) ?_
    refine lv_aload_n hx hb dX8_notes_13 rfl (lv_at hl 0 rfl) ?_
    refine wd_getr (q := 5) X hP 0 dM_0 rfl in_X8_notes_X8 8 rfl (by decide) (by decide +kernel) dX8_notes_14 ?_
    refine lv_bipush (v := (6 : Int32)) hx hb dX8_notes_17 (by decide) ?_
    refine lv_iload_n hx hb dX8_notes_19 rfl (lv_at hl 1 rfl) ?_
    refine lv_imul hx hb dX8_notes_20 ?_
    refine lv_iload_n hx hb dX8_notes_21 rfl (lv_at hl 2 rfl) ?_
    refine lv_iadd hx hb dX8_notes_22 ?_
    obtain ⟨h_2, hF⟩ := gi_c hF
    refine wd_cld X hP 5 dM_5 h_2 dX8_notes_23 ?_
    obtain ⟨M_5, hc_4, hF⟩ := bd_c hF
    refine wd_callv X hP hS [.int (M 5 (((6 : Int32) * x1) + x2).toNatClampNeg)] [] (c_X8_put l D cA ad X.2.2.2.2   (M 5 (((6 : Int32) * x1) + x2).toNatClampNeg) M hc_4) (cwV 1 hts gX8_notes_X8_put rfl rfl rfl (by decide +kernel) ⟨(by show _ ≤ _; first | exact Nat.le_of_ble_eq_true rfl | (simp [headSpec, rm_X8_notes]; omega) | omega), (by show _ ≤ _; first | exact Nat.le_of_ble_eq_true rfl | (simp [headSpec, rm_X8_notes]; omega) | omega)⟩) dM_0 rfl rfl hl.1 rfl (Nat.le_of_ble_eq_true rfl) dX8_notes_24 (fun H locs hP hS => ?_)
    obtain ⟨x2_6, e_7, hF⟩ := nm_c hF
    refine lv_iinc (v := x2_6) (lv' := [(2, .int x2_6), (0, .ref (ad 0)), (1, .int x1)]) hx hb dX8_notes_27 hl (k := 2) rfl (by rw [e_7]; rfl) (by decide) rfl (fun ls hl => ?_)
    refine lv_goto (tgt := 2) hx hb dX8_notes_30 (by decide) ?_
    exact hk2 x1 x2_6 M_5 _ _ _ hF hP hS (lv_sub hl [1, 2, 0] rfl)
set_option maxHeartbeats 4000000 in
set_option maxRecDepth 100000 in
theorem wh_X8_notes_2 {p : Program} {l : Launch} {e : Env} {s : State} {m : MethodId} {args : Array Value} {below : List Frame} {meth : Method} {c : Code} {D : va_G} {cA : Nat → ClassId} {ad : Nat → Nat} (X : wd_X p s m args meth c cX8_notes 3 wsX8_notes RX8 none D cA ad dsM.length) {M' : Mem}  : ∀ (n : Nat) (x1 : Int32) (x2 : Int32) (M : Mem) (H : Heap) (locs : List Loc) (ls : Array Slot), H_X8_notes_2  n x1 x2 M = some M' → wd_P D cA ad dsM M H → va_S (wd_A ad dsM.length) s.heap H locs → lv_has ls 3 [(0, .ref (ad 0)), (1, .int x1), (2, .int x2)] → W p l e (headSpec wsX8_notes rm_X8_notes).room s m args below meth c H locs 0 0 (MQ below (wm_Qv D cA ad dsM M') args s 0 0 (wd_A ad dsM.length)) (F0 m 2 ls []) := by
  intro n
  induction n with
  | zero => intro x1 x2 M H locs ls hF; cases hF
  | succ n ih => intro x1 x2 M H locs ls hF hP hS hl; exact wb_X8_notes_2 X (kh2 := H_X8_notes_2  n) ih x1 x2 M H locs ls hF hP hS hl
set_option maxHeartbeats 4000000 in
set_option maxRecDepth 100000 in
theorem c_X8_notes (l : Launch) (D : va_G) (cA : Nat → ClassId) (ad : Nat → Nat) (hj : wd_inj ad dsM.length)   (x1 : Int32) (M : Mem) {M' : Mem} (hF : F_X8_notes x1 M = some M') : wm_v l yX8_notes wsX8_notes rm_X8_notes D cA ad dsM M [.ref (ad 0), .int x1] M' := by
  refine Met.ofW (cc := cX8_notes) (maxL := 3) (ret := none) (by decide) rfl ?_
  intro p e s m args below meth c s₁ B hml hv
  obtain ⟨rfl, hP, hK⟩ := hv
  have X : wd_X p s m _ meth c cX8_notes 3 wsX8_notes RX8 none D cA ad dsM.length := ⟨⟨B.exec, B.bytes, hml, findClass_of_methodNamed B.named, atoms_spec (ws := wsX8_notes) B.pre⟩, hK, B.notSynchronized, B.returns, hj⟩
  have hl := lv_entry ([.ref (ad 0), .int x1]) (n := 3) (Nat.le_of_ble_eq_true rfl)
  rw [lg_entry_eq]
  generalize (lg_sl ([.ref (ad 0), .int x1]) ++ List.replicate (3 - (lg_sl ([.ref (ad 0), .int x1])).length) Slot.unset).toArray = ls at hl ⊢
  have hl : lv_has ls 3 [(0, .ref (ad 0)), (1, .int x1)] := hl
  have hS : va_S (wd_A ad dsM.length) s.heap s.heap [] := va_S.rf
  have hx := X.1.1
  have hb := X.1.2.1
  have hts := X.1.2.2.2.2
  unfold F_X8_notes at hF
  refine lv_iconst (v := (0 : Int32)) hx hb dX8_notes_0 (by decide) ?_
  refine lv_istore_n (lv' := [(2, .int (0 : Int32)), (0, .ref (ad 0)), (1, .int x1)]) hx hb dX8_notes_1 rfl hl (by decide) rfl (fun ls hl => ?_)
  exact wh_X8_notes_2 X    100 x1 (0 : Int32) M _ _ _ hF hP hS (lv_sub hl [1, 2, 0] rfl)
/-! X8_enter (II)V -/
theorem in_X8_enter_X8 : ∀ w ∈ u_ws RX8 TX8 39, w ∈ wsX8_enter := by decide +kernel
set_option maxHeartbeats 4000000 in
set_option maxRecDepth 100000 in
theorem wb_X8_enter_198 {p : Program} {l : Launch} {e : Env} {s : State} {m : MethodId} {args : Array Value} {below : List Frame} {meth : Method} {c : Code} {D : va_G} {cA : Nat → ClassId} {ad : Nat → Nat} (X : wd_X p s m args meth c cX8_enter 8 wsX8_enter RX8 none D cA ad dsM.length) {kh9 : Int32 → Int32 → Mem → Option Mem} {kh146 : Int32 → Int32 → Int32 → Int32 → Mem → Option Mem} {M' : Mem} (hk9 : ∀ (x2 : Int32) (x3 : Int32) (M : Mem) (H : Heap) (locs : List Loc) (ls : Array Slot), kh9 x2 x3 M = some M' → wd_P D cA ad dsM M H → va_S (wd_A ad dsM.length) s.heap H locs → lv_has ls 8 [(0, .ref (ad 0)), (2, .int x2), (3, .int x3)] → W p l e (headSpec wsX8_enter rm_X8_enter).room s m args below meth c H locs 0 0 (MQ below (wm_Qv D cA ad dsM M') args s 0 0 (wd_A ad dsM.length)) (F0 m 9 ls [])) (hk146 : ∀ (x2 : Int32) (x3 : Int32) (x4 : Int32) (x6 : Int32) (M : Mem) (H : Heap) (locs : List Loc) (ls : Array Slot), kh146 x2 x3 x4 x6 M = some M' → wd_P D cA ad dsM M H → va_S (wd_A ad dsM.length) s.heap H locs → lv_has ls 8 [(0, .ref (ad 0)), (2, .int x2), (3, .int x3), (4, .int x4), (6, .int x6)] → W p l e (headSpec wsX8_enter rm_X8_enter).room s m args below meth c H locs 0 0 (MQ below (wm_Qv D cA ad dsM M') args s 0 0 (wd_A ad dsM.length)) (F0 m 146 ls [])) (x2 : Int32) (x3 : Int32) (x4 : Int32) (x6 : Int32) (M : Mem) (H : Heap) (locs : List Loc) (ls : Array Slot) (hF : B_X8_enter_198 kh9 kh146 x2 x3 x4 x6 M = some M') (hP : wd_P D cA ad dsM M H) (hS : va_S (wd_A ad dsM.length) s.heap H locs) (hl : lv_has ls 8 [(0, .ref (ad 0)), (2, .int x2), (3, .int x3), (4, .int x4), (6, .int x6)]) : W p l e (headSpec wsX8_enter rm_X8_enter).room s m args below meth c H locs 0 0 (MQ below (wm_Qv D cA ad dsM M') args s 0 0 (wd_A ad dsM.length)) (F0 m 198 ls []) := by
  have hx := X.1.1
  have hb := X.1.2.1
  have hts := X.1.2.2.2.2
  unfold B_X8_enter_198 at hF
  obtain ⟨x6_1, e_2, hF⟩ := nm_c hF
  refine lv_iinc (v := x6_1) (lv' := [(6, .int x6_1), (0, .ref (ad 0)), (2, .int x2), (3, .int x3), (4, .int x4)]) hx hb dX8_enter_198 hl (k := 4) rfl (by rw [e_2]; rfl) (by decide) rfl (fun ls hl => ?_)
  refine lv_goto (tgt := 146) hx hb dX8_enter_201 (by decide) ?_
  exact hk146 x2 x3 x4 x6_1 M _ _ _ hF hP hS (lv_sub hl [1, 2, 3, 4, 0] rfl)
set_option maxHeartbeats 4000000 in
set_option maxRecDepth 100000 in
theorem wb_X8_enter_187 {p : Program} {l : Launch} {e : Env} {s : State} {m : MethodId} {args : Array Value} {below : List Frame} {meth : Method} {c : Code} {D : va_G} {cA : Nat → ClassId} {ad : Nat → Nat} (X : wd_X p s m args meth c cX8_enter 8 wsX8_enter RX8 none D cA ad dsM.length) {kh9 : Int32 → Int32 → Mem → Option Mem} {kh146 : Int32 → Int32 → Int32 → Int32 → Mem → Option Mem} {M' : Mem} (hk9 : ∀ (x2 : Int32) (x3 : Int32) (M : Mem) (H : Heap) (locs : List Loc) (ls : Array Slot), kh9 x2 x3 M = some M' → wd_P D cA ad dsM M H → va_S (wd_A ad dsM.length) s.heap H locs → lv_has ls 8 [(0, .ref (ad 0)), (2, .int x2), (3, .int x3)] → W p l e (headSpec wsX8_enter rm_X8_enter).room s m args below meth c H locs 0 0 (MQ below (wm_Qv D cA ad dsM M') args s 0 0 (wd_A ad dsM.length)) (F0 m 9 ls [])) (hk146 : ∀ (x2 : Int32) (x3 : Int32) (x4 : Int32) (x6 : Int32) (M : Mem) (H : Heap) (locs : List Loc) (ls : Array Slot), kh146 x2 x3 x4 x6 M = some M' → wd_P D cA ad dsM M H → va_S (wd_A ad dsM.length) s.heap H locs → lv_has ls 8 [(0, .ref (ad 0)), (2, .int x2), (3, .int x3), (4, .int x4), (6, .int x6)] → W p l e (headSpec wsX8_enter rm_X8_enter).room s m args below meth c H locs 0 0 (MQ below (wm_Qv D cA ad dsM M') args s 0 0 (wd_A ad dsM.length)) (F0 m 146 ls [])) (x2 : Int32) (x3 : Int32) (x4 : Int32) (x6 : Int32) (M : Mem) (H : Heap) (locs : List Loc) (ls : Array Slot) (hF : B_X8_enter_187 kh9 kh146 x2 x3 x4 x6 M = some M') (hP : wd_P D cA ad dsM M H) (hS : va_S (wd_A ad dsM.length) s.heap H locs) (hl : lv_has ls 8 [(0, .ref (ad 0)), (2, .int x2), (3, .int x3), (4, .int x4), (6, .int x6)]) : W p l e (headSpec wsX8_enter rm_X8_enter).room s m args below meth c H locs 0 0 (MQ below (wm_Qv D cA ad dsM M') args s 0 0 (wd_A ad dsM.length)) (F0 m 187 ls []) := by
  have hx := X.1.1
  have hb := X.1.2.1
  have hts := X.1.2.2.2.2
  unfold B_X8_enter_187 at hF
  refine lv_aload_n hx hb dX8_enter_187 rfl (lv_at hl 0 rfl) ?_
  refine wd_getr (q := 25) X hP 0 dM_0 rfl in_X8_enter_X8 34 rfl (by decide) (by decide +kernel) dX8_enter_188 ?_
  refine lv_iload_n hx hb dX8_enter_191 rfl (lv_at hl 2 rfl) ?_
  refine lv_iload hx hb dX8_enter_192 (lv_at hl 4 rfl) ?_
  obtain ⟨h_1, hF⟩ := gi_c hF
  obtain ⟨M_2, e_3, hF⟩ := wr_c hF
  refine wd_ist X hP hS 25 dM_25 h_1 dX8_enter_194 (fun H locs hP hS => ?_)
  rw [← e_3] at hP
  obtain ⟨x3_4, e_5, hF⟩ := nm_c hF
  refine lv_iinc (v := x3_4) (lv' := [(3, .int x3_4), (0, .ref (ad 0)), (2, .int x2), (4, .int x4), (6, .int x6)]) hx hb dX8_enter_195 hl (k := 2) rfl (by rw [e_5]; rfl) (by decide) rfl (fun ls hl => ?_)
  exact wb_X8_enter_198 X  hk9 hk146  x2 x3_4 x4 x6 M_2 _ _ _ hF hP hS (lv_sub hl [1, 2, 0, 3, 4] rfl)
set_option maxHeartbeats 4000000 in
set_option maxRecDepth 100000 in
theorem wb_X8_enter_146 {p : Program} {l : Launch} {e : Env} {s : State} {m : MethodId} {args : Array Value} {below : List Frame} {meth : Method} {c : Code} {D : va_G} {cA : Nat → ClassId} {ad : Nat → Nat} (X : wd_X p s m args meth c cX8_enter 8 wsX8_enter RX8 none D cA ad dsM.length) {kh9 : Int32 → Int32 → Mem → Option Mem} {kh146 : Int32 → Int32 → Int32 → Int32 → Mem → Option Mem} {M' : Mem} (hk9 : ∀ (x2 : Int32) (x3 : Int32) (M : Mem) (H : Heap) (locs : List Loc) (ls : Array Slot), kh9 x2 x3 M = some M' → wd_P D cA ad dsM M H → va_S (wd_A ad dsM.length) s.heap H locs → lv_has ls 8 [(0, .ref (ad 0)), (2, .int x2), (3, .int x3)] → W p l e (headSpec wsX8_enter rm_X8_enter).room s m args below meth c H locs 0 0 (MQ below (wm_Qv D cA ad dsM M') args s 0 0 (wd_A ad dsM.length)) (F0 m 9 ls [])) (hk146 : ∀ (x2 : Int32) (x3 : Int32) (x4 : Int32) (x6 : Int32) (M : Mem) (H : Heap) (locs : List Loc) (ls : Array Slot), kh146 x2 x3 x4 x6 M = some M' → wd_P D cA ad dsM M H → va_S (wd_A ad dsM.length) s.heap H locs → lv_has ls 8 [(0, .ref (ad 0)), (2, .int x2), (3, .int x3), (4, .int x4), (6, .int x6)] → W p l e (headSpec wsX8_enter rm_X8_enter).room s m args below meth c H locs 0 0 (MQ below (wm_Qv D cA ad dsM M') args s 0 0 (wd_A ad dsM.length)) (F0 m 146 ls [])) (x2 : Int32) (x3 : Int32) (x4 : Int32) (x6 : Int32) (M : Mem) (H : Heap) (locs : List Loc) (ls : Array Slot) (hF : B_X8_enter_146 kh9 kh146 x2 x3 x4 x6 M = some M') (hP : wd_P D cA ad dsM M H) (hS : va_S (wd_A ad dsM.length) s.heap H locs) (hl : lv_has ls 8 [(0, .ref (ad 0)), (2, .int x2), (3, .int x3), (4, .int x4), (6, .int x6)]) : W p l e (headSpec wsX8_enter rm_X8_enter).room s m args below meth c H locs 0 0 (MQ below (wm_Qv D cA ad dsM M') args s 0 0 (wd_A ad dsM.length)) (F0 m 146 ls []) := by
  have hx := X.1.1
  have hb := X.1.2.1
  have hts := X.1.2.2.2.2
  unfold B_X8_enter_146 at hF
  refine lv_iload hx hb dX8_enter_146 (lv_at hl 4 rfl) ?_
  refine lv_iload hx hb dX8_enter_148 (lv_at hl 3 rfl) ?_
  refine lv_icmp_le (tgt := 204) hx hb dX8_enter_150 (by decide) (fun c_7 => ?_) (fun c_7 => ?_)
  · have hF := if_t c_7 hF
    refine lv_goto (tgt := 9) hx hb dX8_enter_204 (by decide) ?_
    exact hk9 x2 x3 M _ _ _ hF hP hS (lv_sub hl [0, 1, 2] rfl)
  · have hF := if_e c_7 hF
    refine lv_aload_n hx hb dX8_enter_153 rfl (lv_at hl 0 rfl) ?_
    refine wd_getr (q := 6) X hP 0 dM_0 rfl in_X8_enter_X8 9 rfl (by decide) (by decide +kernel) dX8_enter_154 ?_
    refine lv_iload hx hb dX8_enter_157 (lv_at hl 4 rfl) ?_
    obtain ⟨h_1, hF⟩ := gi_c hF
    refine wd_ild X hP 6 dM_6 h_1 dX8_enter_159 ?_
    refine lv_iload hx hb dX8_enter_160 (lv_at hl 3 rfl) ?_
    refine lv_icmp_ne (tgt := 198) hx hb dX8_enter_162 (by decide) (fun c_6 => ?_) (fun c_6 => ?_)
    · have hF := if_e c_6 hF
      exact wb_X8_enter_198 X  hk9 hk146  x2 x3 x4 x6 M _ _ _ hF hP hS (lv_sub hl [0, 1, 2, 3, 4] rfl)
    · have hF := if_t c_6 hF
      refine lv_aload_n hx hb dX8_enter_165 rfl (lv_at hl 0 rfl) ?_
      refine wd_getr (q := 9) X hP 0 dM_0 rfl in_X8_enter_X8 12 rfl (by decide) (by decide +kernel) dX8_enter_166 ?_
      refine lv_iload hx hb dX8_enter_169 (lv_at hl 3 rfl) ?_
      obtain ⟨h_2, hF⟩ := gi_c hF
      refine wd_zld X hP 9 dM_9 h_2 dX8_enter_171 ?_
      refine lv_if_ne (tgt := 187) hx hb dX8_enter_172 (by decide) (fun c_5 => ?_) (fun c_5 => ?_)
      · have hF := if_e c_5 hF
        exact wb_X8_enter_187 X  hk9 hk146  x2 x3 x4 x6 M _ _ _ hF hP hS (lv_sub hl [0, 1, 2, 3, 4] rfl)
      · have hF := if_t c_5 hF
        refine lv_aload_n hx hb dX8_enter_175 rfl (lv_at hl 0 rfl) ?_
        refine wd_getr (q := 19) X hP 0 dM_0 rfl in_X8_enter_X8 24 rfl (by decide) (by decide +kernel) dX8_enter_176 ?_
        refine lv_iload hx hb dX8_enter_179 (lv_at hl 3 rfl) ?_
        obtain ⟨h_3, hF⟩ := gi_c hF
        refine wd_ild X hP 19 dM_19 h_3 dX8_enter_181 ?_
        refine lv_iload hx hb dX8_enter_182 (lv_at hl 4 rfl) ?_
        refine lv_icmp_ne (tgt := 198) hx hb dX8_enter_184 (by decide) (fun c_4 => ?_) (fun c_4 => ?_)
        · have hF := if_e c_4 hF
          exact wb_X8_enter_198 X  hk9 hk146  x2 x3 x4 x6 M _ _ _ hF hP hS (lv_sub hl [0, 1, 2, 3, 4] rfl)
        · have hF := if_t c_4 hF
          exact wb_X8_enter_187 X  hk9 hk146  x2 x3 x4 x6 M _ _ _ hF hP hS (lv_sub hl [0, 1, 2, 3, 4] rfl)
set_option maxHeartbeats 4000000 in
set_option maxRecDepth 100000 in
theorem wh_X8_enter_146 {p : Program} {l : Launch} {e : Env} {s : State} {m : MethodId} {args : Array Value} {below : List Frame} {meth : Method} {c : Code} {D : va_G} {cA : Nat → ClassId} {ad : Nat → Nat} (X : wd_X p s m args meth c cX8_enter 8 wsX8_enter RX8 none D cA ad dsM.length) {kh9 : Int32 → Int32 → Mem → Option Mem} {M' : Mem} (hk9 : ∀ (x2 : Int32) (x3 : Int32) (M : Mem) (H : Heap) (locs : List Loc) (ls : Array Slot), kh9 x2 x3 M = some M' → wd_P D cA ad dsM M H → va_S (wd_A ad dsM.length) s.heap H locs → lv_has ls 8 [(0, .ref (ad 0)), (2, .int x2), (3, .int x3)] → W p l e (headSpec wsX8_enter rm_X8_enter).room s m args below meth c H locs 0 0 (MQ below (wm_Qv D cA ad dsM M') args s 0 0 (wd_A ad dsM.length)) (F0 m 9 ls [])) : ∀ (n : Nat) (x2 : Int32) (x3 : Int32) (x4 : Int32) (x6 : Int32) (M : Mem) (H : Heap) (locs : List Loc) (ls : Array Slot), H_X8_enter_146 kh9 n x2 x3 x4 x6 M = some M' → wd_P D cA ad dsM M H → va_S (wd_A ad dsM.length) s.heap H locs → lv_has ls 8 [(0, .ref (ad 0)), (2, .int x2), (3, .int x3), (4, .int x4), (6, .int x6)] → W p l e (headSpec wsX8_enter rm_X8_enter).room s m args below meth c H locs 0 0 (MQ below (wm_Qv D cA ad dsM M') args s 0 0 (wd_A ad dsM.length)) (F0 m 146 ls []) := by
  intro n
  induction n with
  | zero => intro x2 x3 x4 x6 M H locs ls hF; cases hF
  | succ n ih => intro x2 x3 x4 x6 M H locs ls hF hP hS hl; exact wb_X8_enter_146 X (kh146 := H_X8_enter_146 kh9 n) hk9 ih x2 x3 x4 x6 M H locs ls hF hP hS hl
set_option maxHeartbeats 4000000 in
set_option maxRecDepth 100000 in
theorem wb_X8_enter_132 {p : Program} {l : Launch} {e : Env} {s : State} {m : MethodId} {args : Array Value} {below : List Frame} {meth : Method} {c : Code} {D : va_G} {cA : Nat → ClassId} {ad : Nat → Nat} (X : wd_X p s m args meth c cX8_enter 8 wsX8_enter RX8 none D cA ad dsM.length) {kh9 : Int32 → Int32 → Mem → Option Mem} {kh67 : Int32 → Int32 → Int32 → Int32 → Int32 → Mem → Option Mem} {M' : Mem} (hk9 : ∀ (x2 : Int32) (x3 : Int32) (M : Mem) (H : Heap) (locs : List Loc) (ls : Array Slot), kh9 x2 x3 M = some M' → wd_P D cA ad dsM M H → va_S (wd_A ad dsM.length) s.heap H locs → lv_has ls 8 [(0, .ref (ad 0)), (2, .int x2), (3, .int x3)] → W p l e (headSpec wsX8_enter rm_X8_enter).room s m args below meth c H locs 0 0 (MQ below (wm_Qv D cA ad dsM M') args s 0 0 (wd_A ad dsM.length)) (F0 m 9 ls [])) (hk67 : ∀ (x2 : Int32) (x3 : Int32) (x4 : Int32) (x5 : Int32) (x6 : Int32) (M : Mem) (H : Heap) (locs : List Loc) (ls : Array Slot), kh67 x2 x3 x4 x5 x6 M = some M' → wd_P D cA ad dsM M H → va_S (wd_A ad dsM.length) s.heap H locs → lv_has ls 8 [(0, .ref (ad 0)), (2, .int x2), (3, .int x3), (4, .int x4), (5, .int x5), (6, .int x6)] → W p l e (headSpec wsX8_enter rm_X8_enter).room s m args below meth c H locs 0 0 (MQ below (wm_Qv D cA ad dsM M') args s 0 0 (wd_A ad dsM.length)) (F0 m 67 ls [])) (x2 : Int32) (x3 : Int32) (x4 : Int32) (x5 : Int32) (x6 : Int32) (M : Mem) (H : Heap) (locs : List Loc) (ls : Array Slot) (hF : B_X8_enter_132 kh9 kh67 x2 x3 x4 x5 x6 M = some M') (hP : wd_P D cA ad dsM M H) (hS : va_S (wd_A ad dsM.length) s.heap H locs) (hl : lv_has ls 8 [(0, .ref (ad 0)), (2, .int x2), (3, .int x3), (4, .int x4), (5, .int x5), (6, .int x6)]) : W p l e (headSpec wsX8_enter rm_X8_enter).room s m args below meth c H locs 0 0 (MQ below (wm_Qv D cA ad dsM M') args s 0 0 (wd_A ad dsM.length)) (F0 m 132 ls []) := by
  have hx := X.1.1
  have hb := X.1.2.1
  have hts := X.1.2.2.2.2
  unfold B_X8_enter_132 at hF
  obtain ⟨x6_1, e_2, hF⟩ := nm_c hF
  refine lv_iinc (v := x6_1) (lv' := [(6, .int x6_1), (0, .ref (ad 0)), (2, .int x2), (3, .int x3), (4, .int x4), (5, .int x5)]) hx hb dX8_enter_132 hl (k := 5) rfl (by rw [e_2]; rfl) (by decide) rfl (fun ls hl => ?_)
  refine lv_goto (tgt := 67) hx hb dX8_enter_135 (by decide) ?_
  exact hk67 x2 x3 x4 x5 x6_1 M _ _ _ hF hP hS (lv_sub hl [1, 2, 3, 4, 5, 0] rfl)
set_option maxHeartbeats 4000000 in
set_option maxRecDepth 100000 in
theorem wb_X8_enter_94 {p : Program} {l : Launch} {e : Env} {s : State} {m : MethodId} {args : Array Value} {below : List Frame} {meth : Method} {c : Code} {D : va_G} {cA : Nat → ClassId} {ad : Nat → Nat} (X : wd_X p s m args meth c cX8_enter 8 wsX8_enter RX8 none D cA ad dsM.length) {kh9 : Int32 → Int32 → Mem → Option Mem} {kh67 : Int32 → Int32 → Int32 → Int32 → Int32 → Mem → Option Mem} {M' : Mem} (hk9 : ∀ (x2 : Int32) (x3 : Int32) (M : Mem) (H : Heap) (locs : List Loc) (ls : Array Slot), kh9 x2 x3 M = some M' → wd_P D cA ad dsM M H → va_S (wd_A ad dsM.length) s.heap H locs → lv_has ls 8 [(0, .ref (ad 0)), (2, .int x2), (3, .int x3)] → W p l e (headSpec wsX8_enter rm_X8_enter).room s m args below meth c H locs 0 0 (MQ below (wm_Qv D cA ad dsM M') args s 0 0 (wd_A ad dsM.length)) (F0 m 9 ls [])) (hk67 : ∀ (x2 : Int32) (x3 : Int32) (x4 : Int32) (x5 : Int32) (x6 : Int32) (M : Mem) (H : Heap) (locs : List Loc) (ls : Array Slot), kh67 x2 x3 x4 x5 x6 M = some M' → wd_P D cA ad dsM M H → va_S (wd_A ad dsM.length) s.heap H locs → lv_has ls 8 [(0, .ref (ad 0)), (2, .int x2), (3, .int x3), (4, .int x4), (5, .int x5), (6, .int x6)] → W p l e (headSpec wsX8_enter rm_X8_enter).room s m args below meth c H locs 0 0 (MQ below (wm_Qv D cA ad dsM M') args s 0 0 (wd_A ad dsM.length)) (F0 m 67 ls [])) (x2 : Int32) (x3 : Int32) (x4 : Int32) (x5 : Int32) (x6 : Int32) (t0 : Int32) (M : Mem) (H : Heap) (locs : List Loc) (ls : Array Slot) (hF : B_X8_enter_94 kh9 kh67 x2 x3 x4 x5 x6 t0 M = some M') (hP : wd_P D cA ad dsM M H) (hS : va_S (wd_A ad dsM.length) s.heap H locs) (hl : lv_has ls 8 [(0, .ref (ad 0)), (2, .int x2), (3, .int x3), (4, .int x4), (5, .int x5), (6, .int x6)]) : W p l e (headSpec wsX8_enter rm_X8_enter).room s m args below meth c H locs 0 0 (MQ below (wm_Qv D cA ad dsM M') args s 0 0 (wd_A ad dsM.length)) (F0 m 94 ls [.int t0]) := by
  have hx := X.1.1
  have hb := X.1.2.1
  have hts := X.1.2.2.2.2
  unfold B_X8_enter_94 at hF
  refine lv_istore (lv' := [(7, .int t0), (0, .ref (ad 0)), (2, .int x2), (3, .int x3), (4, .int x4), (5, .int x5), (6, .int x6)]) hx hb dX8_enter_94 hl (by decide) rfl (fun ls hl => ?_)
  refine lv_aload_n hx hb dX8_enter_96 rfl (lv_at hl 1 rfl) ?_
  refine wd_getr (q := 6) X hP 0 dM_0 rfl in_X8_enter_X8 9 rfl (by decide) (by decide +kernel) dX8_enter_97 ?_
  refine lv_iload hx hb dX8_enter_100 (lv_at hl 6 rfl) ?_
  obtain ⟨h_1, hF⟩ := gi_c hF
  refine wd_ild X hP 6 dM_6 h_1 dX8_enter_102 ?_
  refine lv_iload hx hb dX8_enter_103 (lv_at hl 4 rfl) ?_
  refine lv_icmp_ne (tgt := 132) hx hb dX8_enter_105 (by decide) (fun c_8 => ?_) (fun c_8 => ?_)
  · have hF := if_e c_8 hF
    exact wb_X8_enter_132 X  hk9 hk67  x2 x3 x4 x5 x6 M _ _ _ hF hP hS (lv_sub hl [1, 2, 3, 4, 5, 6] rfl)
  · have hF := if_t c_8 hF
    refine lv_aload_n hx hb dX8_enter_108 rfl (lv_at hl 1 rfl) ?_
    refine wd_getr (q := 9) X hP 0 dM_0 rfl in_X8_enter_X8 12 rfl (by decide) (by decide +kernel) dX8_enter_109 ?_
    refine lv_iload hx hb dX8_enter_112 (lv_at hl 4 rfl) ?_
    obtain ⟨h_2, hF⟩ := gi_c hF
    refine wd_zld X hP 9 dM_9 h_2 dX8_enter_114 ?_
    refine lv_if_ne (tgt := 132) hx hb dX8_enter_115 (by decide) (fun c_7 => ?_) (fun c_7 => ?_)
    · have hF := if_e c_7 hF
      exact wb_X8_enter_132 X  hk9 hk67  x2 x3 x4 x5 x6 M _ _ _ hF hP hS (lv_sub hl [1, 2, 3, 4, 5, 6] rfl)
    · have hF := if_t c_7 hF
      refine lv_iload hx hb dX8_enter_118 (lv_at hl 0 rfl) ?_
      refine lv_if_eq (tgt := 132) hx hb dX8_enter_120 (by decide) (fun c_6 => ?_) (fun c_6 => ?_)
      · have hF := if_t c_6 hF
        exact wb_X8_enter_132 X  hk9 hk67  x2 x3 x4 x5 x6 M _ _ _ hF hP hS (lv_sub hl [1, 2, 3, 4, 5, 6] rfl)
      · have hF := if_e c_6 hF
        refine lv_aload_n hx hb dX8_enter_123 rfl (lv_at hl 1 rfl) ?_
        refine wd_getr (q := 19) X hP 0 dM_0 rfl in_X8_enter_X8 24 rfl (by decide) (by decide +kernel) dX8_enter_124 ?_
        refine lv_iload hx hb dX8_enter_127 (lv_at hl 4 rfl) ?_
        refine lv_iload hx hb dX8_enter_129 (lv_at hl 6 rfl) ?_
        obtain ⟨h_3, hF⟩ := gi_c hF
        obtain ⟨M_4, e_5, hF⟩ := wr_c hF
        refine wd_ist X hP hS 19 dM_19 h_3 dX8_enter_131 (fun H locs hP hS => ?_)
        rw [← e_5] at hP
        exact wb_X8_enter_132 X  hk9 hk67  x2 x3 x4 x5 x6 M_4 _ _ _ hF hP hS (lv_sub hl [1, 2, 3, 4, 5, 6] rfl)
set_option maxHeartbeats 4000000 in
set_option maxRecDepth 100000 in
theorem wb_X8_enter_93 {p : Program} {l : Launch} {e : Env} {s : State} {m : MethodId} {args : Array Value} {below : List Frame} {meth : Method} {c : Code} {D : va_G} {cA : Nat → ClassId} {ad : Nat → Nat} (X : wd_X p s m args meth c cX8_enter 8 wsX8_enter RX8 none D cA ad dsM.length) {kh9 : Int32 → Int32 → Mem → Option Mem} {kh67 : Int32 → Int32 → Int32 → Int32 → Int32 → Mem → Option Mem} {M' : Mem} (hk9 : ∀ (x2 : Int32) (x3 : Int32) (M : Mem) (H : Heap) (locs : List Loc) (ls : Array Slot), kh9 x2 x3 M = some M' → wd_P D cA ad dsM M H → va_S (wd_A ad dsM.length) s.heap H locs → lv_has ls 8 [(0, .ref (ad 0)), (2, .int x2), (3, .int x3)] → W p l e (headSpec wsX8_enter rm_X8_enter).room s m args below meth c H locs 0 0 (MQ below (wm_Qv D cA ad dsM M') args s 0 0 (wd_A ad dsM.length)) (F0 m 9 ls [])) (hk67 : ∀ (x2 : Int32) (x3 : Int32) (x4 : Int32) (x5 : Int32) (x6 : Int32) (M : Mem) (H : Heap) (locs : List Loc) (ls : Array Slot), kh67 x2 x3 x4 x5 x6 M = some M' → wd_P D cA ad dsM M H → va_S (wd_A ad dsM.length) s.heap H locs → lv_has ls 8 [(0, .ref (ad 0)), (2, .int x2), (3, .int x3), (4, .int x4), (5, .int x5), (6, .int x6)] → W p l e (headSpec wsX8_enter rm_X8_enter).room s m args below meth c H locs 0 0 (MQ below (wm_Qv D cA ad dsM M') args s 0 0 (wd_A ad dsM.length)) (F0 m 67 ls [])) (x2 : Int32) (x3 : Int32) (x4 : Int32) (x5 : Int32) (x6 : Int32) (M : Mem) (H : Heap) (locs : List Loc) (ls : Array Slot) (hF : B_X8_enter_93 kh9 kh67 x2 x3 x4 x5 x6 M = some M') (hP : wd_P D cA ad dsM M H) (hS : va_S (wd_A ad dsM.length) s.heap H locs) (hl : lv_has ls 8 [(0, .ref (ad 0)), (2, .int x2), (3, .int x3), (4, .int x4), (5, .int x5), (6, .int x6)]) : W p l e (headSpec wsX8_enter rm_X8_enter).room s m args below meth c H locs 0 0 (MQ below (wm_Qv D cA ad dsM M') args s 0 0 (wd_A ad dsM.length)) (F0 m 93 ls []) := by
  have hx := X.1.1
  have hb := X.1.2.1
  have hts := X.1.2.2.2.2
  unfold B_X8_enter_93 at hF
  refine lv_iconst (v := (0 : Int32)) hx hb dX8_enter_93 (by decide) ?_
  exact wb_X8_enter_94 X  hk9 hk67  x2 x3 x4 x5 x6 (0 : Int32) M _ _ _ hF hP hS (lv_sub hl [0, 1, 2, 3, 4, 5] rfl)
set_option maxHeartbeats 4000000 in
set_option maxRecDepth 100000 in
theorem wb_X8_enter_67 {p : Program} {l : Launch} {e : Env} {s : State} {m : MethodId} {args : Array Value} {below : List Frame} {meth : Method} {c : Code} {D : va_G} {cA : Nat → ClassId} {ad : Nat → Nat} (X : wd_X p s m args meth c cX8_enter 8 wsX8_enter RX8 none D cA ad dsM.length) {kh9 : Int32 → Int32 → Mem → Option Mem} {kh67 : Int32 → Int32 → Int32 → Int32 → Int32 → Mem → Option Mem} {M' : Mem} (hk9 : ∀ (x2 : Int32) (x3 : Int32) (M : Mem) (H : Heap) (locs : List Loc) (ls : Array Slot), kh9 x2 x3 M = some M' → wd_P D cA ad dsM M H → va_S (wd_A ad dsM.length) s.heap H locs → lv_has ls 8 [(0, .ref (ad 0)), (2, .int x2), (3, .int x3)] → W p l e (headSpec wsX8_enter rm_X8_enter).room s m args below meth c H locs 0 0 (MQ below (wm_Qv D cA ad dsM M') args s 0 0 (wd_A ad dsM.length)) (F0 m 9 ls [])) (hk67 : ∀ (x2 : Int32) (x3 : Int32) (x4 : Int32) (x5 : Int32) (x6 : Int32) (M : Mem) (H : Heap) (locs : List Loc) (ls : Array Slot), kh67 x2 x3 x4 x5 x6 M = some M' → wd_P D cA ad dsM M H → va_S (wd_A ad dsM.length) s.heap H locs → lv_has ls 8 [(0, .ref (ad 0)), (2, .int x2), (3, .int x3), (4, .int x4), (5, .int x5), (6, .int x6)] → W p l e (headSpec wsX8_enter rm_X8_enter).room s m args below meth c H locs 0 0 (MQ below (wm_Qv D cA ad dsM M') args s 0 0 (wd_A ad dsM.length)) (F0 m 67 ls [])) (x2 : Int32) (x3 : Int32) (x4 : Int32) (x5 : Int32) (x6 : Int32) (M : Mem) (H : Heap) (locs : List Loc) (ls : Array Slot) (hF : B_X8_enter_67 kh9 kh67 x2 x3 x4 x5 x6 M = some M') (hP : wd_P D cA ad dsM M H) (hS : va_S (wd_A ad dsM.length) s.heap H locs) (hl : lv_has ls 8 [(0, .ref (ad 0)), (2, .int x2), (3, .int x3), (4, .int x4), (5, .int x5), (6, .int x6)]) : W p l e (headSpec wsX8_enter rm_X8_enter).room s m args below meth c H locs 0 0 (MQ below (wm_Qv D cA ad dsM M') args s 0 0 (wd_A ad dsM.length)) (F0 m 67 ls []) := by
  have hx := X.1.1
  have hb := X.1.2.1
  have hts := X.1.2.2.2.2
  unfold B_X8_enter_67 at hF
  refine lv_iload hx hb dX8_enter_67 (lv_at hl 5 rfl) ?_
  refine lv_iload hx hb dX8_enter_69 (lv_at hl 3 rfl) ?_
  refine lv_icmp_le (tgt := 138) hx hb dX8_enter_71 (by decide) (fun c_7 => ?_) (fun c_7 => ?_)
  · have hF := if_t c_7 hF
    refine lv_aload_n hx hb dX8_enter_138 rfl (lv_at hl 0 rfl) ?_
    refine wd_geti X hP 0 dM_0 rfl in_X8_enter_X8 6 rfl (by decide) (by decide +kernel) dX8_enter_139 ?_
    refine lv_iconst (v := (1 : Int32)) hx hb dX8_enter_142 (by decide) ?_
    refine lv_isub hx hb dX8_enter_143 ?_
    obtain ⟨x6_1, e_2, hF⟩ := nm_c hF
    refine wd_top e_2 ?_
    refine lv_istore (lv' := [(6, .int x6_1), (0, .ref (ad 0)), (2, .int x2), (3, .int x3), (4, .int x4), (5, .int x5)]) hx hb dX8_enter_144 hl (by decide) rfl (fun ls hl => ?_)
    exact wh_X8_enter_146 X  hk9  100 x2 x3 x4 x6_1 M _ _ _ hF hP hS (lv_sub hl [1, 2, 3, 4, 0] rfl)
  · have hF := if_e c_7 hF
    refine lv_iload hx hb dX8_enter_74 (lv_at hl 4 rfl) ?_
    refine lv_if_eq (tgt := 93) hx hb dX8_enter_76 (by decide) (fun c_6 => ?_) (fun c_6 => ?_)
    · have hF := if_t c_6 hF
      exact wb_X8_enter_93 X  hk9 hk67  x2 x3 x4 x5 x6 M _ _ _ hF hP hS (lv_sub hl [0, 1, 2, 3, 4, 5] rfl)
    · have hF := if_e c_6 hF
      refine lv_aload_n hx hb dX8_enter_79 rfl (lv_at hl 0 rfl) ?_
      refine lv_iload_n hx hb dX8_enter_80 rfl (lv_at hl 1 rfl) ?_
      refine lv_iload hx hb dX8_enter_81 (lv_at hl 5 rfl) ?_
      obtain ⟨r_3, hc_4, hF⟩ := bd_c hF
      refine wd_calli X hP hS [.int x2, .int x6] [] (c_X8_within l D cA ad X.2.2.2.2   x2 x6 M hc_4) (cwV 2 hts gX8_enter_X8_within rfl rfl rfl (by decide +kernel) ⟨(by show _ ≤ _; first | exact Nat.le_of_ble_eq_true rfl | (simp [headSpec, rm_X8_enter]; omega) | omega), (by show _ ≤ _; first | exact Nat.le_of_ble_eq_true rfl | (simp [headSpec, rm_X8_enter]; omega) | omega)⟩) dM_0 rfl rfl hl.1 rfl (Nat.le_of_ble_eq_true rfl) dX8_enter_83 (fun H locs hP hS => ?_)
      refine lv_if_eq (tgt := 93) hx hb dX8_enter_86 (by decide) (fun c_5 => ?_) (fun c_5 => ?_)
      · have hF := if_t c_5 hF
        exact wb_X8_enter_93 X  hk9 hk67  x2 x3 x4 x5 x6 M _ _ _ hF hP hS (lv_sub hl [0, 1, 2, 3, 4, 5] rfl)
      · have hF := if_e c_5 hF
        refine lv_iconst (v := (1 : Int32)) hx hb dX8_enter_89 (by decide) ?_
        refine lv_goto (tgt := 94) hx hb dX8_enter_90 (by decide) ?_
        exact wb_X8_enter_94 X  hk9 hk67  x2 x3 x4 x5 x6 (1 : Int32) M _ _ _ hF hP hS (lv_sub hl [0, 1, 2, 3, 4, 5] rfl)
set_option maxHeartbeats 4000000 in
set_option maxRecDepth 100000 in
theorem wh_X8_enter_67 {p : Program} {l : Launch} {e : Env} {s : State} {m : MethodId} {args : Array Value} {below : List Frame} {meth : Method} {c : Code} {D : va_G} {cA : Nat → ClassId} {ad : Nat → Nat} (X : wd_X p s m args meth c cX8_enter 8 wsX8_enter RX8 none D cA ad dsM.length) {kh9 : Int32 → Int32 → Mem → Option Mem} {M' : Mem} (hk9 : ∀ (x2 : Int32) (x3 : Int32) (M : Mem) (H : Heap) (locs : List Loc) (ls : Array Slot), kh9 x2 x3 M = some M' → wd_P D cA ad dsM M H → va_S (wd_A ad dsM.length) s.heap H locs → lv_has ls 8 [(0, .ref (ad 0)), (2, .int x2), (3, .int x3)] → W p l e (headSpec wsX8_enter rm_X8_enter).room s m args below meth c H locs 0 0 (MQ below (wm_Qv D cA ad dsM M') args s 0 0 (wd_A ad dsM.length)) (F0 m 9 ls [])) : ∀ (n : Nat) (x2 : Int32) (x3 : Int32) (x4 : Int32) (x5 : Int32) (x6 : Int32) (M : Mem) (H : Heap) (locs : List Loc) (ls : Array Slot), H_X8_enter_67 kh9 n x2 x3 x4 x5 x6 M = some M' → wd_P D cA ad dsM M H → va_S (wd_A ad dsM.length) s.heap H locs → lv_has ls 8 [(0, .ref (ad 0)), (2, .int x2), (3, .int x3), (4, .int x4), (5, .int x5), (6, .int x6)] → W p l e (headSpec wsX8_enter rm_X8_enter).room s m args below meth c H locs 0 0 (MQ below (wm_Qv D cA ad dsM M') args s 0 0 (wd_A ad dsM.length)) (F0 m 67 ls []) := by
  intro n
  induction n with
  | zero => intro x2 x3 x4 x5 x6 M H locs ls hF; cases hF
  | succ n ih => intro x2 x3 x4 x5 x6 M H locs ls hF hP hS hl; exact wb_X8_enter_67 X (kh67 := H_X8_enter_67 kh9 n) hk9 ih x2 x3 x4 x5 x6 M H locs ls hF hP hS hl
set_option maxHeartbeats 4000000 in
set_option maxRecDepth 100000 in
theorem wb_X8_enter_57 {p : Program} {l : Launch} {e : Env} {s : State} {m : MethodId} {args : Array Value} {below : List Frame} {meth : Method} {c : Code} {D : va_G} {cA : Nat → ClassId} {ad : Nat → Nat} (X : wd_X p s m args meth c cX8_enter 8 wsX8_enter RX8 none D cA ad dsM.length) {kh9 : Int32 → Int32 → Mem → Option Mem} {M' : Mem} (hk9 : ∀ (x2 : Int32) (x3 : Int32) (M : Mem) (H : Heap) (locs : List Loc) (ls : Array Slot), kh9 x2 x3 M = some M' → wd_P D cA ad dsM M H → va_S (wd_A ad dsM.length) s.heap H locs → lv_has ls 8 [(0, .ref (ad 0)), (2, .int x2), (3, .int x3)] → W p l e (headSpec wsX8_enter rm_X8_enter).room s m args below meth c H locs 0 0 (MQ below (wm_Qv D cA ad dsM M') args s 0 0 (wd_A ad dsM.length)) (F0 m 9 ls [])) (x2 : Int32) (x3 : Int32) (x4 : Int32) (t0 : Int32) (M : Mem) (H : Heap) (locs : List Loc) (ls : Array Slot) (hF : B_X8_enter_57 kh9 x2 x3 x4 t0 M = some M') (hP : wd_P D cA ad dsM M H) (hS : va_S (wd_A ad dsM.length) s.heap H locs) (hl : lv_has ls 8 [(0, .ref (ad 0)), (2, .int x2), (3, .int x3), (4, .int x4)]) : W p l e (headSpec wsX8_enter rm_X8_enter).room s m args below meth c H locs 0 0 (MQ below (wm_Qv D cA ad dsM M') args s 0 0 (wd_A ad dsM.length)) (F0 m 57 ls [.int t0]) := by
  have hx := X.1.1
  have hb := X.1.2.1
  have hts := X.1.2.2.2.2
  unfold B_X8_enter_57 at hF
  refine lv_istore (lv' := [(5, .int t0), (0, .ref (ad 0)), (2, .int x2), (3, .int x3), (4, .int x4)]) hx hb dX8_enter_57 hl (by decide) rfl (fun ls hl => ?_)
  refine lv_aload_n hx hb dX8_enter_59 rfl (lv_at hl 1 rfl) ?_
  refine wd_geti X hP 0 dM_0 rfl in_X8_enter_X8 6 rfl (by decide) (by decide +kernel) dX8_enter_60 ?_
  refine lv_iconst (v := (1 : Int32)) hx hb dX8_enter_63 (by decide) ?_
  refine lv_isub hx hb dX8_enter_64 ?_
  obtain ⟨x6_1, e_2, hF⟩ := nm_c hF
  refine wd_top e_2 ?_
  refine lv_istore (lv' := [(6, .int x6_1), (5, .int t0), (0, .ref (ad 0)), (2, .int x2), (3, .int x3), (4, .int x4)]) hx hb dX8_enter_65 hl (by decide) rfl (fun ls hl => ?_)
  exact wh_X8_enter_67 X  hk9  100 x2 x3 x4 t0 x6_1 M _ _ _ hF hP hS (lv_sub hl [2, 3, 4, 5, 1, 0] rfl)
set_option maxHeartbeats 4000000 in
set_option maxRecDepth 100000 in
theorem wb_X8_enter_56 {p : Program} {l : Launch} {e : Env} {s : State} {m : MethodId} {args : Array Value} {below : List Frame} {meth : Method} {c : Code} {D : va_G} {cA : Nat → ClassId} {ad : Nat → Nat} (X : wd_X p s m args meth c cX8_enter 8 wsX8_enter RX8 none D cA ad dsM.length) {kh9 : Int32 → Int32 → Mem → Option Mem} {M' : Mem} (hk9 : ∀ (x2 : Int32) (x3 : Int32) (M : Mem) (H : Heap) (locs : List Loc) (ls : Array Slot), kh9 x2 x3 M = some M' → wd_P D cA ad dsM M H → va_S (wd_A ad dsM.length) s.heap H locs → lv_has ls 8 [(0, .ref (ad 0)), (2, .int x2), (3, .int x3)] → W p l e (headSpec wsX8_enter rm_X8_enter).room s m args below meth c H locs 0 0 (MQ below (wm_Qv D cA ad dsM M') args s 0 0 (wd_A ad dsM.length)) (F0 m 9 ls [])) (x2 : Int32) (x3 : Int32) (x4 : Int32) (M : Mem) (H : Heap) (locs : List Loc) (ls : Array Slot) (hF : B_X8_enter_56 kh9 x2 x3 x4 M = some M') (hP : wd_P D cA ad dsM M H) (hS : va_S (wd_A ad dsM.length) s.heap H locs) (hl : lv_has ls 8 [(0, .ref (ad 0)), (2, .int x2), (3, .int x3), (4, .int x4)]) : W p l e (headSpec wsX8_enter rm_X8_enter).room s m args below meth c H locs 0 0 (MQ below (wm_Qv D cA ad dsM M') args s 0 0 (wd_A ad dsM.length)) (F0 m 56 ls []) := by
  have hx := X.1.1
  have hb := X.1.2.1
  have hts := X.1.2.2.2.2
  unfold B_X8_enter_56 at hF
  refine lv_iconst (v := (0 : Int32)) hx hb dX8_enter_56 (by decide) ?_
  exact wb_X8_enter_57 X  hk9  x2 x3 x4 (0 : Int32) M _ _ _ hF hP hS (lv_sub hl [0, 1, 2, 3] rfl)
set_option maxHeartbeats 4000000 in
set_option maxRecDepth 100000 in
theorem wb_X8_enter_9 {p : Program} {l : Launch} {e : Env} {s : State} {m : MethodId} {args : Array Value} {below : List Frame} {meth : Method} {c : Code} {D : va_G} {cA : Nat → ClassId} {ad : Nat → Nat} (X : wd_X p s m args meth c cX8_enter 8 wsX8_enter RX8 none D cA ad dsM.length) {kh9 : Int32 → Int32 → Mem → Option Mem} {M' : Mem} (hk9 : ∀ (x2 : Int32) (x3 : Int32) (M : Mem) (H : Heap) (locs : List Loc) (ls : Array Slot), kh9 x2 x3 M = some M' → wd_P D cA ad dsM M H → va_S (wd_A ad dsM.length) s.heap H locs → lv_has ls 8 [(0, .ref (ad 0)), (2, .int x2), (3, .int x3)] → W p l e (headSpec wsX8_enter rm_X8_enter).room s m args below meth c H locs 0 0 (MQ below (wm_Qv D cA ad dsM M') args s 0 0 (wd_A ad dsM.length)) (F0 m 9 ls [])) (x2 : Int32) (x3 : Int32) (M : Mem) (H : Heap) (locs : List Loc) (ls : Array Slot) (hF : B_X8_enter_9 kh9 x2 x3 M = some M') (hP : wd_P D cA ad dsM M H) (hS : va_S (wd_A ad dsM.length) s.heap H locs) (hl : lv_has ls 8 [(0, .ref (ad 0)), (2, .int x2), (3, .int x3)]) : W p l e (headSpec wsX8_enter rm_X8_enter).room s m args below meth c H locs 0 0 (MQ below (wm_Qv D cA ad dsM M') args s 0 0 (wd_A ad dsM.length)) (F0 m 9 ls []) := by
  have hx := X.1.1
  have hb := X.1.2.1
  have hts := X.1.2.2.2.2
  unfold B_X8_enter_9 at hF
  refine lv_iload_n hx hb dX8_enter_9 rfl (lv_at hl 2 rfl) ?_
  refine lv_if_le (tgt := 207) hx hb dX8_enter_10 (by decide) (fun c_14 => ?_) (fun c_14 => ?_)
  · have hF := if_t c_14 hF
    cases hF
    exact wd_retv X hP hS dX8_enter_207
  · have hF := if_e c_14 hF
    obtain ⟨x3_1, e_2, hF⟩ := nm_c hF
    refine lv_iinc (v := x3_1) (lv' := [(3, .int x3_1), (0, .ref (ad 0)), (2, .int x2)]) hx hb dX8_enter_13 hl (k := 2) rfl (by rw [e_2]; rfl) (by decide) rfl (fun ls hl => ?_)
    refine lv_aload_n hx hb dX8_enter_16 rfl (lv_at hl 1 rfl) ?_
    refine wd_getr (q := 25) X hP 0 dM_0 rfl in_X8_enter_X8 34 rfl (by decide) (by decide +kernel) dX8_enter_17 ?_
    refine lv_iload_n hx hb dX8_enter_20 rfl (lv_at hl 0 rfl) ?_
    obtain ⟨h_3, hF⟩ := gi_c hF
    refine wd_ild X hP 25 dM_25 h_3 dX8_enter_21 ?_
    obtain ⟨x4_4, e_5, hF⟩ := nm_c hF
    refine wd_top e_5 ?_
    refine lv_istore (lv' := [(4, .int x4_4), (3, .int x3_1), (0, .ref (ad 0)), (2, .int x2)]) hx hb dX8_enter_22 hl (by decide) rfl (fun ls hl => ?_)
    refine lv_aload_n hx hb dX8_enter_24 rfl (lv_at hl 2 rfl) ?_
    refine lv_iconst (v := (2 : Int32)) hx hb dX8_enter_25 (by decide) ?_
    refine lv_iload hx hb dX8_enter_26 (lv_at hl 0 rfl) ?_
    refine lv_imul hx hb dX8_enter_28 ?_
    obtain ⟨M_8, hc_7, hF⟩ := bd_c hF
    refine wd_callv X hP hS [.int ((2 : Int32) * x4_4)] [] (c_X8_notes l D cA ad X.2.2.2.2   ((2 : Int32) * x4_4) M hc_7) (cwV 1 hts gX8_enter_X8_notes rfl rfl rfl (by decide +kernel) ⟨(by show _ ≤ _; first | exact Nat.le_of_ble_eq_true rfl | (simp [headSpec, rm_X8_enter]; omega) | omega), (by show _ ≤ _; first | exact Nat.le_of_ble_eq_true rfl | (simp [headSpec, rm_X8_enter]; omega) | omega)⟩) dM_0 rfl rfl hl.1 rfl (Nat.le_of_ble_eq_true rfl) dX8_enter_29 (fun H locs hP hS => ?_)
    refine lv_iload_n hx hb dX8_enter_32 rfl (lv_at hl 3 rfl) ?_
    refine lv_if_lt (tgt := 56) hx hb dX8_enter_33 (by decide) (fun c_13 => ?_) (fun c_13 => ?_)
    · have hF := if_t c_13 hF
      exact wb_X8_enter_56 X  hk9  x2 x3_1 x4_4 M_8 _ _ _ hF hP hS (lv_sub hl [2, 3, 1, 0] rfl)
    · have hF := if_e c_13 hF
      refine lv_iload_n hx hb dX8_enter_36 rfl (lv_at hl 3 rfl) ?_
      refine lv_iload hx hb dX8_enter_37 (lv_at hl 0 rfl) ?_
      refine lv_icmp_eq (tgt := 56) hx hb dX8_enter_39 (by decide) (fun c_12 => ?_) (fun c_12 => ?_)
      · have hF := if_t c_12 hF
        exact wb_X8_enter_56 X  hk9  x2 x3_1 x4_4 M_8 _ _ _ hF hP hS (lv_sub hl [2, 3, 1, 0] rfl)
      · have hF := if_e c_12 hF
        refine lv_aload_n hx hb dX8_enter_42 rfl (lv_at hl 2 rfl) ?_
        refine lv_iload_n hx hb dX8_enter_43 rfl (lv_at hl 3 rfl) ?_
        refine lv_iload hx hb dX8_enter_44 (lv_at hl 0 rfl) ?_
        obtain ⟨r_9, hc_10, hF⟩ := bd_c hF
        refine wd_calli X hP hS [.int x2, .int x4_4] [] (c_X8_within l D cA ad X.2.2.2.2   x2 x4_4 M_8 hc_10) (cwV 2 hts gX8_enter_X8_within rfl rfl rfl (by decide +kernel) ⟨(by show _ ≤ _; first | exact Nat.le_of_ble_eq_true rfl | (simp [headSpec, rm_X8_enter]; omega) | omega), (by show _ ≤ _; first | exact Nat.le_of_ble_eq_true rfl | (simp [headSpec, rm_X8_enter]; omega) | omega)⟩) dM_0 rfl rfl hl.1 rfl (Nat.le_of_ble_eq_true rfl) dX8_enter_46 (fun H locs hP hS => ?_)
        refine lv_if_eq (tgt := 56) hx hb dX8_enter_49 (by decide) (fun c_11 => ?_) (fun c_11 => ?_)
        · have hF := if_t c_11 hF
          exact wb_X8_enter_56 X  hk9  x2 x3_1 x4_4 M_8 _ _ _ hF hP hS (lv_sub hl [2, 3, 1, 0] rfl)
        · have hF := if_e c_11 hF
          refine lv_iconst (v := (1 : Int32)) hx hb dX8_enter_52 (by decide) ?_
          refine lv_goto (tgt := 57) hx hb dX8_enter_53 (by decide) ?_
          exact wb_X8_enter_57 X  hk9  x2 x3_1 x4_4 (1 : Int32) M_8 _ _ _ hF hP hS (lv_sub hl [2, 3, 1, 0] rfl)
set_option maxHeartbeats 4000000 in
set_option maxRecDepth 100000 in
theorem wh_X8_enter_9 {p : Program} {l : Launch} {e : Env} {s : State} {m : MethodId} {args : Array Value} {below : List Frame} {meth : Method} {c : Code} {D : va_G} {cA : Nat → ClassId} {ad : Nat → Nat} (X : wd_X p s m args meth c cX8_enter 8 wsX8_enter RX8 none D cA ad dsM.length) {M' : Mem}  : ∀ (n : Nat) (x2 : Int32) (x3 : Int32) (M : Mem) (H : Heap) (locs : List Loc) (ls : Array Slot), H_X8_enter_9  n x2 x3 M = some M' → wd_P D cA ad dsM M H → va_S (wd_A ad dsM.length) s.heap H locs → lv_has ls 8 [(0, .ref (ad 0)), (2, .int x2), (3, .int x3)] → W p l e (headSpec wsX8_enter rm_X8_enter).room s m args below meth c H locs 0 0 (MQ below (wm_Qv D cA ad dsM M') args s 0 0 (wd_A ad dsM.length)) (F0 m 9 ls []) := by
  intro n
  induction n with
  | zero => intro x2 x3 M H locs ls hF; cases hF
  | succ n ih => intro x2 x3 M H locs ls hF hP hS hl; exact wb_X8_enter_9 X (kh9 := H_X8_enter_9  n) ih x2 x3 M H locs ls hF hP hS hl
set_option maxHeartbeats 4000000 in
set_option maxRecDepth 100000 in
theorem c_X8_enter (l : Launch) (D : va_G) (cA : Nat → ClassId) (ad : Nat → Nat) (hj : wd_inj ad dsM.length)   (x1 : Int32) (x2 : Int32) (M : Mem) {M' : Mem} (hF : F_X8_enter x1 x2 M = some M') : wm_v l yX8_enter wsX8_enter rm_X8_enter D cA ad dsM M [.ref (ad 0), .int x1, .int x2] M' := by
  refine Met.ofW (cc := cX8_enter) (maxL := 8) (ret := none) (by decide) rfl ?_
  intro p e s m args below meth c s₁ B hml hv
  obtain ⟨rfl, hP, hK⟩ := hv
  have X : wd_X p s m _ meth c cX8_enter 8 wsX8_enter RX8 none D cA ad dsM.length := ⟨⟨B.exec, B.bytes, hml, findClass_of_methodNamed B.named, atoms_spec (ws := wsX8_enter) B.pre⟩, hK, B.notSynchronized, B.returns, hj⟩
  have hl := lv_entry ([.ref (ad 0), .int x1, .int x2]) (n := 8) (Nat.le_of_ble_eq_true rfl)
  rw [lg_entry_eq]
  generalize (lg_sl ([.ref (ad 0), .int x1, .int x2]) ++ List.replicate (8 - (lg_sl ([.ref (ad 0), .int x1, .int x2])).length) Slot.unset).toArray = ls at hl ⊢
  have hl : lv_has ls 8 [(0, .ref (ad 0)), (1, .int x1), (2, .int x2)] := hl
  have hS : va_S (wd_A ad dsM.length) s.heap s.heap [] := va_S.rf
  have hx := X.1.1
  have hb := X.1.2.1
  have hts := X.1.2.2.2.2
  unfold F_X8_enter at hF
  refine lv_iconst (v := (1 : Int32)) hx hb dX8_enter_0 (by decide) ?_
  refine lv_istore_n (lv' := [(3, .int (1 : Int32)), (0, .ref (ad 0)), (1, .int x1), (2, .int x2)]) hx hb dX8_enter_1 rfl hl (by decide) rfl (fun ls hl => ?_)
  refine lv_aload_n hx hb dX8_enter_2 rfl (lv_at hl 1 rfl) ?_
  refine wd_getr (q := 25) X hP 0 dM_0 rfl in_X8_enter_X8 34 rfl (by decide) (by decide +kernel) dX8_enter_3 ?_
  refine lv_iconst (v := (0 : Int32)) hx hb dX8_enter_6 (by decide) ?_
  refine lv_iload_n hx hb dX8_enter_7 rfl (lv_at hl 2 rfl) ?_
  obtain ⟨h_1, hF⟩ := gi_c hF
  obtain ⟨M_2, e_3, hF⟩ := wr_c hF
  refine wd_ist X hP hS 25 dM_25 h_1 dX8_enter_8 (fun H locs hP hS => ?_)
  rw [← e_3] at hP
  exact wh_X8_enter_9 X    10000000000 x2 (1 : Int32) M_2 _ _ _ hF hP hS (lv_sub hl [1, 3, 0] rfl)
/-! X8_firstOf (I)I -/
theorem in_X8_firstOf_X8 : ∀ w ∈ u_ws RX8 TX8 39, w ∈ wsX8_firstOf := by decide +kernel
set_option maxHeartbeats 4000000 in
set_option maxRecDepth 100000 in
theorem c_X8_firstOf (l : Launch) (D : va_G) (cA : Nat → ClassId) (ad : Nat → Nat) (hj : wd_inj ad dsM.length)   (x1 : Int32) (M : Mem) {r : Int32} (hF : F_X8_firstOf x1 M = some r) : wm_i l yX8_firstOf wsX8_firstOf rm_X8_firstOf D cA ad dsM M [.ref (ad 0), .int x1] r M := by
  refine Met.ofW (cc := cX8_firstOf) (maxL := 2) (ret := (some .int)) (by decide) rfl ?_
  intro p e s m args below meth c s₁ B hml hv
  obtain ⟨rfl, hP, hK⟩ := hv
  have X : wd_X p s m _ meth c cX8_firstOf 2 wsX8_firstOf RX8 (some .int) D cA ad dsM.length := ⟨⟨B.exec, B.bytes, hml, findClass_of_methodNamed B.named, atoms_spec (ws := wsX8_firstOf) B.pre⟩, hK, B.notSynchronized, B.returns, hj⟩
  have hl := lv_entry ([.ref (ad 0), .int x1]) (n := 2) (Nat.le_of_ble_eq_true rfl)
  rw [lg_entry_eq]
  generalize (lg_sl ([.ref (ad 0), .int x1]) ++ List.replicate (2 - (lg_sl ([.ref (ad 0), .int x1])).length) Slot.unset).toArray = ls at hl ⊢
  have hl : lv_has ls 2 [(0, .ref (ad 0)), (1, .int x1)] := hl
  have hS : va_S (wd_A ad dsM.length) s.heap s.heap [] := va_S.rf
  have hx := X.1.1
  have hb := X.1.2.1
  have hts := X.1.2.2.2.2
  unfold F_X8_firstOf at hF
  refine lv_aload_n hx hb dX8_firstOf_0 rfl (lv_at hl 0 rfl) ?_
  refine wd_getr (q := 9) X hP 0 dM_0 rfl in_X8_firstOf_X8 12 rfl (by decide) (by decide +kernel) dX8_firstOf_1 ?_
  refine lv_iload_n hx hb dX8_firstOf_4 rfl (lv_at hl 1 rfl) ?_
  obtain ⟨h_1, hF⟩ := gi_c hF
  refine wd_zld X hP 9 dM_9 h_1 dX8_firstOf_5 ?_
  refine lv_if_eq (tgt := 13) hx hb dX8_firstOf_6 (by decide) (fun c_4 => ?_) (fun c_4 => ?_)
  · have hF := if_t c_4 hF
    refine lv_aload_n hx hb dX8_firstOf_13 rfl (lv_at hl 0 rfl) ?_
    refine lv_iload_n hx hb dX8_firstOf_14 rfl (lv_at hl 1 rfl) ?_
    obtain ⟨r_2, hc_3, hF⟩ := bd_c hF
    refine wd_calli X hP hS [.int x1] [] (c_X8_firstChild l D cA ad X.2.2.2.2   x1 M hc_3) (cwV 1 hts gX8_firstOf_X8_firstChild rfl rfl rfl (by decide +kernel) ⟨(by show _ ≤ _; first | exact Nat.le_of_ble_eq_true rfl | (simp [headSpec, rm_X8_firstOf]; omega) | omega), (by show _ ≤ _; first | exact Nat.le_of_ble_eq_true rfl | (simp [headSpec, rm_X8_firstOf]; omega) | omega)⟩) dM_0 rfl rfl hl.1 rfl (Nat.le_of_ble_eq_true rfl) dX8_firstOf_15 (fun H locs hP hS => ?_)
    cases hF
    exact wd_reti X hP hS rfl rfl dX8_firstOf_18
  · have hF := if_e c_4 hF
    refine lv_iconst (v := (-1 : Int32)) hx hb dX8_firstOf_9 (by decide) ?_
    refine lv_goto (tgt := 18) hx hb dX8_firstOf_10 (by decide) ?_
    cases hF
    exact wd_reti X hP hS rfl rfl dX8_firstOf_18
/-! X8_leave (I)V -/
theorem in_X8_leave_X8 : ∀ w ∈ u_ws RX8 TX8 39, w ∈ wsX8_leave := by decide +kernel
set_option maxHeartbeats 4000000 in
set_option maxRecDepth 100000 in
theorem wb_X8_leave_169 {p : Program} {l : Launch} {e : Env} {s : State} {m : MethodId} {args : Array Value} {below : List Frame} {meth : Method} {c : Code} {D : va_G} {cA : Nat → ClassId} {ad : Nat → Nat} (X : wd_X p s m args meth c cX8_leave 6 wsX8_leave RX8 none D cA ad dsM.length) {kh111 : Int32 → Mem → Option Mem} {M' : Mem} (hk111 : ∀ (x4 : Int32) (M : Mem) (H : Heap) (locs : List Loc) (ls : Array Slot), kh111 x4 M = some M' → wd_P D cA ad dsM M H → va_S (wd_A ad dsM.length) s.heap H locs → lv_has ls 6 [(0, .ref (ad 0)), (4, .int x4)] → W p l e (headSpec wsX8_leave rm_X8_leave).room s m args below meth c H locs 0 0 (MQ below (wm_Qv D cA ad dsM M') args s 0 0 (wd_A ad dsM.length)) (F0 m 111 ls [])) (x4 : Int32) (M : Mem) (H : Heap) (locs : List Loc) (ls : Array Slot) (hF : B_X8_leave_169 kh111 x4 M = some M') (hP : wd_P D cA ad dsM M H) (hS : va_S (wd_A ad dsM.length) s.heap H locs) (hl : lv_has ls 6 [(0, .ref (ad 0)), (4, .int x4)]) : W p l e (headSpec wsX8_leave rm_X8_leave).room s m args below meth c H locs 0 0 (MQ below (wm_Qv D cA ad dsM M') args s 0 0 (wd_A ad dsM.length)) (F0 m 169 ls []) := by
  have hx := X.1.1
  have hb := X.1.2.1
  have hts := X.1.2.2.2.2
  unfold B_X8_leave_169 at hF
  obtain ⟨x4_1, e_2, hF⟩ := nm_c hF
  refine lv_iinc (v := x4_1) (lv' := [(4, .int x4_1), (0, .ref (ad 0))]) hx hb dX8_leave_169 hl (k := 1) rfl (by rw [e_2]; rfl) (by decide) rfl (fun ls hl => ?_)
  refine lv_goto (tgt := 111) hx hb dX8_leave_172 (by decide) ?_
  exact hk111 x4_1 M _ _ _ hF hP hS (lv_sub hl [1, 0] rfl)
set_option maxHeartbeats 4000000 in
set_option maxRecDepth 100000 in
theorem wb_X8_leave_111 {p : Program} {l : Launch} {e : Env} {s : State} {m : MethodId} {args : Array Value} {below : List Frame} {meth : Method} {c : Code} {D : va_G} {cA : Nat → ClassId} {ad : Nat → Nat} (X : wd_X p s m args meth c cX8_leave 6 wsX8_leave RX8 none D cA ad dsM.length) {kh111 : Int32 → Mem → Option Mem} {M' : Mem} (hk111 : ∀ (x4 : Int32) (M : Mem) (H : Heap) (locs : List Loc) (ls : Array Slot), kh111 x4 M = some M' → wd_P D cA ad dsM M H → va_S (wd_A ad dsM.length) s.heap H locs → lv_has ls 6 [(0, .ref (ad 0)), (4, .int x4)] → W p l e (headSpec wsX8_leave rm_X8_leave).room s m args below meth c H locs 0 0 (MQ below (wm_Qv D cA ad dsM M') args s 0 0 (wd_A ad dsM.length)) (F0 m 111 ls [])) (x4 : Int32) (M : Mem) (H : Heap) (locs : List Loc) (ls : Array Slot) (hF : B_X8_leave_111 kh111 x4 M = some M') (hP : wd_P D cA ad dsM M H) (hS : va_S (wd_A ad dsM.length) s.heap H locs) (hl : lv_has ls 6 [(0, .ref (ad 0)), (4, .int x4)]) : W p l e (headSpec wsX8_leave rm_X8_leave).room s m args below meth c H locs 0 0 (MQ below (wm_Qv D cA ad dsM M') args s 0 0 (wd_A ad dsM.length)) (F0 m 111 ls []) := by
  have hx := X.1.1
  have hb := X.1.2.1
  have hts := X.1.2.2.2.2
  unfold B_X8_leave_111 at hF
  refine lv_iload hx hb dX8_leave_111 (lv_at hl 1 rfl) ?_
  refine lv_if_lt (tgt := 175) hx hb dX8_leave_113 (by decide) (fun c_15 => ?_) (fun c_15 => ?_)
  · have hF := if_t c_15 hF
    cases hF
    exact wd_retv X hP hS dX8_leave_175
  · have hF := if_e c_15 hF
    refine lv_aload_n hx hb dX8_leave_116 rfl (lv_at hl 0 rfl) ?_
    refine lv_iconst (v := (2 : Int32)) hx hb dX8_leave_117 (by decide) ?_
    refine lv_aload_n hx hb dX8_leave_118 rfl (lv_at hl 0 rfl) ?_
    refine wd_getr (q := 26) X hP 0 dM_0 rfl in_X8_leave_X8 35 rfl (by decide) (by decide +kernel) dX8_leave_119 ?_
    refine lv_iload hx hb dX8_leave_122 (lv_at hl 1 rfl) ?_
    obtain ⟨h_1, hF⟩ := gi_c hF
    refine wd_ild X hP 26 dM_26 h_1 dX8_leave_124 ?_
    refine lv_imul hx hb dX8_leave_125 ?_
    refine lv_iconst (v := (1 : Int32)) hx hb dX8_leave_126 (by decide) ?_
    refine lv_iadd hx hb dX8_leave_127 ?_
    obtain ⟨M_4, hc_3, hF⟩ := bd_c hF
    refine wd_callv X hP hS [.int (((2 : Int32) * (M 26 x4.toNatClampNeg)) + (1 : Int32))] [] (c_X8_notes l D cA ad X.2.2.2.2   (((2 : Int32) * (M 26 x4.toNatClampNeg)) + (1 : Int32)) M hc_3) (cwV 1 hts gX8_leave_X8_notes rfl rfl rfl (by decide +kernel) ⟨(by show _ ≤ _; first | exact Nat.le_of_ble_eq_true rfl | (simp [headSpec, rm_X8_leave]; omega) | omega), (by show _ ≤ _; first | exact Nat.le_of_ble_eq_true rfl | (simp [headSpec, rm_X8_leave]; omega) | omega)⟩) dM_0 rfl rfl hl.1 rfl (Nat.le_of_ble_eq_true rfl) dX8_leave_128 (fun H locs hP hS => ?_)
    refine lv_aload_n hx hb dX8_leave_131 rfl (lv_at hl 0 rfl) ?_
    refine wd_getr (q := 10) X hP 0 dM_0 rfl in_X8_leave_X8 13 rfl (by decide) (by decide +kernel) dX8_leave_132 ?_
    refine lv_aload_n hx hb dX8_leave_135 rfl (lv_at hl 0 rfl) ?_
    refine wd_getr (q := 26) X hP 0 dM_0 rfl in_X8_leave_X8 35 rfl (by decide) (by decide +kernel) dX8_leave_136 ?_
    refine lv_iload hx hb dX8_leave_139 (lv_at hl 1 rfl) ?_
    obtain ⟨h_5, hF⟩ := gi_c hF
    refine wd_ild X hP 26 dM_26 h_5 dX8_leave_141 ?_
    obtain ⟨h_6, hF⟩ := gi_c hF
    refine wd_zld X hP 10 dM_10 h_6 dX8_leave_142 ?_
    refine lv_if_ne (tgt := 169) hx hb dX8_leave_143 (by decide) (fun c_14 => ?_) (fun c_14 => ?_)
    · have hF := if_e c_14 hF
      exact wb_X8_leave_169 X  hk111  x4 M_4 _ _ _ hF hP hS (lv_sub hl [0, 1] rfl)
    · have hF := if_t c_14 hF
      refine lv_aload_n hx hb dX8_leave_146 rfl (lv_at hl 0 rfl) ?_
      refine wd_getr (q := 19) X hP 0 dM_0 rfl in_X8_leave_X8 24 rfl (by decide) (by decide +kernel) dX8_leave_147 ?_
      refine lv_aload_n hx hb dX8_leave_150 rfl (lv_at hl 0 rfl) ?_
      refine wd_getr (q := 26) X hP 0 dM_0 rfl in_X8_leave_X8 35 rfl (by decide) (by decide +kernel) dX8_leave_151 ?_
      refine lv_iload hx hb dX8_leave_154 (lv_at hl 1 rfl) ?_
      obtain ⟨h_7, hF⟩ := gi_c hF
      refine wd_ild X hP 26 dM_26 h_7 dX8_leave_156 ?_
      refine lv_aload_n hx hb dX8_leave_157 rfl (lv_at hl 0 rfl) ?_
      refine lv_aload_n hx hb dX8_leave_158 rfl (lv_at hl 0 rfl) ?_
      refine wd_getr (q := 26) X hP 0 dM_0 rfl in_X8_leave_X8 35 rfl (by decide) (by decide +kernel) dX8_leave_159 ?_
      refine lv_iload hx hb dX8_leave_162 (lv_at hl 1 rfl) ?_
      obtain ⟨h_8, hF⟩ := gi_c hF
      refine wd_ild X hP 26 dM_26 h_8 dX8_leave_164 ?_
      obtain ⟨r_9, hc_10, hF⟩ := bd_c hF
      refine wd_calli X hP hS [.int (M_4 26 x4.toNatClampNeg)] [.int (M_4 26 x4.toNatClampNeg), .ref (ad 19)] (c_X8_firstOf l D cA ad X.2.2.2.2   (M_4 26 x4.toNatClampNeg) M_4 hc_10) (cwV 1 hts gX8_leave_X8_firstOf rfl rfl rfl (by decide +kernel) ⟨(by show _ ≤ _; first | exact Nat.le_of_ble_eq_true rfl | (simp [headSpec, rm_X8_leave]; omega) | omega), (by show _ ≤ _; first | exact Nat.le_of_ble_eq_true rfl | (simp [headSpec, rm_X8_leave]; omega) | omega)⟩) dM_0 rfl rfl hl.1 rfl (Nat.le_of_ble_eq_true rfl) dX8_leave_165 (fun H locs hP hS => ?_)
      obtain ⟨h_11, hF⟩ := gi_c hF
      obtain ⟨M_12, e_13, hF⟩ := wr_c hF
      refine wd_ist X hP hS 19 dM_19 h_11 dX8_leave_168 (fun H locs hP hS => ?_)
      rw [← e_13] at hP
      exact wb_X8_leave_169 X  hk111  x4 M_12 _ _ _ hF hP hS (lv_sub hl [0, 1] rfl)
set_option maxHeartbeats 4000000 in
set_option maxRecDepth 100000 in
theorem wh_X8_leave_111 {p : Program} {l : Launch} {e : Env} {s : State} {m : MethodId} {args : Array Value} {below : List Frame} {meth : Method} {c : Code} {D : va_G} {cA : Nat → ClassId} {ad : Nat → Nat} (X : wd_X p s m args meth c cX8_leave 6 wsX8_leave RX8 none D cA ad dsM.length) {M' : Mem}  : ∀ (n : Nat) (x4 : Int32) (M : Mem) (H : Heap) (locs : List Loc) (ls : Array Slot), H_X8_leave_111  n x4 M = some M' → wd_P D cA ad dsM M H → va_S (wd_A ad dsM.length) s.heap H locs → lv_has ls 6 [(0, .ref (ad 0)), (4, .int x4)] → W p l e (headSpec wsX8_leave rm_X8_leave).room s m args below meth c H locs 0 0 (MQ below (wm_Qv D cA ad dsM M') args s 0 0 (wd_A ad dsM.length)) (F0 m 111 ls []) := by
  intro n
  induction n with
  | zero => intro x4 M H locs ls hF; cases hF
  | succ n ih => intro x4 M H locs ls hF hP hS hl; exact wb_X8_leave_111 X (kh111 := H_X8_leave_111  n) ih x4 M H locs ls hF hP hS hl
set_option maxHeartbeats 4000000 in
set_option maxRecDepth 100000 in
theorem wb_X8_leave_97 {p : Program} {l : Launch} {e : Env} {s : State} {m : MethodId} {args : Array Value} {below : List Frame} {meth : Method} {c : Code} {D : va_G} {cA : Nat → ClassId} {ad : Nat → Nat} (X : wd_X p s m args meth c cX8_leave 6 wsX8_leave RX8 none D cA ad dsM.length) {kh11 : Int32 → Int32 → Mem → Option Mem} {kh45 : Int32 → Int32 → Int32 → Int32 → Mem → Option Mem} {M' : Mem} (hk11 : ∀ (x2 : Int32) (x3 : Int32) (M : Mem) (H : Heap) (locs : List Loc) (ls : Array Slot), kh11 x2 x3 M = some M' → wd_P D cA ad dsM M H → va_S (wd_A ad dsM.length) s.heap H locs → lv_has ls 6 [(0, .ref (ad 0)), (2, .int x2), (3, .int x3)] → W p l e (headSpec wsX8_leave rm_X8_leave).room s m args below meth c H locs 0 0 (MQ below (wm_Qv D cA ad dsM M') args s 0 0 (wd_A ad dsM.length)) (F0 m 11 ls [])) (hk45 : ∀ (x2 : Int32) (x3 : Int32) (x4 : Int32) (x5 : Int32) (M : Mem) (H : Heap) (locs : List Loc) (ls : Array Slot), kh45 x2 x3 x4 x5 M = some M' → wd_P D cA ad dsM M H → va_S (wd_A ad dsM.length) s.heap H locs → lv_has ls 6 [(0, .ref (ad 0)), (2, .int x2), (3, .int x3), (4, .int x4), (5, .int x5)] → W p l e (headSpec wsX8_leave rm_X8_leave).room s m args below meth c H locs 0 0 (MQ below (wm_Qv D cA ad dsM M') args s 0 0 (wd_A ad dsM.length)) (F0 m 45 ls [])) (x2 : Int32) (x3 : Int32) (x4 : Int32) (x5 : Int32) (M : Mem) (H : Heap) (locs : List Loc) (ls : Array Slot) (hF : B_X8_leave_97 kh11 kh45 x2 x3 x4 x5 M = some M') (hP : wd_P D cA ad dsM M H) (hS : va_S (wd_A ad dsM.length) s.heap H locs) (hl : lv_has ls 6 [(0, .ref (ad 0)), (2, .int x2), (3, .int x3), (4, .int x4), (5, .int x5)]) : W p l e (headSpec wsX8_leave rm_X8_leave).room s m args below meth c H locs 0 0 (MQ below (wm_Qv D cA ad dsM M') args s 0 0 (wd_A ad dsM.length)) (F0 m 97 ls []) := by
  have hx := X.1.1
  have hb := X.1.2.1
  have hts := X.1.2.2.2.2
  unfold B_X8_leave_97 at hF
  obtain ⟨x5_1, e_2, hF⟩ := nm_c hF
  refine lv_iinc (v := x5_1) (lv' := [(5, .int x5_1), (0, .ref (ad 0)), (2, .int x2), (3, .int x3), (4, .int x4)]) hx hb dX8_leave_97 hl (k := 4) rfl (by rw [e_2]; rfl) (by decide) rfl (fun ls hl => ?_)
  refine lv_goto (tgt := 45) hx hb dX8_leave_100 (by decide) ?_
  exact hk45 x2 x3 x4 x5_1 M _ _ _ hF hP hS (lv_sub hl [1, 2, 3, 4, 0] rfl)
set_option maxHeartbeats 4000000 in
set_option maxRecDepth 100000 in
theorem wb_X8_leave_86 {p : Program} {l : Launch} {e : Env} {s : State} {m : MethodId} {args : Array Value} {below : List Frame} {meth : Method} {c : Code} {D : va_G} {cA : Nat → ClassId} {ad : Nat → Nat} (X : wd_X p s m args meth c cX8_leave 6 wsX8_leave RX8 none D cA ad dsM.length) {kh11 : Int32 → Int32 → Mem → Option Mem} {kh45 : Int32 → Int32 → Int32 → Int32 → Mem → Option Mem} {M' : Mem} (hk11 : ∀ (x2 : Int32) (x3 : Int32) (M : Mem) (H : Heap) (locs : List Loc) (ls : Array Slot), kh11 x2 x3 M = some M' → wd_P D cA ad dsM M H → va_S (wd_A ad dsM.length) s.heap H locs → lv_has ls 6 [(0, .ref (ad 0)), (2, .int x2), (3, .int x3)] → W p l e (headSpec wsX8_leave rm_X8_leave).room s m args below meth c H locs 0 0 (MQ below (wm_Qv D cA ad dsM M') args s 0 0 (wd_A ad dsM.length)) (F0 m 11 ls [])) (hk45 : ∀ (x2 : Int32) (x3 : Int32) (x4 : Int32) (x5 : Int32) (M : Mem) (H : Heap) (locs : List Loc) (ls : Array Slot), kh45 x2 x3 x4 x5 M = some M' → wd_P D cA ad dsM M H → va_S (wd_A ad dsM.length) s.heap H locs → lv_has ls 6 [(0, .ref (ad 0)), (2, .int x2), (3, .int x3), (4, .int x4), (5, .int x5)] → W p l e (headSpec wsX8_leave rm_X8_leave).room s m args below meth c H locs 0 0 (MQ below (wm_Qv D cA ad dsM M') args s 0 0 (wd_A ad dsM.length)) (F0 m 45 ls [])) (x2 : Int32) (x3 : Int32) (x4 : Int32) (x5 : Int32) (M : Mem) (H : Heap) (locs : List Loc) (ls : Array Slot) (hF : B_X8_leave_86 kh11 kh45 x2 x3 x4 x5 M = some M') (hP : wd_P D cA ad dsM M H) (hS : va_S (wd_A ad dsM.length) s.heap H locs) (hl : lv_has ls 6 [(0, .ref (ad 0)), (2, .int x2), (3, .int x3), (4, .int x4), (5, .int x5)]) : W p l e (headSpec wsX8_leave rm_X8_leave).room s m args below meth c H locs 0 0 (MQ below (wm_Qv D cA ad dsM M') args s 0 0 (wd_A ad dsM.length)) (F0 m 86 ls []) := by
  have hx := X.1.1
  have hb := X.1.2.1
  have hts := X.1.2.2.2.2
  unfold B_X8_leave_86 at hF
  refine lv_aload_n hx hb dX8_leave_86 rfl (lv_at hl 0 rfl) ?_
  refine wd_getr (q := 25) X hP 0 dM_0 rfl in_X8_leave_X8 34 rfl (by decide) (by decide +kernel) dX8_leave_87 ?_
  refine lv_iload_n hx hb dX8_leave_90 rfl (lv_at hl 2 rfl) ?_
  refine lv_iload hx hb dX8_leave_91 (lv_at hl 4 rfl) ?_
  obtain ⟨h_1, hF⟩ := gi_c hF
  obtain ⟨M_2, e_3, hF⟩ := wr_c hF
  refine wd_ist X hP hS 25 dM_25 h_1 dX8_leave_93 (fun H locs hP hS => ?_)
  rw [← e_3] at hP
  obtain ⟨x3_4, e_5, hF⟩ := nm_c hF
  refine lv_iinc (v := x3_4) (lv' := [(3, .int x3_4), (0, .ref (ad 0)), (2, .int x2), (4, .int x4), (5, .int x5)]) hx hb dX8_leave_94 hl (k := 2) rfl (by rw [e_5]; rfl) (by decide) rfl (fun ls hl => ?_)
  exact wb_X8_leave_97 X  hk11 hk45  x2 x3_4 x4 x5 M_2 _ _ _ hF hP hS (lv_sub hl [1, 2, 0, 3, 4] rfl)
set_option maxHeartbeats 4000000 in
set_option maxRecDepth 100000 in
theorem wb_X8_leave_45 {p : Program} {l : Launch} {e : Env} {s : State} {m : MethodId} {args : Array Value} {below : List Frame} {meth : Method} {c : Code} {D : va_G} {cA : Nat → ClassId} {ad : Nat → Nat} (X : wd_X p s m args meth c cX8_leave 6 wsX8_leave RX8 none D cA ad dsM.length) {kh11 : Int32 → Int32 → Mem → Option Mem} {kh45 : Int32 → Int32 → Int32 → Int32 → Mem → Option Mem} {M' : Mem} (hk11 : ∀ (x2 : Int32) (x3 : Int32) (M : Mem) (H : Heap) (locs : List Loc) (ls : Array Slot), kh11 x2 x3 M = some M' → wd_P D cA ad dsM M H → va_S (wd_A ad dsM.length) s.heap H locs → lv_has ls 6 [(0, .ref (ad 0)), (2, .int x2), (3, .int x3)] → W p l e (headSpec wsX8_leave rm_X8_leave).room s m args below meth c H locs 0 0 (MQ below (wm_Qv D cA ad dsM M') args s 0 0 (wd_A ad dsM.length)) (F0 m 11 ls [])) (hk45 : ∀ (x2 : Int32) (x3 : Int32) (x4 : Int32) (x5 : Int32) (M : Mem) (H : Heap) (locs : List Loc) (ls : Array Slot), kh45 x2 x3 x4 x5 M = some M' → wd_P D cA ad dsM M H → va_S (wd_A ad dsM.length) s.heap H locs → lv_has ls 6 [(0, .ref (ad 0)), (2, .int x2), (3, .int x3), (4, .int x4), (5, .int x5)] → W p l e (headSpec wsX8_leave rm_X8_leave).room s m args below meth c H locs 0 0 (MQ below (wm_Qv D cA ad dsM M') args s 0 0 (wd_A ad dsM.length)) (F0 m 45 ls [])) (x2 : Int32) (x3 : Int32) (x4 : Int32) (x5 : Int32) (M : Mem) (H : Heap) (locs : List Loc) (ls : Array Slot) (hF : B_X8_leave_45 kh11 kh45 x2 x3 x4 x5 M = some M') (hP : wd_P D cA ad dsM M H) (hS : va_S (wd_A ad dsM.length) s.heap H locs) (hl : lv_has ls 6 [(0, .ref (ad 0)), (2, .int x2), (3, .int x3), (4, .int x4), (5, .int x5)]) : W p l e (headSpec wsX8_leave rm_X8_leave).room s m args below meth c H locs 0 0 (MQ below (wm_Qv D cA ad dsM M') args s 0 0 (wd_A ad dsM.length)) (F0 m 45 ls []) := by
  have hx := X.1.1
  have hb := X.1.2.1
  have hts := X.1.2.2.2.2
  unfold B_X8_leave_45 at hF
  refine lv_iload hx hb dX8_leave_45 (lv_at hl 4 rfl) ?_
  refine lv_iload hx hb dX8_leave_47 (lv_at hl 3 rfl) ?_
  refine lv_icmp_le (tgt := 103) hx hb dX8_leave_49 (by decide) (fun c_7 => ?_) (fun c_7 => ?_)
  · have hF := if_t c_7 hF
    refine lv_goto (tgt := 11) hx hb dX8_leave_103 (by decide) ?_
    exact hk11 x2 x3 M _ _ _ hF hP hS (lv_sub hl [0, 1, 2] rfl)
  · have hF := if_e c_7 hF
    refine lv_aload_n hx hb dX8_leave_52 rfl (lv_at hl 0 rfl) ?_
    refine wd_getr (q := 6) X hP 0 dM_0 rfl in_X8_leave_X8 9 rfl (by decide) (by decide +kernel) dX8_leave_53 ?_
    refine lv_iload hx hb dX8_leave_56 (lv_at hl 4 rfl) ?_
    obtain ⟨h_1, hF⟩ := gi_c hF
    refine wd_ild X hP 6 dM_6 h_1 dX8_leave_58 ?_
    refine lv_iload hx hb dX8_leave_59 (lv_at hl 3 rfl) ?_
    refine lv_icmp_ne (tgt := 97) hx hb dX8_leave_61 (by decide) (fun c_6 => ?_) (fun c_6 => ?_)
    · have hF := if_e c_6 hF
      exact wb_X8_leave_97 X  hk11 hk45  x2 x3 x4 x5 M _ _ _ hF hP hS (lv_sub hl [0, 1, 2, 3, 4] rfl)
    · have hF := if_t c_6 hF
      refine lv_aload_n hx hb dX8_leave_64 rfl (lv_at hl 0 rfl) ?_
      refine wd_getr (q := 9) X hP 0 dM_0 rfl in_X8_leave_X8 12 rfl (by decide) (by decide +kernel) dX8_leave_65 ?_
      refine lv_iload hx hb dX8_leave_68 (lv_at hl 3 rfl) ?_
      obtain ⟨h_2, hF⟩ := gi_c hF
      refine wd_zld X hP 9 dM_9 h_2 dX8_leave_70 ?_
      refine lv_if_ne (tgt := 86) hx hb dX8_leave_71 (by decide) (fun c_5 => ?_) (fun c_5 => ?_)
      · have hF := if_e c_5 hF
        exact wb_X8_leave_86 X  hk11 hk45  x2 x3 x4 x5 M _ _ _ hF hP hS (lv_sub hl [0, 1, 2, 3, 4] rfl)
      · have hF := if_t c_5 hF
        refine lv_aload_n hx hb dX8_leave_74 rfl (lv_at hl 0 rfl) ?_
        refine wd_getr (q := 19) X hP 0 dM_0 rfl in_X8_leave_X8 24 rfl (by decide) (by decide +kernel) dX8_leave_75 ?_
        refine lv_iload hx hb dX8_leave_78 (lv_at hl 3 rfl) ?_
        obtain ⟨h_3, hF⟩ := gi_c hF
        refine wd_ild X hP 19 dM_19 h_3 dX8_leave_80 ?_
        refine lv_iload hx hb dX8_leave_81 (lv_at hl 4 rfl) ?_
        refine lv_icmp_ne (tgt := 97) hx hb dX8_leave_83 (by decide) (fun c_4 => ?_) (fun c_4 => ?_)
        · have hF := if_e c_4 hF
          exact wb_X8_leave_97 X  hk11 hk45  x2 x3 x4 x5 M _ _ _ hF hP hS (lv_sub hl [0, 1, 2, 3, 4] rfl)
        · have hF := if_t c_4 hF
          exact wb_X8_leave_86 X  hk11 hk45  x2 x3 x4 x5 M _ _ _ hF hP hS (lv_sub hl [0, 1, 2, 3, 4] rfl)
set_option maxHeartbeats 4000000 in
set_option maxRecDepth 100000 in
theorem wh_X8_leave_45 {p : Program} {l : Launch} {e : Env} {s : State} {m : MethodId} {args : Array Value} {below : List Frame} {meth : Method} {c : Code} {D : va_G} {cA : Nat → ClassId} {ad : Nat → Nat} (X : wd_X p s m args meth c cX8_leave 6 wsX8_leave RX8 none D cA ad dsM.length) {kh11 : Int32 → Int32 → Mem → Option Mem} {M' : Mem} (hk11 : ∀ (x2 : Int32) (x3 : Int32) (M : Mem) (H : Heap) (locs : List Loc) (ls : Array Slot), kh11 x2 x3 M = some M' → wd_P D cA ad dsM M H → va_S (wd_A ad dsM.length) s.heap H locs → lv_has ls 6 [(0, .ref (ad 0)), (2, .int x2), (3, .int x3)] → W p l e (headSpec wsX8_leave rm_X8_leave).room s m args below meth c H locs 0 0 (MQ below (wm_Qv D cA ad dsM M') args s 0 0 (wd_A ad dsM.length)) (F0 m 11 ls [])) : ∀ (n : Nat) (x2 : Int32) (x3 : Int32) (x4 : Int32) (x5 : Int32) (M : Mem) (H : Heap) (locs : List Loc) (ls : Array Slot), H_X8_leave_45 kh11 n x2 x3 x4 x5 M = some M' → wd_P D cA ad dsM M H → va_S (wd_A ad dsM.length) s.heap H locs → lv_has ls 6 [(0, .ref (ad 0)), (2, .int x2), (3, .int x3), (4, .int x4), (5, .int x5)] → W p l e (headSpec wsX8_leave rm_X8_leave).room s m args below meth c H locs 0 0 (MQ below (wm_Qv D cA ad dsM M') args s 0 0 (wd_A ad dsM.length)) (F0 m 45 ls []) := by
  intro n
  induction n with
  | zero => intro x2 x3 x4 x5 M H locs ls hF; cases hF
  | succ n ih => intro x2 x3 x4 x5 M H locs ls hF hP hS hl; exact wb_X8_leave_45 X (kh45 := H_X8_leave_45 kh11 n) hk11 ih x2 x3 x4 x5 M H locs ls hF hP hS hl
set_option maxHeartbeats 4000000 in
set_option maxRecDepth 100000 in
theorem wb_X8_leave_11 {p : Program} {l : Launch} {e : Env} {s : State} {m : MethodId} {args : Array Value} {below : List Frame} {meth : Method} {c : Code} {D : va_G} {cA : Nat → ClassId} {ad : Nat → Nat} (X : wd_X p s m args meth c cX8_leave 6 wsX8_leave RX8 none D cA ad dsM.length) {kh11 : Int32 → Int32 → Mem → Option Mem} {M' : Mem} (hk11 : ∀ (x2 : Int32) (x3 : Int32) (M : Mem) (H : Heap) (locs : List Loc) (ls : Array Slot), kh11 x2 x3 M = some M' → wd_P D cA ad dsM M H → va_S (wd_A ad dsM.length) s.heap H locs → lv_has ls 6 [(0, .ref (ad 0)), (2, .int x2), (3, .int x3)] → W p l e (headSpec wsX8_leave rm_X8_leave).room s m args below meth c H locs 0 0 (MQ below (wm_Qv D cA ad dsM M') args s 0 0 (wd_A ad dsM.length)) (F0 m 11 ls [])) (x2 : Int32) (x3 : Int32) (M : Mem) (H : Heap) (locs : List Loc) (ls : Array Slot) (hF : B_X8_leave_11 kh11 x2 x3 M = some M') (hP : wd_P D cA ad dsM M H) (hS : va_S (wd_A ad dsM.length) s.heap H locs) (hl : lv_has ls 6 [(0, .ref (ad 0)), (2, .int x2), (3, .int x3)]) : W p l e (headSpec wsX8_leave rm_X8_leave).room s m args below meth c H locs 0 0 (MQ below (wm_Qv D cA ad dsM M') args s 0 0 (wd_A ad dsM.length)) (F0 m 11 ls []) := by
  have hx := X.1.1
  have hb := X.1.2.1
  have hts := X.1.2.2.2.2
  unfold B_X8_leave_11 at hF
  refine lv_iload_n hx hb dX8_leave_11 rfl (lv_at hl 2 rfl) ?_
  refine lv_if_le (tgt := 106) hx hb dX8_leave_12 (by decide) (fun c_15 => ?_) (fun c_15 => ?_)
  · have hF := if_t c_15 hF
    refine lv_iload_n hx hb dX8_leave_106 rfl (lv_at hl 1 rfl) ?_
    refine lv_iconst (v := (1 : Int32)) hx hb dX8_leave_107 (by decide) ?_
    refine lv_isub hx hb dX8_leave_108 ?_
    obtain ⟨x4_1, e_2, hF⟩ := nm_c hF
    refine wd_top e_2 ?_
    refine lv_istore (lv' := [(4, .int x4_1), (0, .ref (ad 0)), (2, .int x2), (3, .int x3)]) hx hb dX8_leave_109 hl (by decide) rfl (fun ls hl => ?_)
    exact wh_X8_leave_111 X    100 x4_1 M _ _ _ hF hP hS (lv_sub hl [1, 0] rfl)
  · have hF := if_e c_15 hF
    obtain ⟨x3_3, e_4, hF⟩ := nm_c hF
    refine lv_iinc (v := x3_3) (lv' := [(3, .int x3_3), (0, .ref (ad 0)), (2, .int x2)]) hx hb dX8_leave_15 hl (k := 2) rfl (by rw [e_4]; rfl) (by decide) rfl (fun ls hl => ?_)
    refine lv_aload_n hx hb dX8_leave_18 rfl (lv_at hl 1 rfl) ?_
    refine wd_getr (q := 25) X hP 0 dM_0 rfl in_X8_leave_X8 34 rfl (by decide) (by decide +kernel) dX8_leave_19 ?_
    refine lv_iload_n hx hb dX8_leave_22 rfl (lv_at hl 0 rfl) ?_
    obtain ⟨h_5, hF⟩ := gi_c hF
    refine wd_ild X hP 25 dM_25 h_5 dX8_leave_23 ?_
    obtain ⟨x4_6, e_7, hF⟩ := nm_c hF
    refine wd_top e_7 ?_
    refine lv_istore (lv' := [(4, .int x4_6), (3, .int x3_3), (0, .ref (ad 0)), (2, .int x2)]) hx hb dX8_leave_24 hl (by decide) rfl (fun ls hl => ?_)
    refine lv_aload_n hx hb dX8_leave_26 rfl (lv_at hl 2 rfl) ?_
    refine wd_getr (q := 26) X hP 0 dM_0 rfl in_X8_leave_X8 35 rfl (by decide) (by decide +kernel) dX8_leave_27 ?_
    refine lv_iload_n hx hb dX8_leave_30 rfl (lv_at hl 3 rfl) ?_
    refine lv_iload hx hb dX8_leave_31 (lv_at hl 0 rfl) ?_
    obtain ⟨h_8, hF⟩ := gi_c hF
    obtain ⟨M_9, e_10, hF⟩ := wr_c hF
    refine wd_ist X hP hS 26 dM_26 h_8 dX8_leave_33 (fun H locs hP hS => ?_)
    rw [← e_10] at hP
    obtain ⟨x2_11, e_12, hF⟩ := nm_c hF
    refine lv_iinc (v := x2_11) (lv' := [(2, .int x2_11), (4, .int x4_6), (3, .int x3_3), (0, .ref (ad 0))]) hx hb dX8_leave_34 hl (k := 3) rfl (by rw [e_12]; rfl) (by decide) rfl (fun ls hl => ?_)
    refine lv_aload_n hx hb dX8_leave_37 rfl (lv_at hl 3 rfl) ?_
    refine wd_geti X hP 0 dM_0 rfl in_X8_leave_X8 6 rfl (by decide) (by decide +kernel) dX8_leave_38 ?_
    refine lv_iconst (v := (1 : Int32)) hx hb dX8_leave_41 (by decide) ?_
    refine lv_isub hx hb dX8_leave_42 ?_
    obtain ⟨x5_13, e_14, hF⟩ := nm_c hF
    refine wd_top e_14 ?_
    refine lv_istore (lv' := [(5, .int x5_13), (2, .int x2_11), (4, .int x4_6), (3, .int x3_3), (0, .ref (ad 0))]) hx hb dX8_leave_43 hl (by decide) rfl (fun ls hl => ?_)
    exact wh_X8_leave_45 X  hk11  100 x2_11 x3_3 x4_6 x5_13 M_9 _ _ _ hF hP hS (lv_sub hl [4, 1, 3, 2, 0] rfl)
set_option maxHeartbeats 4000000 in
set_option maxRecDepth 100000 in
theorem wh_X8_leave_11 {p : Program} {l : Launch} {e : Env} {s : State} {m : MethodId} {args : Array Value} {below : List Frame} {meth : Method} {c : Code} {D : va_G} {cA : Nat → ClassId} {ad : Nat → Nat} (X : wd_X p s m args meth c cX8_leave 6 wsX8_leave RX8 none D cA ad dsM.length) {M' : Mem}  : ∀ (n : Nat) (x2 : Int32) (x3 : Int32) (M : Mem) (H : Heap) (locs : List Loc) (ls : Array Slot), H_X8_leave_11  n x2 x3 M = some M' → wd_P D cA ad dsM M H → va_S (wd_A ad dsM.length) s.heap H locs → lv_has ls 6 [(0, .ref (ad 0)), (2, .int x2), (3, .int x3)] → W p l e (headSpec wsX8_leave rm_X8_leave).room s m args below meth c H locs 0 0 (MQ below (wm_Qv D cA ad dsM M') args s 0 0 (wd_A ad dsM.length)) (F0 m 11 ls []) := by
  intro n
  induction n with
  | zero => intro x2 x3 M H locs ls hF; cases hF
  | succ n ih => intro x2 x3 M H locs ls hF hP hS hl; exact wb_X8_leave_11 X (kh11 := H_X8_leave_11  n) ih x2 x3 M H locs ls hF hP hS hl
set_option maxHeartbeats 4000000 in
set_option maxRecDepth 100000 in
theorem c_X8_leave (l : Launch) (D : va_G) (cA : Nat → ClassId) (ad : Nat → Nat) (hj : wd_inj ad dsM.length)   (x1 : Int32) (M : Mem) {M' : Mem} (hF : F_X8_leave x1 M = some M') : wm_v l yX8_leave wsX8_leave rm_X8_leave D cA ad dsM M [.ref (ad 0), .int x1] M' := by
  refine Met.ofW (cc := cX8_leave) (maxL := 6) (ret := none) (by decide) rfl ?_
  intro p e s m args below meth c s₁ B hml hv
  obtain ⟨rfl, hP, hK⟩ := hv
  have X : wd_X p s m _ meth c cX8_leave 6 wsX8_leave RX8 none D cA ad dsM.length := ⟨⟨B.exec, B.bytes, hml, findClass_of_methodNamed B.named, atoms_spec (ws := wsX8_leave) B.pre⟩, hK, B.notSynchronized, B.returns, hj⟩
  have hl := lv_entry ([.ref (ad 0), .int x1]) (n := 6) (Nat.le_of_ble_eq_true rfl)
  rw [lg_entry_eq]
  generalize (lg_sl ([.ref (ad 0), .int x1]) ++ List.replicate (6 - (lg_sl ([.ref (ad 0), .int x1])).length) Slot.unset).toArray = ls at hl ⊢
  have hl : lv_has ls 6 [(0, .ref (ad 0)), (1, .int x1)] := hl
  have hS : va_S (wd_A ad dsM.length) s.heap s.heap [] := va_S.rf
  have hx := X.1.1
  have hb := X.1.2.1
  have hts := X.1.2.2.2.2
  unfold F_X8_leave at hF
  refine lv_iconst (v := (0 : Int32)) hx hb dX8_leave_0 (by decide) ?_
  refine lv_istore_n (lv' := [(2, .int (0 : Int32)), (0, .ref (ad 0)), (1, .int x1)]) hx hb dX8_leave_1 rfl hl (by decide) rfl (fun ls hl => ?_)
  refine lv_iconst (v := (1 : Int32)) hx hb dX8_leave_2 (by decide) ?_
  refine lv_istore_n (lv' := [(3, .int (1 : Int32)), (2, .int (0 : Int32)), (0, .ref (ad 0)), (1, .int x1)]) hx hb dX8_leave_3 rfl hl (by decide) rfl (fun ls hl => ?_)
  refine lv_aload_n hx hb dX8_leave_4 rfl (lv_at hl 2 rfl) ?_
  refine wd_getr (q := 25) X hP 0 dM_0 rfl in_X8_leave_X8 34 rfl (by decide) (by decide +kernel) dX8_leave_5 ?_
  refine lv_iconst (v := (0 : Int32)) hx hb dX8_leave_8 (by decide) ?_
  refine lv_iload_n hx hb dX8_leave_9 rfl (lv_at hl 3 rfl) ?_
  obtain ⟨h_1, hF⟩ := gi_c hF
  obtain ⟨M_2, e_3, hF⟩ := wr_c hF
  refine wd_ist X hP hS 25 dM_25 h_1 dX8_leave_10 (fun H locs hP hS => ?_)
  rw [← e_3] at hP
  exact wh_X8_leave_11 X    10000000000 (0 : Int32) (1 : Int32) M_2 _ _ _ hF hP hS (lv_sub hl [2, 1, 0] rfl)
/-! X8_take (I)I -/
theorem in_X8_take_X8 : ∀ w ∈ u_ws RX8 TX8 39, w ∈ wsX8_take := by decide +kernel
set_option maxHeartbeats 4000000 in
set_option maxRecDepth 100000 in
theorem wb_X8_take_42 {p : Program} {l : Launch} {e : Env} {s : State} {m : MethodId} {args : Array Value} {below : List Frame} {meth : Method} {c : Code} {D : va_G} {cA : Nat → ClassId} {ad : Nat → Nat} (X : wd_X p s m args meth c cX8_take 5 wsX8_take RX8 (some .int) D cA ad dsM.length) {kh19 : Int32 → Int32 → Int32 → Mem → Option (Int32 × Mem)} {r : Int32} {M' : Mem} (hk19 : ∀ (x1 : Int32) (x2 : Int32) (x3 : Int32) (M : Mem) (H : Heap) (locs : List Loc) (ls : Array Slot), kh19 x1 x2 x3 M = some (r, M') → wd_P D cA ad dsM M H → va_S (wd_A ad dsM.length) s.heap H locs → lv_has ls 5 [(0, .ref (ad 0)), (1, .int x1), (2, .int x2), (3, .int x3)] → W p l e (headSpec wsX8_take rm_X8_take).room s m args below meth c H locs 0 0 (MQ below (wm_Qi D cA ad dsM r M') args s 0 0 (wd_A ad dsM.length)) (F0 m 19 ls [])) (x1 : Int32) (x2 : Int32) (x3 : Int32) (M : Mem) (H : Heap) (locs : List Loc) (ls : Array Slot) (hF : B_X8_take_42 kh19 x1 x2 x3 M = some (r, M')) (hP : wd_P D cA ad dsM M H) (hS : va_S (wd_A ad dsM.length) s.heap H locs) (hl : lv_has ls 5 [(0, .ref (ad 0)), (1, .int x1), (2, .int x2), (3, .int x3)]) : W p l e (headSpec wsX8_take rm_X8_take).room s m args below meth c H locs 0 0 (MQ below (wm_Qi D cA ad dsM r M') args s 0 0 (wd_A ad dsM.length)) (F0 m 42 ls []) := by
  have hx := X.1.1
  have hb := X.1.2.1
  have hts := X.1.2.2.2.2
  unfold B_X8_take_42 at hF
  refine lv_aload_n hx hb dX8_take_42 rfl (lv_at hl 0 rfl) ?_
  refine wd_getr (q := 6) X hP 0 dM_0 rfl in_X8_take_X8 9 rfl (by decide) (by decide +kernel) dX8_take_43 ?_
  refine lv_iload_n hx hb dX8_take_46 rfl (lv_at hl 3 rfl) ?_
  obtain ⟨h_1, hF⟩ := gi_c hF
  refine wd_ild X hP 6 dM_6 h_1 dX8_take_47 ?_
  obtain ⟨x3_2, e_3, hF⟩ := nm_c hF
  refine wd_top e_3 ?_
  refine lv_istore_n (lv' := [(3, .int x3_2), (0, .ref (ad 0)), (1, .int x1), (2, .int x2)]) hx hb dX8_take_48 rfl hl (by decide) rfl (fun ls hl => ?_)
  refine lv_goto (tgt := 19) hx hb dX8_take_49 (by decide) ?_
  exact hk19 x1 x2 x3_2 M _ _ _ hF hP hS (lv_sub hl [1, 2, 3, 0] rfl)
set_option maxHeartbeats 4000000 in
set_option maxRecDepth 100000 in
theorem wb_X8_take_100 {p : Program} {l : Launch} {e : Env} {s : State} {m : MethodId} {args : Array Value} {below : List Frame} {meth : Method} {c : Code} {D : va_G} {cA : Nat → ClassId} {ad : Nat → Nat} (X : wd_X p s m args meth c cX8_take 5 wsX8_take RX8 (some .int) D cA ad dsM.length) {kh100 : Int32 → Int32 → Int32 → Mem → Option (Int32 × Mem)} {r : Int32} {M' : Mem} (hk100 : ∀ (x2 : Int32) (x3 : Int32) (x4 : Int32) (M : Mem) (H : Heap) (locs : List Loc) (ls : Array Slot), kh100 x2 x3 x4 M = some (r, M') → wd_P D cA ad dsM M H → va_S (wd_A ad dsM.length) s.heap H locs → lv_has ls 5 [(0, .ref (ad 0)), (2, .int x2), (3, .int x3), (4, .int x4)] → W p l e (headSpec wsX8_take rm_X8_take).room s m args below meth c H locs 0 0 (MQ below (wm_Qi D cA ad dsM r M') args s 0 0 (wd_A ad dsM.length)) (F0 m 100 ls [])) (x2 : Int32) (x3 : Int32) (x4 : Int32) (M : Mem) (H : Heap) (locs : List Loc) (ls : Array Slot) (hF : B_X8_take_100 kh100 x2 x3 x4 M = some (r, M')) (hP : wd_P D cA ad dsM M H) (hS : va_S (wd_A ad dsM.length) s.heap H locs) (hl : lv_has ls 5 [(0, .ref (ad 0)), (2, .int x2), (3, .int x3), (4, .int x4)]) : W p l e (headSpec wsX8_take rm_X8_take).room s m args below meth c H locs 0 0 (MQ below (wm_Qi D cA ad dsM r M') args s 0 0 (wd_A ad dsM.length)) (F0 m 100 ls []) := by
  have hx := X.1.1
  have hb := X.1.2.1
  have hts := X.1.2.2.2.2
  unfold B_X8_take_100 at hF
  refine lv_aload_n hx hb dX8_take_100 rfl (lv_at hl 0 rfl) ?_
  refine wd_getr (q := 6) X hP 0 dM_0 rfl in_X8_take_X8 9 rfl (by decide) (by decide +kernel) dX8_take_101 ?_
  refine lv_iload hx hb dX8_take_104 (lv_at hl 3 rfl) ?_
  obtain ⟨h_1, hF⟩ := gi_c hF
  refine wd_ild X hP 6 dM_6 h_1 dX8_take_106 ?_
  refine lv_iload_n hx hb dX8_take_107 rfl (lv_at hl 2 rfl) ?_
  refine lv_icmp_eq (tgt := 123) hx hb dX8_take_108 (by decide) (fun c_12 => ?_) (fun c_12 => ?_)
  · have hF := if_t c_12 hF
    refine lv_aload_n hx hb dX8_take_123 rfl (lv_at hl 0 rfl) ?_
    refine wd_getr (q := 19) X hP 0 dM_0 rfl in_X8_take_X8 24 rfl (by decide) (by decide +kernel) dX8_take_124 ?_
    refine lv_iload_n hx hb dX8_take_127 rfl (lv_at hl 2 rfl) ?_
    refine lv_iload hx hb dX8_take_128 (lv_at hl 3 rfl) ?_
    obtain ⟨h_2, hF⟩ := gi_c hF
    obtain ⟨M_3, e_4, hF⟩ := wr_c hF
    refine wd_ist X hP hS 19 dM_19 h_2 dX8_take_130 (fun H locs hP hS => ?_)
    rw [← e_4] at hP
    refine lv_aload_n hx hb dX8_take_131 rfl (lv_at hl 0 rfl) ?_
    refine lv_iload hx hb dX8_take_132 (lv_at hl 3 rfl) ?_
    refine lv_iload_n hx hb dX8_take_134 rfl (lv_at hl 1 rfl) ?_
    obtain ⟨M_7, hc_6, hF⟩ := bd_c hF
    refine wd_callv X hP hS [.int x4, .int x2] [] (c_X8_enter l D cA ad X.2.2.2.2   x4 x2 M_3 hc_6) (cwV 2 hts gX8_take_X8_enter rfl rfl rfl (by decide +kernel) ⟨(by show _ ≤ _; first | exact Nat.le_of_ble_eq_true rfl | (simp [headSpec, rm_X8_take]; omega) | omega), (by show _ ≤ _; first | exact Nat.le_of_ble_eq_true rfl | (simp [headSpec, rm_X8_take]; omega) | omega)⟩) dM_0 rfl rfl hl.1 rfl (Nat.le_of_ble_eq_true rfl) dX8_take_135 (fun H locs hP hS => ?_)
    refine lv_aload_n hx hb dX8_take_138 rfl (lv_at hl 0 rfl) ?_
    refine wd_getr (q := 7) X hP 0 dM_0 rfl in_X8_take_X8 10 rfl (by decide) (by decide +kernel) dX8_take_139 ?_
    refine lv_iload_n hx hb dX8_take_142 rfl (lv_at hl 2 rfl) ?_
    obtain ⟨h_8, hF⟩ := gi_c hF
    refine wd_ild X hP 7 dM_7 h_8 dX8_take_143 ?_
    cases hF
    exact wd_reti X hP hS rfl rfl dX8_take_144
  · have hF := if_e c_12 hF
    refine lv_aload_n hx hb dX8_take_111 rfl (lv_at hl 0 rfl) ?_
    refine wd_getr (q := 6) X hP 0 dM_0 rfl in_X8_take_X8 9 rfl (by decide) (by decide +kernel) dX8_take_112 ?_
    refine lv_iload hx hb dX8_take_115 (lv_at hl 3 rfl) ?_
    obtain ⟨h_9, hF⟩ := gi_c hF
    refine wd_ild X hP 6 dM_6 h_9 dX8_take_117 ?_
    obtain ⟨x4_10, e_11, hF⟩ := nm_c hF
    refine wd_top e_11 ?_
    refine lv_istore (lv' := [(4, .int x4_10), (0, .ref (ad 0)), (2, .int x2), (3, .int x3)]) hx hb dX8_take_118 hl (by decide) rfl (fun ls hl => ?_)
    refine lv_goto (tgt := 100) hx hb dX8_take_120 (by decide) ?_
    exact hk100 x2 x3 x4_10 M _ _ _ hF hP hS (lv_sub hl [1, 2, 3, 0] rfl)
set_option maxHeartbeats 4000000 in
set_option maxRecDepth 100000 in
theorem wh_X8_take_100 {p : Program} {l : Launch} {e : Env} {s : State} {m : MethodId} {args : Array Value} {below : List Frame} {meth : Method} {c : Code} {D : va_G} {cA : Nat → ClassId} {ad : Nat → Nat} (X : wd_X p s m args meth c cX8_take 5 wsX8_take RX8 (some .int) D cA ad dsM.length) {r : Int32} {M' : Mem}  : ∀ (n : Nat) (x2 : Int32) (x3 : Int32) (x4 : Int32) (M : Mem) (H : Heap) (locs : List Loc) (ls : Array Slot), H_X8_take_100  n x2 x3 x4 M = some (r, M') → wd_P D cA ad dsM M H → va_S (wd_A ad dsM.length) s.heap H locs → lv_has ls 5 [(0, .ref (ad 0)), (2, .int x2), (3, .int x3), (4, .int x4)] → W p l e (headSpec wsX8_take rm_X8_take).room s m args below meth c H locs 0 0 (MQ below (wm_Qi D cA ad dsM r M') args s 0 0 (wd_A ad dsM.length)) (F0 m 100 ls []) := by
  intro n
  induction n with
  | zero => intro x2 x3 x4 M H locs ls hF; cases hF
  | succ n ih => intro x2 x3 x4 M H locs ls hF hP hS hl; exact wb_X8_take_100 X (kh100 := H_X8_take_100  n) ih x2 x3 x4 M H locs ls hF hP hS hl
set_option maxHeartbeats 4000000 in
set_option maxRecDepth 100000 in
theorem wb_X8_take_65 {p : Program} {l : Launch} {e : Env} {s : State} {m : MethodId} {args : Array Value} {below : List Frame} {meth : Method} {c : Code} {D : va_G} {cA : Nat → ClassId} {ad : Nat → Nat} (X : wd_X p s m args meth c cX8_take 5 wsX8_take RX8 (some .int) D cA ad dsM.length) {kh65 : Int32 → Int32 → Int32 → Int32 → Mem → Option (Int32 × Mem)} {r : Int32} {M' : Mem} (hk65 : ∀ (x1 : Int32) (x2 : Int32) (x3 : Int32) (x4 : Int32) (M : Mem) (H : Heap) (locs : List Loc) (ls : Array Slot), kh65 x1 x2 x3 x4 M = some (r, M') → wd_P D cA ad dsM M H → va_S (wd_A ad dsM.length) s.heap H locs → lv_has ls 5 [(0, .ref (ad 0)), (1, .int x1), (2, .int x2), (3, .int x3), (4, .int x4)] → W p l e (headSpec wsX8_take rm_X8_take).room s m args below meth c H locs 0 0 (MQ below (wm_Qi D cA ad dsM r M') args s 0 0 (wd_A ad dsM.length)) (F0 m 65 ls [])) (x1 : Int32) (x2 : Int32) (x3 : Int32) (x4 : Int32) (M : Mem) (H : Heap) (locs : List Loc) (ls : Array Slot) (hF : B_X8_take_65 kh65 x1 x2 x3 x4 M = some (r, M')) (hP : wd_P D cA ad dsM M H) (hS : va_S (wd_A ad dsM.length) s.heap H locs) (hl : lv_has ls 5 [(0, .ref (ad 0)), (1, .int x1), (2, .int x2), (3, .int x3), (4, .int x4)]) : W p l e (headSpec wsX8_take rm_X8_take).room s m args below meth c H locs 0 0 (MQ below (wm_Qi D cA ad dsM r M') args s 0 0 (wd_A ad dsM.length)) (F0 m 65 ls []) := by
  have hx := X.1.1
  have hb := X.1.2.1
  have hts := X.1.2.2.2.2
  unfold B_X8_take_65 at hF
  refine lv_iload hx hb dX8_take_65 (lv_at hl 4 rfl) ?_
  refine lv_aload_n hx hb dX8_take_67 rfl (lv_at hl 0 rfl) ?_
  refine wd_getr (q := 18) X hP 0 dM_0 rfl in_X8_take_X8 23 rfl (by decide) (by decide +kernel) dX8_take_68 ?_
  refine lv_iload_n hx hb dX8_take_71 rfl (lv_at hl 1 rfl) ?_
  obtain ⟨h_1, hF⟩ := gi_c hF
  refine wd_ild X hP 18 dM_18 h_1 dX8_take_72 ?_
  refine lv_icmp_ge (tgt := 97) hx hb dX8_take_73 (by decide) (fun c_8 => ?_) (fun c_8 => ?_)
  · have hF := if_t c_8 hF
    refine lv_iload_n hx hb dX8_take_97 rfl (lv_at hl 2 rfl) ?_
    refine lv_istore (lv' := [(4, .int x2), (0, .ref (ad 0)), (1, .int x1), (2, .int x2), (3, .int x3)]) hx hb dX8_take_98 hl (by decide) rfl (fun ls hl => ?_)
    exact wh_X8_take_100 X    100 x2 x3 x2 M _ _ _ hF hP hS (lv_sub hl [1, 3, 4, 0] rfl)
  · have hF := if_e c_8 hF
    refine lv_aload_n hx hb dX8_take_76 rfl (lv_at hl 0 rfl) ?_
    refine lv_aload_n hx hb dX8_take_77 rfl (lv_at hl 0 rfl) ?_
    refine wd_getr (q := 12) X hP 0 dM_0 rfl in_X8_take_X8 17 rfl (by decide) (by decide +kernel) dX8_take_78 ?_
    refine lv_iconst (v := (3 : Int32)) hx hb dX8_take_81 (by decide) ?_
    refine lv_iload_n hx hb dX8_take_82 rfl (lv_at hl 1 rfl) ?_
    refine lv_imul hx hb dX8_take_83 ?_
    refine lv_iload hx hb dX8_take_84 (lv_at hl 4 rfl) ?_
    refine lv_iadd hx hb dX8_take_86 ?_
    obtain ⟨h_2, hF⟩ := gi_c hF
    refine wd_cld X hP 12 dM_12 h_2 dX8_take_87 ?_
    obtain ⟨M_5, hc_4, hF⟩ := bd_c hF
    refine wd_callv X hP hS [.int (M 12 (((3 : Int32) * x1) + x4).toNatClampNeg)] [] (c_X8_put l D cA ad X.2.2.2.2   (M 12 (((3 : Int32) * x1) + x4).toNatClampNeg) M hc_4) (cwV 1 hts gX8_take_X8_put rfl rfl rfl (by decide +kernel) ⟨(by show _ ≤ _; first | exact Nat.le_of_ble_eq_true rfl | (simp [headSpec, rm_X8_take]; omega) | omega), (by show _ ≤ _; first | exact Nat.le_of_ble_eq_true rfl | (simp [headSpec, rm_X8_take]; omega) | omega)⟩) dM_0 rfl rfl hl.1 rfl (Nat.le_of_ble_eq_true rfl) dX8_take_88 (fun H locs hP hS => ?_)
    obtain ⟨x4_6, e_7, hF⟩ := nm_c hF
    refine lv_iinc (v := x4_6) (lv' := [(4, .int x4_6), (0, .ref (ad 0)), (1, .int x1), (2, .int x2), (3, .int x3)]) hx hb dX8_take_91 hl (k := 4) rfl (by rw [e_7]; rfl) (by decide) rfl (fun ls hl => ?_)
    refine lv_goto (tgt := 65) hx hb dX8_take_94 (by decide) ?_
    exact hk65 x1 x2 x3 x4_6 M_5 _ _ _ hF hP hS (lv_sub hl [1, 2, 3, 4, 0] rfl)
set_option maxHeartbeats 4000000 in
set_option maxRecDepth 100000 in
theorem wh_X8_take_65 {p : Program} {l : Launch} {e : Env} {s : State} {m : MethodId} {args : Array Value} {below : List Frame} {meth : Method} {c : Code} {D : va_G} {cA : Nat → ClassId} {ad : Nat → Nat} (X : wd_X p s m args meth c cX8_take 5 wsX8_take RX8 (some .int) D cA ad dsM.length) {r : Int32} {M' : Mem}  : ∀ (n : Nat) (x1 : Int32) (x2 : Int32) (x3 : Int32) (x4 : Int32) (M : Mem) (H : Heap) (locs : List Loc) (ls : Array Slot), H_X8_take_65  n x1 x2 x3 x4 M = some (r, M') → wd_P D cA ad dsM M H → va_S (wd_A ad dsM.length) s.heap H locs → lv_has ls 5 [(0, .ref (ad 0)), (1, .int x1), (2, .int x2), (3, .int x3), (4, .int x4)] → W p l e (headSpec wsX8_take rm_X8_take).room s m args below meth c H locs 0 0 (MQ below (wm_Qi D cA ad dsM r M') args s 0 0 (wd_A ad dsM.length)) (F0 m 65 ls []) := by
  intro n
  induction n with
  | zero => intro x1 x2 x3 x4 M H locs ls hF; cases hF
  | succ n ih => intro x1 x2 x3 x4 M H locs ls hF hP hS hl; exact wb_X8_take_65 X (kh65 := H_X8_take_65  n) ih x1 x2 x3 x4 M H locs ls hF hP hS hl
set_option maxHeartbeats 4000000 in
set_option maxRecDepth 100000 in
theorem wb_X8_take_19 {p : Program} {l : Launch} {e : Env} {s : State} {m : MethodId} {args : Array Value} {below : List Frame} {meth : Method} {c : Code} {D : va_G} {cA : Nat → ClassId} {ad : Nat → Nat} (X : wd_X p s m args meth c cX8_take 5 wsX8_take RX8 (some .int) D cA ad dsM.length) {kh19 : Int32 → Int32 → Int32 → Mem → Option (Int32 × Mem)} {r : Int32} {M' : Mem} (hk19 : ∀ (x1 : Int32) (x2 : Int32) (x3 : Int32) (M : Mem) (H : Heap) (locs : List Loc) (ls : Array Slot), kh19 x1 x2 x3 M = some (r, M') → wd_P D cA ad dsM M H → va_S (wd_A ad dsM.length) s.heap H locs → lv_has ls 5 [(0, .ref (ad 0)), (1, .int x1), (2, .int x2), (3, .int x3)] → W p l e (headSpec wsX8_take rm_X8_take).room s m args below meth c H locs 0 0 (MQ below (wm_Qi D cA ad dsM r M') args s 0 0 (wd_A ad dsM.length)) (F0 m 19 ls [])) (x1 : Int32) (x2 : Int32) (x3 : Int32) (M : Mem) (H : Heap) (locs : List Loc) (ls : Array Slot) (hF : B_X8_take_19 kh19 x1 x2 x3 M = some (r, M')) (hP : wd_P D cA ad dsM M H) (hS : va_S (wd_A ad dsM.length) s.heap H locs) (hl : lv_has ls 5 [(0, .ref (ad 0)), (1, .int x1), (2, .int x2), (3, .int x3)]) : W p l e (headSpec wsX8_take rm_X8_take).room s m args below meth c H locs 0 0 (MQ below (wm_Qi D cA ad dsM r M') args s 0 0 (wd_A ad dsM.length)) (F0 m 19 ls []) := by
  have hx := X.1.1
  have hb := X.1.2.1
  have hts := X.1.2.2.2.2
  unfold B_X8_take_19 at hF
  refine lv_aload_n hx hb dX8_take_19 rfl (lv_at hl 0 rfl) ?_
  refine wd_getr (q := 9) X hP 0 dM_0 rfl in_X8_take_X8 12 rfl (by decide) (by decide +kernel) dX8_take_20 ?_
  refine lv_iload_n hx hb dX8_take_23 rfl (lv_at hl 3 rfl) ?_
  obtain ⟨h_1, hF⟩ := gi_c hF
  refine wd_zld X hP 9 dM_9 h_1 dX8_take_24 ?_
  refine lv_if_ne (tgt := 42) hx hb dX8_take_25 (by decide) (fun c_10 => ?_) (fun c_10 => ?_)
  · have hF := if_e c_10 hF
    exact wb_X8_take_42 X  hk19  x1 x2 x3 M _ _ _ hF hP hS (lv_sub hl [0, 1, 2, 3] rfl)
  · have hF := if_t c_10 hF
    refine lv_iload_n hx hb dX8_take_28 rfl (lv_at hl 3 rfl) ?_
    refine lv_iload_n hx hb dX8_take_29 rfl (lv_at hl 2 rfl) ?_
    refine lv_icmp_eq (tgt := 42) hx hb dX8_take_30 (by decide) (fun c_9 => ?_) (fun c_9 => ?_)
    · have hF := if_t c_9 hF
      exact wb_X8_take_42 X  hk19  x1 x2 x3 M _ _ _ hF hP hS (lv_sub hl [0, 1, 2, 3] rfl)
    · have hF := if_e c_9 hF
      refine lv_aload_n hx hb dX8_take_33 rfl (lv_at hl 0 rfl) ?_
      refine lv_iload_n hx hb dX8_take_34 rfl (lv_at hl 2 rfl) ?_
      refine lv_iload_n hx hb dX8_take_35 rfl (lv_at hl 3 rfl) ?_
      obtain ⟨r_2, hc_3, hF⟩ := bd_c hF
      refine wd_calli X hP hS [.int x2, .int x3] [] (c_X8_within l D cA ad X.2.2.2.2   x2 x3 M hc_3) (cwV 2 hts gX8_take_X8_within rfl rfl rfl (by decide +kernel) ⟨(by show _ ≤ _; first | exact Nat.le_of_ble_eq_true rfl | (simp [headSpec, rm_X8_take]; omega) | omega), (by show _ ≤ _; first | exact Nat.le_of_ble_eq_true rfl | (simp [headSpec, rm_X8_take]; omega) | omega)⟩) dM_0 rfl rfl hl.1 rfl (Nat.le_of_ble_eq_true rfl) dX8_take_36 (fun H locs hP hS => ?_)
      refine lv_if_ne (tgt := 52) hx hb dX8_take_39 (by decide) (fun c_8 => ?_) (fun c_8 => ?_)
      · have hF := if_e c_8 hF
        refine lv_aload_n hx hb dX8_take_52 rfl (lv_at hl 0 rfl) ?_
        refine lv_aload_n hx hb dX8_take_53 rfl (lv_at hl 0 rfl) ?_
        refine wd_getr (q := 19) X hP 0 dM_0 rfl in_X8_take_X8 24 rfl (by decide) (by decide +kernel) dX8_take_54 ?_
        refine lv_iload_n hx hb dX8_take_57 rfl (lv_at hl 3 rfl) ?_
        obtain ⟨h_4, hF⟩ := gi_c hF
        refine wd_ild X hP 19 dM_19 h_4 dX8_take_58 ?_
        obtain ⟨M_7, hc_6, hF⟩ := bd_c hF
        refine wd_callv X hP hS [.int (M 19 x3.toNatClampNeg)] [] (c_X8_leave l D cA ad X.2.2.2.2   (M 19 x3.toNatClampNeg) M hc_6) (cwV 1 hts gX8_take_X8_leave rfl rfl rfl (by decide +kernel) ⟨(by show _ ≤ _; first | exact Nat.le_of_ble_eq_true rfl | (simp [headSpec, rm_X8_take]; omega) | omega), (by show _ ≤ _; first | exact Nat.le_of_ble_eq_true rfl | (simp [headSpec, rm_X8_take]; omega) | omega)⟩) dM_0 rfl rfl hl.1 rfl (Nat.le_of_ble_eq_true rfl) dX8_take_59 (fun H locs hP hS => ?_)
        refine lv_iconst (v := (0 : Int32)) hx hb dX8_take_62 (by decide) ?_
        refine lv_istore (lv' := [(4, .int (0 : Int32)), (0, .ref (ad 0)), (1, .int x1), (2, .int x2), (3, .int x3)]) hx hb dX8_take_63 hl (by decide) rfl (fun ls hl => ?_)
        exact wh_X8_take_65 X    100 x1 x2 x3 (0 : Int32) M_7 _ _ _ hF hP hS (lv_sub hl [1, 2, 3, 4, 0] rfl)
      · have hF := if_t c_8 hF
        exact wb_X8_take_42 X  hk19  x1 x2 x3 M _ _ _ hF hP hS (lv_sub hl [0, 1, 2, 3] rfl)
set_option maxHeartbeats 4000000 in
set_option maxRecDepth 100000 in
theorem wh_X8_take_19 {p : Program} {l : Launch} {e : Env} {s : State} {m : MethodId} {args : Array Value} {below : List Frame} {meth : Method} {c : Code} {D : va_G} {cA : Nat → ClassId} {ad : Nat → Nat} (X : wd_X p s m args meth c cX8_take 5 wsX8_take RX8 (some .int) D cA ad dsM.length) {r : Int32} {M' : Mem}  : ∀ (n : Nat) (x1 : Int32) (x2 : Int32) (x3 : Int32) (M : Mem) (H : Heap) (locs : List Loc) (ls : Array Slot), H_X8_take_19  n x1 x2 x3 M = some (r, M') → wd_P D cA ad dsM M H → va_S (wd_A ad dsM.length) s.heap H locs → lv_has ls 5 [(0, .ref (ad 0)), (1, .int x1), (2, .int x2), (3, .int x3)] → W p l e (headSpec wsX8_take rm_X8_take).room s m args below meth c H locs 0 0 (MQ below (wm_Qi D cA ad dsM r M') args s 0 0 (wd_A ad dsM.length)) (F0 m 19 ls []) := by
  intro n
  induction n with
  | zero => intro x1 x2 x3 M H locs ls hF; cases hF
  | succ n ih => intro x1 x2 x3 M H locs ls hF hP hS hl; exact wb_X8_take_19 X (kh19 := H_X8_take_19  n) ih x1 x2 x3 M H locs ls hF hP hS hl
set_option maxHeartbeats 4000000 in
set_option maxRecDepth 100000 in
theorem c_X8_take (l : Launch) (D : va_G) (cA : Nat → ClassId) (ad : Nat → Nat) (hj : wd_inj ad dsM.length)   (x1 : Int32) (M : Mem) {r : Int32} {M' : Mem} (hF : F_X8_take x1 M = some (r, M')) : wm_i l yX8_take wsX8_take rm_X8_take D cA ad dsM M [.ref (ad 0), .int x1] r M' := by
  refine Met.ofW (cc := cX8_take) (maxL := 5) (ret := (some .int)) (by decide) rfl ?_
  intro p e s m args below meth c s₁ B hml hv
  obtain ⟨rfl, hP, hK⟩ := hv
  have X : wd_X p s m _ meth c cX8_take 5 wsX8_take RX8 (some .int) D cA ad dsM.length := ⟨⟨B.exec, B.bytes, hml, findClass_of_methodNamed B.named, atoms_spec (ws := wsX8_take) B.pre⟩, hK, B.notSynchronized, B.returns, hj⟩
  have hl := lv_entry ([.ref (ad 0), .int x1]) (n := 5) (Nat.le_of_ble_eq_true rfl)
  rw [lg_entry_eq]
  generalize (lg_sl ([.ref (ad 0), .int x1]) ++ List.replicate (5 - (lg_sl ([.ref (ad 0), .int x1])).length) Slot.unset).toArray = ls at hl ⊢
  have hl : lv_has ls 5 [(0, .ref (ad 0)), (1, .int x1)] := hl
  have hS : va_S (wd_A ad dsM.length) s.heap s.heap [] := va_S.rf
  have hx := X.1.1
  have hb := X.1.2.1
  have hts := X.1.2.2.2.2
  unfold F_X8_take at hF
  refine lv_aload_n hx hb dX8_take_0 rfl (lv_at hl 0 rfl) ?_
  refine wd_getr (q := 15) X hP 0 dM_0 rfl in_X8_take_X8 20 rfl (by decide) (by decide +kernel) dX8_take_1 ?_
  refine lv_iload_n hx hb dX8_take_4 rfl (lv_at hl 1 rfl) ?_
  obtain ⟨h_1, hF⟩ := gi_c hF
  refine wd_ild X hP 15 dM_15 h_1 dX8_take_5 ?_
  obtain ⟨x2_2, e_3, hF⟩ := nm_c hF
  refine wd_top e_3 ?_
  refine lv_istore_n (lv' := [(2, .int x2_2), (0, .ref (ad 0)), (1, .int x1)]) hx hb dX8_take_6 rfl hl (by decide) rfl (fun ls hl => ?_)
  refine lv_aload_n hx hb dX8_take_7 rfl (lv_at hl 1 rfl) ?_
  refine wd_getr (q := 6) X hP 0 dM_0 rfl in_X8_take_X8 9 rfl (by decide) (by decide +kernel) dX8_take_8 ?_
  refine lv_aload_n hx hb dX8_take_11 rfl (lv_at hl 1 rfl) ?_
  refine wd_getr (q := 14) X hP 0 dM_0 rfl in_X8_take_X8 19 rfl (by decide) (by decide +kernel) dX8_take_12 ?_
  refine lv_iload_n hx hb dX8_take_15 rfl (lv_at hl 2 rfl) ?_
  obtain ⟨h_4, hF⟩ := gi_c hF
  refine wd_ild X hP 14 dM_14 h_4 dX8_take_16 ?_
  obtain ⟨h_5, hF⟩ := gi_c hF
  refine wd_ild X hP 6 dM_6 h_5 dX8_take_17 ?_
  obtain ⟨x3_6, e_7, hF⟩ := nm_c hF
  refine wd_top e_7 ?_
  refine lv_istore_n (lv' := [(3, .int x3_6), (2, .int x2_2), (0, .ref (ad 0)), (1, .int x1)]) hx hb dX8_take_18 rfl hl (by decide) rfl (fun ls hl => ?_)
  exact wh_X8_take_19 X    100 x1 x2_2 x3_6 M _ _ _ hF hP hS (lv_sub hl [2, 3, 1, 0] rfl)
/-! X8_own (II)I -/
theorem in_X8_own_X8 : ∀ w ∈ u_ws RX8 TX8 39, w ∈ wsX8_own := by decide +kernel
set_option maxHeartbeats 4000000 in
set_option maxRecDepth 100000 in
theorem wb_X8_own_85 {p : Program} {l : Launch} {e : Env} {s : State} {m : MethodId} {args : Array Value} {below : List Frame} {meth : Method} {c : Code} {D : va_G} {cA : Nat → ClassId} {ad : Nat → Nat} (X : wd_X p s m args meth c cX8_own 5 wsX8_own RX8 (some .int) D cA ad dsM.length) {kh2 : Int32 → Int32 → Int32 → Mem → Option (Int32 × Mem)} {r : Int32} {M' : Mem} (hk2 : ∀ (x1 : Int32) (x2 : Int32) (x3 : Int32) (M : Mem) (H : Heap) (locs : List Loc) (ls : Array Slot), kh2 x1 x2 x3 M = some (r, M') → wd_P D cA ad dsM M H → va_S (wd_A ad dsM.length) s.heap H locs → lv_has ls 5 [(0, .ref (ad 0)), (1, .int x1), (2, .int x2), (3, .int x3)] → W p l e (headSpec wsX8_own rm_X8_own).room s m args below meth c H locs 0 0 (MQ below (wm_Qi D cA ad dsM r M') args s 0 0 (wd_A ad dsM.length)) (F0 m 2 ls [])) (x1 : Int32) (x2 : Int32) (x3 : Int32) (M : Mem) (H : Heap) (locs : List Loc) (ls : Array Slot) (hF : B_X8_own_85 kh2 x1 x2 x3 M = some (r, M')) (hP : wd_P D cA ad dsM M H) (hS : va_S (wd_A ad dsM.length) s.heap H locs) (hl : lv_has ls 5 [(0, .ref (ad 0)), (1, .int x1), (2, .int x2), (3, .int x3)]) : W p l e (headSpec wsX8_own rm_X8_own).room s m args below meth c H locs 0 0 (MQ below (wm_Qi D cA ad dsM r M') args s 0 0 (wd_A ad dsM.length)) (F0 m 85 ls []) := by
  have hx := X.1.1
  have hb := X.1.2.1
  have hts := X.1.2.2.2.2
  unfold B_X8_own_85 at hF
  obtain ⟨x3_1, e_2, hF⟩ := nm_c hF
  refine lv_iinc (v := x3_1) (lv' := [(3, .int x3_1), (0, .ref (ad 0)), (1, .int x1), (2, .int x2)]) hx hb dX8_own_85 hl (k := 3) rfl (by rw [e_2]; rfl) (by decide) rfl (fun ls hl => ?_)
  refine lv_goto (tgt := 2) hx hb dX8_own_88 (by decide) ?_
  exact hk2 x1 x2 x3_1 M _ _ _ hF hP hS (lv_sub hl [1, 2, 3, 0] rfl)
set_option maxHeartbeats 4000000 in
set_option maxRecDepth 100000 in
theorem wb_X8_own_52 {p : Program} {l : Launch} {e : Env} {s : State} {m : MethodId} {args : Array Value} {below : List Frame} {meth : Method} {c : Code} {D : va_G} {cA : Nat → ClassId} {ad : Nat → Nat} (X : wd_X p s m args meth c cX8_own 5 wsX8_own RX8 (some .int) D cA ad dsM.length) {kh2 : Int32 → Int32 → Int32 → Mem → Option (Int32 × Mem)} {r : Int32} {M' : Mem} (hk2 : ∀ (x1 : Int32) (x2 : Int32) (x3 : Int32) (M : Mem) (H : Heap) (locs : List Loc) (ls : Array Slot), kh2 x1 x2 x3 M = some (r, M') → wd_P D cA ad dsM M H → va_S (wd_A ad dsM.length) s.heap H locs → lv_has ls 5 [(0, .ref (ad 0)), (1, .int x1), (2, .int x2), (3, .int x3)] → W p l e (headSpec wsX8_own rm_X8_own).room s m args below meth c H locs 0 0 (MQ below (wm_Qi D cA ad dsM r M') args s 0 0 (wd_A ad dsM.length)) (F0 m 2 ls [])) (x1 : Int32) (x2 : Int32) (x3 : Int32) (t0 : Int32) (M : Mem) (H : Heap) (locs : List Loc) (ls : Array Slot) (hF : B_X8_own_52 kh2 x1 x2 x3 t0 M = some (r, M')) (hP : wd_P D cA ad dsM M H) (hS : va_S (wd_A ad dsM.length) s.heap H locs) (hl : lv_has ls 5 [(0, .ref (ad 0)), (1, .int x1), (2, .int x2), (3, .int x3)]) : W p l e (headSpec wsX8_own rm_X8_own).room s m args below meth c H locs 0 0 (MQ below (wm_Qi D cA ad dsM r M') args s 0 0 (wd_A ad dsM.length)) (F0 m 52 ls [.int t0]) := by
  have hx := X.1.1
  have hb := X.1.2.1
  have hts := X.1.2.2.2.2
  unfold B_X8_own_52 at hF
  refine lv_istore (lv' := [(4, .int t0), (0, .ref (ad 0)), (1, .int x1), (2, .int x2), (3, .int x3)]) hx hb dX8_own_52 hl (by decide) rfl (fun ls hl => ?_)
  refine lv_aload_n hx hb dX8_own_54 rfl (lv_at hl 1 rfl) ?_
  refine wd_getr (q := 14) X hP 0 dM_0 rfl in_X8_own_X8 19 rfl (by decide) (by decide +kernel) dX8_own_55 ?_
  refine lv_iload_n hx hb dX8_own_58 rfl (lv_at hl 4 rfl) ?_
  obtain ⟨h_1, hF⟩ := gi_c hF
  refine wd_ild X hP 14 dM_14 h_1 dX8_own_59 ?_
  refine lv_iload_n hx hb dX8_own_60 rfl (lv_at hl 2 rfl) ?_
  refine lv_icmp_ne (tgt := 85) hx hb dX8_own_61 (by decide) (fun c_8 => ?_) (fun c_8 => ?_)
  · have hF := if_e c_8 hF
    exact wb_X8_own_85 X  hk2  x1 x2 x3 M _ _ _ hF hP hS (lv_sub hl [1, 2, 3, 4] rfl)
  · have hF := if_t c_8 hF
    refine lv_aload_n hx hb dX8_own_64 rfl (lv_at hl 1 rfl) ?_
    refine wd_getr (q := 13) X hP 0 dM_0 rfl in_X8_own_X8 18 rfl (by decide) (by decide +kernel) dX8_own_65 ?_
    refine lv_iload_n hx hb dX8_own_68 rfl (lv_at hl 4 rfl) ?_
    obtain ⟨h_2, hF⟩ := gi_c hF
    refine wd_ild X hP 13 dM_13 h_2 dX8_own_69 ?_
    refine lv_iload_n hx hb dX8_own_70 rfl (lv_at hl 3 rfl) ?_
    refine lv_icmp_ne (tgt := 85) hx hb dX8_own_71 (by decide) (fun c_7 => ?_) (fun c_7 => ?_)
    · have hF := if_e c_7 hF
      exact wb_X8_own_85 X  hk2  x1 x2 x3 M _ _ _ hF hP hS (lv_sub hl [1, 2, 3, 4] rfl)
    · have hF := if_t c_7 hF
      refine lv_iload hx hb dX8_own_74 (lv_at hl 0 rfl) ?_
      refine lv_if_eq (tgt := 85) hx hb dX8_own_76 (by decide) (fun c_6 => ?_) (fun c_6 => ?_)
      · have hF := if_t c_6 hF
        exact wb_X8_own_85 X  hk2  x1 x2 x3 M _ _ _ hF hP hS (lv_sub hl [1, 2, 3, 4] rfl)
      · have hF := if_e c_6 hF
        refine lv_aload_n hx hb dX8_own_79 rfl (lv_at hl 1 rfl) ?_
        refine lv_iload_n hx hb dX8_own_80 rfl (lv_at hl 4 rfl) ?_
        obtain ⟨r_3, M_5, hc_4, hF⟩ := bd2_c hF
        refine wd_calli X hP hS [.int x3] [] (c_X8_take l D cA ad X.2.2.2.2   x3 M hc_4) (cwV 1 hts gX8_own_X8_take rfl rfl rfl (by decide +kernel) ⟨(by show _ ≤ _; first | exact Nat.le_of_ble_eq_true rfl | (simp [headSpec, rm_X8_own]; omega) | omega), (by show _ ≤ _; first | exact Nat.le_of_ble_eq_true rfl | (simp [headSpec, rm_X8_own]; omega) | omega)⟩) dM_0 rfl rfl hl.1 rfl (Nat.le_of_ble_eq_true rfl) dX8_own_81 (fun H locs hP hS => ?_)
        cases hF
        exact wd_reti X hP hS rfl rfl dX8_own_84
set_option maxHeartbeats 4000000 in
set_option maxRecDepth 100000 in
theorem wb_X8_own_47 {p : Program} {l : Launch} {e : Env} {s : State} {m : MethodId} {args : Array Value} {below : List Frame} {meth : Method} {c : Code} {D : va_G} {cA : Nat → ClassId} {ad : Nat → Nat} (X : wd_X p s m args meth c cX8_own 5 wsX8_own RX8 (some .int) D cA ad dsM.length) {kh2 : Int32 → Int32 → Int32 → Mem → Option (Int32 × Mem)} {r : Int32} {M' : Mem} (hk2 : ∀ (x1 : Int32) (x2 : Int32) (x3 : Int32) (M : Mem) (H : Heap) (locs : List Loc) (ls : Array Slot), kh2 x1 x2 x3 M = some (r, M') → wd_P D cA ad dsM M H → va_S (wd_A ad dsM.length) s.heap H locs → lv_has ls 5 [(0, .ref (ad 0)), (1, .int x1), (2, .int x2), (3, .int x3)] → W p l e (headSpec wsX8_own rm_X8_own).room s m args below meth c H locs 0 0 (MQ below (wm_Qi D cA ad dsM r M') args s 0 0 (wd_A ad dsM.length)) (F0 m 2 ls [])) (x1 : Int32) (x2 : Int32) (x3 : Int32) (M : Mem) (H : Heap) (locs : List Loc) (ls : Array Slot) (hF : B_X8_own_47 kh2 x1 x2 x3 M = some (r, M')) (hP : wd_P D cA ad dsM M H) (hS : va_S (wd_A ad dsM.length) s.heap H locs) (hl : lv_has ls 5 [(0, .ref (ad 0)), (1, .int x1), (2, .int x2), (3, .int x3)]) : W p l e (headSpec wsX8_own rm_X8_own).room s m args below meth c H locs 0 0 (MQ below (wm_Qi D cA ad dsM r M') args s 0 0 (wd_A ad dsM.length)) (F0 m 47 ls []) := by
  have hx := X.1.1
  have hb := X.1.2.1
  have hts := X.1.2.2.2.2
  unfold B_X8_own_47 at hF
  refine lv_iconst (v := (1 : Int32)) hx hb dX8_own_47 (by decide) ?_
  refine lv_goto (tgt := 52) hx hb dX8_own_48 (by decide) ?_
  exact wb_X8_own_52 X  hk2  x1 x2 x3 (1 : Int32) M _ _ _ hF hP hS (lv_sub hl [0, 1, 2, 3] rfl)
set_option maxHeartbeats 4000000 in
set_option maxRecDepth 100000 in
theorem wb_X8_own_44 {p : Program} {l : Launch} {e : Env} {s : State} {m : MethodId} {args : Array Value} {below : List Frame} {meth : Method} {c : Code} {D : va_G} {cA : Nat → ClassId} {ad : Nat → Nat} (X : wd_X p s m args meth c cX8_own 5 wsX8_own RX8 (some .int) D cA ad dsM.length) {kh2 : Int32 → Int32 → Int32 → Mem → Option (Int32 × Mem)} {r : Int32} {M' : Mem} (hk2 : ∀ (x1 : Int32) (x2 : Int32) (x3 : Int32) (M : Mem) (H : Heap) (locs : List Loc) (ls : Array Slot), kh2 x1 x2 x3 M = some (r, M') → wd_P D cA ad dsM M H → va_S (wd_A ad dsM.length) s.heap H locs → lv_has ls 5 [(0, .ref (ad 0)), (1, .int x1), (2, .int x2), (3, .int x3)] → W p l e (headSpec wsX8_own rm_X8_own).room s m args below meth c H locs 0 0 (MQ below (wm_Qi D cA ad dsM r M') args s 0 0 (wd_A ad dsM.length)) (F0 m 2 ls [])) (x1 : Int32) (x2 : Int32) (x3 : Int32) (t0 : Int32) (t1 : Int32) (M : Mem) (H : Heap) (locs : List Loc) (ls : Array Slot) (hF : B_X8_own_44 kh2 x1 x2 x3 t0 t1 M = some (r, M')) (hP : wd_P D cA ad dsM M H) (hS : va_S (wd_A ad dsM.length) s.heap H locs) (hl : lv_has ls 5 [(0, .ref (ad 0)), (1, .int x1), (2, .int x2), (3, .int x3)]) : W p l e (headSpec wsX8_own rm_X8_own).room s m args below meth c H locs 0 0 (MQ below (wm_Qi D cA ad dsM r M') args s 0 0 (wd_A ad dsM.length)) (F0 m 44 ls [.int t0, .int t1]) := by
  have hx := X.1.1
  have hb := X.1.2.1
  have hts := X.1.2.2.2.2
  unfold B_X8_own_44 at hF
  refine lv_icmp_ne (tgt := 51) hx hb dX8_own_44 (by decide) (fun c_1 => ?_) (fun c_1 => ?_)
  · have hF := if_e c_1 hF
    refine lv_iconst (v := (0 : Int32)) hx hb dX8_own_51 (by decide) ?_
    exact wb_X8_own_52 X  hk2  x1 x2 x3 (0 : Int32) M _ _ _ hF hP hS (lv_sub hl [0, 1, 2, 3] rfl)
  · have hF := if_t c_1 hF
    exact wb_X8_own_47 X  hk2  x1 x2 x3 M _ _ _ hF hP hS (lv_sub hl [0, 1, 2, 3] rfl)
set_option maxHeartbeats 4000000 in
set_option maxRecDepth 100000 in
theorem wb_X8_own_2 {p : Program} {l : Launch} {e : Env} {s : State} {m : MethodId} {args : Array Value} {below : List Frame} {meth : Method} {c : Code} {D : va_G} {cA : Nat → ClassId} {ad : Nat → Nat} (X : wd_X p s m args meth c cX8_own 5 wsX8_own RX8 (some .int) D cA ad dsM.length) {kh2 : Int32 → Int32 → Int32 → Mem → Option (Int32 × Mem)} {r : Int32} {M' : Mem} (hk2 : ∀ (x1 : Int32) (x2 : Int32) (x3 : Int32) (M : Mem) (H : Heap) (locs : List Loc) (ls : Array Slot), kh2 x1 x2 x3 M = some (r, M') → wd_P D cA ad dsM M H → va_S (wd_A ad dsM.length) s.heap H locs → lv_has ls 5 [(0, .ref (ad 0)), (1, .int x1), (2, .int x2), (3, .int x3)] → W p l e (headSpec wsX8_own rm_X8_own).room s m args below meth c H locs 0 0 (MQ below (wm_Qi D cA ad dsM r M') args s 0 0 (wd_A ad dsM.length)) (F0 m 2 ls [])) (x1 : Int32) (x2 : Int32) (x3 : Int32) (M : Mem) (H : Heap) (locs : List Loc) (ls : Array Slot) (hF : B_X8_own_2 kh2 x1 x2 x3 M = some (r, M')) (hP : wd_P D cA ad dsM M H) (hS : va_S (wd_A ad dsM.length) s.heap H locs) (hl : lv_has ls 5 [(0, .ref (ad 0)), (1, .int x1), (2, .int x2), (3, .int x3)]) : W p l e (headSpec wsX8_own rm_X8_own).room s m args below meth c H locs 0 0 (MQ below (wm_Qi D cA ad dsM r M') args s 0 0 (wd_A ad dsM.length)) (F0 m 2 ls []) := by
  have hx := X.1.1
  have hb := X.1.2.1
  have hts := X.1.2.2.2.2
  unfold B_X8_own_2 at hF
  refine lv_iload_n hx hb dX8_own_2 rfl (lv_at hl 3 rfl) ?_
  refine lv_aload_n hx hb dX8_own_3 rfl (lv_at hl 0 rfl) ?_
  refine wd_geti X hP 0 dM_0 rfl in_X8_own_X8 15 rfl (by decide) (by decide +kernel) dX8_own_4 ?_
  refine lv_icmp_ge (tgt := 91) hx hb dX8_own_7 (by decide) (fun c_8 => ?_) (fun c_8 => ?_)
  · have hF := if_t c_8 hF
    refine lv_bipush (v := (99 : Int32)) hx hb dX8_own_91 (by decide) ?_
    cases hF
    exact wd_reti X hP hS rfl rfl dX8_own_93
  · have hF := if_e c_8 hF
    refine lv_aload_n hx hb dX8_own_10 rfl (lv_at hl 0 rfl) ?_
    refine wd_getr (q := 16) X hP 0 dM_0 rfl in_X8_own_X8 21 rfl (by decide) (by decide +kernel) dX8_own_11 ?_
    refine lv_iload_n hx hb dX8_own_14 rfl (lv_at hl 3 rfl) ?_
    obtain ⟨h_1, hF⟩ := gi_c hF
    refine wd_ild X hP 16 dM_16 h_1 dX8_own_15 ?_
    refine lv_if_eq (tgt := 47) hx hb dX8_own_16 (by decide) (fun c_7 => ?_) (fun c_7 => ?_)
    · have hF := if_t c_7 hF
      exact wb_X8_own_47 X  hk2  x1 x2 x3 M _ _ _ hF hP hS (lv_sub hl [0, 1, 2, 3] rfl)
    · have hF := if_e c_7 hF
      refine lv_aload_n hx hb dX8_own_19 rfl (lv_at hl 0 rfl) ?_
      refine lv_aload_n hx hb dX8_own_20 rfl (lv_at hl 0 rfl) ?_
      refine wd_getr (q := 17) X hP 0 dM_0 rfl in_X8_own_X8 22 rfl (by decide) (by decide +kernel) dX8_own_21 ?_
      refine lv_iload_n hx hb dX8_own_24 rfl (lv_at hl 3 rfl) ?_
      obtain ⟨h_2, hF⟩ := gi_c hF
      refine wd_ild X hP 17 dM_17 h_2 dX8_own_25 ?_
      obtain ⟨r_3, hc_4, hF⟩ := bd_c hF
      refine wd_calli X hP hS [.int (M 17 x3.toNatClampNeg)] [] (c_X8_isActive l D cA ad X.2.2.2.2   (M 17 x3.toNatClampNeg) M hc_4) (cwV 1 hts gX8_own_X8_isActive rfl rfl rfl (by decide +kernel) ⟨(by show _ ≤ _; first | exact Nat.le_of_ble_eq_true rfl | (simp [headSpec, rm_X8_own]; omega) | omega), (by show _ ≤ _; first | exact Nat.le_of_ble_eq_true rfl | (simp [headSpec, rm_X8_own]; omega) | omega)⟩) dM_0 rfl rfl hl.1 rfl (Nat.le_of_ble_eq_true rfl) dX8_own_26 (fun H locs hP hS => ?_)
      refine lv_aload_n hx hb dX8_own_29 rfl (lv_at hl 0 rfl) ?_
      refine wd_getr (q := 16) X hP 0 dM_0 rfl in_X8_own_X8 21 rfl (by decide) (by decide +kernel) dX8_own_30 ?_
      refine lv_iload_n hx hb dX8_own_33 rfl (lv_at hl 3 rfl) ?_
      obtain ⟨h_5, hF⟩ := gi_c hF
      refine wd_ild X hP 16 dM_16 h_5 dX8_own_34 ?_
      refine lv_iconst (v := (1 : Int32)) hx hb dX8_own_35 (by decide) ?_
      refine lv_icmp_ne (tgt := 43) hx hb dX8_own_36 (by decide) (fun c_6 => ?_) (fun c_6 => ?_)
      · have hF := if_e c_6 hF
        refine lv_iconst (v := (0 : Int32)) hx hb dX8_own_43 (by decide) ?_
        exact wb_X8_own_44 X  hk2  x1 x2 x3 (0 : Int32) r_3 M _ _ _ hF hP hS (lv_sub hl [0, 1, 2, 3] rfl)
      · have hF := if_t c_6 hF
        refine lv_iconst (v := (1 : Int32)) hx hb dX8_own_39 (by decide) ?_
        refine lv_goto (tgt := 44) hx hb dX8_own_40 (by decide) ?_
        exact wb_X8_own_44 X  hk2  x1 x2 x3 (1 : Int32) r_3 M _ _ _ hF hP hS (lv_sub hl [0, 1, 2, 3] rfl)
set_option maxHeartbeats 4000000 in
set_option maxRecDepth 100000 in
theorem wh_X8_own_2 {p : Program} {l : Launch} {e : Env} {s : State} {m : MethodId} {args : Array Value} {below : List Frame} {meth : Method} {c : Code} {D : va_G} {cA : Nat → ClassId} {ad : Nat → Nat} (X : wd_X p s m args meth c cX8_own 5 wsX8_own RX8 (some .int) D cA ad dsM.length) {r : Int32} {M' : Mem}  : ∀ (n : Nat) (x1 : Int32) (x2 : Int32) (x3 : Int32) (M : Mem) (H : Heap) (locs : List Loc) (ls : Array Slot), H_X8_own_2  n x1 x2 x3 M = some (r, M') → wd_P D cA ad dsM M H → va_S (wd_A ad dsM.length) s.heap H locs → lv_has ls 5 [(0, .ref (ad 0)), (1, .int x1), (2, .int x2), (3, .int x3)] → W p l e (headSpec wsX8_own rm_X8_own).room s m args below meth c H locs 0 0 (MQ below (wm_Qi D cA ad dsM r M') args s 0 0 (wd_A ad dsM.length)) (F0 m 2 ls []) := by
  intro n
  induction n with
  | zero => intro x1 x2 x3 M H locs ls hF; cases hF
  | succ n ih => intro x1 x2 x3 M H locs ls hF hP hS hl; exact wb_X8_own_2 X (kh2 := H_X8_own_2  n) ih x1 x2 x3 M H locs ls hF hP hS hl
set_option maxHeartbeats 4000000 in
set_option maxRecDepth 100000 in
theorem c_X8_own (l : Launch) (D : va_G) (cA : Nat → ClassId) (ad : Nat → Nat) (hj : wd_inj ad dsM.length)   (x1 : Int32) (x2 : Int32) (M : Mem) {r : Int32} {M' : Mem} (hF : F_X8_own x1 x2 M = some (r, M')) : wm_i l yX8_own wsX8_own rm_X8_own D cA ad dsM M [.ref (ad 0), .int x1, .int x2] r M' := by
  refine Met.ofW (cc := cX8_own) (maxL := 5) (ret := (some .int)) (by decide) rfl ?_
  intro p e s m args below meth c s₁ B hml hv
  obtain ⟨rfl, hP, hK⟩ := hv
  have X : wd_X p s m _ meth c cX8_own 5 wsX8_own RX8 (some .int) D cA ad dsM.length := ⟨⟨B.exec, B.bytes, hml, findClass_of_methodNamed B.named, atoms_spec (ws := wsX8_own) B.pre⟩, hK, B.notSynchronized, B.returns, hj⟩
  have hl := lv_entry ([.ref (ad 0), .int x1, .int x2]) (n := 5) (Nat.le_of_ble_eq_true rfl)
  rw [lg_entry_eq]
  generalize (lg_sl ([.ref (ad 0), .int x1, .int x2]) ++ List.replicate (5 - (lg_sl ([.ref (ad 0), .int x1, .int x2])).length) Slot.unset).toArray = ls at hl ⊢
  have hl : lv_has ls 5 [(0, .ref (ad 0)), (1, .int x1), (2, .int x2)] := hl
  have hS : va_S (wd_A ad dsM.length) s.heap s.heap [] := va_S.rf
  have hx := X.1.1
  have hb := X.1.2.1
  have hts := X.1.2.2.2.2
  unfold F_X8_own at hF
  refine lv_iconst (v := (0 : Int32)) hx hb dX8_own_0 (by decide) ?_
  refine lv_istore_n (lv' := [(3, .int (0 : Int32)), (0, .ref (ad 0)), (1, .int x1), (2, .int x2)]) hx hb dX8_own_1 rfl hl (by decide) rfl (fun ls hl => ?_)
  exact wh_X8_own_2 X    100 x1 x2 (0 : Int32) M _ _ _ hF hP hS (lv_sub hl [1, 2, 3, 0] rfl)
/-! X8_following (II)I -/
theorem in_X8_following_X8 : ∀ w ∈ u_ws RX8 TX8 39, w ∈ wsX8_following := by decide +kernel
set_option maxHeartbeats 4000000 in
set_option maxRecDepth 100000 in
theorem wb_X8_following_38 {p : Program} {l : Launch} {e : Env} {s : State} {m : MethodId} {args : Array Value} {below : List Frame} {meth : Method} {c : Code} {D : va_G} {cA : Nat → ClassId} {ad : Nat → Nat} (X : wd_X p s m args meth c cX8_following 4 wsX8_following RX8 (some .int) D cA ad dsM.length) {kh38 : Int32 → Int32 → Option Int32} {M : Mem} {r : Int32} (hk38 : ∀ (x1 : Int32) (x3 : Int32) (H : Heap) (locs : List Loc) (ls : Array Slot), kh38 x1 x3 = some r → wd_P D cA ad dsM M H → va_S (wd_A ad dsM.length) s.heap H locs → lv_has ls 4 [(0, .ref (ad 0)), (1, .int x1), (3, .int x3)] → W p l e (headSpec wsX8_following rm_X8_following).room s m args below meth c H locs 0 0 (MQ below (wm_Qi D cA ad dsM r M) args s 0 0 (wd_A ad dsM.length)) (F0 m 38 ls [])) (x1 : Int32) (x3 : Int32) (H : Heap) (locs : List Loc) (ls : Array Slot) (hF : B_X8_following_38 kh38 M x1 x3 = some r) (hP : wd_P D cA ad dsM M H) (hS : va_S (wd_A ad dsM.length) s.heap H locs) (hl : lv_has ls 4 [(0, .ref (ad 0)), (1, .int x1), (3, .int x3)]) : W p l e (headSpec wsX8_following rm_X8_following).room s m args below meth c H locs 0 0 (MQ below (wm_Qi D cA ad dsM r M) args s 0 0 (wd_A ad dsM.length)) (F0 m 38 ls []) := by
  have hx := X.1.1
  have hb := X.1.2.1
  have hts := X.1.2.2.2.2
  unfold B_X8_following_38 at hF
  refine lv_iload_n hx hb dX8_following_38 rfl (lv_at hl 2 rfl) ?_
  refine lv_aload_n hx hb dX8_following_39 rfl (lv_at hl 0 rfl) ?_
  refine wd_geti X hP 0 dM_0 rfl in_X8_following_X8 6 rfl (by decide) (by decide +kernel) dX8_following_40 ?_
  refine lv_icmp_ge (tgt := 64) hx hb dX8_following_43 (by decide) (fun c_5 => ?_) (fun c_5 => ?_)
  · have hF := if_t c_5 hF
    refine lv_iconst (v := (-1 : Int32)) hx hb dX8_following_64 (by decide) ?_
    cases hF
    exact wd_reti X hP hS rfl rfl dX8_following_65
  · have hF := if_e c_5 hF
    refine lv_aload_n hx hb dX8_following_46 rfl (lv_at hl 0 rfl) ?_
    refine wd_getr (q := 6) X hP 0 dM_0 rfl in_X8_following_X8 9 rfl (by decide) (by decide +kernel) dX8_following_47 ?_
    refine lv_iload_n hx hb dX8_following_50 rfl (lv_at hl 2 rfl) ?_
    obtain ⟨h_1, hF⟩ := gi_c hF
    refine wd_ild X hP 6 dM_6 h_1 dX8_following_51 ?_
    refine lv_iload_n hx hb dX8_following_52 rfl (lv_at hl 1 rfl) ?_
    refine lv_icmp_ne (tgt := 58) hx hb dX8_following_53 (by decide) (fun c_4 => ?_) (fun c_4 => ?_)
    · have hF := if_e c_4 hF
      obtain ⟨x3_2, e_3, hF⟩ := nm_c hF
      refine lv_iinc (v := x3_2) (lv' := [(3, .int x3_2), (0, .ref (ad 0)), (1, .int x1)]) hx hb dX8_following_58 hl (k := 2) rfl (by rw [e_3]; rfl) (by decide) rfl (fun ls hl => ?_)
      refine lv_goto (tgt := 38) hx hb dX8_following_61 (by decide) ?_
      exact hk38 x1 x3_2 _ _ _ hF hP hS (lv_sub hl [1, 2, 0] rfl)
    · have hF := if_t c_4 hF
      refine lv_iload_n hx hb dX8_following_56 rfl (lv_at hl 2 rfl) ?_
      cases hF
      exact wd_reti X hP hS rfl rfl dX8_following_57
set_option maxHeartbeats 4000000 in
set_option maxRecDepth 100000 in
theorem wh_X8_following_38 {p : Program} {l : Launch} {e : Env} {s : State} {m : MethodId} {args : Array Value} {below : List Frame} {meth : Method} {c : Code} {D : va_G} {cA : Nat → ClassId} {ad : Nat → Nat} (X : wd_X p s m args meth c cX8_following 4 wsX8_following RX8 (some .int) D cA ad dsM.length) {M : Mem} {r : Int32}  : ∀ (n : Nat) (x1 : Int32) (x3 : Int32) (H : Heap) (locs : List Loc) (ls : Array Slot), H_X8_following_38 M n x1 x3 = some r → wd_P D cA ad dsM M H → va_S (wd_A ad dsM.length) s.heap H locs → lv_has ls 4 [(0, .ref (ad 0)), (1, .int x1), (3, .int x3)] → W p l e (headSpec wsX8_following rm_X8_following).room s m args below meth c H locs 0 0 (MQ below (wm_Qi D cA ad dsM r M) args s 0 0 (wd_A ad dsM.length)) (F0 m 38 ls []) := by
  intro n
  induction n with
  | zero => intro x1 x3 H locs ls hF; cases hF
  | succ n ih => intro x1 x3 H locs ls hF hP hS hl; exact wb_X8_following_38 X (kh38 := H_X8_following_38 M n) ih x1 x3 H locs ls hF hP hS hl
set_option maxHeartbeats 4000000 in
set_option maxRecDepth 100000 in
theorem wb_X8_following_37 {p : Program} {l : Launch} {e : Env} {s : State} {m : MethodId} {args : Array Value} {below : List Frame} {meth : Method} {c : Code} {D : va_G} {cA : Nat → ClassId} {ad : Nat → Nat} (X : wd_X p s m args meth c cX8_following 4 wsX8_following RX8 (some .int) D cA ad dsM.length) {M : Mem} {r : Int32}  (x1 : Int32) (t0 : Int32) (H : Heap) (locs : List Loc) (ls : Array Slot) (hF : B_X8_following_37 M x1 t0 = some r) (hP : wd_P D cA ad dsM M H) (hS : va_S (wd_A ad dsM.length) s.heap H locs) (hl : lv_has ls 4 [(0, .ref (ad 0)), (1, .int x1)]) : W p l e (headSpec wsX8_following rm_X8_following).room s m args below meth c H locs 0 0 (MQ below (wm_Qi D cA ad dsM r M) args s 0 0 (wd_A ad dsM.length)) (F0 m 37 ls [.int t0]) := by
  have hx := X.1.1
  have hb := X.1.2.1
  have hts := X.1.2.2.2.2
  unfold B_X8_following_37 at hF
  refine lv_istore_n (lv' := [(3, .int t0), (0, .ref (ad 0)), (1, .int x1)]) hx hb dX8_following_37 rfl hl (by decide) rfl (fun ls hl => ?_)
  exact wh_X8_following_38 X    100 x1 t0 _ _ _ hF hP hS (lv_sub hl [1, 2, 0] rfl)
set_option maxHeartbeats 4000000 in
set_option maxRecDepth 100000 in
theorem c_X8_following (l : Launch) (D : va_G) (cA : Nat → ClassId) (ad : Nat → Nat) (hj : wd_inj ad dsM.length)   (x1 : Int32) (x2 : Int32) (M : Mem) {r : Int32} (hF : F_X8_following x1 x2 M = some r) : wm_i l yX8_following wsX8_following rm_X8_following D cA ad dsM M [.ref (ad 0), .int x1, .int x2] r M := by
  refine Met.ofW (cc := cX8_following) (maxL := 4) (ret := (some .int)) (by decide) rfl ?_
  intro p e s m args below meth c s₁ B hml hv
  obtain ⟨rfl, hP, hK⟩ := hv
  have X : wd_X p s m _ meth c cX8_following 4 wsX8_following RX8 (some .int) D cA ad dsM.length := ⟨⟨B.exec, B.bytes, hml, findClass_of_methodNamed B.named, atoms_spec (ws := wsX8_following) B.pre⟩, hK, B.notSynchronized, B.returns, hj⟩
  have hl := lv_entry ([.ref (ad 0), .int x1, .int x2]) (n := 4) (Nat.le_of_ble_eq_true rfl)
  rw [lg_entry_eq]
  generalize (lg_sl ([.ref (ad 0), .int x1, .int x2]) ++ List.replicate (4 - (lg_sl ([.ref (ad 0), .int x1, .int x2])).length) Slot.unset).toArray = ls at hl ⊢
  have hl : lv_has ls 4 [(0, .ref (ad 0)), (1, .int x1), (2, .int x2)] := hl
  have hS : va_S (wd_A ad dsM.length) s.heap s.heap [] := va_S.rf
  have hx := X.1.1
  have hb := X.1.2.1
  have hts := X.1.2.2.2.2
  unfold F_X8_following at hF
  refine lv_aload_n hx hb dX8_following_0 rfl (lv_at hl 0 rfl) ?_
  refine wd_getr (q := 9) X hP 0 dM_0 rfl in_X8_following_X8 12 rfl (by decide) (by decide +kernel) dX8_following_1 ?_
  refine lv_iload_n hx hb dX8_following_4 rfl (lv_at hl 1 rfl) ?_
  obtain ⟨h_1, hF⟩ := gi_c hF
  refine wd_zld X hP 9 dM_9 h_1 dX8_following_5 ?_
  refine lv_if_ne (tgt := 24) hx hb dX8_following_6 (by decide) (fun c_5 => ?_) (fun c_5 => ?_)
  · have hF := if_e c_5 hF
    refine lv_iload_n hx hb dX8_following_24 rfl (lv_at hl 2 rfl) ?_
    refine lv_if_ge (tgt := 34) hx hb dX8_following_25 (by decide) (fun c_2 => ?_) (fun c_2 => ?_)
    · have hF := if_t c_2 hF
      refine lv_iload_n hx hb dX8_following_34 rfl (lv_at hl 2 rfl) ?_
      refine lv_iconst (v := (1 : Int32)) hx hb dX8_following_35 (by decide) ?_
      refine lv_iadd hx hb dX8_following_36 ?_
      exact wb_X8_following_37 X    x1 (x2 + (1 : Int32)) _ _ _ hF hP hS (lv_sub hl [0, 1] rfl)
    · have hF := if_e c_2 hF
      refine lv_iload_n hx hb dX8_following_28 rfl (lv_at hl 1 rfl) ?_
      refine lv_iconst (v := (1 : Int32)) hx hb dX8_following_29 (by decide) ?_
      refine lv_iadd hx hb dX8_following_30 ?_
      refine lv_goto (tgt := 37) hx hb dX8_following_31 (by decide) ?_
      exact wb_X8_following_37 X    x1 (x1 + (1 : Int32)) _ _ _ hF hP hS (lv_sub hl [0, 1] rfl)
  · have hF := if_t c_5 hF
    refine lv_iload_n hx hb dX8_following_9 rfl (lv_at hl 2 rfl) ?_
    refine lv_if_ge (tgt := 22) hx hb dX8_following_10 (by decide) (fun c_4 => ?_) (fun c_4 => ?_)
    · have hF := if_t c_4 hF
      refine lv_iconst (v := (-1 : Int32)) hx hb dX8_following_22 (by decide) ?_
      cases hF
      exact wd_reti X hP hS rfl rfl dX8_following_23
    · have hF := if_e c_4 hF
      refine lv_aload_n hx hb dX8_following_13 rfl (lv_at hl 0 rfl) ?_
      refine wd_getr (q := 19) X hP 0 dM_0 rfl in_X8_following_X8 24 rfl (by decide) (by decide +kernel) dX8_following_14 ?_
      refine lv_iload_n hx hb dX8_following_17 rfl (lv_at hl 1 rfl) ?_
      obtain ⟨h_3, hF⟩ := gi_c hF
      refine wd_ild X hP 19 dM_19 h_3 dX8_following_18 ?_
      refine lv_goto (tgt := 23) hx hb dX8_following_19 (by decide) ?_
      cases hF
      exact wd_reti X hP hS rfl rfl dX8_following_23
