/-! X0_append (C)Z -/
theorem in_X0_append_X0 : ∀ w ∈ u_ws RX0 TX0 5, w ∈ wsX0_append := by decide +kernel
set_option maxHeartbeats 4000000 in
set_option maxRecDepth 100000 in
theorem c_X0_append (l : Launch) (D : va_G) (cA : Nat → ClassId) (ad : Nat → Nat) (hj : wd_inj ad dsC.length)   (x1 : Int32) (M : Mem) {r : Int32} {M' : Mem} (hF : F_X0_append x1 M = some (r, M')) : wm_i l yX0_append wsX0_append rm_X0_append D cA ad dsC M [.ref (ad 1), .int x1] r M' := by
  refine Met.ofW (cc := cX0_append) (maxL := 2) (ret := (some .boolean)) (by decide) rfl ?_
  intro p e s m args below meth c s₁ B hml hv
  obtain ⟨rfl, hP, hK⟩ := hv
  have X : wd_X p s m _ meth c cX0_append 2 wsX0_append RX0 (some .boolean) D cA ad dsC.length := ⟨⟨B.exec, B.bytes, hml, findClass_of_methodNamed B.named, atoms_spec (ws := wsX0_append) B.pre⟩, hK, B.notSynchronized, B.returns, hj⟩
  have hl := lv_entry ([.ref (ad 1), .int x1]) (n := 2) (Nat.le_of_ble_eq_true rfl)
  rw [lg_entry_eq]
  generalize (lg_sl ([.ref (ad 1), .int x1]) ++ List.replicate (2 - (lg_sl ([.ref (ad 1), .int x1])).length) Slot.unset).toArray = ls at hl ⊢
  have hl : lv_has ls 2 [(0, .ref (ad 1)), (1, .int x1)] := hl
  have hS : va_S (wd_A ad dsC.length) s.heap s.heap [] := va_S.rf
  have hx := X.1.1
  have hb := X.1.2.1
  have hts := X.1.2.2.2.2
  unfold F_X0_append at hF
  refine lv_iload_n hx hb dX0_append_0 rfl (lv_at hl 1 rfl) ?_
  refine lv_bipush (v := (32 : Int32)) hx hb dX0_append_1 (by decide) ?_
  refine lv_icmp_lt (tgt := 21) hx hb dX0_append_3 (by decide) (fun c_8 => ?_) (fun c_8 => ?_)
  · have hF := if_t c_8 hF
    refine lv_iconst (v := (0 : Int32)) hx hb dX0_append_21 (by decide) ?_
    cases hF
    exact wd_reti X hP hS rfl (by decide) dX0_append_22
  · have hF := if_e c_8 hF
    refine lv_iload_n hx hb dX0_append_6 rfl (lv_at hl 1 rfl) ?_
    refine lv_bipush (v := (126 : Int32)) hx hb dX0_append_7 (by decide) ?_
    refine lv_icmp_gt (tgt := 21) hx hb dX0_append_9 (by decide) (fun c_7 => ?_) (fun c_7 => ?_)
    · have hF := if_t c_7 hF
      refine lv_iconst (v := (0 : Int32)) hx hb dX0_append_21 (by decide) ?_
      cases hF
      exact wd_reti X hP hS rfl (by decide) dX0_append_22
    · have hF := if_e c_7 hF
      refine lv_aload_n hx hb dX0_append_12 rfl (lv_at hl 0 rfl) ?_
      refine wd_geti X hP 1 dC_1 rfl in_X0_append_X0 3 rfl (by decide) (by decide +kernel) dX0_append_13 ?_
      refine lv_bipush (v := (50 : Int32)) hx hb dX0_append_16 (by decide) ?_
      refine lv_icmp_lt (tgt := 23) hx hb dX0_append_18 (by decide) (fun c_6 => ?_) (fun c_6 => ?_)
      · have hF := if_t c_6 hF
        refine lv_aload_n hx hb dX0_append_23 rfl (lv_at hl 0 rfl) ?_
        refine wd_getr (q := 2) X hP 1 dC_1 rfl in_X0_append_X0 0 rfl (by decide) (by decide +kernel) dX0_append_24 ?_
        refine lv_aload_n hx hb dX0_append_27 rfl (lv_at hl 0 rfl) ?_
        refine wd_geti X hP 1 dC_1 rfl in_X0_append_X0 3 rfl (by decide) (by decide +kernel) dX0_append_28 ?_
        refine lv_iload_n hx hb dX0_append_31 rfl (lv_at hl 1 rfl) ?_
        obtain ⟨h_1, hF⟩ := gi_c hF
        obtain ⟨M_2, e_3, hF⟩ := wr_c hF
        refine wd_cst X hP hS 2 dC_2 h_1 dX0_append_32 (fun H locs hP hS => ?_)
        rw [← e_3] at hP
        refine lv_aload_n hx hb dX0_append_33 rfl (lv_at hl 0 rfl) ?_
        refine lv_dup hx hb dX0_append_34 rfl ?_
        refine wd_geti X hP 1 dC_1 rfl in_X0_append_X0 3 rfl (by decide) (by decide +kernel) dX0_append_35 ?_
        refine lv_iconst (v := (1 : Int32)) hx hb dX0_append_38 (by decide) ?_
        refine lv_iadd hx hb dX0_append_39 ?_
        obtain ⟨M_4, e_5, hF⟩ := wr_c hF
        refine wd_puti X hP hS 1 dC_1 rfl in_X0_append_X0 tyX0_ok nmX0 3 rfl (by decide) rfl rfl (by decide +kernel) dX0_append_40 (fun H locs hP hS => ?_)
        rw [← e_5] at hP
        refine lv_iconst (v := (1 : Int32)) hx hb dX0_append_43 (by decide) ?_
        cases hF
        exact wd_reti X hP hS rfl (by decide) dX0_append_44
      · have hF := if_e c_6 hF
        refine lv_iconst (v := (0 : Int32)) hx hb dX0_append_21 (by decide) ?_
        cases hF
        exact wd_reti X hP hS rfl (by decide) dX0_append_22
/-! X0_split ()V -/
theorem in_X0_split_X0 : ∀ w ∈ u_ws RX0 TX0 5, w ∈ wsX0_split := by decide +kernel
set_option maxHeartbeats 4000000 in
set_option maxRecDepth 100000 in
theorem wb_X0_split_118 {p : Program} {l : Launch} {e : Env} {s : State} {m : MethodId} {args : Array Value} {below : List Frame} {meth : Method} {c : Code} {D : va_G} {cA : Nat → ClassId} {ad : Nat → Nat} (X : wd_X p s m args meth c cX0_split 4 wsX0_split RX0 none D cA ad dsC.length) {M' : Mem}   (M : Mem) (H : Heap) (locs : List Loc) (ls : Array Slot) (hF : B_X0_split_118  M = some M') (hP : wd_P D cA ad dsC M H) (hS : va_S (wd_A ad dsC.length) s.heap H locs) (hl : lv_has ls 4 [(0, .ref (ad 1))]) : W p l e (headSpec wsX0_split rm_X0_split).room s m args below meth c H locs 0 0 (MQ below (wm_Qv D cA ad dsC M') args s 0 0 (wd_A ad dsC.length)) (F0 m 118 ls []) := by
  have hx := X.1.1
  have hb := X.1.2.1
  have hts := X.1.2.2.2.2
  unfold B_X0_split_118 at hF
  refine lv_aload_n hx hb dX0_split_118 rfl (lv_at hl 0 rfl) ?_
  refine lv_iconst (v := (0 : Int32)) hx hb dX0_split_119 (by decide) ?_
  obtain ⟨M_1, e_2, hF⟩ := wr_c hF
  refine wd_puti X hP hS 1 dC_1 rfl in_X0_split_X0 tyX0_ok nmX0 3 rfl (by decide) rfl rfl (by decide +kernel) dX0_split_120 (fun H locs hP hS => ?_)
  rw [← e_2] at hP
  cases hF
  exact wd_retv X hP hS dX0_split_123
set_option maxHeartbeats 4000000 in
set_option maxRecDepth 100000 in
theorem wb_X0_split_111 {p : Program} {l : Launch} {e : Env} {s : State} {m : MethodId} {args : Array Value} {below : List Frame} {meth : Method} {c : Code} {D : va_G} {cA : Nat → ClassId} {ad : Nat → Nat} (X : wd_X p s m args meth c cX0_split 4 wsX0_split RX0 none D cA ad dsC.length) {kh9 : Int32 → Int32 → Mem → Option Mem} {M' : Mem} (hk9 : ∀ (x1 : Int32) (x2 : Int32) (M : Mem) (H : Heap) (locs : List Loc) (ls : Array Slot), kh9 x1 x2 M = some M' → wd_P D cA ad dsC M H → va_S (wd_A ad dsC.length) s.heap H locs → lv_has ls 4 [(0, .ref (ad 1)), (1, .int x1), (2, .int x2)] → W p l e (headSpec wsX0_split rm_X0_split).room s m args below meth c H locs 0 0 (MQ below (wm_Qv D cA ad dsC M') args s 0 0 (wd_A ad dsC.length)) (F0 m 9 ls [])) (x2 : Int32) (t0 : Int32) (M : Mem) (H : Heap) (locs : List Loc) (ls : Array Slot) (hF : B_X0_split_111 kh9 x2 t0 M = some M') (hP : wd_P D cA ad dsC M H) (hS : va_S (wd_A ad dsC.length) s.heap H locs) (hl : lv_has ls 4 [(0, .ref (ad 1)), (2, .int x2)]) : W p l e (headSpec wsX0_split rm_X0_split).room s m args below meth c H locs 0 0 (MQ below (wm_Qv D cA ad dsC M') args s 0 0 (wd_A ad dsC.length)) (F0 m 111 ls [.int t0]) := by
  have hx := X.1.1
  have hb := X.1.2.1
  have hts := X.1.2.2.2.2
  unfold B_X0_split_111 at hF
  refine lv_istore_n (lv' := [(1, .int t0), (0, .ref (ad 1)), (2, .int x2)]) hx hb dX0_split_111 rfl hl (by decide) rfl (fun ls hl => ?_)
  obtain ⟨x2_1, e_2, hF⟩ := nm_c hF
  refine lv_iinc (v := x2_1) (lv' := [(2, .int x2_1), (1, .int t0), (0, .ref (ad 1))]) hx hb dX0_split_112 hl (k := 2) rfl (by rw [e_2]; rfl) (by decide) rfl (fun ls hl => ?_)
  refine lv_goto (tgt := 9) hx hb dX0_split_115 (by decide) ?_
  exact hk9 t0 x2_1 M _ _ _ hF hP hS (lv_sub hl [2, 1, 0] rfl)
set_option maxHeartbeats 4000000 in
set_option maxRecDepth 100000 in
theorem wb_X0_split_102 {p : Program} {l : Launch} {e : Env} {s : State} {m : MethodId} {args : Array Value} {below : List Frame} {meth : Method} {c : Code} {D : va_G} {cA : Nat → ClassId} {ad : Nat → Nat} (X : wd_X p s m args meth c cX0_split 4 wsX0_split RX0 none D cA ad dsC.length) {kh9 : Int32 → Int32 → Mem → Option Mem} {M' : Mem} (hk9 : ∀ (x1 : Int32) (x2 : Int32) (M : Mem) (H : Heap) (locs : List Loc) (ls : Array Slot), kh9 x1 x2 M = some M' → wd_P D cA ad dsC M H → va_S (wd_A ad dsC.length) s.heap H locs → lv_has ls 4 [(0, .ref (ad 1)), (1, .int x1), (2, .int x2)] → W p l e (headSpec wsX0_split rm_X0_split).room s m args below meth c H locs 0 0 (MQ below (wm_Qv D cA ad dsC M') args s 0 0 (wd_A ad dsC.length)) (F0 m 9 ls [])) (x2 : Int32) (x3 : Int32) (M : Mem) (H : Heap) (locs : List Loc) (ls : Array Slot) (hF : B_X0_split_102 kh9 x2 x3 M = some M') (hP : wd_P D cA ad dsC M H) (hS : va_S (wd_A ad dsC.length) s.heap H locs) (hl : lv_has ls 4 [(0, .ref (ad 1)), (2, .int x2), (3, .int x3)]) : W p l e (headSpec wsX0_split rm_X0_split).room s m args below meth c H locs 0 0 (MQ below (wm_Qv D cA ad dsC M') args s 0 0 (wd_A ad dsC.length)) (F0 m 102 ls []) := by
  have hx := X.1.1
  have hb := X.1.2.1
  have hts := X.1.2.2.2.2
  unfold B_X0_split_102 at hF
  refine lv_iload_n hx hb dX0_split_102 rfl (lv_at hl 2 rfl) ?_
  refine lv_if_ne (tgt := 110) hx hb dX0_split_103 (by decide) (fun c_1 => ?_) (fun c_1 => ?_)
  · have hF := if_e c_1 hF
    refine lv_iconst (v := (0 : Int32)) hx hb dX0_split_110 (by decide) ?_
    exact wb_X0_split_111 X  hk9  x2 (0 : Int32) M _ _ _ hF hP hS (lv_sub hl [0, 1] rfl)
  · have hF := if_t c_1 hF
    refine lv_iconst (v := (1 : Int32)) hx hb dX0_split_106 (by decide) ?_
    refine lv_goto (tgt := 111) hx hb dX0_split_107 (by decide) ?_
    exact wb_X0_split_111 X  hk9  x2 (1 : Int32) M _ _ _ hF hP hS (lv_sub hl [0, 1] rfl)
set_option maxHeartbeats 4000000 in
set_option maxRecDepth 100000 in
theorem wb_X0_split_77 {p : Program} {l : Launch} {e : Env} {s : State} {m : MethodId} {args : Array Value} {below : List Frame} {meth : Method} {c : Code} {D : va_G} {cA : Nat → ClassId} {ad : Nat → Nat} (X : wd_X p s m args meth c cX0_split 4 wsX0_split RX0 none D cA ad dsC.length) {kh9 : Int32 → Int32 → Mem → Option Mem} {M' : Mem} (hk9 : ∀ (x1 : Int32) (x2 : Int32) (M : Mem) (H : Heap) (locs : List Loc) (ls : Array Slot), kh9 x1 x2 M = some M' → wd_P D cA ad dsC M H → va_S (wd_A ad dsC.length) s.heap H locs → lv_has ls 4 [(0, .ref (ad 1)), (1, .int x1), (2, .int x2)] → W p l e (headSpec wsX0_split rm_X0_split).room s m args below meth c H locs 0 0 (MQ below (wm_Qv D cA ad dsC M') args s 0 0 (wd_A ad dsC.length)) (F0 m 9 ls [])) (x2 : Int32) (x3 : Int32) (M : Mem) (H : Heap) (locs : List Loc) (ls : Array Slot) (hF : B_X0_split_77 kh9 x2 x3 M = some M') (hP : wd_P D cA ad dsC M H) (hS : va_S (wd_A ad dsC.length) s.heap H locs) (hl : lv_has ls 4 [(0, .ref (ad 1)), (2, .int x2), (3, .int x3)]) : W p l e (headSpec wsX0_split rm_X0_split).room s m args below meth c H locs 0 0 (MQ below (wm_Qv D cA ad dsC M') args s 0 0 (wd_A ad dsC.length)) (F0 m 77 ls []) := by
  have hx := X.1.1
  have hb := X.1.2.1
  have hts := X.1.2.2.2.2
  unfold B_X0_split_77 at hF
  refine lv_iload_n hx hb dX0_split_77 rfl (lv_at hl 2 rfl) ?_
  refine lv_if_ne (tgt := 102) hx hb dX0_split_78 (by decide) (fun c_5 => ?_) (fun c_5 => ?_)
  · have hF := if_e c_5 hF
    exact wb_X0_split_102 X  hk9  x2 x3 M _ _ _ hF hP hS (lv_sub hl [0, 1, 2] rfl)
  · have hF := if_t c_5 hF
    refine lv_aload_n hx hb dX0_split_81 rfl (lv_at hl 0 rfl) ?_
    refine wd_geti X hP 1 dC_1 rfl in_X0_split_X0 4 rfl (by decide) (by decide +kernel) dX0_split_82 ?_
    refine lv_if_le (tgt := 102) hx hb dX0_split_85 (by decide) (fun c_4 => ?_) (fun c_4 => ?_)
    · have hF := if_t c_4 hF
      exact wb_X0_split_102 X  hk9  x2 x3 M _ _ _ hF hP hS (lv_sub hl [0, 1, 2] rfl)
    · have hF := if_e c_4 hF
      refine lv_aload_n hx hb dX0_split_88 rfl (lv_at hl 0 rfl) ?_
      refine wd_getr (q := 4) X hP 1 dC_1 rfl in_X0_split_X0 2 rfl (by decide) (by decide +kernel) dX0_split_89 ?_
      refine lv_aload_n hx hb dX0_split_92 rfl (lv_at hl 0 rfl) ?_
      refine wd_geti X hP 1 dC_1 rfl in_X0_split_X0 4 rfl (by decide) (by decide +kernel) dX0_split_93 ?_
      refine lv_iconst (v := (1 : Int32)) hx hb dX0_split_96 (by decide) ?_
      refine lv_isub hx hb dX0_split_97 ?_
      refine lv_iload_n hx hb dX0_split_98 rfl (lv_at hl 1 rfl) ?_
      refine lv_iconst (v := (1 : Int32)) hx hb dX0_split_99 (by decide) ?_
      refine lv_iadd hx hb dX0_split_100 ?_
      obtain ⟨h_1, hF⟩ := gi_c hF
      obtain ⟨M_2, e_3, hF⟩ := wr_c hF
      refine wd_ist X hP hS 4 dC_4 h_1 dX0_split_101 (fun H locs hP hS => ?_)
      rw [← e_3] at hP
      exact wb_X0_split_102 X  hk9  x2 x3 M_2 _ _ _ hF hP hS (lv_sub hl [0, 1, 2] rfl)
set_option maxHeartbeats 4000000 in
set_option maxRecDepth 100000 in
theorem wb_X0_split_39 {p : Program} {l : Launch} {e : Env} {s : State} {m : MethodId} {args : Array Value} {below : List Frame} {meth : Method} {c : Code} {D : va_G} {cA : Nat → ClassId} {ad : Nat → Nat} (X : wd_X p s m args meth c cX0_split 4 wsX0_split RX0 none D cA ad dsC.length) {kh9 : Int32 → Int32 → Mem → Option Mem} {M' : Mem} (hk9 : ∀ (x1 : Int32) (x2 : Int32) (M : Mem) (H : Heap) (locs : List Loc) (ls : Array Slot), kh9 x1 x2 M = some M' → wd_P D cA ad dsC M H → va_S (wd_A ad dsC.length) s.heap H locs → lv_has ls 4 [(0, .ref (ad 1)), (1, .int x1), (2, .int x2)] → W p l e (headSpec wsX0_split rm_X0_split).room s m args below meth c H locs 0 0 (MQ below (wm_Qv D cA ad dsC M') args s 0 0 (wd_A ad dsC.length)) (F0 m 9 ls [])) (x1 : Int32) (x2 : Int32) (t0 : Int32) (M : Mem) (H : Heap) (locs : List Loc) (ls : Array Slot) (hF : B_X0_split_39 kh9 x1 x2 t0 M = some M') (hP : wd_P D cA ad dsC M H) (hS : va_S (wd_A ad dsC.length) s.heap H locs) (hl : lv_has ls 4 [(0, .ref (ad 1)), (1, .int x1), (2, .int x2)]) : W p l e (headSpec wsX0_split rm_X0_split).room s m args below meth c H locs 0 0 (MQ below (wm_Qv D cA ad dsC M') args s 0 0 (wd_A ad dsC.length)) (F0 m 39 ls [.int t0]) := by
  have hx := X.1.1
  have hb := X.1.2.1
  have hts := X.1.2.2.2.2
  unfold B_X0_split_39 at hF
  refine lv_istore_n (lv' := [(3, .int t0), (0, .ref (ad 1)), (1, .int x1), (2, .int x2)]) hx hb dX0_split_39 rfl hl (by decide) rfl (fun ls hl => ?_)
  refine lv_iload_n hx hb dX0_split_40 rfl (lv_at hl 0 rfl) ?_
  refine lv_if_ne (tgt := 77) hx hb dX0_split_41 (by decide) (fun c_8 => ?_) (fun c_8 => ?_)
  · have hF := if_e c_8 hF
    exact wb_X0_split_77 X  hk9  x2 t0 M _ _ _ hF hP hS (lv_sub hl [1, 3, 0] rfl)
  · have hF := if_t c_8 hF
    refine lv_iload_n hx hb dX0_split_44 rfl (lv_at hl 2 rfl) ?_
    refine lv_if_ne (tgt := 77) hx hb dX0_split_45 (by decide) (fun c_7 => ?_) (fun c_7 => ?_)
    · have hF := if_e c_7 hF
      exact wb_X0_split_77 X  hk9  x2 t0 M _ _ _ hF hP hS (lv_sub hl [1, 3, 0] rfl)
    · have hF := if_t c_7 hF
      refine lv_aload_n hx hb dX0_split_48 rfl (lv_at hl 1 rfl) ?_
      refine wd_geti X hP 1 dC_1 rfl in_X0_split_X0 4 rfl (by decide) (by decide +kernel) dX0_split_49 ?_
      refine lv_bipush (v := (25 : Int32)) hx hb dX0_split_52 (by decide) ?_
      refine lv_icmp_ge (tgt := 77) hx hb dX0_split_54 (by decide) (fun c_6 => ?_) (fun c_6 => ?_)
      · have hF := if_t c_6 hF
        exact wb_X0_split_77 X  hk9  x2 t0 M _ _ _ hF hP hS (lv_sub hl [1, 3, 0] rfl)
      · have hF := if_e c_6 hF
        refine lv_aload_n hx hb dX0_split_57 rfl (lv_at hl 1 rfl) ?_
        refine wd_getr (q := 3) X hP 1 dC_1 rfl in_X0_split_X0 1 rfl (by decide) (by decide +kernel) dX0_split_58 ?_
        refine lv_aload_n hx hb dX0_split_61 rfl (lv_at hl 1 rfl) ?_
        refine wd_geti X hP 1 dC_1 rfl in_X0_split_X0 4 rfl (by decide) (by decide +kernel) dX0_split_62 ?_
        refine lv_iload_n hx hb dX0_split_65 rfl (lv_at hl 3 rfl) ?_
        obtain ⟨h_1, hF⟩ := gi_c hF
        obtain ⟨M_2, e_3, hF⟩ := wr_c hF
        refine wd_ist X hP hS 3 dC_3 h_1 dX0_split_66 (fun H locs hP hS => ?_)
        rw [← e_3] at hP
        refine lv_aload_n hx hb dX0_split_67 rfl (lv_at hl 1 rfl) ?_
        refine lv_dup hx hb dX0_split_68 rfl ?_
        refine wd_geti X hP 1 dC_1 rfl in_X0_split_X0 4 rfl (by decide) (by decide +kernel) dX0_split_69 ?_
        refine lv_iconst (v := (1 : Int32)) hx hb dX0_split_72 (by decide) ?_
        refine lv_iadd hx hb dX0_split_73 ?_
        obtain ⟨M_4, e_5, hF⟩ := wr_c hF
        refine wd_puti X hP hS 1 dC_1 rfl in_X0_split_X0 tyX0_ok nmX0 4 rfl (by decide) rfl rfl (by decide +kernel) dX0_split_74 (fun H locs hP hS => ?_)
        rw [← e_5] at hP
        exact wb_X0_split_77 X  hk9  x2 t0 M_4 _ _ _ hF hP hS (lv_sub hl [1, 3, 0] rfl)
set_option maxHeartbeats 4000000 in
set_option maxRecDepth 100000 in
theorem wb_X0_split_9 {p : Program} {l : Launch} {e : Env} {s : State} {m : MethodId} {args : Array Value} {below : List Frame} {meth : Method} {c : Code} {D : va_G} {cA : Nat → ClassId} {ad : Nat → Nat} (X : wd_X p s m args meth c cX0_split 4 wsX0_split RX0 none D cA ad dsC.length) {kh9 : Int32 → Int32 → Mem → Option Mem} {M' : Mem} (hk9 : ∀ (x1 : Int32) (x2 : Int32) (M : Mem) (H : Heap) (locs : List Loc) (ls : Array Slot), kh9 x1 x2 M = some M' → wd_P D cA ad dsC M H → va_S (wd_A ad dsC.length) s.heap H locs → lv_has ls 4 [(0, .ref (ad 1)), (1, .int x1), (2, .int x2)] → W p l e (headSpec wsX0_split rm_X0_split).room s m args below meth c H locs 0 0 (MQ below (wm_Qv D cA ad dsC M') args s 0 0 (wd_A ad dsC.length)) (F0 m 9 ls [])) (x1 : Int32) (x2 : Int32) (M : Mem) (H : Heap) (locs : List Loc) (ls : Array Slot) (hF : B_X0_split_9 kh9 x1 x2 M = some M') (hP : wd_P D cA ad dsC M H) (hS : va_S (wd_A ad dsC.length) s.heap H locs) (hl : lv_has ls 4 [(0, .ref (ad 1)), (1, .int x1), (2, .int x2)]) : W p l e (headSpec wsX0_split rm_X0_split).room s m args below meth c H locs 0 0 (MQ below (wm_Qv D cA ad dsC M') args s 0 0 (wd_A ad dsC.length)) (F0 m 9 ls []) := by
  have hx := X.1.1
  have hb := X.1.2.1
  have hts := X.1.2.2.2.2
  unfold B_X0_split_9 at hF
  refine lv_iload_n hx hb dX0_split_9 rfl (lv_at hl 2 rfl) ?_
  refine lv_aload_n hx hb dX0_split_10 rfl (lv_at hl 0 rfl) ?_
  refine wd_geti X hP 1 dC_1 rfl in_X0_split_X0 3 rfl (by decide) (by decide +kernel) dX0_split_11 ?_
  refine lv_icmp_ge (tgt := 118) hx hb dX0_split_14 (by decide) (fun c_4 => ?_) (fun c_4 => ?_)
  · have hF := if_t c_4 hF
    exact wb_X0_split_118 X    M _ _ _ hF hP hS (lv_sub hl [0] rfl)
  · have hF := if_e c_4 hF
    refine lv_iload_n hx hb dX0_split_17 rfl (lv_at hl 2 rfl) ?_
    refine lv_bipush (v := (50 : Int32)) hx hb dX0_split_18 (by decide) ?_
    refine lv_icmp_ge (tgt := 118) hx hb dX0_split_20 (by decide) (fun c_3 => ?_) (fun c_3 => ?_)
    · have hF := if_t c_3 hF
      exact wb_X0_split_118 X    M _ _ _ hF hP hS (lv_sub hl [0] rfl)
    · have hF := if_e c_3 hF
      refine lv_aload_n hx hb dX0_split_23 rfl (lv_at hl 0 rfl) ?_
      refine wd_getr (q := 2) X hP 1 dC_1 rfl in_X0_split_X0 0 rfl (by decide) (by decide +kernel) dX0_split_24 ?_
      refine lv_iload_n hx hb dX0_split_27 rfl (lv_at hl 2 rfl) ?_
      obtain ⟨h_1, hF⟩ := gi_c hF
      refine wd_cld X hP 2 dC_2 h_1 dX0_split_28 ?_
      refine lv_bipush (v := (32 : Int32)) hx hb dX0_split_29 (by decide) ?_
      refine lv_icmp_ne (tgt := 38) hx hb dX0_split_31 (by decide) (fun c_2 => ?_) (fun c_2 => ?_)
      · have hF := if_e c_2 hF
        refine lv_iconst (v := (0 : Int32)) hx hb dX0_split_38 (by decide) ?_
        exact wb_X0_split_39 X  hk9  x1 x2 (0 : Int32) M _ _ _ hF hP hS (lv_sub hl [0, 1, 2] rfl)
      · have hF := if_t c_2 hF
        refine lv_iconst (v := (1 : Int32)) hx hb dX0_split_34 (by decide) ?_
        refine lv_goto (tgt := 39) hx hb dX0_split_35 (by decide) ?_
        exact wb_X0_split_39 X  hk9  x1 x2 (1 : Int32) M _ _ _ hF hP hS (lv_sub hl [0, 1, 2] rfl)
set_option maxHeartbeats 4000000 in
set_option maxRecDepth 100000 in
theorem wh_X0_split_9 {p : Program} {l : Launch} {e : Env} {s : State} {m : MethodId} {args : Array Value} {below : List Frame} {meth : Method} {c : Code} {D : va_G} {cA : Nat → ClassId} {ad : Nat → Nat} (X : wd_X p s m args meth c cX0_split 4 wsX0_split RX0 none D cA ad dsC.length) {M' : Mem}  : ∀ (n : Nat) (x1 : Int32) (x2 : Int32) (M : Mem) (H : Heap) (locs : List Loc) (ls : Array Slot), H_X0_split_9  n x1 x2 M = some M' → wd_P D cA ad dsC M H → va_S (wd_A ad dsC.length) s.heap H locs → lv_has ls 4 [(0, .ref (ad 1)), (1, .int x1), (2, .int x2)] → W p l e (headSpec wsX0_split rm_X0_split).room s m args below meth c H locs 0 0 (MQ below (wm_Qv D cA ad dsC M') args s 0 0 (wd_A ad dsC.length)) (F0 m 9 ls []) := by
  intro n
  induction n with
  | zero => intro x1 x2 M H locs ls hF; cases hF
  | succ n ih => intro x1 x2 M H locs ls hF hP hS hl; exact wb_X0_split_9 X (kh9 := H_X0_split_9  n) ih x1 x2 M H locs ls hF hP hS hl
set_option maxHeartbeats 4000000 in
set_option maxRecDepth 100000 in
theorem c_X0_split (l : Launch) (D : va_G) (cA : Nat → ClassId) (ad : Nat → Nat) (hj : wd_inj ad dsC.length)    (M : Mem) {M' : Mem} (hF : F_X0_split M = some M') : wm_v l yX0_split wsX0_split rm_X0_split D cA ad dsC M [.ref (ad 1)] M' := by
  refine Met.ofW (cc := cX0_split) (maxL := 4) (ret := none) (by decide) rfl ?_
  intro p e s m args below meth c s₁ B hml hv
  obtain ⟨rfl, hP, hK⟩ := hv
  have X : wd_X p s m _ meth c cX0_split 4 wsX0_split RX0 none D cA ad dsC.length := ⟨⟨B.exec, B.bytes, hml, findClass_of_methodNamed B.named, atoms_spec (ws := wsX0_split) B.pre⟩, hK, B.notSynchronized, B.returns, hj⟩
  have hl := lv_entry ([.ref (ad 1)]) (n := 4) (Nat.le_of_ble_eq_true rfl)
  rw [lg_entry_eq]
  generalize (lg_sl ([.ref (ad 1)]) ++ List.replicate (4 - (lg_sl ([.ref (ad 1)])).length) Slot.unset).toArray = ls at hl ⊢
  have hl : lv_has ls 4 [(0, .ref (ad 1))] := hl
  have hS : va_S (wd_A ad dsC.length) s.heap s.heap [] := va_S.rf
  have hx := X.1.1
  have hb := X.1.2.1
  have hts := X.1.2.2.2.2
  unfold F_X0_split at hF
  refine lv_aload_n hx hb dX0_split_0 rfl (lv_at hl 0 rfl) ?_
  refine lv_iconst (v := (0 : Int32)) hx hb dX0_split_1 (by decide) ?_
  obtain ⟨M_1, e_2, hF⟩ := wr_c hF
  refine wd_puti X hP hS 1 dC_1 rfl in_X0_split_X0 tyX0_ok nmX0 4 rfl (by decide) rfl rfl (by decide +kernel) dX0_split_2 (fun H locs hP hS => ?_)
  rw [← e_2] at hP
  refine lv_iconst (v := (0 : Int32)) hx hb dX0_split_5 (by decide) ?_
  refine lv_istore_n (lv' := [(1, .int (0 : Int32)), (0, .ref (ad 1))]) hx hb dX0_split_6 rfl hl (by decide) rfl (fun ls hl => ?_)
  refine lv_iconst (v := (0 : Int32)) hx hb dX0_split_7 (by decide) ?_
  refine lv_istore_n (lv' := [(2, .int (0 : Int32)), (1, .int (0 : Int32)), (0, .ref (ad 1))]) hx hb dX0_split_8 rfl hl (by decide) rfl (fun ls hl => ?_)
  exact wh_X0_split_9 X    100 (0 : Int32) (0 : Int32) M_1 _ _ _ hF hP hS (lv_sub hl [2, 1, 0] rfl)
/-! X0_words ()I -/
theorem in_X0_words_X0 : ∀ w ∈ u_ws RX0 TX0 5, w ∈ wsX0_words := by decide +kernel
set_option maxHeartbeats 4000000 in
set_option maxRecDepth 100000 in
theorem c_X0_words (l : Launch) (D : va_G) (cA : Nat → ClassId) (ad : Nat → Nat) (hj : wd_inj ad dsC.length)    (M : Mem) {r : Int32} (hF : F_X0_words M = some r) : wm_i l yX0_words wsX0_words rm_X0_words D cA ad dsC M [.ref (ad 1)] r M := by
  refine Met.ofW (cc := cX0_words) (maxL := 1) (ret := (some .int)) (by decide) rfl ?_
  intro p e s m args below meth c s₁ B hml hv
  obtain ⟨rfl, hP, hK⟩ := hv
  have X : wd_X p s m _ meth c cX0_words 1 wsX0_words RX0 (some .int) D cA ad dsC.length := ⟨⟨B.exec, B.bytes, hml, findClass_of_methodNamed B.named, atoms_spec (ws := wsX0_words) B.pre⟩, hK, B.notSynchronized, B.returns, hj⟩
  have hl := lv_entry ([.ref (ad 1)]) (n := 1) (Nat.le_of_ble_eq_true rfl)
  rw [lg_entry_eq]
  generalize (lg_sl ([.ref (ad 1)]) ++ List.replicate (1 - (lg_sl ([.ref (ad 1)])).length) Slot.unset).toArray = ls at hl ⊢
  have hl : lv_has ls 1 [(0, .ref (ad 1))] := hl
  have hS : va_S (wd_A ad dsC.length) s.heap s.heap [] := va_S.rf
  have hx := X.1.1
  have hb := X.1.2.1
  have hts := X.1.2.2.2.2
  unfold F_X0_words at hF
  refine lv_aload_n hx hb dX0_words_0 rfl (lv_at hl 0 rfl) ?_
  refine wd_geti X hP 1 dC_1 rfl in_X0_words_X0 4 rfl (by decide) (by decide +kernel) dX0_words_1 ?_
  cases hF
  exact wd_reti X hP hS rfl rfl dX0_words_4
/-! X0_sizeOf (I)I -/
theorem in_X0_sizeOf_X0 : ∀ w ∈ u_ws RX0 TX0 5, w ∈ wsX0_sizeOf := by decide +kernel
set_option maxHeartbeats 4000000 in
set_option maxRecDepth 100000 in
theorem c_X0_sizeOf (l : Launch) (D : va_G) (cA : Nat → ClassId) (ad : Nat → Nat) (hj : wd_inj ad dsC.length)   (x1 : Int32) (M : Mem) {r : Int32} (hF : F_X0_sizeOf x1 M = some r) : wm_i l yX0_sizeOf wsX0_sizeOf rm_X0_sizeOf D cA ad dsC M [.ref (ad 1), .int x1] r M := by
  refine Met.ofW (cc := cX0_sizeOf) (maxL := 2) (ret := (some .int)) (by decide) rfl ?_
  intro p e s m args below meth c s₁ B hml hv
  obtain ⟨rfl, hP, hK⟩ := hv
  have X : wd_X p s m _ meth c cX0_sizeOf 2 wsX0_sizeOf RX0 (some .int) D cA ad dsC.length := ⟨⟨B.exec, B.bytes, hml, findClass_of_methodNamed B.named, atoms_spec (ws := wsX0_sizeOf) B.pre⟩, hK, B.notSynchronized, B.returns, hj⟩
  have hl := lv_entry ([.ref (ad 1), .int x1]) (n := 2) (Nat.le_of_ble_eq_true rfl)
  rw [lg_entry_eq]
  generalize (lg_sl ([.ref (ad 1), .int x1]) ++ List.replicate (2 - (lg_sl ([.ref (ad 1), .int x1])).length) Slot.unset).toArray = ls at hl ⊢
  have hl : lv_has ls 2 [(0, .ref (ad 1)), (1, .int x1)] := hl
  have hS : va_S (wd_A ad dsC.length) s.heap s.heap [] := va_S.rf
  have hx := X.1.1
  have hb := X.1.2.1
  have hts := X.1.2.2.2.2
  unfold F_X0_sizeOf at hF
  refine lv_iload_n hx hb dX0_sizeOf_0 rfl (lv_at hl 1 rfl) ?_
  refine lv_if_lt (tgt := 28) hx hb dX0_sizeOf_1 (by decide) (fun c_4 => ?_) (fun c_4 => ?_)
  · have hF := if_t c_4 hF
    refine lv_iconst (v := (0 : Int32)) hx hb dX0_sizeOf_28 (by decide) ?_
    cases hF
    exact wd_reti X hP hS rfl rfl dX0_sizeOf_29
  · have hF := if_e c_4 hF
    refine lv_iload_n hx hb dX0_sizeOf_4 rfl (lv_at hl 1 rfl) ?_
    refine lv_aload_n hx hb dX0_sizeOf_5 rfl (lv_at hl 0 rfl) ?_
    refine wd_geti X hP 1 dC_1 rfl in_X0_sizeOf_X0 4 rfl (by decide) (by decide +kernel) dX0_sizeOf_6 ?_
    refine lv_icmp_ge (tgt := 28) hx hb dX0_sizeOf_9 (by decide) (fun c_3 => ?_) (fun c_3 => ?_)
    · have hF := if_t c_3 hF
      refine lv_iconst (v := (0 : Int32)) hx hb dX0_sizeOf_28 (by decide) ?_
      cases hF
      exact wd_reti X hP hS rfl rfl dX0_sizeOf_29
    · have hF := if_e c_3 hF
      refine lv_aload_n hx hb dX0_sizeOf_12 rfl (lv_at hl 0 rfl) ?_
      refine wd_getr (q := 4) X hP 1 dC_1 rfl in_X0_sizeOf_X0 2 rfl (by decide) (by decide +kernel) dX0_sizeOf_13 ?_
      refine lv_iload_n hx hb dX0_sizeOf_16 rfl (lv_at hl 1 rfl) ?_
      obtain ⟨h_1, hF⟩ := gi_c hF
      refine wd_ild X hP 4 dC_4 h_1 dX0_sizeOf_17 ?_
      refine lv_aload_n hx hb dX0_sizeOf_18 rfl (lv_at hl 0 rfl) ?_
      refine wd_getr (q := 3) X hP 1 dC_1 rfl in_X0_sizeOf_X0 1 rfl (by decide) (by decide +kernel) dX0_sizeOf_19 ?_
      refine lv_iload_n hx hb dX0_sizeOf_22 rfl (lv_at hl 1 rfl) ?_
      obtain ⟨h_2, hF⟩ := gi_c hF
      refine wd_ild X hP 3 dC_3 h_2 dX0_sizeOf_23 ?_
      refine lv_isub hx hb dX0_sizeOf_24 ?_
      refine lv_goto (tgt := 29) hx hb dX0_sizeOf_25 (by decide) ?_
      cases hF
      exact wd_reti X hP hS rfl rfl dX0_sizeOf_29
/-! X0_letterAt (II)C -/
theorem in_X0_letterAt_X0 : ∀ w ∈ u_ws RX0 TX0 5, w ∈ wsX0_letterAt := by decide +kernel
set_option maxHeartbeats 4000000 in
set_option maxRecDepth 100000 in
theorem c_X0_letterAt (l : Launch) (D : va_G) (cA : Nat → ClassId) (ad : Nat → Nat) (hj : wd_inj ad dsC.length)   (x1 : Int32) (x2 : Int32) (M : Mem) {r : Int32} (hF : F_X0_letterAt x1 x2 M = some r) : wm_i l yX0_letterAt wsX0_letterAt rm_X0_letterAt D cA ad dsC M [.ref (ad 1), .int x1, .int x2] r M := by
  refine Met.ofW (cc := cX0_letterAt) (maxL := 3) (ret := (some .char)) (by decide) rfl ?_
  intro p e s m args below meth c s₁ B hml hv
  obtain ⟨rfl, hP, hK⟩ := hv
  have X : wd_X p s m _ meth c cX0_letterAt 3 wsX0_letterAt RX0 (some .char) D cA ad dsC.length := ⟨⟨B.exec, B.bytes, hml, findClass_of_methodNamed B.named, atoms_spec (ws := wsX0_letterAt) B.pre⟩, hK, B.notSynchronized, B.returns, hj⟩
  have hl := lv_entry ([.ref (ad 1), .int x1, .int x2]) (n := 3) (Nat.le_of_ble_eq_true rfl)
  rw [lg_entry_eq]
  generalize (lg_sl ([.ref (ad 1), .int x1, .int x2]) ++ List.replicate (3 - (lg_sl ([.ref (ad 1), .int x1, .int x2])).length) Slot.unset).toArray = ls at hl ⊢
  have hl : lv_has ls 3 [(0, .ref (ad 1)), (1, .int x1), (2, .int x2)] := hl
  have hS : va_S (wd_A ad dsC.length) s.heap s.heap [] := va_S.rf
  have hx := X.1.1
  have hb := X.1.2.1
  have hts := X.1.2.2.2.2
  unfold F_X0_letterAt at hF
  refine lv_iload_n hx hb dX0_letterAt_0 rfl (lv_at hl 2 rfl) ?_
  refine lv_if_lt (tgt := 29) hx hb dX0_letterAt_1 (by decide) (fun c_7 => ?_) (fun c_7 => ?_)
  · have hF := if_t c_7 hF
    refine lv_bipush (v := (32 : Int32)) hx hb dX0_letterAt_29 (by decide) ?_
    cases hF
    exact wd_reti X hP hS rfl (by decide) dX0_letterAt_31
  · have hF := if_e c_7 hF
    refine lv_iload_n hx hb dX0_letterAt_4 rfl (lv_at hl 2 rfl) ?_
    refine lv_aload_n hx hb dX0_letterAt_5 rfl (lv_at hl 0 rfl) ?_
    refine lv_iload_n hx hb dX0_letterAt_6 rfl (lv_at hl 1 rfl) ?_
    obtain ⟨r_1, hc_2, hF⟩ := bd_c hF
    refine wd_calli X hP hS [.int x1] [.int x2] (c_X0_sizeOf l D cA ad X.2.2.2.2   x1 M hc_2) (cwV 1 hts gX0_letterAt_X0_sizeOf rfl rfl rfl (by decide +kernel) ⟨(by show _ ≤ _; first | exact Nat.le_of_ble_eq_true rfl | (simp [headSpec, rm_X0_letterAt]; omega) | omega), (by show _ ≤ _; first | exact Nat.le_of_ble_eq_true rfl | (simp [headSpec, rm_X0_letterAt]; omega) | omega)⟩) dC_1 rfl rfl hl.1 rfl (Nat.le_of_ble_eq_true rfl) dX0_letterAt_7 (fun H locs hP hS => ?_)
    refine lv_icmp_ge (tgt := 29) hx hb dX0_letterAt_10 (by decide) (fun c_6 => ?_) (fun c_6 => ?_)
    · have hF := if_t c_6 hF
      refine lv_bipush (v := (32 : Int32)) hx hb dX0_letterAt_29 (by decide) ?_
      cases hF
      exact wd_reti X hP hS rfl (by decide) dX0_letterAt_31
    · have hF := if_e c_6 hF
      refine lv_aload_n hx hb dX0_letterAt_13 rfl (lv_at hl 0 rfl) ?_
      refine wd_getr (q := 2) X hP 1 dC_1 rfl in_X0_letterAt_X0 0 rfl (by decide) (by decide +kernel) dX0_letterAt_14 ?_
      refine lv_aload_n hx hb dX0_letterAt_17 rfl (lv_at hl 0 rfl) ?_
      refine wd_getr (q := 3) X hP 1 dC_1 rfl in_X0_letterAt_X0 1 rfl (by decide) (by decide +kernel) dX0_letterAt_18 ?_
      refine lv_iload_n hx hb dX0_letterAt_21 rfl (lv_at hl 1 rfl) ?_
      obtain ⟨h_3, hF⟩ := gi_c hF
      refine wd_ild X hP 3 dC_3 h_3 dX0_letterAt_22 ?_
      refine lv_iload_n hx hb dX0_letterAt_23 rfl (lv_at hl 2 rfl) ?_
      refine lv_iadd hx hb dX0_letterAt_24 ?_
      obtain ⟨h_4, hF⟩ := gi_c hF
      refine wd_cld X hP 2 dC_2 h_4 dX0_letterAt_25 ?_
      refine lv_goto (tgt := 31) hx hb dX0_letterAt_26 (by decide) ?_
      obtain ⟨h_5, hF⟩ := gc_c hF
      cases hF
      exact wd_reti X hP hS rfl h_5 dX0_letterAt_31
/-! X0_isLetters (II)Z -/
set_option maxHeartbeats 4000000 in
set_option maxRecDepth 100000 in
theorem wb_X0_isLetters_20 {p : Program} {l : Launch} {e : Env} {s : State} {m : MethodId} {args : Array Value} {below : List Frame} {meth : Method} {c : Code} {D : va_G} {cA : Nat → ClassId} {ad : Nat → Nat} (X : wd_X p s m args meth c cX0_isLetters 6 wsX0_isLetters RX0 (some .boolean) D cA ad dsC.length) {kh20 : Int32 → Int32 → Int32 → Option Int32} {M : Mem} {r : Int32} (hk20 : ∀ (x1 : Int32) (x3 : Int32) (x4 : Int32) (H : Heap) (locs : List Loc) (ls : Array Slot), kh20 x1 x3 x4 = some r → wd_P D cA ad dsC M H → va_S (wd_A ad dsC.length) s.heap H locs → lv_has ls 6 [(0, .ref (ad 1)), (1, .int x1), (3, .int x3), (4, .int x4)] → W p l e (headSpec wsX0_isLetters rm_X0_isLetters).room s m args below meth c H locs 0 0 (MQ below (wm_Qi D cA ad dsC r M) args s 0 0 (wd_A ad dsC.length)) (F0 m 20 ls [])) (x1 : Int32) (x3 : Int32) (x4 : Int32) (H : Heap) (locs : List Loc) (ls : Array Slot) (hF : B_X0_isLetters_20 kh20 M x1 x3 x4 = some r) (hP : wd_P D cA ad dsC M H) (hS : va_S (wd_A ad dsC.length) s.heap H locs) (hl : lv_has ls 6 [(0, .ref (ad 1)), (1, .int x1), (3, .int x3), (4, .int x4)]) : W p l e (headSpec wsX0_isLetters rm_X0_isLetters).room s m args below meth c H locs 0 0 (MQ below (wm_Qi D cA ad dsC r M) args s 0 0 (wd_A ad dsC.length)) (F0 m 20 ls []) := by
  have hx := X.1.1
  have hb := X.1.2.1
  have hts := X.1.2.2.2.2
  unfold B_X0_isLetters_20 at hF
  refine lv_iload hx hb dX0_isLetters_20 (lv_at hl 3 rfl) ?_
  refine lv_iload_n hx hb dX0_isLetters_22 rfl (lv_at hl 2 rfl) ?_
  refine lv_icmp_ge (tgt := 57) hx hb dX0_isLetters_23 (by decide) (fun c_7 => ?_) (fun c_7 => ?_)
  · have hF := if_t c_7 hF
    refine lv_iconst (v := (1 : Int32)) hx hb dX0_isLetters_57 (by decide) ?_
    cases hF
    exact wd_reti X hP hS rfl (by decide) dX0_isLetters_58
  · have hF := if_e c_7 hF
    refine lv_aload_n hx hb dX0_isLetters_26 rfl (lv_at hl 0 rfl) ?_
    refine lv_iload_n hx hb dX0_isLetters_27 rfl (lv_at hl 1 rfl) ?_
    refine lv_iload hx hb dX0_isLetters_28 (lv_at hl 3 rfl) ?_
    obtain ⟨r_1, hc_2, hF⟩ := bd_c hF
    refine wd_calli X hP hS [.int x1, .int x4] [] (c_X0_letterAt l D cA ad X.2.2.2.2   x1 x4 M hc_2) (cwV 2 hts gX0_isLetters_X0_letterAt rfl rfl rfl (by decide +kernel) ⟨(by show _ ≤ _; first | exact Nat.le_of_ble_eq_true rfl | (simp [headSpec, rm_X0_isLetters]; omega) | omega), (by show _ ≤ _; first | exact Nat.le_of_ble_eq_true rfl | (simp [headSpec, rm_X0_isLetters]; omega) | omega)⟩) dC_1 rfl rfl hl.1 rfl (Nat.le_of_ble_eq_true rfl) dX0_isLetters_30 (fun H locs hP hS => ?_)
    refine lv_istore (lv' := [(5, .int r_1), (0, .ref (ad 1)), (1, .int x1), (3, .int x3), (4, .int x4)]) hx hb dX0_isLetters_33 hl (by decide) rfl (fun ls hl => ?_)
    refine lv_iload hx hb dX0_isLetters_35 (lv_at hl 0 rfl) ?_
    refine lv_bipush (v := (97 : Int32)) hx hb dX0_isLetters_37 (by decide) ?_
    refine lv_icmp_lt (tgt := 49) hx hb dX0_isLetters_39 (by decide) (fun c_6 => ?_) (fun c_6 => ?_)
    · have hF := if_t c_6 hF
      refine lv_iconst (v := (0 : Int32)) hx hb dX0_isLetters_49 (by decide) ?_
      cases hF
      exact wd_reti X hP hS rfl (by decide) dX0_isLetters_50
    · have hF := if_e c_6 hF
      refine lv_iload hx hb dX0_isLetters_42 (lv_at hl 0 rfl) ?_
      refine lv_bipush (v := (122 : Int32)) hx hb dX0_isLetters_44 (by decide) ?_
      refine lv_icmp_le (tgt := 51) hx hb dX0_isLetters_46 (by decide) (fun c_5 => ?_) (fun c_5 => ?_)
      · have hF := if_t c_5 hF
        obtain ⟨x4_3, e_4, hF⟩ := nm_c hF
        refine lv_iinc (v := x4_3) (lv' := [(4, .int x4_3), (5, .int r_1), (0, .ref (ad 1)), (1, .int x1), (3, .int x3)]) hx hb dX0_isLetters_51 hl (k := 4) rfl (by rw [e_4]; rfl) (by decide) rfl (fun ls hl => ?_)
        refine lv_goto (tgt := 20) hx hb dX0_isLetters_54 (by decide) ?_
        exact hk20 x1 x3 x4_3 _ _ _ hF hP hS (lv_sub hl [2, 3, 4, 0] rfl)
      · have hF := if_e c_5 hF
        refine lv_iconst (v := (0 : Int32)) hx hb dX0_isLetters_49 (by decide) ?_
        cases hF
        exact wd_reti X hP hS rfl (by decide) dX0_isLetters_50
set_option maxHeartbeats 4000000 in
set_option maxRecDepth 100000 in
theorem wh_X0_isLetters_20 {p : Program} {l : Launch} {e : Env} {s : State} {m : MethodId} {args : Array Value} {below : List Frame} {meth : Method} {c : Code} {D : va_G} {cA : Nat → ClassId} {ad : Nat → Nat} (X : wd_X p s m args meth c cX0_isLetters 6 wsX0_isLetters RX0 (some .boolean) D cA ad dsC.length) {M : Mem} {r : Int32}  : ∀ (n : Nat) (x1 : Int32) (x3 : Int32) (x4 : Int32) (H : Heap) (locs : List Loc) (ls : Array Slot), H_X0_isLetters_20 M n x1 x3 x4 = some r → wd_P D cA ad dsC M H → va_S (wd_A ad dsC.length) s.heap H locs → lv_has ls 6 [(0, .ref (ad 1)), (1, .int x1), (3, .int x3), (4, .int x4)] → W p l e (headSpec wsX0_isLetters rm_X0_isLetters).room s m args below meth c H locs 0 0 (MQ below (wm_Qi D cA ad dsC r M) args s 0 0 (wd_A ad dsC.length)) (F0 m 20 ls []) := by
  intro n
  induction n with
  | zero => intro x1 x3 x4 H locs ls hF; cases hF
  | succ n ih => intro x1 x3 x4 H locs ls hF hP hS hl; exact wb_X0_isLetters_20 X (kh20 := H_X0_isLetters_20 M n) ih x1 x3 x4 H locs ls hF hP hS hl
set_option maxHeartbeats 4000000 in
set_option maxRecDepth 100000 in
theorem c_X0_isLetters (l : Launch) (D : va_G) (cA : Nat → ClassId) (ad : Nat → Nat) (hj : wd_inj ad dsC.length)   (x1 : Int32) (x2 : Int32) (M : Mem) {r : Int32} (hF : F_X0_isLetters x1 x2 M = some r) : wm_i l yX0_isLetters wsX0_isLetters rm_X0_isLetters D cA ad dsC M [.ref (ad 1), .int x1, .int x2] r M := by
  refine Met.ofW (cc := cX0_isLetters) (maxL := 6) (ret := (some .boolean)) (by decide) rfl ?_
  intro p e s m args below meth c s₁ B hml hv
  obtain ⟨rfl, hP, hK⟩ := hv
  have X : wd_X p s m _ meth c cX0_isLetters 6 wsX0_isLetters RX0 (some .boolean) D cA ad dsC.length := ⟨⟨B.exec, B.bytes, hml, findClass_of_methodNamed B.named, atoms_spec (ws := wsX0_isLetters) B.pre⟩, hK, B.notSynchronized, B.returns, hj⟩
  have hl := lv_entry ([.ref (ad 1), .int x1, .int x2]) (n := 6) (Nat.le_of_ble_eq_true rfl)
  rw [lg_entry_eq]
  generalize (lg_sl ([.ref (ad 1), .int x1, .int x2]) ++ List.replicate (6 - (lg_sl ([.ref (ad 1), .int x1, .int x2])).length) Slot.unset).toArray = ls at hl ⊢
  have hl : lv_has ls 6 [(0, .ref (ad 1)), (1, .int x1), (2, .int x2)] := hl
  have hS : va_S (wd_A ad dsC.length) s.heap s.heap [] := va_S.rf
  have hx := X.1.1
  have hb := X.1.2.1
  have hts := X.1.2.2.2.2
  unfold F_X0_isLetters at hF
  refine lv_aload_n hx hb dX0_isLetters_0 rfl (lv_at hl 0 rfl) ?_
  refine lv_iload_n hx hb dX0_isLetters_1 rfl (lv_at hl 1 rfl) ?_
  obtain ⟨r_1, hc_2, hF⟩ := bd_c hF
  refine wd_calli X hP hS [.int x1] [] (c_X0_sizeOf l D cA ad X.2.2.2.2   x1 M hc_2) (cwV 1 hts gX0_isLetters_X0_sizeOf rfl rfl rfl (by decide +kernel) ⟨(by show _ ≤ _; first | exact Nat.le_of_ble_eq_true rfl | (simp [headSpec, rm_X0_isLetters]; omega) | omega), (by show _ ≤ _; first | exact Nat.le_of_ble_eq_true rfl | (simp [headSpec, rm_X0_isLetters]; omega) | omega)⟩) dC_1 rfl rfl hl.1 rfl (Nat.le_of_ble_eq_true rfl) dX0_isLetters_2 (fun H locs hP hS => ?_)
  refine lv_istore_n (lv' := [(3, .int r_1), (0, .ref (ad 1)), (1, .int x1), (2, .int x2)]) hx hb dX0_isLetters_5 rfl hl (by decide) rfl (fun ls hl => ?_)
  refine lv_iload_n hx hb dX0_isLetters_6 rfl (lv_at hl 0 rfl) ?_
  refine lv_if_eq (tgt := 15) hx hb dX0_isLetters_7 (by decide) (fun c_4 => ?_) (fun c_4 => ?_)
  · have hF := if_t c_4 hF
    refine lv_iconst (v := (0 : Int32)) hx hb dX0_isLetters_15 (by decide) ?_
    cases hF
    exact wd_reti X hP hS rfl (by decide) dX0_isLetters_16
  · have hF := if_e c_4 hF
    refine lv_iload_n hx hb dX0_isLetters_10 rfl (lv_at hl 0 rfl) ?_
    refine lv_iload_n hx hb dX0_isLetters_11 rfl (lv_at hl 3 rfl) ?_
    refine lv_icmp_le (tgt := 17) hx hb dX0_isLetters_12 (by decide) (fun c_3 => ?_) (fun c_3 => ?_)
    · have hF := if_t c_3 hF
      refine lv_iconst (v := (0 : Int32)) hx hb dX0_isLetters_17 (by decide) ?_
      refine lv_istore (lv' := [(4, .int (0 : Int32)), (3, .int r_1), (0, .ref (ad 1)), (1, .int x1), (2, .int x2)]) hx hb dX0_isLetters_18 hl (by decide) rfl (fun ls hl => ?_)
      exact wh_X0_isLetters_20 X    100 x1 r_1 (0 : Int32) _ _ _ hF hP hS (lv_sub hl [2, 3, 1, 0] rfl)
    · have hF := if_e c_3 hF
      refine lv_iconst (v := (0 : Int32)) hx hb dX0_isLetters_15 (by decide) ?_
      cases hF
      exact wd_reti X hP hS rfl (by decide) dX0_isLetters_16
/-! X0_nameAt (I)I -/
set_option maxHeartbeats 4000000 in
set_option maxRecDepth 100000 in
theorem wb_X0_nameAt_22 {p : Program} {l : Launch} {e : Env} {s : State} {m : MethodId} {args : Array Value} {below : List Frame} {meth : Method} {c : Code} {D : va_G} {cA : Nat → ClassId} {ad : Nat → Nat} (X : wd_X p s m args meth c cX0_nameAt 5 wsX0_nameAt RX0 (some .int) D cA ad dsC.length) {kh22 : Int32 → Int32 → Int32 → Int32 → Option Int32} {M : Mem} {r : Int32} (hk22 : ∀ (x1 : Int32) (x2 : Int32) (x3 : Int32) (x4 : Int32) (H : Heap) (locs : List Loc) (ls : Array Slot), kh22 x1 x2 x3 x4 = some r → wd_P D cA ad dsC M H → va_S (wd_A ad dsC.length) s.heap H locs → lv_has ls 5 [(0, .ref (ad 1)), (1, .int x1), (2, .int x2), (3, .int x3), (4, .int x4)] → W p l e (headSpec wsX0_nameAt rm_X0_nameAt).room s m args below meth c H locs 0 0 (MQ below (wm_Qi D cA ad dsC r M) args s 0 0 (wd_A ad dsC.length)) (F0 m 22 ls [])) (x1 : Int32) (x2 : Int32) (x3 : Int32) (x4 : Int32) (H : Heap) (locs : List Loc) (ls : Array Slot) (hF : B_X0_nameAt_22 kh22 M x1 x2 x3 x4 = some r) (hP : wd_P D cA ad dsC M H) (hS : va_S (wd_A ad dsC.length) s.heap H locs) (hl : lv_has ls 5 [(0, .ref (ad 1)), (1, .int x1), (2, .int x2), (3, .int x3), (4, .int x4)]) : W p l e (headSpec wsX0_nameAt rm_X0_nameAt).room s m args below meth c H locs 0 0 (MQ below (wm_Qi D cA ad dsC r M) args s 0 0 (wd_A ad dsC.length)) (F0 m 22 ls []) := by
  have hx := X.1.1
  have hb := X.1.2.1
  have hts := X.1.2.2.2.2
  unfold B_X0_nameAt_22 at hF
  refine lv_iload hx hb dX0_nameAt_22 (lv_at hl 4 rfl) ?_
  refine lv_iload_n hx hb dX0_nameAt_24 rfl (lv_at hl 3 rfl) ?_
  refine lv_icmp_ge (tgt := 52) hx hb dX0_nameAt_25 (by decide) (fun c_7 => ?_) (fun c_7 => ?_)
  · have hF := if_t c_7 hF
    refine lv_iload_n hx hb dX0_nameAt_52 rfl (lv_at hl 2 rfl) ?_
    cases hF
    exact wd_reti X hP hS rfl rfl dX0_nameAt_53
  · have hF := if_e c_7 hF
    refine lv_iload_n hx hb dX0_nameAt_28 rfl (lv_at hl 2 rfl) ?_
    refine lv_bipush (v := (27 : Int32)) hx hb dX0_nameAt_29 (by decide) ?_
    refine lv_imul hx hb dX0_nameAt_31 ?_
    refine lv_aload_n hx hb dX0_nameAt_32 rfl (lv_at hl 0 rfl) ?_
    refine lv_iload_n hx hb dX0_nameAt_33 rfl (lv_at hl 1 rfl) ?_
    refine lv_iload hx hb dX0_nameAt_34 (lv_at hl 4 rfl) ?_
    obtain ⟨r_1, hc_2, hF⟩ := bd_c hF
    refine wd_calli X hP hS [.int x1, .int x4] [.int (x2 * (27 : Int32))] (c_X0_letterAt l D cA ad X.2.2.2.2   x1 x4 M hc_2) (cwV 2 hts gX0_nameAt_X0_letterAt rfl rfl rfl (by decide +kernel) ⟨(by show _ ≤ _; first | exact Nat.le_of_ble_eq_true rfl | (simp [headSpec, rm_X0_nameAt]; omega) | omega), (by show _ ≤ _; first | exact Nat.le_of_ble_eq_true rfl | (simp [headSpec, rm_X0_nameAt]; omega) | omega)⟩) dC_1 rfl rfl hl.1 rfl (Nat.le_of_ble_eq_true rfl) dX0_nameAt_36 (fun H locs hP hS => ?_)
    refine lv_iadd hx hb dX0_nameAt_39 ?_
    refine lv_bipush (v := (97 : Int32)) hx hb dX0_nameAt_40 (by decide) ?_
    refine lv_isub hx hb dX0_nameAt_42 ?_
    refine lv_iconst (v := (1 : Int32)) hx hb dX0_nameAt_43 (by decide) ?_
    refine lv_iadd hx hb dX0_nameAt_44 ?_
    obtain ⟨x2_3, e_4, hF⟩ := nm_c hF
    refine wd_top e_4 ?_
    refine lv_istore_n (lv' := [(2, .int x2_3), (0, .ref (ad 1)), (1, .int x1), (3, .int x3), (4, .int x4)]) hx hb dX0_nameAt_45 rfl hl (by decide) rfl (fun ls hl => ?_)
    obtain ⟨x4_5, e_6, hF⟩ := nm_c hF
    refine lv_iinc (v := x4_5) (lv' := [(4, .int x4_5), (2, .int x2_3), (0, .ref (ad 1)), (1, .int x1), (3, .int x3)]) hx hb dX0_nameAt_46 hl (k := 4) rfl (by rw [e_6]; rfl) (by decide) rfl (fun ls hl => ?_)
    refine lv_goto (tgt := 22) hx hb dX0_nameAt_49 (by decide) ?_
    exact hk22 x1 x2_3 x3 x4_5 _ _ _ hF hP hS (lv_sub hl [2, 3, 1, 4, 0] rfl)
set_option maxHeartbeats 4000000 in
set_option maxRecDepth 100000 in
theorem wh_X0_nameAt_22 {p : Program} {l : Launch} {e : Env} {s : State} {m : MethodId} {args : Array Value} {below : List Frame} {meth : Method} {c : Code} {D : va_G} {cA : Nat → ClassId} {ad : Nat → Nat} (X : wd_X p s m args meth c cX0_nameAt 5 wsX0_nameAt RX0 (some .int) D cA ad dsC.length) {M : Mem} {r : Int32}  : ∀ (n : Nat) (x1 : Int32) (x2 : Int32) (x3 : Int32) (x4 : Int32) (H : Heap) (locs : List Loc) (ls : Array Slot), H_X0_nameAt_22 M n x1 x2 x3 x4 = some r → wd_P D cA ad dsC M H → va_S (wd_A ad dsC.length) s.heap H locs → lv_has ls 5 [(0, .ref (ad 1)), (1, .int x1), (2, .int x2), (3, .int x3), (4, .int x4)] → W p l e (headSpec wsX0_nameAt rm_X0_nameAt).room s m args below meth c H locs 0 0 (MQ below (wm_Qi D cA ad dsC r M) args s 0 0 (wd_A ad dsC.length)) (F0 m 22 ls []) := by
  intro n
  induction n with
  | zero => intro x1 x2 x3 x4 H locs ls hF; cases hF
  | succ n ih => intro x1 x2 x3 x4 H locs ls hF hP hS hl; exact wb_X0_nameAt_22 X (kh22 := H_X0_nameAt_22 M n) ih x1 x2 x3 x4 H locs ls hF hP hS hl
set_option maxHeartbeats 4000000 in
set_option maxRecDepth 100000 in
theorem c_X0_nameAt (l : Launch) (D : va_G) (cA : Nat → ClassId) (ad : Nat → Nat) (hj : wd_inj ad dsC.length)   (x1 : Int32) (M : Mem) {r : Int32} (hF : F_X0_nameAt x1 M = some r) : wm_i l yX0_nameAt wsX0_nameAt rm_X0_nameAt D cA ad dsC M [.ref (ad 1), .int x1] r M := by
  refine Met.ofW (cc := cX0_nameAt) (maxL := 5) (ret := (some .int)) (by decide) rfl ?_
  intro p e s m args below meth c s₁ B hml hv
  obtain ⟨rfl, hP, hK⟩ := hv
  have X : wd_X p s m _ meth c cX0_nameAt 5 wsX0_nameAt RX0 (some .int) D cA ad dsC.length := ⟨⟨B.exec, B.bytes, hml, findClass_of_methodNamed B.named, atoms_spec (ws := wsX0_nameAt) B.pre⟩, hK, B.notSynchronized, B.returns, hj⟩
  have hl := lv_entry ([.ref (ad 1), .int x1]) (n := 5) (Nat.le_of_ble_eq_true rfl)
  rw [lg_entry_eq]
  generalize (lg_sl ([.ref (ad 1), .int x1]) ++ List.replicate (5 - (lg_sl ([.ref (ad 1), .int x1])).length) Slot.unset).toArray = ls at hl ⊢
  have hl : lv_has ls 5 [(0, .ref (ad 1)), (1, .int x1)] := hl
  have hS : va_S (wd_A ad dsC.length) s.heap s.heap [] := va_S.rf
  have hx := X.1.1
  have hb := X.1.2.1
  have hts := X.1.2.2.2.2
  unfold F_X0_nameAt at hF
  refine lv_aload_n hx hb dX0_nameAt_0 rfl (lv_at hl 0 rfl) ?_
  refine lv_iload_n hx hb dX0_nameAt_1 rfl (lv_at hl 1 rfl) ?_
  refine lv_iconst (v := (4 : Int32)) hx hb dX0_nameAt_2 (by decide) ?_
  obtain ⟨r_1, hc_2, hF⟩ := bd_c hF
  refine wd_calli X hP hS [.int x1, .int (4 : Int32)] [] (c_X0_isLetters l D cA ad X.2.2.2.2   x1 (4 : Int32) M hc_2) (cwV 2 hts gX0_nameAt_X0_isLetters rfl rfl rfl (by decide +kernel) ⟨(by show _ ≤ _; first | exact Nat.le_of_ble_eq_true rfl | (simp [headSpec, rm_X0_nameAt]; omega) | omega), (by show _ ≤ _; first | exact Nat.le_of_ble_eq_true rfl | (simp [headSpec, rm_X0_nameAt]; omega) | omega)⟩) dC_1 rfl rfl hl.1 rfl (Nat.le_of_ble_eq_true rfl) dX0_nameAt_3 (fun H locs hP hS => ?_)
  refine lv_if_ne (tgt := 11) hx hb dX0_nameAt_6 (by decide) (fun c_5 => ?_) (fun c_5 => ?_)
  · have hF := if_e c_5 hF
    refine lv_iconst (v := (0 : Int32)) hx hb dX0_nameAt_11 (by decide) ?_
    refine lv_istore_n (lv' := [(2, .int (0 : Int32)), (0, .ref (ad 1)), (1, .int x1)]) hx hb dX0_nameAt_12 rfl hl (by decide) rfl (fun ls hl => ?_)
    refine lv_aload_n hx hb dX0_nameAt_13 rfl (lv_at hl 1 rfl) ?_
    refine lv_iload_n hx hb dX0_nameAt_14 rfl (lv_at hl 2 rfl) ?_
    obtain ⟨r_3, hc_4, hF⟩ := bd_c hF
    refine wd_calli X hP hS [.int x1] [] (c_X0_sizeOf l D cA ad X.2.2.2.2   x1 M hc_4) (cwV 1 hts gX0_nameAt_X0_sizeOf rfl rfl rfl (by decide +kernel) ⟨(by show _ ≤ _; first | exact Nat.le_of_ble_eq_true rfl | (simp [headSpec, rm_X0_nameAt]; omega) | omega), (by show _ ≤ _; first | exact Nat.le_of_ble_eq_true rfl | (simp [headSpec, rm_X0_nameAt]; omega) | omega)⟩) dC_1 rfl rfl hl.1 rfl (Nat.le_of_ble_eq_true rfl) dX0_nameAt_15 (fun H locs hP hS => ?_)
    refine lv_istore_n (lv' := [(3, .int r_3), (2, .int (0 : Int32)), (0, .ref (ad 1)), (1, .int x1)]) hx hb dX0_nameAt_18 rfl hl (by decide) rfl (fun ls hl => ?_)
    refine lv_iconst (v := (0 : Int32)) hx hb dX0_nameAt_19 (by decide) ?_
    refine lv_istore (lv' := [(4, .int (0 : Int32)), (3, .int r_3), (2, .int (0 : Int32)), (0, .ref (ad 1)), (1, .int x1)]) hx hb dX0_nameAt_20 hl (by decide) rfl (fun ls hl => ?_)
    exact wh_X0_nameAt_22 X    100 x1 (0 : Int32) r_3 (0 : Int32) _ _ _ hF hP hS (lv_sub hl [3, 4, 2, 1, 0] rfl)
  · have hF := if_t c_5 hF
    refine lv_iconst (v := (-1 : Int32)) hx hb dX0_nameAt_9 (by decide) ?_
    cases hF
    exact wd_reti X hP hS rfl rfl dX0_nameAt_10
