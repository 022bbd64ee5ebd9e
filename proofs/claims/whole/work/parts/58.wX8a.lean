/-! X8_thrown ()I -/
theorem in_X8_thrown_X8 : ∀ w ∈ u_ws RX8 TX8 39, w ∈ wsX8_thrown := by decide +kernel
set_option maxHeartbeats 4000000 in
set_option maxRecDepth 100000 in
theorem c_X8_thrown (l : Launch) (D : va_G) (cA : Nat → ClassId) (ad : Nat → Nat) (hj : wd_inj ad dsM.length)    (M : Mem) {r : Int32} (hF : F_X8_thrown M = some r) : wm_i l yX8_thrown wsX8_thrown rm_X8_thrown D cA ad dsM M [.ref (ad 0)] r M := by
  refine Met.ofW (cc := cX8_thrown) (maxL := 1) (ret := (some .int)) (by decide) rfl ?_
  intro p e s m args below meth c s₁ B hml hv
  obtain ⟨rfl, hP, hK⟩ := hv
  have X : wd_X p s m _ meth c cX8_thrown 1 wsX8_thrown RX8 (some .int) D cA ad dsM.length := ⟨⟨B.exec, B.bytes, hml, findClass_of_methodNamed B.named, atoms_spec (ws := wsX8_thrown) B.pre⟩, hK, B.notSynchronized, B.returns, hj⟩
  have hl := lv_entry ([.ref (ad 0)]) (n := 1) (Nat.le_of_ble_eq_true rfl)
  rw [lg_entry_eq]
  generalize (lg_sl ([.ref (ad 0)]) ++ List.replicate (1 - (lg_sl ([.ref (ad 0)])).length) Slot.unset).toArray = ls at hl ⊢
  have hl : lv_has ls 1 [(0, .ref (ad 0))] := hl
  have hS : va_S (wd_A ad dsM.length) s.heap s.heap [] := va_S.rf
  have hx := X.1.1
  have hb := X.1.2.1
  have hts := X.1.2.2.2.2
  unfold F_X8_thrown at hF
  refine lv_aload_n hx hb dX8_thrown_0 rfl (lv_at hl 0 rfl) ?_
  refine wd_geti X hP 0 dM_0 rfl in_X8_thrown_X8 0 rfl (by decide) (by decide +kernel) dX8_thrown_1 ?_
  cases hF
  exact wd_reti X hP hS rfl rfl dX8_thrown_4
/-! X8_fails (I)I -/
theorem in_X8_fails_X8 : ∀ w ∈ u_ws RX8 TX8 39, w ∈ wsX8_fails := by decide +kernel
set_option maxHeartbeats 4000000 in
set_option maxRecDepth 100000 in
theorem c_X8_fails (l : Launch) (D : va_G) (cA : Nat → ClassId) (ad : Nat → Nat) (hj : wd_inj ad dsM.length)   (x1 : Int32) (M : Mem) {r : Int32} {M' : Mem} (hF : F_X8_fails x1 M = some (r, M')) : wm_i l yX8_fails wsX8_fails rm_X8_fails D cA ad dsM M [.ref (ad 0), .int x1] r M' := by
  refine Met.ofW (cc := cX8_fails) (maxL := 2) (ret := (some .int)) (by decide) rfl ?_
  intro p e s m args below meth c s₁ B hml hv
  obtain ⟨rfl, hP, hK⟩ := hv
  have X : wd_X p s m _ meth c cX8_fails 2 wsX8_fails RX8 (some .int) D cA ad dsM.length := ⟨⟨B.exec, B.bytes, hml, findClass_of_methodNamed B.named, atoms_spec (ws := wsX8_fails) B.pre⟩, hK, B.notSynchronized, B.returns, hj⟩
  have hl := lv_entry ([.ref (ad 0), .int x1]) (n := 2) (Nat.le_of_ble_eq_true rfl)
  rw [lg_entry_eq]
  generalize (lg_sl ([.ref (ad 0), .int x1]) ++ List.replicate (2 - (lg_sl ([.ref (ad 0), .int x1])).length) Slot.unset).toArray = ls at hl ⊢
  have hl : lv_has ls 2 [(0, .ref (ad 0)), (1, .int x1)] := hl
  have hS : va_S (wd_A ad dsM.length) s.heap s.heap [] := va_S.rf
  have hx := X.1.1
  have hb := X.1.2.1
  have hts := X.1.2.2.2.2
  unfold F_X8_fails at hF
  refine lv_aload_n hx hb dX8_fails_0 rfl (lv_at hl 0 rfl) ?_
  refine lv_iload_n hx hb dX8_fails_1 rfl (lv_at hl 1 rfl) ?_
  obtain ⟨M_1, e_2, hF⟩ := wr_c hF
  refine wd_puti X hP hS 0 dM_0 rfl in_X8_fails_X8 tyX8_ok nmX8 0 rfl (by decide) rfl rfl (by decide +kernel) dX8_fails_2 (fun H locs hP hS => ?_)
  rw [← e_2] at hP
  refine lv_iconst (v := (0 : Int32)) hx hb dX8_fails_5 (by decide) ?_
  cases hF
  exact wd_reti X hP hS rfl rfl dX8_fails_6
/-! X8_write (C)Z -/
theorem in_X8_write_X8 : ∀ w ∈ u_ws RX8 TX8 39, w ∈ wsX8_write := by decide +kernel
set_option maxHeartbeats 4000000 in
set_option maxRecDepth 100000 in
theorem c_X8_write (l : Launch) (D : va_G) (cA : Nat → ClassId) (ad : Nat → Nat) (hj : wd_inj ad dsM.length)   (x1 : Int32) (M : Mem) {r : Int32} {M' : Mem} (hF : F_X8_write x1 M = some (r, M')) : wm_i l yX8_write wsX8_write rm_X8_write D cA ad dsM M [.ref (ad 0), .int x1] r M' := by
  refine Met.ofW (cc := cX8_write) (maxL := 2) (ret := (some .boolean)) (by decide) rfl ?_
  intro p e s m args below meth c s₁ B hml hv
  obtain ⟨rfl, hP, hK⟩ := hv
  have X : wd_X p s m _ meth c cX8_write 2 wsX8_write RX8 (some .boolean) D cA ad dsM.length := ⟨⟨B.exec, B.bytes, hml, findClass_of_methodNamed B.named, atoms_spec (ws := wsX8_write) B.pre⟩, hK, B.notSynchronized, B.returns, hj⟩
  have hl := lv_entry ([.ref (ad 0), .int x1]) (n := 2) (Nat.le_of_ble_eq_true rfl)
  rw [lg_entry_eq]
  generalize (lg_sl ([.ref (ad 0), .int x1]) ++ List.replicate (2 - (lg_sl ([.ref (ad 0), .int x1])).length) Slot.unset).toArray = ls at hl ⊢
  have hl : lv_has ls 2 [(0, .ref (ad 0)), (1, .int x1)] := hl
  have hS : va_S (wd_A ad dsM.length) s.heap s.heap [] := va_S.rf
  have hx := X.1.1
  have hb := X.1.2.1
  have hts := X.1.2.2.2.2
  unfold F_X8_write at hF
  refine lv_aload_n hx hb dX8_write_0 rfl (lv_at hl 0 rfl) ?_
  refine lv_iconst (v := (0 : Int32)) hx hb dX8_write_1 (by decide) ?_
  obtain ⟨M_1, e_2, hF⟩ := wr_c hF
  refine wd_puti X hP hS 0 dM_0 rfl in_X8_write_X8 tyX8_ok nmX8 0 rfl (by decide) rfl rfl (by decide +kernel) dX8_write_2 (fun H locs hP hS => ?_)
  rw [← e_2] at hP
  refine lv_iload_n hx hb dX8_write_5 rfl (lv_at hl 1 rfl) ?_
  refine lv_bipush (v := (32 : Int32)) hx hb dX8_write_6 (by decide) ?_
  refine lv_icmp_lt (tgt := 26) hx hb dX8_write_8 (by decide) (fun c_10 => ?_) (fun c_10 => ?_)
  · have hF := if_t c_10 hF
    refine lv_iconst (v := (0 : Int32)) hx hb dX8_write_26 (by decide) ?_
    cases hF
    exact wd_reti X hP hS rfl (by decide) dX8_write_27
  · have hF := if_e c_10 hF
    refine lv_iload_n hx hb dX8_write_11 rfl (lv_at hl 1 rfl) ?_
    refine lv_bipush (v := (126 : Int32)) hx hb dX8_write_12 (by decide) ?_
    refine lv_icmp_gt (tgt := 26) hx hb dX8_write_14 (by decide) (fun c_9 => ?_) (fun c_9 => ?_)
    · have hF := if_t c_9 hF
      refine lv_iconst (v := (0 : Int32)) hx hb dX8_write_26 (by decide) ?_
      cases hF
      exact wd_reti X hP hS rfl (by decide) dX8_write_27
    · have hF := if_e c_9 hF
      refine lv_aload_n hx hb dX8_write_17 rfl (lv_at hl 0 rfl) ?_
      refine wd_geti X hP 0 dM_0 rfl in_X8_write_X8 2 rfl (by decide) (by decide +kernel) dX8_write_18 ?_
      refine lv_bipush (v := (50 : Int32)) hx hb dX8_write_21 (by decide) ?_
      refine lv_icmp_lt (tgt := 28) hx hb dX8_write_23 (by decide) (fun c_8 => ?_) (fun c_8 => ?_)
      · have hF := if_t c_8 hF
        refine lv_aload_n hx hb dX8_write_28 rfl (lv_at hl 0 rfl) ?_
        refine wd_getr (q := 1) X hP 0 dM_0 rfl in_X8_write_X8 1 rfl (by decide) (by decide +kernel) dX8_write_29 ?_
        refine lv_aload_n hx hb dX8_write_32 rfl (lv_at hl 0 rfl) ?_
        refine wd_geti X hP 0 dM_0 rfl in_X8_write_X8 2 rfl (by decide) (by decide +kernel) dX8_write_33 ?_
        refine lv_iload_n hx hb dX8_write_36 rfl (lv_at hl 1 rfl) ?_
        obtain ⟨h_3, hF⟩ := gi_c hF
        obtain ⟨M_4, e_5, hF⟩ := wr_c hF
        refine wd_cst X hP hS 1 dM_1 h_3 dX8_write_37 (fun H locs hP hS => ?_)
        rw [← e_5] at hP
        refine lv_aload_n hx hb dX8_write_38 rfl (lv_at hl 0 rfl) ?_
        refine lv_dup hx hb dX8_write_39 rfl ?_
        refine wd_geti X hP 0 dM_0 rfl in_X8_write_X8 2 rfl (by decide) (by decide +kernel) dX8_write_40 ?_
        refine lv_iconst (v := (1 : Int32)) hx hb dX8_write_43 (by decide) ?_
        refine lv_iadd hx hb dX8_write_44 ?_
        obtain ⟨M_6, e_7, hF⟩ := wr_c hF
        refine wd_puti X hP hS 0 dM_0 rfl in_X8_write_X8 tyX8_ok nmX8 2 rfl (by decide) rfl rfl (by decide +kernel) dX8_write_45 (fun H locs hP hS => ?_)
        rw [← e_7] at hP
        refine lv_iconst (v := (1 : Int32)) hx hb dX8_write_48 (by decide) ?_
        cases hF
        exact wd_reti X hP hS rfl (by decide) dX8_write_49
      · have hF := if_e c_8 hF
        refine lv_iconst (v := (0 : Int32)) hx hb dX8_write_26 (by decide) ?_
        cases hF
        exact wd_reti X hP hS rfl (by decide) dX8_write_27
/-! X8_split ()V -/
theorem in_X8_split_X8 : ∀ w ∈ u_ws RX8 TX8 39, w ∈ wsX8_split := by decide +kernel
set_option maxHeartbeats 4000000 in
set_option maxRecDepth 100000 in
theorem wb_X8_split_83 {p : Program} {l : Launch} {e : Env} {s : State} {m : MethodId} {args : Array Value} {below : List Frame} {meth : Method} {c : Code} {D : va_G} {cA : Nat → ClassId} {ad : Nat → Nat} (X : wd_X p s m args meth c cX8_split 2 wsX8_split RX8 none D cA ad dsM.length) {kh7 : Int32 → Mem → Option Mem} {M' : Mem} (hk7 : ∀ (x1 : Int32) (M : Mem) (H : Heap) (locs : List Loc) (ls : Array Slot), kh7 x1 M = some M' → wd_P D cA ad dsM M H → va_S (wd_A ad dsM.length) s.heap H locs → lv_has ls 2 [(0, .ref (ad 0)), (1, .int x1)] → W p l e (headSpec wsX8_split rm_X8_split).room s m args below meth c H locs 0 0 (MQ below (wm_Qv D cA ad dsM M') args s 0 0 (wd_A ad dsM.length)) (F0 m 7 ls [])) (x1 : Int32) (M : Mem) (H : Heap) (locs : List Loc) (ls : Array Slot) (hF : B_X8_split_83 kh7 x1 M = some M') (hP : wd_P D cA ad dsM M H) (hS : va_S (wd_A ad dsM.length) s.heap H locs) (hl : lv_has ls 2 [(0, .ref (ad 0)), (1, .int x1)]) : W p l e (headSpec wsX8_split rm_X8_split).room s m args below meth c H locs 0 0 (MQ below (wm_Qv D cA ad dsM M') args s 0 0 (wd_A ad dsM.length)) (F0 m 83 ls []) := by
  have hx := X.1.1
  have hb := X.1.2.1
  have hts := X.1.2.2.2.2
  unfold B_X8_split_83 at hF
  refine lv_aload_n hx hb dX8_split_83 rfl (lv_at hl 0 rfl) ?_
  refine wd_getr (q := 3) X hP 0 dM_0 rfl in_X8_split_X8 5 rfl (by decide) (by decide +kernel) dX8_split_84 ?_
  refine lv_aload_n hx hb dX8_split_87 rfl (lv_at hl 0 rfl) ?_
  refine wd_geti X hP 0 dM_0 rfl in_X8_split_X8 3 rfl (by decide) (by decide +kernel) dX8_split_88 ?_
  refine lv_iload_n hx hb dX8_split_91 rfl (lv_at hl 1 rfl) ?_
  obtain ⟨h_1, hF⟩ := gi_c hF
  obtain ⟨M_2, e_3, hF⟩ := wr_c hF
  refine wd_ist X hP hS 3 dM_3 h_1 dX8_split_92 (fun H locs hP hS => ?_)
  rw [← e_3] at hP
  refine lv_aload_n hx hb dX8_split_93 rfl (lv_at hl 0 rfl) ?_
  refine lv_dup hx hb dX8_split_94 rfl ?_
  refine wd_geti X hP 0 dM_0 rfl in_X8_split_X8 3 rfl (by decide) (by decide +kernel) dX8_split_95 ?_
  refine lv_iconst (v := (1 : Int32)) hx hb dX8_split_98 (by decide) ?_
  refine lv_iadd hx hb dX8_split_99 ?_
  obtain ⟨M_4, e_5, hF⟩ := wr_c hF
  refine wd_puti X hP hS 0 dM_0 rfl in_X8_split_X8 tyX8_ok nmX8 3 rfl (by decide) rfl rfl (by decide +kernel) dX8_split_100 (fun H locs hP hS => ?_)
  rw [← e_5] at hP
  refine lv_goto (tgt := 7) hx hb dX8_split_103 (by decide) ?_
  exact hk7 x1 M_4 _ _ _ hF hP hS (lv_sub hl [0, 1] rfl)
set_option maxHeartbeats 4000000 in
set_option maxRecDepth 100000 in
theorem wb_X8_split_58 {p : Program} {l : Launch} {e : Env} {s : State} {m : MethodId} {args : Array Value} {below : List Frame} {meth : Method} {c : Code} {D : va_G} {cA : Nat → ClassId} {ad : Nat → Nat} (X : wd_X p s m args meth c cX8_split 2 wsX8_split RX8 none D cA ad dsM.length) {kh7 : Int32 → Mem → Option Mem} {kh58 : Int32 → Mem → Option Mem} {M' : Mem} (hk7 : ∀ (x1 : Int32) (M : Mem) (H : Heap) (locs : List Loc) (ls : Array Slot), kh7 x1 M = some M' → wd_P D cA ad dsM M H → va_S (wd_A ad dsM.length) s.heap H locs → lv_has ls 2 [(0, .ref (ad 0)), (1, .int x1)] → W p l e (headSpec wsX8_split rm_X8_split).room s m args below meth c H locs 0 0 (MQ below (wm_Qv D cA ad dsM M') args s 0 0 (wd_A ad dsM.length)) (F0 m 7 ls [])) (hk58 : ∀ (x1 : Int32) (M : Mem) (H : Heap) (locs : List Loc) (ls : Array Slot), kh58 x1 M = some M' → wd_P D cA ad dsM M H → va_S (wd_A ad dsM.length) s.heap H locs → lv_has ls 2 [(0, .ref (ad 0)), (1, .int x1)] → W p l e (headSpec wsX8_split rm_X8_split).room s m args below meth c H locs 0 0 (MQ below (wm_Qv D cA ad dsM M') args s 0 0 (wd_A ad dsM.length)) (F0 m 58 ls [])) (x1 : Int32) (M : Mem) (H : Heap) (locs : List Loc) (ls : Array Slot) (hF : B_X8_split_58 kh7 kh58 x1 M = some M') (hP : wd_P D cA ad dsM M H) (hS : va_S (wd_A ad dsM.length) s.heap H locs) (hl : lv_has ls 2 [(0, .ref (ad 0)), (1, .int x1)]) : W p l e (headSpec wsX8_split rm_X8_split).room s m args below meth c H locs 0 0 (MQ below (wm_Qv D cA ad dsM M') args s 0 0 (wd_A ad dsM.length)) (F0 m 58 ls []) := by
  have hx := X.1.1
  have hb := X.1.2.1
  have hts := X.1.2.2.2.2
  unfold B_X8_split_58 at hF
  refine lv_iload_n hx hb dX8_split_58 rfl (lv_at hl 1 rfl) ?_
  refine lv_aload_n hx hb dX8_split_59 rfl (lv_at hl 0 rfl) ?_
  refine wd_geti X hP 0 dM_0 rfl in_X8_split_X8 2 rfl (by decide) (by decide +kernel) dX8_split_60 ?_
  refine lv_icmp_ge (tgt := 83) hx hb dX8_split_63 (by decide) (fun c_5 => ?_) (fun c_5 => ?_)
  · have hF := if_t c_5 hF
    exact wb_X8_split_83 X  hk7  x1 M _ _ _ hF hP hS (lv_sub hl [0, 1] rfl)
  · have hF := if_e c_5 hF
    refine lv_aload_n hx hb dX8_split_66 rfl (lv_at hl 0 rfl) ?_
    refine wd_getr (q := 1) X hP 0 dM_0 rfl in_X8_split_X8 1 rfl (by decide) (by decide +kernel) dX8_split_67 ?_
    refine lv_iload_n hx hb dX8_split_70 rfl (lv_at hl 1 rfl) ?_
    obtain ⟨h_1, hF⟩ := gi_c hF
    refine wd_cld X hP 1 dM_1 h_1 dX8_split_71 ?_
    refine lv_bipush (v := (32 : Int32)) hx hb dX8_split_72 (by decide) ?_
    refine lv_icmp_eq (tgt := 83) hx hb dX8_split_74 (by decide) (fun c_4 => ?_) (fun c_4 => ?_)
    · have hF := if_t c_4 hF
      exact wb_X8_split_83 X  hk7  x1 M _ _ _ hF hP hS (lv_sub hl [0, 1] rfl)
    · have hF := if_e c_4 hF
      obtain ⟨x1_2, e_3, hF⟩ := nm_c hF
      refine lv_iinc (v := x1_2) (lv' := [(1, .int x1_2), (0, .ref (ad 0))]) hx hb dX8_split_77 hl (k := 1) rfl (by rw [e_3]; rfl) (by decide) rfl (fun ls hl => ?_)
      refine lv_goto (tgt := 58) hx hb dX8_split_80 (by decide) ?_
      exact hk58 x1_2 M _ _ _ hF hP hS (lv_sub hl [1, 0] rfl)
set_option maxHeartbeats 4000000 in
set_option maxRecDepth 100000 in
theorem wh_X8_split_58 {p : Program} {l : Launch} {e : Env} {s : State} {m : MethodId} {args : Array Value} {below : List Frame} {meth : Method} {c : Code} {D : va_G} {cA : Nat → ClassId} {ad : Nat → Nat} (X : wd_X p s m args meth c cX8_split 2 wsX8_split RX8 none D cA ad dsM.length) {kh7 : Int32 → Mem → Option Mem} {M' : Mem} (hk7 : ∀ (x1 : Int32) (M : Mem) (H : Heap) (locs : List Loc) (ls : Array Slot), kh7 x1 M = some M' → wd_P D cA ad dsM M H → va_S (wd_A ad dsM.length) s.heap H locs → lv_has ls 2 [(0, .ref (ad 0)), (1, .int x1)] → W p l e (headSpec wsX8_split rm_X8_split).room s m args below meth c H locs 0 0 (MQ below (wm_Qv D cA ad dsM M') args s 0 0 (wd_A ad dsM.length)) (F0 m 7 ls [])) : ∀ (n : Nat) (x1 : Int32) (M : Mem) (H : Heap) (locs : List Loc) (ls : Array Slot), H_X8_split_58 kh7 n x1 M = some M' → wd_P D cA ad dsM M H → va_S (wd_A ad dsM.length) s.heap H locs → lv_has ls 2 [(0, .ref (ad 0)), (1, .int x1)] → W p l e (headSpec wsX8_split rm_X8_split).room s m args below meth c H locs 0 0 (MQ below (wm_Qv D cA ad dsM M') args s 0 0 (wd_A ad dsM.length)) (F0 m 58 ls []) := by
  intro n
  induction n with
  | zero => intro x1 M H locs ls hF; cases hF
  | succ n ih => intro x1 M H locs ls hF hP hS hl; exact wb_X8_split_58 X (kh58 := H_X8_split_58 kh7 n) hk7 ih x1 M H locs ls hF hP hS hl
set_option maxHeartbeats 4000000 in
set_option maxRecDepth 100000 in
theorem wb_X8_split_40 {p : Program} {l : Launch} {e : Env} {s : State} {m : MethodId} {args : Array Value} {below : List Frame} {meth : Method} {c : Code} {D : va_G} {cA : Nat → ClassId} {ad : Nat → Nat} (X : wd_X p s m args meth c cX8_split 2 wsX8_split RX8 none D cA ad dsM.length) {kh7 : Int32 → Mem → Option Mem} {M' : Mem} (hk7 : ∀ (x1 : Int32) (M : Mem) (H : Heap) (locs : List Loc) (ls : Array Slot), kh7 x1 M = some M' → wd_P D cA ad dsM M H → va_S (wd_A ad dsM.length) s.heap H locs → lv_has ls 2 [(0, .ref (ad 0)), (1, .int x1)] → W p l e (headSpec wsX8_split rm_X8_split).room s m args below meth c H locs 0 0 (MQ below (wm_Qv D cA ad dsM M') args s 0 0 (wd_A ad dsM.length)) (F0 m 7 ls [])) (x1 : Int32) (M : Mem) (H : Heap) (locs : List Loc) (ls : Array Slot) (hF : B_X8_split_40 kh7 x1 M = some M') (hP : wd_P D cA ad dsM M H) (hS : va_S (wd_A ad dsM.length) s.heap H locs) (hl : lv_has ls 2 [(0, .ref (ad 0)), (1, .int x1)]) : W p l e (headSpec wsX8_split rm_X8_split).room s m args below meth c H locs 0 0 (MQ below (wm_Qv D cA ad dsM M') args s 0 0 (wd_A ad dsM.length)) (F0 m 40 ls []) := by
  have hx := X.1.1
  have hb := X.1.2.1
  have hts := X.1.2.2.2.2
  unfold B_X8_split_40 at hF
  refine lv_iload_n hx hb dX8_split_40 rfl (lv_at hl 1 rfl) ?_
  refine lv_aload_n hx hb dX8_split_41 rfl (lv_at hl 0 rfl) ?_
  refine wd_geti X hP 0 dM_0 rfl in_X8_split_X8 2 rfl (by decide) (by decide +kernel) dX8_split_42 ?_
  refine lv_icmp_ge (tgt := 7) hx hb dX8_split_45 (by decide) (fun c_4 => ?_) (fun c_4 => ?_)
  · have hF := if_t c_4 hF
    exact hk7 x1 M _ _ _ hF hP hS (lv_sub hl [0, 1] rfl)
  · have hF := if_e c_4 hF
    refine lv_aload_n hx hb dX8_split_48 rfl (lv_at hl 0 rfl) ?_
    refine wd_getr (q := 2) X hP 0 dM_0 rfl in_X8_split_X8 4 rfl (by decide) (by decide +kernel) dX8_split_49 ?_
    refine lv_aload_n hx hb dX8_split_52 rfl (lv_at hl 0 rfl) ?_
    refine wd_geti X hP 0 dM_0 rfl in_X8_split_X8 3 rfl (by decide) (by decide +kernel) dX8_split_53 ?_
    refine lv_iload_n hx hb dX8_split_56 rfl (lv_at hl 1 rfl) ?_
    obtain ⟨h_1, hF⟩ := gi_c hF
    obtain ⟨M_2, e_3, hF⟩ := wr_c hF
    refine wd_ist X hP hS 2 dM_2 h_1 dX8_split_57 (fun H locs hP hS => ?_)
    rw [← e_3] at hP
    exact wh_X8_split_58 X  hk7  100 x1 M_2 _ _ _ hF hP hS (lv_sub hl [0, 1] rfl)
set_option maxHeartbeats 4000000 in
set_option maxRecDepth 100000 in
theorem wb_X8_split_15 {p : Program} {l : Launch} {e : Env} {s : State} {m : MethodId} {args : Array Value} {below : List Frame} {meth : Method} {c : Code} {D : va_G} {cA : Nat → ClassId} {ad : Nat → Nat} (X : wd_X p s m args meth c cX8_split 2 wsX8_split RX8 none D cA ad dsM.length) {kh7 : Int32 → Mem → Option Mem} {kh15 : Int32 → Mem → Option Mem} {M' : Mem} (hk7 : ∀ (x1 : Int32) (M : Mem) (H : Heap) (locs : List Loc) (ls : Array Slot), kh7 x1 M = some M' → wd_P D cA ad dsM M H → va_S (wd_A ad dsM.length) s.heap H locs → lv_has ls 2 [(0, .ref (ad 0)), (1, .int x1)] → W p l e (headSpec wsX8_split rm_X8_split).room s m args below meth c H locs 0 0 (MQ below (wm_Qv D cA ad dsM M') args s 0 0 (wd_A ad dsM.length)) (F0 m 7 ls [])) (hk15 : ∀ (x1 : Int32) (M : Mem) (H : Heap) (locs : List Loc) (ls : Array Slot), kh15 x1 M = some M' → wd_P D cA ad dsM M H → va_S (wd_A ad dsM.length) s.heap H locs → lv_has ls 2 [(0, .ref (ad 0)), (1, .int x1)] → W p l e (headSpec wsX8_split rm_X8_split).room s m args below meth c H locs 0 0 (MQ below (wm_Qv D cA ad dsM M') args s 0 0 (wd_A ad dsM.length)) (F0 m 15 ls [])) (x1 : Int32) (M : Mem) (H : Heap) (locs : List Loc) (ls : Array Slot) (hF : B_X8_split_15 kh7 kh15 x1 M = some M') (hP : wd_P D cA ad dsM M H) (hS : va_S (wd_A ad dsM.length) s.heap H locs) (hl : lv_has ls 2 [(0, .ref (ad 0)), (1, .int x1)]) : W p l e (headSpec wsX8_split rm_X8_split).room s m args below meth c H locs 0 0 (MQ below (wm_Qv D cA ad dsM M') args s 0 0 (wd_A ad dsM.length)) (F0 m 15 ls []) := by
  have hx := X.1.1
  have hb := X.1.2.1
  have hts := X.1.2.2.2.2
  unfold B_X8_split_15 at hF
  refine lv_iload_n hx hb dX8_split_15 rfl (lv_at hl 1 rfl) ?_
  refine lv_aload_n hx hb dX8_split_16 rfl (lv_at hl 0 rfl) ?_
  refine wd_geti X hP 0 dM_0 rfl in_X8_split_X8 2 rfl (by decide) (by decide +kernel) dX8_split_17 ?_
  refine lv_icmp_ge (tgt := 40) hx hb dX8_split_20 (by decide) (fun c_5 => ?_) (fun c_5 => ?_)
  · have hF := if_t c_5 hF
    exact wb_X8_split_40 X  hk7  x1 M _ _ _ hF hP hS (lv_sub hl [0, 1] rfl)
  · have hF := if_e c_5 hF
    refine lv_aload_n hx hb dX8_split_23 rfl (lv_at hl 0 rfl) ?_
    refine wd_getr (q := 1) X hP 0 dM_0 rfl in_X8_split_X8 1 rfl (by decide) (by decide +kernel) dX8_split_24 ?_
    refine lv_iload_n hx hb dX8_split_27 rfl (lv_at hl 1 rfl) ?_
    obtain ⟨h_1, hF⟩ := gi_c hF
    refine wd_cld X hP 1 dM_1 h_1 dX8_split_28 ?_
    refine lv_bipush (v := (32 : Int32)) hx hb dX8_split_29 (by decide) ?_
    refine lv_icmp_ne (tgt := 40) hx hb dX8_split_31 (by decide) (fun c_4 => ?_) (fun c_4 => ?_)
    · have hF := if_e c_4 hF
      exact wb_X8_split_40 X  hk7  x1 M _ _ _ hF hP hS (lv_sub hl [0, 1] rfl)
    · have hF := if_t c_4 hF
      obtain ⟨x1_2, e_3, hF⟩ := nm_c hF
      refine lv_iinc (v := x1_2) (lv' := [(1, .int x1_2), (0, .ref (ad 0))]) hx hb dX8_split_34 hl (k := 1) rfl (by rw [e_3]; rfl) (by decide) rfl (fun ls hl => ?_)
      refine lv_goto (tgt := 15) hx hb dX8_split_37 (by decide) ?_
      exact hk15 x1_2 M _ _ _ hF hP hS (lv_sub hl [1, 0] rfl)
set_option maxHeartbeats 4000000 in
set_option maxRecDepth 100000 in
theorem wh_X8_split_15 {p : Program} {l : Launch} {e : Env} {s : State} {m : MethodId} {args : Array Value} {below : List Frame} {meth : Method} {c : Code} {D : va_G} {cA : Nat → ClassId} {ad : Nat → Nat} (X : wd_X p s m args meth c cX8_split 2 wsX8_split RX8 none D cA ad dsM.length) {kh7 : Int32 → Mem → Option Mem} {M' : Mem} (hk7 : ∀ (x1 : Int32) (M : Mem) (H : Heap) (locs : List Loc) (ls : Array Slot), kh7 x1 M = some M' → wd_P D cA ad dsM M H → va_S (wd_A ad dsM.length) s.heap H locs → lv_has ls 2 [(0, .ref (ad 0)), (1, .int x1)] → W p l e (headSpec wsX8_split rm_X8_split).room s m args below meth c H locs 0 0 (MQ below (wm_Qv D cA ad dsM M') args s 0 0 (wd_A ad dsM.length)) (F0 m 7 ls [])) : ∀ (n : Nat) (x1 : Int32) (M : Mem) (H : Heap) (locs : List Loc) (ls : Array Slot), H_X8_split_15 kh7 n x1 M = some M' → wd_P D cA ad dsM M H → va_S (wd_A ad dsM.length) s.heap H locs → lv_has ls 2 [(0, .ref (ad 0)), (1, .int x1)] → W p l e (headSpec wsX8_split rm_X8_split).room s m args below meth c H locs 0 0 (MQ below (wm_Qv D cA ad dsM M') args s 0 0 (wd_A ad dsM.length)) (F0 m 15 ls []) := by
  intro n
  induction n with
  | zero => intro x1 M H locs ls hF; cases hF
  | succ n ih => intro x1 M H locs ls hF hP hS hl; exact wb_X8_split_15 X (kh15 := H_X8_split_15 kh7 n) hk7 ih x1 M H locs ls hF hP hS hl
set_option maxHeartbeats 4000000 in
set_option maxRecDepth 100000 in
theorem wb_X8_split_7 {p : Program} {l : Launch} {e : Env} {s : State} {m : MethodId} {args : Array Value} {below : List Frame} {meth : Method} {c : Code} {D : va_G} {cA : Nat → ClassId} {ad : Nat → Nat} (X : wd_X p s m args meth c cX8_split 2 wsX8_split RX8 none D cA ad dsM.length) {kh7 : Int32 → Mem → Option Mem} {M' : Mem} (hk7 : ∀ (x1 : Int32) (M : Mem) (H : Heap) (locs : List Loc) (ls : Array Slot), kh7 x1 M = some M' → wd_P D cA ad dsM M H → va_S (wd_A ad dsM.length) s.heap H locs → lv_has ls 2 [(0, .ref (ad 0)), (1, .int x1)] → W p l e (headSpec wsX8_split rm_X8_split).room s m args below meth c H locs 0 0 (MQ below (wm_Qv D cA ad dsM M') args s 0 0 (wd_A ad dsM.length)) (F0 m 7 ls [])) (x1 : Int32) (M : Mem) (H : Heap) (locs : List Loc) (ls : Array Slot) (hF : B_X8_split_7 kh7 x1 M = some M') (hP : wd_P D cA ad dsM M H) (hS : va_S (wd_A ad dsM.length) s.heap H locs) (hl : lv_has ls 2 [(0, .ref (ad 0)), (1, .int x1)]) : W p l e (headSpec wsX8_split rm_X8_split).room s m args below meth c H locs 0 0 (MQ below (wm_Qv D cA ad dsM M') args s 0 0 (wd_A ad dsM.length)) (F0 m 7 ls []) := by
  have hx := X.1.1
  have hb := X.1.2.1
  have hts := X.1.2.2.2.2
  unfold B_X8_split_7 at hF
  refine lv_iload_n hx hb dX8_split_7 rfl (lv_at hl 1 rfl) ?_
  refine lv_aload_n hx hb dX8_split_8 rfl (lv_at hl 0 rfl) ?_
  refine wd_geti X hP 0 dM_0 rfl in_X8_split_X8 2 rfl (by decide) (by decide +kernel) dX8_split_9 ?_
  refine lv_icmp_ge (tgt := 106) hx hb dX8_split_12 (by decide) (fun c_1 => ?_) (fun c_1 => ?_)
  · have hF := if_t c_1 hF
    cases hF
    exact wd_retv X hP hS dX8_split_106
  · have hF := if_e c_1 hF
    exact wh_X8_split_15 X  hk7  100 x1 M _ _ _ hF hP hS (lv_sub hl [0, 1] rfl)
set_option maxHeartbeats 4000000 in
set_option maxRecDepth 100000 in
theorem wh_X8_split_7 {p : Program} {l : Launch} {e : Env} {s : State} {m : MethodId} {args : Array Value} {below : List Frame} {meth : Method} {c : Code} {D : va_G} {cA : Nat → ClassId} {ad : Nat → Nat} (X : wd_X p s m args meth c cX8_split 2 wsX8_split RX8 none D cA ad dsM.length) {M' : Mem}  : ∀ (n : Nat) (x1 : Int32) (M : Mem) (H : Heap) (locs : List Loc) (ls : Array Slot), H_X8_split_7  n x1 M = some M' → wd_P D cA ad dsM M H → va_S (wd_A ad dsM.length) s.heap H locs → lv_has ls 2 [(0, .ref (ad 0)), (1, .int x1)] → W p l e (headSpec wsX8_split rm_X8_split).room s m args below meth c H locs 0 0 (MQ below (wm_Qv D cA ad dsM M') args s 0 0 (wd_A ad dsM.length)) (F0 m 7 ls []) := by
  intro n
  induction n with
  | zero => intro x1 M H locs ls hF; cases hF
  | succ n ih => intro x1 M H locs ls hF hP hS hl; exact wb_X8_split_7 X (kh7 := H_X8_split_7  n) ih x1 M H locs ls hF hP hS hl
set_option maxHeartbeats 4000000 in
set_option maxRecDepth 100000 in
theorem c_X8_split (l : Launch) (D : va_G) (cA : Nat → ClassId) (ad : Nat → Nat) (hj : wd_inj ad dsM.length)    (M : Mem) {M' : Mem} (hF : F_X8_split M = some M') : wm_v l yX8_split wsX8_split rm_X8_split D cA ad dsM M [.ref (ad 0)] M' := by
  refine Met.ofW (cc := cX8_split) (maxL := 2) (ret := none) (by decide) rfl ?_
  intro p e s m args below meth c s₁ B hml hv
  obtain ⟨rfl, hP, hK⟩ := hv
  have X : wd_X p s m _ meth c cX8_split 2 wsX8_split RX8 none D cA ad dsM.length := ⟨⟨B.exec, B.bytes, hml, findClass_of_methodNamed B.named, atoms_spec (ws := wsX8_split) B.pre⟩, hK, B.notSynchronized, B.returns, hj⟩
  have hl := lv_entry ([.ref (ad 0)]) (n := 2) (Nat.le_of_ble_eq_true rfl)
  rw [lg_entry_eq]
  generalize (lg_sl ([.ref (ad 0)]) ++ List.replicate (2 - (lg_sl ([.ref (ad 0)])).length) Slot.unset).toArray = ls at hl ⊢
  have hl : lv_has ls 2 [(0, .ref (ad 0))] := hl
  have hS : va_S (wd_A ad dsM.length) s.heap s.heap [] := va_S.rf
  have hx := X.1.1
  have hb := X.1.2.1
  have hts := X.1.2.2.2.2
  unfold F_X8_split at hF
  refine lv_aload_n hx hb dX8_split_0 rfl (lv_at hl 0 rfl) ?_
  refine lv_iconst (v := (0 : Int32)) hx hb dX8_split_1 (by decide) ?_
  obtain ⟨M_1, e_2, hF⟩ := wr_c hF
  refine wd_puti X hP hS 0 dM_0 rfl in_X8_split_X8 tyX8_ok nmX8 3 rfl (by decide) rfl rfl (by decide +kernel) dX8_split_2 (fun H locs hP hS => ?_)
  rw [← e_2] at hP
  refine lv_iconst (v := (0 : Int32)) hx hb dX8_split_5 (by decide) ?_
  refine lv_istore_n (lv' := [(1, .int (0 : Int32)), (0, .ref (ad 0))]) hx hb dX8_split_6 rfl hl (by decide) rfl (fun ls hl => ?_)
  exact wh_X8_split_7 X    100 (0 : Int32) M_1 _ _ _ hF hP hS (lv_sub hl [1, 0] rfl)
/-! X8_letter (II)C -/
theorem in_X8_letter_X8 : ∀ w ∈ u_ws RX8 TX8 39, w ∈ wsX8_letter := by decide +kernel
set_option maxHeartbeats 4000000 in
set_option maxRecDepth 100000 in
theorem c_X8_letter (l : Launch) (D : va_G) (cA : Nat → ClassId) (ad : Nat → Nat) (hj : wd_inj ad dsM.length)   (x1 : Int32) (x2 : Int32) (M : Mem) {r : Int32} (hF : F_X8_letter x1 x2 M = some r) : wm_i l yX8_letter wsX8_letter rm_X8_letter D cA ad dsM M [.ref (ad 0), .int x1, .int x2] r M := by
  refine Met.ofW (cc := cX8_letter) (maxL := 3) (ret := (some .char)) (by decide) rfl ?_
  intro p e s m args below meth c s₁ B hml hv
  obtain ⟨rfl, hP, hK⟩ := hv
  have X : wd_X p s m _ meth c cX8_letter 3 wsX8_letter RX8 (some .char) D cA ad dsM.length := ⟨⟨B.exec, B.bytes, hml, findClass_of_methodNamed B.named, atoms_spec (ws := wsX8_letter) B.pre⟩, hK, B.notSynchronized, B.returns, hj⟩
  have hl := lv_entry ([.ref (ad 0), .int x1, .int x2]) (n := 3) (Nat.le_of_ble_eq_true rfl)
  rw [lg_entry_eq]
  generalize (lg_sl ([.ref (ad 0), .int x1, .int x2]) ++ List.replicate (3 - (lg_sl ([.ref (ad 0), .int x1, .int x2])).length) Slot.unset).toArray = ls at hl ⊢
  have hl : lv_has ls 3 [(0, .ref (ad 0)), (1, .int x1), (2, .int x2)] := hl
  have hS : va_S (wd_A ad dsM.length) s.heap s.heap [] := va_S.rf
  have hx := X.1.1
  have hb := X.1.2.1
  have hts := X.1.2.2.2.2
  unfold F_X8_letter at hF
  refine lv_aload_n hx hb dX8_letter_0 rfl (lv_at hl 0 rfl) ?_
  refine wd_getr (q := 2) X hP 0 dM_0 rfl in_X8_letter_X8 4 rfl (by decide) (by decide +kernel) dX8_letter_1 ?_
  refine lv_iload_n hx hb dX8_letter_4 rfl (lv_at hl 1 rfl) ?_
  obtain ⟨h_1, hF⟩ := gi_c hF
  refine wd_ild X hP 2 dM_2 h_1 dX8_letter_5 ?_
  refine lv_iload_n hx hb dX8_letter_6 rfl (lv_at hl 2 rfl) ?_
  refine lv_iadd hx hb dX8_letter_7 ?_
  refine lv_aload_n hx hb dX8_letter_8 rfl (lv_at hl 0 rfl) ?_
  refine wd_getr (q := 3) X hP 0 dM_0 rfl in_X8_letter_X8 5 rfl (by decide) (by decide +kernel) dX8_letter_9 ?_
  refine lv_iload_n hx hb dX8_letter_12 rfl (lv_at hl 1 rfl) ?_
  obtain ⟨h_2, hF⟩ := gi_c hF
  refine wd_ild X hP 3 dM_3 h_2 dX8_letter_13 ?_
  refine lv_icmp_ge (tgt := 33) hx hb dX8_letter_14 (by decide) (fun c_6 => ?_) (fun c_6 => ?_)
  · have hF := if_t c_6 hF
    refine lv_iconst (v := (0 : Int32)) hx hb dX8_letter_33 (by decide) ?_
    cases hF
    exact wd_reti X hP hS rfl (by decide) dX8_letter_34
  · have hF := if_e c_6 hF
    refine lv_aload_n hx hb dX8_letter_17 rfl (lv_at hl 0 rfl) ?_
    refine wd_getr (q := 1) X hP 0 dM_0 rfl in_X8_letter_X8 1 rfl (by decide) (by decide +kernel) dX8_letter_18 ?_
    refine lv_aload_n hx hb dX8_letter_21 rfl (lv_at hl 0 rfl) ?_
    refine wd_getr (q := 2) X hP 0 dM_0 rfl in_X8_letter_X8 4 rfl (by decide) (by decide +kernel) dX8_letter_22 ?_
    refine lv_iload_n hx hb dX8_letter_25 rfl (lv_at hl 1 rfl) ?_
    obtain ⟨h_3, hF⟩ := gi_c hF
    refine wd_ild X hP 2 dM_2 h_3 dX8_letter_26 ?_
    refine lv_iload_n hx hb dX8_letter_27 rfl (lv_at hl 2 rfl) ?_
    refine lv_iadd hx hb dX8_letter_28 ?_
    obtain ⟨h_4, hF⟩ := gi_c hF
    refine wd_cld X hP 1 dM_1 h_4 dX8_letter_29 ?_
    refine lv_goto (tgt := 34) hx hb dX8_letter_30 (by decide) ?_
    obtain ⟨h_5, hF⟩ := gc_c hF
    cases hF
    exact wd_reti X hP hS rfl h_5 dX8_letter_34
/-! X8_length (I)I -/
theorem in_X8_length_X8 : ∀ w ∈ u_ws RX8 TX8 39, w ∈ wsX8_length := by decide +kernel
set_option maxHeartbeats 4000000 in
set_option maxRecDepth 100000 in
theorem c_X8_length (l : Launch) (D : va_G) (cA : Nat → ClassId) (ad : Nat → Nat) (hj : wd_inj ad dsM.length)   (x1 : Int32) (M : Mem) {r : Int32} (hF : F_X8_length x1 M = some r) : wm_i l yX8_length wsX8_length rm_X8_length D cA ad dsM M [.ref (ad 0), .int x1] r M := by
  refine Met.ofW (cc := cX8_length) (maxL := 2) (ret := (some .int)) (by decide) rfl ?_
  intro p e s m args below meth c s₁ B hml hv
  obtain ⟨rfl, hP, hK⟩ := hv
  have X : wd_X p s m _ meth c cX8_length 2 wsX8_length RX8 (some .int) D cA ad dsM.length := ⟨⟨B.exec, B.bytes, hml, findClass_of_methodNamed B.named, atoms_spec (ws := wsX8_length) B.pre⟩, hK, B.notSynchronized, B.returns, hj⟩
  have hl := lv_entry ([.ref (ad 0), .int x1]) (n := 2) (Nat.le_of_ble_eq_true rfl)
  rw [lg_entry_eq]
  generalize (lg_sl ([.ref (ad 0), .int x1]) ++ List.replicate (2 - (lg_sl ([.ref (ad 0), .int x1])).length) Slot.unset).toArray = ls at hl ⊢
  have hl : lv_has ls 2 [(0, .ref (ad 0)), (1, .int x1)] := hl
  have hS : va_S (wd_A ad dsM.length) s.heap s.heap [] := va_S.rf
  have hx := X.1.1
  have hb := X.1.2.1
  have hts := X.1.2.2.2.2
  unfold F_X8_length at hF
  refine lv_aload_n hx hb dX8_length_0 rfl (lv_at hl 0 rfl) ?_
  refine wd_getr (q := 3) X hP 0 dM_0 rfl in_X8_length_X8 5 rfl (by decide) (by decide +kernel) dX8_length_1 ?_
  refine lv_iload_n hx hb dX8_length_4 rfl (lv_at hl 1 rfl) ?_
  obtain ⟨h_1, hF⟩ := gi_c hF
  refine wd_ild X hP 3 dM_3 h_1 dX8_length_5 ?_
  refine lv_aload_n hx hb dX8_length_6 rfl (lv_at hl 0 rfl) ?_
  refine wd_getr (q := 2) X hP 0 dM_0 rfl in_X8_length_X8 4 rfl (by decide) (by decide +kernel) dX8_length_7 ?_
  refine lv_iload_n hx hb dX8_length_10 rfl (lv_at hl 1 rfl) ?_
  obtain ⟨h_2, hF⟩ := gi_c hF
  refine wd_ild X hP 2 dM_2 h_2 dX8_length_11 ?_
  refine lv_isub hx hb dX8_length_12 ?_
  cases hF
  exact wd_reti X hP hS rfl rfl dX8_length_13
/-! X8_isWord (II)Z -/
set_option maxHeartbeats 4000000 in
set_option maxRecDepth 100000 in
theorem wb_X8_isWord_61 {p : Program} {l : Launch} {e : Env} {s : State} {m : MethodId} {args : Array Value} {below : List Frame} {meth : Method} {c : Code} {D : va_G} {cA : Nat → ClassId} {ad : Nat → Nat} (X : wd_X p s m args meth c cX8_isWord 5 wsX8_isWord RX8 (some .boolean) D cA ad dsM.length) {kh18 : Int32 → Int32 → Int32 → Option Int32} {M : Mem} {r : Int32} (hk18 : ∀ (x1 : Int32) (x3 : Int32) (x4 : Int32) (H : Heap) (locs : List Loc) (ls : Array Slot), kh18 x1 x3 x4 = some r → wd_P D cA ad dsM M H → va_S (wd_A ad dsM.length) s.heap H locs → lv_has ls 5 [(0, .ref (ad 0)), (1, .int x1), (3, .int x3), (4, .int x4)] → W p l e (headSpec wsX8_isWord rm_X8_isWord).room s m args below meth c H locs 0 0 (MQ below (wm_Qi D cA ad dsM r M) args s 0 0 (wd_A ad dsM.length)) (F0 m 18 ls [])) (x1 : Int32) (x4 : Int32) (t0 : Int32) (H : Heap) (locs : List Loc) (ls : Array Slot) (hF : B_X8_isWord_61 kh18 M x1 x4 t0 = some r) (hP : wd_P D cA ad dsM M H) (hS : va_S (wd_A ad dsM.length) s.heap H locs) (hl : lv_has ls 5 [(0, .ref (ad 0)), (1, .int x1), (4, .int x4)]) : W p l e (headSpec wsX8_isWord rm_X8_isWord).room s m args below meth c H locs 0 0 (MQ below (wm_Qi D cA ad dsM r M) args s 0 0 (wd_A ad dsM.length)) (F0 m 61 ls [.int t0]) := by
  have hx := X.1.1
  have hb := X.1.2.1
  have hts := X.1.2.2.2.2
  unfold B_X8_isWord_61 at hF
  refine lv_istore_n (lv' := [(3, .int t0), (0, .ref (ad 0)), (1, .int x1), (4, .int x4)]) hx hb dX8_isWord_61 rfl hl (by decide) rfl (fun ls hl => ?_)
  obtain ⟨x4_1, e_2, hF⟩ := nm_c hF
  refine lv_iinc (v := x4_1) (lv' := [(4, .int x4_1), (3, .int t0), (0, .ref (ad 0)), (1, .int x1)]) hx hb dX8_isWord_62 hl (k := 3) rfl (by rw [e_2]; rfl) (by decide) rfl (fun ls hl => ?_)
  refine lv_goto (tgt := 18) hx hb dX8_isWord_65 (by decide) ?_
  exact hk18 x1 t0 x4_1 _ _ _ hF hP hS (lv_sub hl [2, 3, 1, 0] rfl)
set_option maxHeartbeats 4000000 in
set_option maxRecDepth 100000 in
theorem wb_X8_isWord_60 {p : Program} {l : Launch} {e : Env} {s : State} {m : MethodId} {args : Array Value} {below : List Frame} {meth : Method} {c : Code} {D : va_G} {cA : Nat → ClassId} {ad : Nat → Nat} (X : wd_X p s m args meth c cX8_isWord 5 wsX8_isWord RX8 (some .boolean) D cA ad dsM.length) {kh18 : Int32 → Int32 → Int32 → Option Int32} {M : Mem} {r : Int32} (hk18 : ∀ (x1 : Int32) (x3 : Int32) (x4 : Int32) (H : Heap) (locs : List Loc) (ls : Array Slot), kh18 x1 x3 x4 = some r → wd_P D cA ad dsM M H → va_S (wd_A ad dsM.length) s.heap H locs → lv_has ls 5 [(0, .ref (ad 0)), (1, .int x1), (3, .int x3), (4, .int x4)] → W p l e (headSpec wsX8_isWord rm_X8_isWord).room s m args below meth c H locs 0 0 (MQ below (wm_Qi D cA ad dsM r M) args s 0 0 (wd_A ad dsM.length)) (F0 m 18 ls [])) (x1 : Int32) (x4 : Int32) (H : Heap) (locs : List Loc) (ls : Array Slot) (hF : B_X8_isWord_60 kh18 M x1 x4 = some r) (hP : wd_P D cA ad dsM M H) (hS : va_S (wd_A ad dsM.length) s.heap H locs) (hl : lv_has ls 5 [(0, .ref (ad 0)), (1, .int x1), (4, .int x4)]) : W p l e (headSpec wsX8_isWord rm_X8_isWord).room s m args below meth c H locs 0 0 (MQ below (wm_Qi D cA ad dsM r M) args s 0 0 (wd_A ad dsM.length)) (F0 m 60 ls []) := by
  have hx := X.1.1
  have hb := X.1.2.1
  have hts := X.1.2.2.2.2
  unfold B_X8_isWord_60 at hF
  refine lv_iconst (v := (0 : Int32)) hx hb dX8_isWord_60 (by decide) ?_
  exact wb_X8_isWord_61 X  hk18  x1 x4 (0 : Int32) _ _ _ hF hP hS (lv_sub hl [0, 1, 2] rfl)
set_option maxHeartbeats 4000000 in
set_option maxRecDepth 100000 in
theorem wb_X8_isWord_18 {p : Program} {l : Launch} {e : Env} {s : State} {m : MethodId} {args : Array Value} {below : List Frame} {meth : Method} {c : Code} {D : va_G} {cA : Nat → ClassId} {ad : Nat → Nat} (X : wd_X p s m args meth c cX8_isWord 5 wsX8_isWord RX8 (some .boolean) D cA ad dsM.length) {kh18 : Int32 → Int32 → Int32 → Option Int32} {M : Mem} {r : Int32} (hk18 : ∀ (x1 : Int32) (x3 : Int32) (x4 : Int32) (H : Heap) (locs : List Loc) (ls : Array Slot), kh18 x1 x3 x4 = some r → wd_P D cA ad dsM M H → va_S (wd_A ad dsM.length) s.heap H locs → lv_has ls 5 [(0, .ref (ad 0)), (1, .int x1), (3, .int x3), (4, .int x4)] → W p l e (headSpec wsX8_isWord rm_X8_isWord).room s m args below meth c H locs 0 0 (MQ below (wm_Qi D cA ad dsM r M) args s 0 0 (wd_A ad dsM.length)) (F0 m 18 ls [])) (x1 : Int32) (x3 : Int32) (x4 : Int32) (H : Heap) (locs : List Loc) (ls : Array Slot) (hF : B_X8_isWord_18 kh18 M x1 x3 x4 = some r) (hP : wd_P D cA ad dsM M H) (hS : va_S (wd_A ad dsM.length) s.heap H locs) (hl : lv_has ls 5 [(0, .ref (ad 0)), (1, .int x1), (3, .int x3), (4, .int x4)]) : W p l e (headSpec wsX8_isWord rm_X8_isWord).room s m args below meth c H locs 0 0 (MQ below (wm_Qi D cA ad dsM r M) args s 0 0 (wd_A ad dsM.length)) (F0 m 18 ls []) := by
  have hx := X.1.1
  have hb := X.1.2.1
  have hts := X.1.2.2.2.2
  unfold B_X8_isWord_18 at hF
  refine lv_iload hx hb dX8_isWord_18 (lv_at hl 3 rfl) ?_
  refine lv_aload_n hx hb dX8_isWord_20 rfl (lv_at hl 0 rfl) ?_
  refine lv_iload_n hx hb dX8_isWord_21 rfl (lv_at hl 1 rfl) ?_
  obtain ⟨r_1, hc_2, hF⟩ := bd_c hF
  refine wd_calli X hP hS [.int x1] [.int x4] (c_X8_length l D cA ad X.2.2.2.2   x1 M hc_2) (cwV 1 hts gX8_isWord_X8_length rfl rfl rfl (by decide +kernel) ⟨(by show _ ≤ _; first | exact Nat.le_of_ble_eq_true rfl | (simp [headSpec, rm_X8_isWord]; omega) | omega), (by show _ ≤ _; first | exact Nat.le_of_ble_eq_true rfl | (simp [headSpec, rm_X8_isWord]; omega) | omega)⟩) dM_0 rfl rfl hl.1 rfl (Nat.le_of_ble_eq_true rfl) dX8_isWord_22 (fun H locs hP hS => ?_)
  refine lv_icmp_ge (tgt := 68) hx hb dX8_isWord_25 (by decide) (fun c_12 => ?_) (fun c_12 => ?_)
  · have hF := if_t c_12 hF
    refine lv_iload_n hx hb dX8_isWord_68 rfl (lv_at hl 2 rfl) ?_
    obtain ⟨h_3, hF⟩ := gz_c hF
    cases hF
    exact wd_reti X hP hS rfl h_3 dX8_isWord_69
  · have hF := if_e c_12 hF
    refine lv_iload_n hx hb dX8_isWord_28 rfl (lv_at hl 2 rfl) ?_
    refine lv_if_eq (tgt := 68) hx hb dX8_isWord_29 (by decide) (fun c_11 => ?_) (fun c_11 => ?_)
    · have hF := if_t c_11 hF
      refine lv_iload_n hx hb dX8_isWord_68 rfl (lv_at hl 2 rfl) ?_
      obtain ⟨h_4, hF⟩ := gz_c hF
      cases hF
      exact wd_reti X hP hS rfl h_4 dX8_isWord_69
    · have hF := if_e c_11 hF
      refine lv_aload_n hx hb dX8_isWord_32 rfl (lv_at hl 0 rfl) ?_
      refine lv_iload_n hx hb dX8_isWord_33 rfl (lv_at hl 1 rfl) ?_
      refine lv_iload hx hb dX8_isWord_34 (lv_at hl 3 rfl) ?_
      obtain ⟨r_5, hc_6, hF⟩ := bd_c hF
      refine wd_calli X hP hS [.int x1, .int x4] [] (c_X8_letter l D cA ad X.2.2.2.2   x1 x4 M hc_6) (cwV 2 hts gX8_isWord_X8_letter rfl rfl rfl (by decide +kernel) ⟨(by show _ ≤ _; first | exact Nat.le_of_ble_eq_true rfl | (simp [headSpec, rm_X8_isWord]; omega) | omega), (by show _ ≤ _; first | exact Nat.le_of_ble_eq_true rfl | (simp [headSpec, rm_X8_isWord]; omega) | omega)⟩) dM_0 rfl rfl hl.1 rfl (Nat.le_of_ble_eq_true rfl) dX8_isWord_36 (fun H locs hP hS => ?_)
      refine lv_bipush (v := (97 : Int32)) hx hb dX8_isWord_39 (by decide) ?_
      refine lv_icmp_lt (tgt := 60) hx hb dX8_isWord_41 (by decide) (fun c_10 => ?_) (fun c_10 => ?_)
      · have hF := if_t c_10 hF
        exact wb_X8_isWord_60 X  hk18  x1 x4 _ _ _ hF hP hS (lv_sub hl [0, 1, 3] rfl)
      · have hF := if_e c_10 hF
        refine lv_aload_n hx hb dX8_isWord_44 rfl (lv_at hl 0 rfl) ?_
        refine lv_iload_n hx hb dX8_isWord_45 rfl (lv_at hl 1 rfl) ?_
        refine lv_iload hx hb dX8_isWord_46 (lv_at hl 3 rfl) ?_
        obtain ⟨r_7, hc_8, hF⟩ := bd_c hF
        refine wd_calli X hP hS [.int x1, .int x4] [] (c_X8_letter l D cA ad X.2.2.2.2   x1 x4 M hc_8) (cwV 2 hts gX8_isWord_X8_letter rfl rfl rfl (by decide +kernel) ⟨(by show _ ≤ _; first | exact Nat.le_of_ble_eq_true rfl | (simp [headSpec, rm_X8_isWord]; omega) | omega), (by show _ ≤ _; first | exact Nat.le_of_ble_eq_true rfl | (simp [headSpec, rm_X8_isWord]; omega) | omega)⟩) dM_0 rfl rfl hl.1 rfl (Nat.le_of_ble_eq_true rfl) dX8_isWord_48 (fun H locs hP hS => ?_)
        refine lv_bipush (v := (122 : Int32)) hx hb dX8_isWord_51 (by decide) ?_
        refine lv_icmp_gt (tgt := 60) hx hb dX8_isWord_53 (by decide) (fun c_9 => ?_) (fun c_9 => ?_)
        · have hF := if_t c_9 hF
          exact wb_X8_isWord_60 X  hk18  x1 x4 _ _ _ hF hP hS (lv_sub hl [0, 1, 3] rfl)
        · have hF := if_e c_9 hF
          refine lv_iconst (v := (1 : Int32)) hx hb dX8_isWord_56 (by decide) ?_
          refine lv_goto (tgt := 61) hx hb dX8_isWord_57 (by decide) ?_
          exact wb_X8_isWord_61 X  hk18  x1 x4 (1 : Int32) _ _ _ hF hP hS (lv_sub hl [0, 1, 3] rfl)
set_option maxHeartbeats 4000000 in
set_option maxRecDepth 100000 in
theorem wh_X8_isWord_18 {p : Program} {l : Launch} {e : Env} {s : State} {m : MethodId} {args : Array Value} {below : List Frame} {meth : Method} {c : Code} {D : va_G} {cA : Nat → ClassId} {ad : Nat → Nat} (X : wd_X p s m args meth c cX8_isWord 5 wsX8_isWord RX8 (some .boolean) D cA ad dsM.length) {M : Mem} {r : Int32}  : ∀ (n : Nat) (x1 : Int32) (x3 : Int32) (x4 : Int32) (H : Heap) (locs : List Loc) (ls : Array Slot), H_X8_isWord_18 M n x1 x3 x4 = some r → wd_P D cA ad dsM M H → va_S (wd_A ad dsM.length) s.heap H locs → lv_has ls 5 [(0, .ref (ad 0)), (1, .int x1), (3, .int x3), (4, .int x4)] → W p l e (headSpec wsX8_isWord rm_X8_isWord).room s m args below meth c H locs 0 0 (MQ below (wm_Qi D cA ad dsM r M) args s 0 0 (wd_A ad dsM.length)) (F0 m 18 ls []) := by
  intro n
  induction n with
  | zero => intro x1 x3 x4 H locs ls hF; cases hF
  | succ n ih => intro x1 x3 x4 H locs ls hF hP hS hl; exact wb_X8_isWord_18 X (kh18 := H_X8_isWord_18 M n) ih x1 x3 x4 H locs ls hF hP hS hl
set_option maxHeartbeats 4000000 in
set_option maxRecDepth 100000 in
theorem wb_X8_isWord_14 {p : Program} {l : Launch} {e : Env} {s : State} {m : MethodId} {args : Array Value} {below : List Frame} {meth : Method} {c : Code} {D : va_G} {cA : Nat → ClassId} {ad : Nat → Nat} (X : wd_X p s m args meth c cX8_isWord 5 wsX8_isWord RX8 (some .boolean) D cA ad dsM.length) {M : Mem} {r : Int32}  (x1 : Int32) (t0 : Int32) (H : Heap) (locs : List Loc) (ls : Array Slot) (hF : B_X8_isWord_14 M x1 t0 = some r) (hP : wd_P D cA ad dsM M H) (hS : va_S (wd_A ad dsM.length) s.heap H locs) (hl : lv_has ls 5 [(0, .ref (ad 0)), (1, .int x1)]) : W p l e (headSpec wsX8_isWord rm_X8_isWord).room s m args below meth c H locs 0 0 (MQ below (wm_Qi D cA ad dsM r M) args s 0 0 (wd_A ad dsM.length)) (F0 m 14 ls [.int t0]) := by
  have hx := X.1.1
  have hb := X.1.2.1
  have hts := X.1.2.2.2.2
  unfold B_X8_isWord_14 at hF
  refine lv_istore_n (lv' := [(3, .int t0), (0, .ref (ad 0)), (1, .int x1)]) hx hb dX8_isWord_14 rfl hl (by decide) rfl (fun ls hl => ?_)
  refine lv_iconst (v := (0 : Int32)) hx hb dX8_isWord_15 (by decide) ?_
  refine lv_istore (lv' := [(4, .int (0 : Int32)), (3, .int t0), (0, .ref (ad 0)), (1, .int x1)]) hx hb dX8_isWord_16 hl (by decide) rfl (fun ls hl => ?_)
  exact wh_X8_isWord_18 X    100 x1 t0 (0 : Int32) _ _ _ hF hP hS (lv_sub hl [2, 3, 1, 0] rfl)
set_option maxHeartbeats 4000000 in
set_option maxRecDepth 100000 in
theorem c_X8_isWord (l : Launch) (D : va_G) (cA : Nat → ClassId) (ad : Nat → Nat) (hj : wd_inj ad dsM.length)   (x1 : Int32) (x2 : Int32) (M : Mem) {r : Int32} (hF : F_X8_isWord x1 x2 M = some r) : wm_i l yX8_isWord wsX8_isWord rm_X8_isWord D cA ad dsM M [.ref (ad 0), .int x1, .int x2] r M := by
  refine Met.ofW (cc := cX8_isWord) (maxL := 5) (ret := (some .boolean)) (by decide) rfl ?_
  intro p e s m args below meth c s₁ B hml hv
  obtain ⟨rfl, hP, hK⟩ := hv
  have X : wd_X p s m _ meth c cX8_isWord 5 wsX8_isWord RX8 (some .boolean) D cA ad dsM.length := ⟨⟨B.exec, B.bytes, hml, findClass_of_methodNamed B.named, atoms_spec (ws := wsX8_isWord) B.pre⟩, hK, B.notSynchronized, B.returns, hj⟩
  have hl := lv_entry ([.ref (ad 0), .int x1, .int x2]) (n := 5) (Nat.le_of_ble_eq_true rfl)
  rw [lg_entry_eq]
  generalize (lg_sl ([.ref (ad 0), .int x1, .int x2]) ++ List.replicate (5 - (lg_sl ([.ref (ad 0), .int x1, .int x2])).length) Slot.unset).toArray = ls at hl ⊢
  have hl : lv_has ls 5 [(0, .ref (ad 0)), (1, .int x1), (2, .int x2)] := hl
  have hS : va_S (wd_A ad dsM.length) s.heap s.heap [] := va_S.rf
  have hx := X.1.1
  have hb := X.1.2.1
  have hts := X.1.2.2.2.2
  unfold F_X8_isWord at hF
  refine lv_aload_n hx hb dX8_isWord_0 rfl (lv_at hl 0 rfl) ?_
  refine lv_iload_n hx hb dX8_isWord_1 rfl (lv_at hl 1 rfl) ?_
  obtain ⟨r_1, hc_2, hF⟩ := bd_c hF
  refine wd_calli X hP hS [.int x1] [] (c_X8_length l D cA ad X.2.2.2.2   x1 M hc_2) (cwV 1 hts gX8_isWord_X8_length rfl rfl rfl (by decide +kernel) ⟨(by show _ ≤ _; first | exact Nat.le_of_ble_eq_true rfl | (simp [headSpec, rm_X8_isWord]; omega) | omega), (by show _ ≤ _; first | exact Nat.le_of_ble_eq_true rfl | (simp [headSpec, rm_X8_isWord]; omega) | omega)⟩) dM_0 rfl rfl hl.1 rfl (Nat.le_of_ble_eq_true rfl) dX8_isWord_2 (fun H locs hP hS => ?_)
  refine lv_iload_n hx hb dX8_isWord_5 rfl (lv_at hl 2 rfl) ?_
  refine lv_icmp_gt (tgt := 13) hx hb dX8_isWord_6 (by decide) (fun c_3 => ?_) (fun c_3 => ?_)
  · have hF := if_t c_3 hF
    refine lv_iconst (v := (0 : Int32)) hx hb dX8_isWord_13 (by decide) ?_
    exact wb_X8_isWord_14 X    x1 (0 : Int32) _ _ _ hF hP hS (lv_sub hl [0, 1] rfl)
  · have hF := if_e c_3 hF
    refine lv_iconst (v := (1 : Int32)) hx hb dX8_isWord_9 (by decide) ?_
    refine lv_goto (tgt := 14) hx hb dX8_isWord_10 (by decide) ?_
    exact wb_X8_isWord_14 X    x1 (1 : Int32) _ _ _ hF hP hS (lv_sub hl [0, 1] rfl)
/-! X8_says (ICCCCCC)Z -/
set_option maxHeartbeats 4000000 in
set_option maxRecDepth 100000 in
theorem c_X8_says (l : Launch) (D : va_G) (cA : Nat → ClassId) (ad : Nat → Nat) (hj : wd_inj ad dsM.length)   (x1 : Int32) (x2 : Int32) (x3 : Int32) (x4 : Int32) (x5 : Int32) (x6 : Int32) (x7 : Int32) (M : Mem) {r : Int32} (hF : F_X8_says x1 x2 x3 x4 x5 x6 x7 M = some r) : wm_i l yX8_says wsX8_says rm_X8_says D cA ad dsM M [.ref (ad 0), .int x1, .int x2, .int x3, .int x4, .int x5, .int x6, .int x7] r M := by
  refine Met.ofW (cc := cX8_says) (maxL := 8) (ret := (some .boolean)) (by decide) rfl ?_
  intro p e s m args below meth c s₁ B hml hv
  obtain ⟨rfl, hP, hK⟩ := hv
  have X : wd_X p s m _ meth c cX8_says 8 wsX8_says RX8 (some .boolean) D cA ad dsM.length := ⟨⟨B.exec, B.bytes, hml, findClass_of_methodNamed B.named, atoms_spec (ws := wsX8_says) B.pre⟩, hK, B.notSynchronized, B.returns, hj⟩
  have hl := lv_entry ([.ref (ad 0), .int x1, .int x2, .int x3, .int x4, .int x5, .int x6, .int x7]) (n := 8) (Nat.le_of_ble_eq_true rfl)
  rw [lg_entry_eq]
  generalize (lg_sl ([.ref (ad 0), .int x1, .int x2, .int x3, .int x4, .int x5, .int x6, .int x7]) ++ List.replicate (8 - (lg_sl ([.ref (ad 0), .int x1, .int x2, .int x3, .int x4, .int x5, .int x6, .int x7])).length) Slot.unset).toArray = ls at hl ⊢
  have hl : lv_has ls 8 [(0, .ref (ad 0)), (1, .int x1), (2, .int x2), (3, .int x3), (4, .int x4), (5, .int x5), (6, .int x6), (7, .int x7)] := hl
  have hS : va_S (wd_A ad dsM.length) s.heap s.heap [] := va_S.rf
  have hx := X.1.1
  have hb := X.1.2.1
  have hts := X.1.2.2.2.2
  unfold F_X8_says at hF
  refine lv_aload_n hx hb dX8_says_0 rfl (lv_at hl 0 rfl) ?_
  refine lv_iload_n hx hb dX8_says_1 rfl (lv_at hl 1 rfl) ?_
  refine lv_iconst (v := (0 : Int32)) hx hb dX8_says_2 (by decide) ?_
  obtain ⟨r_1, hc_2, hF⟩ := bd_c hF
  refine wd_calli X hP hS [.int x1, .int (0 : Int32)] [] (c_X8_letter l D cA ad X.2.2.2.2   x1 (0 : Int32) M hc_2) (cwV 2 hts gX8_says_X8_letter rfl rfl rfl (by decide +kernel) ⟨(by show _ ≤ _; first | exact Nat.le_of_ble_eq_true rfl | (simp [headSpec, rm_X8_says]; omega) | omega), (by show _ ≤ _; first | exact Nat.le_of_ble_eq_true rfl | (simp [headSpec, rm_X8_says]; omega) | omega)⟩) dM_0 rfl rfl hl.1 rfl (Nat.le_of_ble_eq_true rfl) dX8_says_3 (fun H locs hP hS => ?_)
  refine lv_iload_n hx hb dX8_says_6 rfl (lv_at hl 2 rfl) ?_
  refine lv_icmp_ne (tgt := 78) hx hb dX8_says_7 (by decide) (fun c_21 => ?_) (fun c_21 => ?_)
  · have hF := if_e c_21 hF
    refine lv_iconst (v := (0 : Int32)) hx hb dX8_says_78 (by decide) ?_
    cases hF
    exact wd_reti X hP hS rfl (by decide) dX8_says_79
  · have hF := if_t c_21 hF
    refine lv_aload_n hx hb dX8_says_10 rfl (lv_at hl 0 rfl) ?_
    refine lv_iload_n hx hb dX8_says_11 rfl (lv_at hl 1 rfl) ?_
    refine lv_iconst (v := (1 : Int32)) hx hb dX8_says_12 (by decide) ?_
    obtain ⟨r_3, hc_4, hF⟩ := bd_c hF
    refine wd_calli X hP hS [.int x1, .int (1 : Int32)] [] (c_X8_letter l D cA ad X.2.2.2.2   x1 (1 : Int32) M hc_4) (cwV 2 hts gX8_says_X8_letter rfl rfl rfl (by decide +kernel) ⟨(by show _ ≤ _; first | exact Nat.le_of_ble_eq_true rfl | (simp [headSpec, rm_X8_says]; omega) | omega), (by show _ ≤ _; first | exact Nat.le_of_ble_eq_true rfl | (simp [headSpec, rm_X8_says]; omega) | omega)⟩) dM_0 rfl rfl hl.1 rfl (Nat.le_of_ble_eq_true rfl) dX8_says_13 (fun H locs hP hS => ?_)
    refine lv_iload_n hx hb dX8_says_16 rfl (lv_at hl 3 rfl) ?_
    refine lv_icmp_ne (tgt := 78) hx hb dX8_says_17 (by decide) (fun c_20 => ?_) (fun c_20 => ?_)
    · have hF := if_e c_20 hF
      refine lv_iconst (v := (0 : Int32)) hx hb dX8_says_78 (by decide) ?_
      cases hF
      exact wd_reti X hP hS rfl (by decide) dX8_says_79
    · have hF := if_t c_20 hF
      refine lv_aload_n hx hb dX8_says_20 rfl (lv_at hl 0 rfl) ?_
      refine lv_iload_n hx hb dX8_says_21 rfl (lv_at hl 1 rfl) ?_
      refine lv_iconst (v := (2 : Int32)) hx hb dX8_says_22 (by decide) ?_
      obtain ⟨r_5, hc_6, hF⟩ := bd_c hF
      refine wd_calli X hP hS [.int x1, .int (2 : Int32)] [] (c_X8_letter l D cA ad X.2.2.2.2   x1 (2 : Int32) M hc_6) (cwV 2 hts gX8_says_X8_letter rfl rfl rfl (by decide +kernel) ⟨(by show _ ≤ _; first | exact Nat.le_of_ble_eq_true rfl | (simp [headSpec, rm_X8_says]; omega) | omega), (by show _ ≤ _; first | exact Nat.le_of_ble_eq_true rfl | (simp [headSpec, rm_X8_says]; omega) | omega)⟩) dM_0 rfl rfl hl.1 rfl (Nat.le_of_ble_eq_true rfl) dX8_says_23 (fun H locs hP hS => ?_)
      refine lv_iload hx hb dX8_says_26 (lv_at hl 4 rfl) ?_
      refine lv_icmp_ne (tgt := 78) hx hb dX8_says_28 (by decide) (fun c_19 => ?_) (fun c_19 => ?_)
      · have hF := if_e c_19 hF
        refine lv_iconst (v := (0 : Int32)) hx hb dX8_says_78 (by decide) ?_
        cases hF
        exact wd_reti X hP hS rfl (by decide) dX8_says_79
      · have hF := if_t c_19 hF
        refine lv_aload_n hx hb dX8_says_31 rfl (lv_at hl 0 rfl) ?_
        refine lv_iload_n hx hb dX8_says_32 rfl (lv_at hl 1 rfl) ?_
        refine lv_iconst (v := (3 : Int32)) hx hb dX8_says_33 (by decide) ?_
        obtain ⟨r_7, hc_8, hF⟩ := bd_c hF
        refine wd_calli X hP hS [.int x1, .int (3 : Int32)] [] (c_X8_letter l D cA ad X.2.2.2.2   x1 (3 : Int32) M hc_8) (cwV 2 hts gX8_says_X8_letter rfl rfl rfl (by decide +kernel) ⟨(by show _ ≤ _; first | exact Nat.le_of_ble_eq_true rfl | (simp [headSpec, rm_X8_says]; omega) | omega), (by show _ ≤ _; first | exact Nat.le_of_ble_eq_true rfl | (simp [headSpec, rm_X8_says]; omega) | omega)⟩) dM_0 rfl rfl hl.1 rfl (Nat.le_of_ble_eq_true rfl) dX8_says_34 (fun H locs hP hS => ?_)
        refine lv_iload hx hb dX8_says_37 (lv_at hl 5 rfl) ?_
        refine lv_icmp_ne (tgt := 78) hx hb dX8_says_39 (by decide) (fun c_18 => ?_) (fun c_18 => ?_)
        · have hF := if_e c_18 hF
          refine lv_iconst (v := (0 : Int32)) hx hb dX8_says_78 (by decide) ?_
          cases hF
          exact wd_reti X hP hS rfl (by decide) dX8_says_79
        · have hF := if_t c_18 hF
          refine lv_aload_n hx hb dX8_says_42 rfl (lv_at hl 0 rfl) ?_
          refine lv_iload_n hx hb dX8_says_43 rfl (lv_at hl 1 rfl) ?_
          refine lv_iconst (v := (4 : Int32)) hx hb dX8_says_44 (by decide) ?_
          obtain ⟨r_9, hc_10, hF⟩ := bd_c hF
          refine wd_calli X hP hS [.int x1, .int (4 : Int32)] [] (c_X8_letter l D cA ad X.2.2.2.2   x1 (4 : Int32) M hc_10) (cwV 2 hts gX8_says_X8_letter rfl rfl rfl (by decide +kernel) ⟨(by show _ ≤ _; first | exact Nat.le_of_ble_eq_true rfl | (simp [headSpec, rm_X8_says]; omega) | omega), (by show _ ≤ _; first | exact Nat.le_of_ble_eq_true rfl | (simp [headSpec, rm_X8_says]; omega) | omega)⟩) dM_0 rfl rfl hl.1 rfl (Nat.le_of_ble_eq_true rfl) dX8_says_45 (fun H locs hP hS => ?_)
          refine lv_iload hx hb dX8_says_48 (lv_at hl 6 rfl) ?_
          refine lv_icmp_ne (tgt := 78) hx hb dX8_says_50 (by decide) (fun c_17 => ?_) (fun c_17 => ?_)
          · have hF := if_e c_17 hF
            refine lv_iconst (v := (0 : Int32)) hx hb dX8_says_78 (by decide) ?_
            cases hF
            exact wd_reti X hP hS rfl (by decide) dX8_says_79
          · have hF := if_t c_17 hF
            refine lv_aload_n hx hb dX8_says_53 rfl (lv_at hl 0 rfl) ?_
            refine lv_iload_n hx hb dX8_says_54 rfl (lv_at hl 1 rfl) ?_
            refine lv_iconst (v := (5 : Int32)) hx hb dX8_says_55 (by decide) ?_
            obtain ⟨r_11, hc_12, hF⟩ := bd_c hF
            refine wd_calli X hP hS [.int x1, .int (5 : Int32)] [] (c_X8_letter l D cA ad X.2.2.2.2   x1 (5 : Int32) M hc_12) (cwV 2 hts gX8_says_X8_letter rfl rfl rfl (by decide +kernel) ⟨(by show _ ≤ _; first | exact Nat.le_of_ble_eq_true rfl | (simp [headSpec, rm_X8_says]; omega) | omega), (by show _ ≤ _; first | exact Nat.le_of_ble_eq_true rfl | (simp [headSpec, rm_X8_says]; omega) | omega)⟩) dM_0 rfl rfl hl.1 rfl (Nat.le_of_ble_eq_true rfl) dX8_says_56 (fun H locs hP hS => ?_)
            refine lv_iload hx hb dX8_says_59 (lv_at hl 7 rfl) ?_
            refine lv_icmp_ne (tgt := 78) hx hb dX8_says_61 (by decide) (fun c_16 => ?_) (fun c_16 => ?_)
            · have hF := if_e c_16 hF
              refine lv_iconst (v := (0 : Int32)) hx hb dX8_says_78 (by decide) ?_
              cases hF
              exact wd_reti X hP hS rfl (by decide) dX8_says_79
            · have hF := if_t c_16 hF
              refine lv_aload_n hx hb dX8_says_64 rfl (lv_at hl 0 rfl) ?_
              refine lv_iload_n hx hb dX8_says_65 rfl (lv_at hl 1 rfl) ?_
              obtain ⟨r_13, hc_14, hF⟩ := bd_c hF
              refine wd_calli X hP hS [.int x1] [] (c_X8_length l D cA ad X.2.2.2.2   x1 M hc_14) (cwV 1 hts gX8_says_X8_length rfl rfl rfl (by decide +kernel) ⟨(by show _ ≤ _; first | exact Nat.le_of_ble_eq_true rfl | (simp [headSpec, rm_X8_says]; omega) | omega), (by show _ ≤ _; first | exact Nat.le_of_ble_eq_true rfl | (simp [headSpec, rm_X8_says]; omega) | omega)⟩) dM_0 rfl rfl hl.1 rfl (Nat.le_of_ble_eq_true rfl) dX8_says_66 (fun H locs hP hS => ?_)
              refine lv_bipush (v := (8 : Int32)) hx hb dX8_says_69 (by decide) ?_
              refine lv_icmp_gt (tgt := 78) hx hb dX8_says_71 (by decide) (fun c_15 => ?_) (fun c_15 => ?_)
              · have hF := if_t c_15 hF
                refine lv_iconst (v := (0 : Int32)) hx hb dX8_says_78 (by decide) ?_
                cases hF
                exact wd_reti X hP hS rfl (by decide) dX8_says_79
              · have hF := if_e c_15 hF
                refine lv_iconst (v := (1 : Int32)) hx hb dX8_says_74 (by decide) ?_
                refine lv_goto (tgt := 79) hx hb dX8_says_75 (by decide) ?_
                cases hF
                exact wd_reti X hP hS rfl (by decide) dX8_says_79
/-! X8_stateOf (I)I -/
theorem in_X8_stateOf_X8 : ∀ w ∈ u_ws RX8 TX8 39, w ∈ wsX8_stateOf := by decide +kernel
set_option maxHeartbeats 4000000 in
set_option maxRecDepth 100000 in
theorem wb_X8_stateOf_60 {p : Program} {l : Launch} {e : Env} {s : State} {m : MethodId} {args : Array Value} {below : List Frame} {meth : Method} {c : Code} {D : va_G} {cA : Nat → ClassId} {ad : Nat → Nat} (X : wd_X p s m args meth c cX8_stateOf 5 wsX8_stateOf RX8 (some .int) D cA ad dsM.length) {kh2 : Int32 → Int32 → Option Int32} {kh24 : Int32 → Int32 → Int32 → Int32 → Option Int32} {M : Mem} {r : Int32} (hk2 : ∀ (x1 : Int32) (x2 : Int32) (H : Heap) (locs : List Loc) (ls : Array Slot), kh2 x1 x2 = some r → wd_P D cA ad dsM M H → va_S (wd_A ad dsM.length) s.heap H locs → lv_has ls 5 [(0, .ref (ad 0)), (1, .int x1), (2, .int x2)] → W p l e (headSpec wsX8_stateOf rm_X8_stateOf).room s m args below meth c H locs 0 0 (MQ below (wm_Qi D cA ad dsM r M) args s 0 0 (wd_A ad dsM.length)) (F0 m 2 ls [])) (hk24 : ∀ (x1 : Int32) (x2 : Int32) (x3 : Int32) (x4 : Int32) (H : Heap) (locs : List Loc) (ls : Array Slot), kh24 x1 x2 x3 x4 = some r → wd_P D cA ad dsM M H → va_S (wd_A ad dsM.length) s.heap H locs → lv_has ls 5 [(0, .ref (ad 0)), (1, .int x1), (2, .int x2), (3, .int x3), (4, .int x4)] → W p l e (headSpec wsX8_stateOf rm_X8_stateOf).room s m args below meth c H locs 0 0 (MQ below (wm_Qi D cA ad dsM r M) args s 0 0 (wd_A ad dsM.length)) (F0 m 24 ls [])) (x1 : Int32) (x2 : Int32) (x4 : Int32) (t0 : Int32) (H : Heap) (locs : List Loc) (ls : Array Slot) (hF : B_X8_stateOf_60 kh2 kh24 M x1 x2 x4 t0 = some r) (hP : wd_P D cA ad dsM M H) (hS : va_S (wd_A ad dsM.length) s.heap H locs) (hl : lv_has ls 5 [(0, .ref (ad 0)), (1, .int x1), (2, .int x2), (4, .int x4)]) : W p l e (headSpec wsX8_stateOf rm_X8_stateOf).room s m args below meth c H locs 0 0 (MQ below (wm_Qi D cA ad dsM r M) args s 0 0 (wd_A ad dsM.length)) (F0 m 60 ls [.int t0]) := by
  have hx := X.1.1
  have hb := X.1.2.1
  have hts := X.1.2.2.2.2
  unfold B_X8_stateOf_60 at hF
  refine lv_istore_n (lv' := [(3, .int t0), (0, .ref (ad 0)), (1, .int x1), (2, .int x2), (4, .int x4)]) hx hb dX8_stateOf_60 rfl hl (by decide) rfl (fun ls hl => ?_)
  obtain ⟨x4_1, e_2, hF⟩ := nm_c hF
  refine lv_iinc (v := x4_1) (lv' := [(4, .int x4_1), (3, .int t0), (0, .ref (ad 0)), (1, .int x1), (2, .int x2)]) hx hb dX8_stateOf_61 hl (k := 4) rfl (by rw [e_2]; rfl) (by decide) rfl (fun ls hl => ?_)
  refine lv_goto (tgt := 24) hx hb dX8_stateOf_64 (by decide) ?_
  exact hk24 x1 x2 t0 x4_1 _ _ _ hF hP hS (lv_sub hl [2, 3, 4, 1, 0] rfl)
set_option maxHeartbeats 4000000 in
set_option maxRecDepth 100000 in
theorem wb_X8_stateOf_59 {p : Program} {l : Launch} {e : Env} {s : State} {m : MethodId} {args : Array Value} {below : List Frame} {meth : Method} {c : Code} {D : va_G} {cA : Nat → ClassId} {ad : Nat → Nat} (X : wd_X p s m args meth c cX8_stateOf 5 wsX8_stateOf RX8 (some .int) D cA ad dsM.length) {kh2 : Int32 → Int32 → Option Int32} {kh24 : Int32 → Int32 → Int32 → Int32 → Option Int32} {M : Mem} {r : Int32} (hk2 : ∀ (x1 : Int32) (x2 : Int32) (H : Heap) (locs : List Loc) (ls : Array Slot), kh2 x1 x2 = some r → wd_P D cA ad dsM M H → va_S (wd_A ad dsM.length) s.heap H locs → lv_has ls 5 [(0, .ref (ad 0)), (1, .int x1), (2, .int x2)] → W p l e (headSpec wsX8_stateOf rm_X8_stateOf).room s m args below meth c H locs 0 0 (MQ below (wm_Qi D cA ad dsM r M) args s 0 0 (wd_A ad dsM.length)) (F0 m 2 ls [])) (hk24 : ∀ (x1 : Int32) (x2 : Int32) (x3 : Int32) (x4 : Int32) (H : Heap) (locs : List Loc) (ls : Array Slot), kh24 x1 x2 x3 x4 = some r → wd_P D cA ad dsM M H → va_S (wd_A ad dsM.length) s.heap H locs → lv_has ls 5 [(0, .ref (ad 0)), (1, .int x1), (2, .int x2), (3, .int x3), (4, .int x4)] → W p l e (headSpec wsX8_stateOf rm_X8_stateOf).room s m args below meth c H locs 0 0 (MQ below (wm_Qi D cA ad dsM r M) args s 0 0 (wd_A ad dsM.length)) (F0 m 24 ls [])) (x1 : Int32) (x2 : Int32) (x4 : Int32) (H : Heap) (locs : List Loc) (ls : Array Slot) (hF : B_X8_stateOf_59 kh2 kh24 M x1 x2 x4 = some r) (hP : wd_P D cA ad dsM M H) (hS : va_S (wd_A ad dsM.length) s.heap H locs) (hl : lv_has ls 5 [(0, .ref (ad 0)), (1, .int x1), (2, .int x2), (4, .int x4)]) : W p l e (headSpec wsX8_stateOf rm_X8_stateOf).room s m args below meth c H locs 0 0 (MQ below (wm_Qi D cA ad dsM r M) args s 0 0 (wd_A ad dsM.length)) (F0 m 59 ls []) := by
  have hx := X.1.1
  have hb := X.1.2.1
  have hts := X.1.2.2.2.2
  unfold B_X8_stateOf_59 at hF
  refine lv_iconst (v := (0 : Int32)) hx hb dX8_stateOf_59 (by decide) ?_
  exact wb_X8_stateOf_60 X  hk2 hk24  x1 x2 x4 (0 : Int32) _ _ _ hF hP hS (lv_sub hl [0, 1, 2, 3] rfl)
set_option maxHeartbeats 4000000 in
set_option maxRecDepth 100000 in
theorem wb_X8_stateOf_24 {p : Program} {l : Launch} {e : Env} {s : State} {m : MethodId} {args : Array Value} {below : List Frame} {meth : Method} {c : Code} {D : va_G} {cA : Nat → ClassId} {ad : Nat → Nat} (X : wd_X p s m args meth c cX8_stateOf 5 wsX8_stateOf RX8 (some .int) D cA ad dsM.length) {kh2 : Int32 → Int32 → Option Int32} {kh24 : Int32 → Int32 → Int32 → Int32 → Option Int32} {M : Mem} {r : Int32} (hk2 : ∀ (x1 : Int32) (x2 : Int32) (H : Heap) (locs : List Loc) (ls : Array Slot), kh2 x1 x2 = some r → wd_P D cA ad dsM M H → va_S (wd_A ad dsM.length) s.heap H locs → lv_has ls 5 [(0, .ref (ad 0)), (1, .int x1), (2, .int x2)] → W p l e (headSpec wsX8_stateOf rm_X8_stateOf).room s m args below meth c H locs 0 0 (MQ below (wm_Qi D cA ad dsM r M) args s 0 0 (wd_A ad dsM.length)) (F0 m 2 ls [])) (hk24 : ∀ (x1 : Int32) (x2 : Int32) (x3 : Int32) (x4 : Int32) (H : Heap) (locs : List Loc) (ls : Array Slot), kh24 x1 x2 x3 x4 = some r → wd_P D cA ad dsM M H → va_S (wd_A ad dsM.length) s.heap H locs → lv_has ls 5 [(0, .ref (ad 0)), (1, .int x1), (2, .int x2), (3, .int x3), (4, .int x4)] → W p l e (headSpec wsX8_stateOf rm_X8_stateOf).room s m args below meth c H locs 0 0 (MQ below (wm_Qi D cA ad dsM r M) args s 0 0 (wd_A ad dsM.length)) (F0 m 24 ls [])) (x1 : Int32) (x2 : Int32) (x3 : Int32) (x4 : Int32) (H : Heap) (locs : List Loc) (ls : Array Slot) (hF : B_X8_stateOf_24 kh2 kh24 M x1 x2 x3 x4 = some r) (hP : wd_P D cA ad dsM M H) (hS : va_S (wd_A ad dsM.length) s.heap H locs) (hl : lv_has ls 5 [(0, .ref (ad 0)), (1, .int x1), (2, .int x2), (3, .int x3), (4, .int x4)]) : W p l e (headSpec wsX8_stateOf rm_X8_stateOf).room s m args below meth c H locs 0 0 (MQ below (wm_Qi D cA ad dsM r M) args s 0 0 (wd_A ad dsM.length)) (F0 m 24 ls []) := by
  have hx := X.1.1
  have hb := X.1.2.1
  have hts := X.1.2.2.2.2
  unfold B_X8_stateOf_24 at hF
  refine lv_iload hx hb dX8_stateOf_24 (lv_at hl 4 rfl) ?_
  refine lv_iconst (v := (4 : Int32)) hx hb dX8_stateOf_26 (by decide) ?_
  refine lv_icmp_ge (tgt := 67) hx hb dX8_stateOf_27 (by decide) (fun c_9 => ?_) (fun c_9 => ?_)
  · have hF := if_t c_9 hF
    refine lv_iload_n hx hb dX8_stateOf_67 rfl (lv_at hl 3 rfl) ?_
    refine lv_if_eq (tgt := 73) hx hb dX8_stateOf_68 (by decide) (fun c_3 => ?_) (fun c_3 => ?_)
    · have hF := if_t c_3 hF
      obtain ⟨x2_1, e_2, hF⟩ := nm_c hF
      refine lv_iinc (v := x2_1) (lv' := [(2, .int x2_1), (0, .ref (ad 0)), (1, .int x1), (3, .int x3), (4, .int x4)]) hx hb dX8_stateOf_73 hl (k := 2) rfl (by rw [e_2]; rfl) (by decide) rfl (fun ls hl => ?_)
      refine lv_goto (tgt := 2) hx hb dX8_stateOf_76 (by decide) ?_
      exact hk2 x1 x2_1 _ _ _ hF hP hS (lv_sub hl [1, 2, 0] rfl)
    · have hF := if_e c_3 hF
      refine lv_iload_n hx hb dX8_stateOf_71 rfl (lv_at hl 2 rfl) ?_
      cases hF
      exact wd_reti X hP hS rfl rfl dX8_stateOf_72
  · have hF := if_e c_9 hF
    refine lv_iload_n hx hb dX8_stateOf_30 rfl (lv_at hl 3 rfl) ?_
    refine lv_if_eq (tgt := 59) hx hb dX8_stateOf_31 (by decide) (fun c_8 => ?_) (fun c_8 => ?_)
    · have hF := if_t c_8 hF
      exact wb_X8_stateOf_59 X  hk2 hk24  x1 x2 x4 _ _ _ hF hP hS (lv_sub hl [0, 1, 2, 4] rfl)
    · have hF := if_e c_8 hF
      refine lv_aload_n hx hb dX8_stateOf_34 rfl (lv_at hl 0 rfl) ?_
      refine wd_getr (q := 4) X hP 0 dM_0 rfl in_X8_stateOf_X8 7 rfl (by decide) (by decide +kernel) dX8_stateOf_35 ?_
      refine lv_iconst (v := (4 : Int32)) hx hb dX8_stateOf_38 (by decide) ?_
      refine lv_iload_n hx hb dX8_stateOf_39 rfl (lv_at hl 2 rfl) ?_
      refine lv_imul hx hb dX8_stateOf_40 ?_
      refine lv_iload hx hb dX8_stateOf_41 (lv_at hl 4 rfl) ?_
      refine lv_iadd hx hb dX8_stateOf_43 ?_
      obtain ⟨h_4, hF⟩ := gi_c hF
      refine wd_cld X hP 4 dM_4 h_4 dX8_stateOf_44 ?_
      refine lv_aload_n hx hb dX8_stateOf_45 rfl (lv_at hl 0 rfl) ?_
      refine lv_iload_n hx hb dX8_stateOf_46 rfl (lv_at hl 1 rfl) ?_
      refine lv_iload hx hb dX8_stateOf_47 (lv_at hl 4 rfl) ?_
      obtain ⟨r_5, hc_6, hF⟩ := bd_c hF
      refine wd_calli X hP hS [.int x1, .int x4] [.int (M 4 (((4 : Int32) * x2) + x4).toNatClampNeg)] (c_X8_letter l D cA ad X.2.2.2.2   x1 x4 M hc_6) (cwV 2 hts gX8_stateOf_X8_letter rfl rfl rfl (by decide +kernel) ⟨(by show _ ≤ _; first | exact Nat.le_of_ble_eq_true rfl | (simp [headSpec, rm_X8_stateOf]; omega) | omega), (by show _ ≤ _; first | exact Nat.le_of_ble_eq_true rfl | (simp [headSpec, rm_X8_stateOf]; omega) | omega)⟩) dM_0 rfl rfl hl.1 rfl (Nat.le_of_ble_eq_true rfl) dX8_stateOf_49 (fun H locs hP hS => ?_)
      refine lv_icmp_ne (tgt := 59) hx hb dX8_stateOf_52 (by decide) (fun c_7 => ?_) (fun c_7 => ?_)
      · have hF := if_e c_7 hF
        exact wb_X8_stateOf_59 X  hk2 hk24  x1 x2 x4 _ _ _ hF hP hS (lv_sub hl [0, 1, 2, 4] rfl)
      · have hF := if_t c_7 hF
        refine lv_iconst (v := (1 : Int32)) hx hb dX8_stateOf_55 (by decide) ?_
        refine lv_goto (tgt := 60) hx hb dX8_stateOf_56 (by decide) ?_
        exact wb_X8_stateOf_60 X  hk2 hk24  x1 x2 x4 (1 : Int32) _ _ _ hF hP hS (lv_sub hl [0, 1, 2, 4] rfl)
set_option maxHeartbeats 4000000 in
set_option maxRecDepth 100000 in
theorem wh_X8_stateOf_24 {p : Program} {l : Launch} {e : Env} {s : State} {m : MethodId} {args : Array Value} {below : List Frame} {meth : Method} {c : Code} {D : va_G} {cA : Nat → ClassId} {ad : Nat → Nat} (X : wd_X p s m args meth c cX8_stateOf 5 wsX8_stateOf RX8 (some .int) D cA ad dsM.length) {kh2 : Int32 → Int32 → Option Int32} {M : Mem} {r : Int32} (hk2 : ∀ (x1 : Int32) (x2 : Int32) (H : Heap) (locs : List Loc) (ls : Array Slot), kh2 x1 x2 = some r → wd_P D cA ad dsM M H → va_S (wd_A ad dsM.length) s.heap H locs → lv_has ls 5 [(0, .ref (ad 0)), (1, .int x1), (2, .int x2)] → W p l e (headSpec wsX8_stateOf rm_X8_stateOf).room s m args below meth c H locs 0 0 (MQ below (wm_Qi D cA ad dsM r M) args s 0 0 (wd_A ad dsM.length)) (F0 m 2 ls [])) : ∀ (n : Nat) (x1 : Int32) (x2 : Int32) (x3 : Int32) (x4 : Int32) (H : Heap) (locs : List Loc) (ls : Array Slot), H_X8_stateOf_24 kh2 M n x1 x2 x3 x4 = some r → wd_P D cA ad dsM M H → va_S (wd_A ad dsM.length) s.heap H locs → lv_has ls 5 [(0, .ref (ad 0)), (1, .int x1), (2, .int x2), (3, .int x3), (4, .int x4)] → W p l e (headSpec wsX8_stateOf rm_X8_stateOf).room s m args below meth c H locs 0 0 (MQ below (wm_Qi D cA ad dsM r M) args s 0 0 (wd_A ad dsM.length)) (F0 m 24 ls []) := by
  intro n
  induction n with
  | zero => intro x1 x2 x3 x4 H locs ls hF; cases hF
  | succ n ih => intro x1 x2 x3 x4 H locs ls hF hP hS hl; exact wb_X8_stateOf_24 X (kh24 := H_X8_stateOf_24 kh2 M n) hk2 ih x1 x2 x3 x4 H locs ls hF hP hS hl
set_option maxHeartbeats 4000000 in
set_option maxRecDepth 100000 in
theorem wb_X8_stateOf_2 {p : Program} {l : Launch} {e : Env} {s : State} {m : MethodId} {args : Array Value} {below : List Frame} {meth : Method} {c : Code} {D : va_G} {cA : Nat → ClassId} {ad : Nat → Nat} (X : wd_X p s m args meth c cX8_stateOf 5 wsX8_stateOf RX8 (some .int) D cA ad dsM.length) {kh2 : Int32 → Int32 → Option Int32} {M : Mem} {r : Int32} (hk2 : ∀ (x1 : Int32) (x2 : Int32) (H : Heap) (locs : List Loc) (ls : Array Slot), kh2 x1 x2 = some r → wd_P D cA ad dsM M H → va_S (wd_A ad dsM.length) s.heap H locs → lv_has ls 5 [(0, .ref (ad 0)), (1, .int x1), (2, .int x2)] → W p l e (headSpec wsX8_stateOf rm_X8_stateOf).room s m args below meth c H locs 0 0 (MQ below (wm_Qi D cA ad dsM r M) args s 0 0 (wd_A ad dsM.length)) (F0 m 2 ls [])) (x1 : Int32) (x2 : Int32) (H : Heap) (locs : List Loc) (ls : Array Slot) (hF : B_X8_stateOf_2 kh2 M x1 x2 = some r) (hP : wd_P D cA ad dsM M H) (hS : va_S (wd_A ad dsM.length) s.heap H locs) (hl : lv_has ls 5 [(0, .ref (ad 0)), (1, .int x1), (2, .int x2)]) : W p l e (headSpec wsX8_stateOf rm_X8_stateOf).room s m args below meth c H locs 0 0 (MQ below (wm_Qi D cA ad dsM r M) args s 0 0 (wd_A ad dsM.length)) (F0 m 2 ls []) := by
  have hx := X.1.1
  have hb := X.1.2.1
  have hts := X.1.2.2.2.2
  unfold B_X8_stateOf_2 at hF
  refine lv_iload_n hx hb dX8_stateOf_2 rfl (lv_at hl 2 rfl) ?_
  refine lv_aload_n hx hb dX8_stateOf_3 rfl (lv_at hl 0 rfl) ?_
  refine wd_geti X hP 0 dM_0 rfl in_X8_stateOf_X8 6 rfl (by decide) (by decide +kernel) dX8_stateOf_4 ?_
  refine lv_icmp_ge (tgt := 79) hx hb dX8_stateOf_7 (by decide) (fun c_4 => ?_) (fun c_4 => ?_)
  · have hF := if_t c_4 hF
    refine lv_iconst (v := (-1 : Int32)) hx hb dX8_stateOf_79 (by decide) ?_
    cases hF
    exact wd_reti X hP hS rfl rfl dX8_stateOf_80
  · have hF := if_e c_4 hF
    refine lv_aload_n hx hb dX8_stateOf_10 rfl (lv_at hl 0 rfl) ?_
    refine lv_iload_n hx hb dX8_stateOf_11 rfl (lv_at hl 1 rfl) ?_
    obtain ⟨r_1, hc_2, hF⟩ := bd_c hF
    refine wd_calli X hP hS [.int x1] [] (c_X8_length l D cA ad X.2.2.2.2   x1 M hc_2) (cwV 1 hts gX8_stateOf_X8_length rfl rfl rfl (by decide +kernel) ⟨(by show _ ≤ _; first | exact Nat.le_of_ble_eq_true rfl | (simp [headSpec, rm_X8_stateOf]; omega) | omega), (by show _ ≤ _; first | exact Nat.le_of_ble_eq_true rfl | (simp [headSpec, rm_X8_stateOf]; omega) | omega)⟩) dM_0 rfl rfl hl.1 rfl (Nat.le_of_ble_eq_true rfl) dX8_stateOf_12 (fun H locs hP hS => ?_)
    refine lv_iconst (v := (4 : Int32)) hx hb dX8_stateOf_15 (by decide) ?_
    refine lv_icmp_gt (tgt := 79) hx hb dX8_stateOf_16 (by decide) (fun c_3 => ?_) (fun c_3 => ?_)
    · have hF := if_t c_3 hF
      refine lv_iconst (v := (-1 : Int32)) hx hb dX8_stateOf_79 (by decide) ?_
      cases hF
      exact wd_reti X hP hS rfl rfl dX8_stateOf_80
    · have hF := if_e c_3 hF
      refine lv_iconst (v := (1 : Int32)) hx hb dX8_stateOf_19 (by decide) ?_
      refine lv_istore_n (lv' := [(3, .int (1 : Int32)), (0, .ref (ad 0)), (1, .int x1), (2, .int x2)]) hx hb dX8_stateOf_20 rfl hl (by decide) rfl (fun ls hl => ?_)
      refine lv_iconst (v := (0 : Int32)) hx hb dX8_stateOf_21 (by decide) ?_
      refine lv_istore (lv' := [(4, .int (0 : Int32)), (3, .int (1 : Int32)), (0, .ref (ad 0)), (1, .int x1), (2, .int x2)]) hx hb dX8_stateOf_22 hl (by decide) rfl (fun ls hl => ?_)
      exact wh_X8_stateOf_24 X  hk2  100 x1 x2 (1 : Int32) (0 : Int32) _ _ _ hF hP hS (lv_sub hl [2, 3, 4, 1, 0] rfl)
set_option maxHeartbeats 4000000 in
set_option maxRecDepth 100000 in
theorem wh_X8_stateOf_2 {p : Program} {l : Launch} {e : Env} {s : State} {m : MethodId} {args : Array Value} {below : List Frame} {meth : Method} {c : Code} {D : va_G} {cA : Nat → ClassId} {ad : Nat → Nat} (X : wd_X p s m args meth c cX8_stateOf 5 wsX8_stateOf RX8 (some .int) D cA ad dsM.length) {M : Mem} {r : Int32}  : ∀ (n : Nat) (x1 : Int32) (x2 : Int32) (H : Heap) (locs : List Loc) (ls : Array Slot), H_X8_stateOf_2 M n x1 x2 = some r → wd_P D cA ad dsM M H → va_S (wd_A ad dsM.length) s.heap H locs → lv_has ls 5 [(0, .ref (ad 0)), (1, .int x1), (2, .int x2)] → W p l e (headSpec wsX8_stateOf rm_X8_stateOf).room s m args below meth c H locs 0 0 (MQ below (wm_Qi D cA ad dsM r M) args s 0 0 (wd_A ad dsM.length)) (F0 m 2 ls []) := by
  intro n
  induction n with
  | zero => intro x1 x2 H locs ls hF; cases hF
  | succ n ih => intro x1 x2 H locs ls hF hP hS hl; exact wb_X8_stateOf_2 X (kh2 := H_X8_stateOf_2 M n) ih x1 x2 H locs ls hF hP hS hl
set_option maxHeartbeats 4000000 in
set_option maxRecDepth 100000 in
theorem c_X8_stateOf (l : Launch) (D : va_G) (cA : Nat → ClassId) (ad : Nat → Nat) (hj : wd_inj ad dsM.length)   (x1 : Int32) (M : Mem) {r : Int32} (hF : F_X8_stateOf x1 M = some r) : wm_i l yX8_stateOf wsX8_stateOf rm_X8_stateOf D cA ad dsM M [.ref (ad 0), .int x1] r M := by
  refine Met.ofW (cc := cX8_stateOf) (maxL := 5) (ret := (some .int)) (by decide) rfl ?_
  intro p e s m args below meth c s₁ B hml hv
  obtain ⟨rfl, hP, hK⟩ := hv
  have X : wd_X p s m _ meth c cX8_stateOf 5 wsX8_stateOf RX8 (some .int) D cA ad dsM.length := ⟨⟨B.exec, B.bytes, hml, findClass_of_methodNamed B.named, atoms_spec (ws := wsX8_stateOf) B.pre⟩, hK, B.notSynchronized, B.returns, hj⟩
  have hl := lv_entry ([.ref (ad 0), .int x1]) (n := 5) (Nat.le_of_ble_eq_true rfl)
  rw [lg_entry_eq]
  generalize (lg_sl ([.ref (ad 0), .int x1]) ++ List.replicate (5 - (lg_sl ([.ref (ad 0), .int x1])).length) Slot.unset).toArray = ls at hl ⊢
  have hl : lv_has ls 5 [(0, .ref (ad 0)), (1, .int x1)] := hl
  have hS : va_S (wd_A ad dsM.length) s.heap s.heap [] := va_S.rf
  have hx := X.1.1
  have hb := X.1.2.1
  have hts := X.1.2.2.2.2
  unfold F_X8_stateOf at hF
  refine lv_iconst (v := (0 : Int32)) hx hb dX8_stateOf_0 (by decide) ?_
  refine lv_istore_n (lv' := [(2, .int (0 : Int32)), (0, .ref (ad 0)), (1, .int x1)]) hx hb dX8_stateOf_1 rfl hl (by decide) rfl (fun ls hl => ?_)
  exact wh_X8_stateOf_2 X    100 x1 (0 : Int32) _ _ _ hF hP hS (lv_sub hl [1, 2, 0] rfl)
/-! X8_eventOf (I)I -/
theorem in_X8_eventOf_X8 : ∀ w ∈ u_ws RX8 TX8 39, w ∈ wsX8_eventOf := by decide +kernel
set_option maxHeartbeats 4000000 in
set_option maxRecDepth 100000 in
theorem wb_X8_eventOf_51 {p : Program} {l : Launch} {e : Env} {s : State} {m : MethodId} {args : Array Value} {below : List Frame} {meth : Method} {c : Code} {D : va_G} {cA : Nat → ClassId} {ad : Nat → Nat} (X : wd_X p s m args meth c cX8_eventOf 5 wsX8_eventOf RX8 (some .int) D cA ad dsM.length) {kh2 : Int32 → Int32 → Option Int32} {kh15 : Int32 → Int32 → Int32 → Int32 → Option Int32} {M : Mem} {r : Int32} (hk2 : ∀ (x1 : Int32) (x2 : Int32) (H : Heap) (locs : List Loc) (ls : Array Slot), kh2 x1 x2 = some r → wd_P D cA ad dsM M H → va_S (wd_A ad dsM.length) s.heap H locs → lv_has ls 5 [(0, .ref (ad 0)), (1, .int x1), (2, .int x2)] → W p l e (headSpec wsX8_eventOf rm_X8_eventOf).room s m args below meth c H locs 0 0 (MQ below (wm_Qi D cA ad dsM r M) args s 0 0 (wd_A ad dsM.length)) (F0 m 2 ls [])) (hk15 : ∀ (x1 : Int32) (x2 : Int32) (x3 : Int32) (x4 : Int32) (H : Heap) (locs : List Loc) (ls : Array Slot), kh15 x1 x2 x3 x4 = some r → wd_P D cA ad dsM M H → va_S (wd_A ad dsM.length) s.heap H locs → lv_has ls 5 [(0, .ref (ad 0)), (1, .int x1), (2, .int x2), (3, .int x3), (4, .int x4)] → W p l e (headSpec wsX8_eventOf rm_X8_eventOf).room s m args below meth c H locs 0 0 (MQ below (wm_Qi D cA ad dsM r M) args s 0 0 (wd_A ad dsM.length)) (F0 m 15 ls [])) (x1 : Int32) (x2 : Int32) (x4 : Int32) (t0 : Int32) (H : Heap) (locs : List Loc) (ls : Array Slot) (hF : B_X8_eventOf_51 kh2 kh15 M x1 x2 x4 t0 = some r) (hP : wd_P D cA ad dsM M H) (hS : va_S (wd_A ad dsM.length) s.heap H locs) (hl : lv_has ls 5 [(0, .ref (ad 0)), (1, .int x1), (2, .int x2), (4, .int x4)]) : W p l e (headSpec wsX8_eventOf rm_X8_eventOf).room s m args below meth c H locs 0 0 (MQ below (wm_Qi D cA ad dsM r M) args s 0 0 (wd_A ad dsM.length)) (F0 m 51 ls [.int t0]) := by
  have hx := X.1.1
  have hb := X.1.2.1
  have hts := X.1.2.2.2.2
  unfold B_X8_eventOf_51 at hF
  refine lv_istore_n (lv' := [(3, .int t0), (0, .ref (ad 0)), (1, .int x1), (2, .int x2), (4, .int x4)]) hx hb dX8_eventOf_51 rfl hl (by decide) rfl (fun ls hl => ?_)
  obtain ⟨x4_1, e_2, hF⟩ := nm_c hF
  refine lv_iinc (v := x4_1) (lv' := [(4, .int x4_1), (3, .int t0), (0, .ref (ad 0)), (1, .int x1), (2, .int x2)]) hx hb dX8_eventOf_52 hl (k := 4) rfl (by rw [e_2]; rfl) (by decide) rfl (fun ls hl => ?_)
  refine lv_goto (tgt := 15) hx hb dX8_eventOf_55 (by decide) ?_
  exact hk15 x1 x2 t0 x4_1 _ _ _ hF hP hS (lv_sub hl [2, 3, 4, 1, 0] rfl)
set_option maxHeartbeats 4000000 in
set_option maxRecDepth 100000 in
theorem wb_X8_eventOf_50 {p : Program} {l : Launch} {e : Env} {s : State} {m : MethodId} {args : Array Value} {below : List Frame} {meth : Method} {c : Code} {D : va_G} {cA : Nat → ClassId} {ad : Nat → Nat} (X : wd_X p s m args meth c cX8_eventOf 5 wsX8_eventOf RX8 (some .int) D cA ad dsM.length) {kh2 : Int32 → Int32 → Option Int32} {kh15 : Int32 → Int32 → Int32 → Int32 → Option Int32} {M : Mem} {r : Int32} (hk2 : ∀ (x1 : Int32) (x2 : Int32) (H : Heap) (locs : List Loc) (ls : Array Slot), kh2 x1 x2 = some r → wd_P D cA ad dsM M H → va_S (wd_A ad dsM.length) s.heap H locs → lv_has ls 5 [(0, .ref (ad 0)), (1, .int x1), (2, .int x2)] → W p l e (headSpec wsX8_eventOf rm_X8_eventOf).room s m args below meth c H locs 0 0 (MQ below (wm_Qi D cA ad dsM r M) args s 0 0 (wd_A ad dsM.length)) (F0 m 2 ls [])) (hk15 : ∀ (x1 : Int32) (x2 : Int32) (x3 : Int32) (x4 : Int32) (H : Heap) (locs : List Loc) (ls : Array Slot), kh15 x1 x2 x3 x4 = some r → wd_P D cA ad dsM M H → va_S (wd_A ad dsM.length) s.heap H locs → lv_has ls 5 [(0, .ref (ad 0)), (1, .int x1), (2, .int x2), (3, .int x3), (4, .int x4)] → W p l e (headSpec wsX8_eventOf rm_X8_eventOf).room s m args below meth c H locs 0 0 (MQ below (wm_Qi D cA ad dsM r M) args s 0 0 (wd_A ad dsM.length)) (F0 m 15 ls [])) (x1 : Int32) (x2 : Int32) (x4 : Int32) (H : Heap) (locs : List Loc) (ls : Array Slot) (hF : B_X8_eventOf_50 kh2 kh15 M x1 x2 x4 = some r) (hP : wd_P D cA ad dsM M H) (hS : va_S (wd_A ad dsM.length) s.heap H locs) (hl : lv_has ls 5 [(0, .ref (ad 0)), (1, .int x1), (2, .int x2), (4, .int x4)]) : W p l e (headSpec wsX8_eventOf rm_X8_eventOf).room s m args below meth c H locs 0 0 (MQ below (wm_Qi D cA ad dsM r M) args s 0 0 (wd_A ad dsM.length)) (F0 m 50 ls []) := by
  have hx := X.1.1
  have hb := X.1.2.1
  have hts := X.1.2.2.2.2
  unfold B_X8_eventOf_50 at hF
  refine lv_iconst (v := (0 : Int32)) hx hb dX8_eventOf_50 (by decide) ?_
  exact wb_X8_eventOf_51 X  hk2 hk15  x1 x2 x4 (0 : Int32) _ _ _ hF hP hS (lv_sub hl [0, 1, 2, 3] rfl)
set_option maxHeartbeats 4000000 in
set_option maxRecDepth 100000 in
theorem wb_X8_eventOf_15 {p : Program} {l : Launch} {e : Env} {s : State} {m : MethodId} {args : Array Value} {below : List Frame} {meth : Method} {c : Code} {D : va_G} {cA : Nat → ClassId} {ad : Nat → Nat} (X : wd_X p s m args meth c cX8_eventOf 5 wsX8_eventOf RX8 (some .int) D cA ad dsM.length) {kh2 : Int32 → Int32 → Option Int32} {kh15 : Int32 → Int32 → Int32 → Int32 → Option Int32} {M : Mem} {r : Int32} (hk2 : ∀ (x1 : Int32) (x2 : Int32) (H : Heap) (locs : List Loc) (ls : Array Slot), kh2 x1 x2 = some r → wd_P D cA ad dsM M H → va_S (wd_A ad dsM.length) s.heap H locs → lv_has ls 5 [(0, .ref (ad 0)), (1, .int x1), (2, .int x2)] → W p l e (headSpec wsX8_eventOf rm_X8_eventOf).room s m args below meth c H locs 0 0 (MQ below (wm_Qi D cA ad dsM r M) args s 0 0 (wd_A ad dsM.length)) (F0 m 2 ls [])) (hk15 : ∀ (x1 : Int32) (x2 : Int32) (x3 : Int32) (x4 : Int32) (H : Heap) (locs : List Loc) (ls : Array Slot), kh15 x1 x2 x3 x4 = some r → wd_P D cA ad dsM M H → va_S (wd_A ad dsM.length) s.heap H locs → lv_has ls 5 [(0, .ref (ad 0)), (1, .int x1), (2, .int x2), (3, .int x3), (4, .int x4)] → W p l e (headSpec wsX8_eventOf rm_X8_eventOf).room s m args below meth c H locs 0 0 (MQ below (wm_Qi D cA ad dsM r M) args s 0 0 (wd_A ad dsM.length)) (F0 m 15 ls [])) (x1 : Int32) (x2 : Int32) (x3 : Int32) (x4 : Int32) (H : Heap) (locs : List Loc) (ls : Array Slot) (hF : B_X8_eventOf_15 kh2 kh15 M x1 x2 x3 x4 = some r) (hP : wd_P D cA ad dsM M H) (hS : va_S (wd_A ad dsM.length) s.heap H locs) (hl : lv_has ls 5 [(0, .ref (ad 0)), (1, .int x1), (2, .int x2), (3, .int x3), (4, .int x4)]) : W p l e (headSpec wsX8_eventOf rm_X8_eventOf).room s m args below meth c H locs 0 0 (MQ below (wm_Qi D cA ad dsM r M) args s 0 0 (wd_A ad dsM.length)) (F0 m 15 ls []) := by
  have hx := X.1.1
  have hb := X.1.2.1
  have hts := X.1.2.2.2.2
  unfold B_X8_eventOf_15 at hF
  refine lv_iload hx hb dX8_eventOf_15 (lv_at hl 4 rfl) ?_
  refine lv_iconst (v := (4 : Int32)) hx hb dX8_eventOf_17 (by decide) ?_
  refine lv_icmp_ge (tgt := 58) hx hb dX8_eventOf_18 (by decide) (fun c_9 => ?_) (fun c_9 => ?_)
  · have hF := if_t c_9 hF
    refine lv_iload_n hx hb dX8_eventOf_58 rfl (lv_at hl 3 rfl) ?_
    refine lv_if_eq (tgt := 64) hx hb dX8_eventOf_59 (by decide) (fun c_3 => ?_) (fun c_3 => ?_)
    · have hF := if_t c_3 hF
      obtain ⟨x2_1, e_2, hF⟩ := nm_c hF
      refine lv_iinc (v := x2_1) (lv' := [(2, .int x2_1), (0, .ref (ad 0)), (1, .int x1), (3, .int x3), (4, .int x4)]) hx hb dX8_eventOf_64 hl (k := 2) rfl (by rw [e_2]; rfl) (by decide) rfl (fun ls hl => ?_)
      refine lv_goto (tgt := 2) hx hb dX8_eventOf_67 (by decide) ?_
      exact hk2 x1 x2_1 _ _ _ hF hP hS (lv_sub hl [1, 2, 0] rfl)
    · have hF := if_e c_3 hF
      refine lv_iload_n hx hb dX8_eventOf_62 rfl (lv_at hl 2 rfl) ?_
      cases hF
      exact wd_reti X hP hS rfl rfl dX8_eventOf_63
  · have hF := if_e c_9 hF
    refine lv_iload_n hx hb dX8_eventOf_21 rfl (lv_at hl 3 rfl) ?_
    refine lv_if_eq (tgt := 50) hx hb dX8_eventOf_22 (by decide) (fun c_8 => ?_) (fun c_8 => ?_)
    · have hF := if_t c_8 hF
      exact wb_X8_eventOf_50 X  hk2 hk15  x1 x2 x4 _ _ _ hF hP hS (lv_sub hl [0, 1, 2, 4] rfl)
    · have hF := if_e c_8 hF
      refine lv_aload_n hx hb dX8_eventOf_25 rfl (lv_at hl 0 rfl) ?_
      refine wd_getr (q := 11) X hP 0 dM_0 rfl in_X8_eventOf_X8 16 rfl (by decide) (by decide +kernel) dX8_eventOf_26 ?_
      refine lv_iconst (v := (4 : Int32)) hx hb dX8_eventOf_29 (by decide) ?_
      refine lv_iload_n hx hb dX8_eventOf_30 rfl (lv_at hl 2 rfl) ?_
      refine lv_imul hx hb dX8_eventOf_31 ?_
      refine lv_iload hx hb dX8_eventOf_32 (lv_at hl 4 rfl) ?_
      refine lv_iadd hx hb dX8_eventOf_34 ?_
      obtain ⟨h_4, hF⟩ := gi_c hF
      refine wd_cld X hP 11 dM_11 h_4 dX8_eventOf_35 ?_
      refine lv_aload_n hx hb dX8_eventOf_36 rfl (lv_at hl 0 rfl) ?_
      refine lv_iload_n hx hb dX8_eventOf_37 rfl (lv_at hl 1 rfl) ?_
      refine lv_iload hx hb dX8_eventOf_38 (lv_at hl 4 rfl) ?_
      obtain ⟨r_5, hc_6, hF⟩ := bd_c hF
      refine wd_calli X hP hS [.int x1, .int x4] [.int (M 11 (((4 : Int32) * x2) + x4).toNatClampNeg)] (c_X8_letter l D cA ad X.2.2.2.2   x1 x4 M hc_6) (cwV 2 hts gX8_eventOf_X8_letter rfl rfl rfl (by decide +kernel) ⟨(by show _ ≤ _; first | exact Nat.le_of_ble_eq_true rfl | (simp [headSpec, rm_X8_eventOf]; omega) | omega), (by show _ ≤ _; first | exact Nat.le_of_ble_eq_true rfl | (simp [headSpec, rm_X8_eventOf]; omega) | omega)⟩) dM_0 rfl rfl hl.1 rfl (Nat.le_of_ble_eq_true rfl) dX8_eventOf_40 (fun H locs hP hS => ?_)
      refine lv_icmp_ne (tgt := 50) hx hb dX8_eventOf_43 (by decide) (fun c_7 => ?_) (fun c_7 => ?_)
      · have hF := if_e c_7 hF
        exact wb_X8_eventOf_50 X  hk2 hk15  x1 x2 x4 _ _ _ hF hP hS (lv_sub hl [0, 1, 2, 4] rfl)
      · have hF := if_t c_7 hF
        refine lv_iconst (v := (1 : Int32)) hx hb dX8_eventOf_46 (by decide) ?_
        refine lv_goto (tgt := 51) hx hb dX8_eventOf_47 (by decide) ?_
        exact wb_X8_eventOf_51 X  hk2 hk15  x1 x2 x4 (1 : Int32) _ _ _ hF hP hS (lv_sub hl [0, 1, 2, 4] rfl)
set_option maxHeartbeats 4000000 in
set_option maxRecDepth 100000 in
theorem wh_X8_eventOf_15 {p : Program} {l : Launch} {e : Env} {s : State} {m : MethodId} {args : Array Value} {below : List Frame} {meth : Method} {c : Code} {D : va_G} {cA : Nat → ClassId} {ad : Nat → Nat} (X : wd_X p s m args meth c cX8_eventOf 5 wsX8_eventOf RX8 (some .int) D cA ad dsM.length) {kh2 : Int32 → Int32 → Option Int32} {M : Mem} {r : Int32} (hk2 : ∀ (x1 : Int32) (x2 : Int32) (H : Heap) (locs : List Loc) (ls : Array Slot), kh2 x1 x2 = some r → wd_P D cA ad dsM M H → va_S (wd_A ad dsM.length) s.heap H locs → lv_has ls 5 [(0, .ref (ad 0)), (1, .int x1), (2, .int x2)] → W p l e (headSpec wsX8_eventOf rm_X8_eventOf).room s m args below meth c H locs 0 0 (MQ below (wm_Qi D cA ad dsM r M) args s 0 0 (wd_A ad dsM.length)) (F0 m 2 ls [])) : ∀ (n : Nat) (x1 : Int32) (x2 : Int32) (x3 : Int32) (x4 : Int32) (H : Heap) (locs : List Loc) (ls : Array Slot), H_X8_eventOf_15 kh2 M n x1 x2 x3 x4 = some r → wd_P D cA ad dsM M H → va_S (wd_A ad dsM.length) s.heap H locs → lv_has ls 5 [(0, .ref (ad 0)), (1, .int x1), (2, .int x2), (3, .int x3), (4, .int x4)] → W p l e (headSpec wsX8_eventOf rm_X8_eventOf).room s m args below meth c H locs 0 0 (MQ below (wm_Qi D cA ad dsM r M) args s 0 0 (wd_A ad dsM.length)) (F0 m 15 ls []) := by
  intro n
  induction n with
  | zero => intro x1 x2 x3 x4 H locs ls hF; cases hF
  | succ n ih => intro x1 x2 x3 x4 H locs ls hF hP hS hl; exact wb_X8_eventOf_15 X (kh15 := H_X8_eventOf_15 kh2 M n) hk2 ih x1 x2 x3 x4 H locs ls hF hP hS hl
set_option maxHeartbeats 4000000 in
set_option maxRecDepth 100000 in
theorem wb_X8_eventOf_2 {p : Program} {l : Launch} {e : Env} {s : State} {m : MethodId} {args : Array Value} {below : List Frame} {meth : Method} {c : Code} {D : va_G} {cA : Nat → ClassId} {ad : Nat → Nat} (X : wd_X p s m args meth c cX8_eventOf 5 wsX8_eventOf RX8 (some .int) D cA ad dsM.length) {kh2 : Int32 → Int32 → Option Int32} {M : Mem} {r : Int32} (hk2 : ∀ (x1 : Int32) (x2 : Int32) (H : Heap) (locs : List Loc) (ls : Array Slot), kh2 x1 x2 = some r → wd_P D cA ad dsM M H → va_S (wd_A ad dsM.length) s.heap H locs → lv_has ls 5 [(0, .ref (ad 0)), (1, .int x1), (2, .int x2)] → W p l e (headSpec wsX8_eventOf rm_X8_eventOf).room s m args below meth c H locs 0 0 (MQ below (wm_Qi D cA ad dsM r M) args s 0 0 (wd_A ad dsM.length)) (F0 m 2 ls [])) (x1 : Int32) (x2 : Int32) (H : Heap) (locs : List Loc) (ls : Array Slot) (hF : B_X8_eventOf_2 kh2 M x1 x2 = some r) (hP : wd_P D cA ad dsM M H) (hS : va_S (wd_A ad dsM.length) s.heap H locs) (hl : lv_has ls 5 [(0, .ref (ad 0)), (1, .int x1), (2, .int x2)]) : W p l e (headSpec wsX8_eventOf rm_X8_eventOf).room s m args below meth c H locs 0 0 (MQ below (wm_Qi D cA ad dsM r M) args s 0 0 (wd_A ad dsM.length)) (F0 m 2 ls []) := by
  have hx := X.1.1
  have hb := X.1.2.1
  have hts := X.1.2.2.2.2
  unfold B_X8_eventOf_2 at hF
  refine lv_iload_n hx hb dX8_eventOf_2 rfl (lv_at hl 2 rfl) ?_
  refine lv_aload_n hx hb dX8_eventOf_3 rfl (lv_at hl 0 rfl) ?_
  refine wd_geti X hP 0 dM_0 rfl in_X8_eventOf_X8 14 rfl (by decide) (by decide +kernel) dX8_eventOf_4 ?_
  refine lv_icmp_ge (tgt := 70) hx hb dX8_eventOf_7 (by decide) (fun c_1 => ?_) (fun c_1 => ?_)
  · have hF := if_t c_1 hF
    refine lv_iconst (v := (-1 : Int32)) hx hb dX8_eventOf_70 (by decide) ?_
    cases hF
    exact wd_reti X hP hS rfl rfl dX8_eventOf_71
  · have hF := if_e c_1 hF
    refine lv_iconst (v := (1 : Int32)) hx hb dX8_eventOf_10 (by decide) ?_
    refine lv_istore_n (lv' := [(3, .int (1 : Int32)), (0, .ref (ad 0)), (1, .int x1), (2, .int x2)]) hx hb dX8_eventOf_11 rfl hl (by decide) rfl (fun ls hl => ?_)
    refine lv_iconst (v := (0 : Int32)) hx hb dX8_eventOf_12 (by decide) ?_
    refine lv_istore (lv' := [(4, .int (0 : Int32)), (3, .int (1 : Int32)), (0, .ref (ad 0)), (1, .int x1), (2, .int x2)]) hx hb dX8_eventOf_13 hl (by decide) rfl (fun ls hl => ?_)
    exact wh_X8_eventOf_15 X  hk2  100 x1 x2 (1 : Int32) (0 : Int32) _ _ _ hF hP hS (lv_sub hl [2, 3, 4, 1, 0] rfl)
set_option maxHeartbeats 4000000 in
set_option maxRecDepth 100000 in
theorem wh_X8_eventOf_2 {p : Program} {l : Launch} {e : Env} {s : State} {m : MethodId} {args : Array Value} {below : List Frame} {meth : Method} {c : Code} {D : va_G} {cA : Nat → ClassId} {ad : Nat → Nat} (X : wd_X p s m args meth c cX8_eventOf 5 wsX8_eventOf RX8 (some .int) D cA ad dsM.length) {M : Mem} {r : Int32}  : ∀ (n : Nat) (x1 : Int32) (x2 : Int32) (H : Heap) (locs : List Loc) (ls : Array Slot), H_X8_eventOf_2 M n x1 x2 = some r → wd_P D cA ad dsM M H → va_S (wd_A ad dsM.length) s.heap H locs → lv_has ls 5 [(0, .ref (ad 0)), (1, .int x1), (2, .int x2)] → W p l e (headSpec wsX8_eventOf rm_X8_eventOf).room s m args below meth c H locs 0 0 (MQ below (wm_Qi D cA ad dsM r M) args s 0 0 (wd_A ad dsM.length)) (F0 m 2 ls []) := by
  intro n
  induction n with
  | zero => intro x1 x2 H locs ls hF; cases hF
  | succ n ih => intro x1 x2 H locs ls hF hP hS hl; exact wb_X8_eventOf_2 X (kh2 := H_X8_eventOf_2 M n) ih x1 x2 H locs ls hF hP hS hl
set_option maxHeartbeats 4000000 in
set_option maxRecDepth 100000 in
theorem c_X8_eventOf (l : Launch) (D : va_G) (cA : Nat → ClassId) (ad : Nat → Nat) (hj : wd_inj ad dsM.length)   (x1 : Int32) (M : Mem) {r : Int32} (hF : F_X8_eventOf x1 M = some r) : wm_i l yX8_eventOf wsX8_eventOf rm_X8_eventOf D cA ad dsM M [.ref (ad 0), .int x1] r M := by
  refine Met.ofW (cc := cX8_eventOf) (maxL := 5) (ret := (some .int)) (by decide) rfl ?_
  intro p e s m args below meth c s₁ B hml hv
  obtain ⟨rfl, hP, hK⟩ := hv
  have X : wd_X p s m _ meth c cX8_eventOf 5 wsX8_eventOf RX8 (some .int) D cA ad dsM.length := ⟨⟨B.exec, B.bytes, hml, findClass_of_methodNamed B.named, atoms_spec (ws := wsX8_eventOf) B.pre⟩, hK, B.notSynchronized, B.returns, hj⟩
  have hl := lv_entry ([.ref (ad 0), .int x1]) (n := 5) (Nat.le_of_ble_eq_true rfl)
  rw [lg_entry_eq]
  generalize (lg_sl ([.ref (ad 0), .int x1]) ++ List.replicate (5 - (lg_sl ([.ref (ad 0), .int x1])).length) Slot.unset).toArray = ls at hl ⊢
  have hl : lv_has ls 5 [(0, .ref (ad 0)), (1, .int x1)] := hl
  have hS : va_S (wd_A ad dsM.length) s.heap s.heap [] := va_S.rf
  have hx := X.1.1
  have hb := X.1.2.1
  have hts := X.1.2.2.2.2
  unfold F_X8_eventOf at hF
  refine lv_iconst (v := (0 : Int32)) hx hb dX8_eventOf_0 (by decide) ?_
  refine lv_istore_n (lv' := [(2, .int (0 : Int32)), (0, .ref (ad 0)), (1, .int x1)]) hx hb dX8_eventOf_1 rfl hl (by decide) rfl (fun ls hl => ?_)
  exact wh_X8_eventOf_2 X    100 x1 (0 : Int32) _ _ _ hF hP hS (lv_sub hl [1, 2, 0] rfl)
/-! X8_newState ()I -/
theorem in_X8_newState_X8 : ∀ w ∈ u_ws RX8 TX8 39, w ∈ wsX8_newState := by decide +kernel
set_option maxHeartbeats 4000000 in
set_option maxRecDepth 100000 in
theorem wb_X8_newState_215 {p : Program} {l : Launch} {e : Env} {s : State} {m : MethodId} {args : Array Value} {below : List Frame} {meth : Method} {c : Code} {D : va_G} {cA : Nat → ClassId} {ad : Nat → Nat} (X : wd_X p s m args meth c cX8_newState 5 wsX8_newState RX8 (some .int) D cA ad dsM.length) {kh215 : Int32 → Int32 → Int32 → Int32 → Mem → Option (Int32 × Mem)} {r : Int32} {M' : Mem} (hk215 : ∀ (x1 : Int32) (x2 : Int32) (x3 : Int32) (x4 : Int32) (M : Mem) (H : Heap) (locs : List Loc) (ls : Array Slot), kh215 x1 x2 x3 x4 M = some (r, M') → wd_P D cA ad dsM M H → va_S (wd_A ad dsM.length) s.heap H locs → lv_has ls 5 [(0, .ref (ad 0)), (1, .int x1), (2, .int x2), (3, .int x3), (4, .int x4)] → W p l e (headSpec wsX8_newState rm_X8_newState).room s m args below meth c H locs 0 0 (MQ below (wm_Qi D cA ad dsM r M') args s 0 0 (wd_A ad dsM.length)) (F0 m 215 ls [])) (x1 : Int32) (x2 : Int32) (x3 : Int32) (x4 : Int32) (M : Mem) (H : Heap) (locs : List Loc) (ls : Array Slot) (hF : B_X8_newState_215 kh215 x1 x2 x3 x4 M = some (r, M')) (hP : wd_P D cA ad dsM M H) (hS : va_S (wd_A ad dsM.length) s.heap H locs) (hl : lv_has ls 5 [(0, .ref (ad 0)), (1, .int x1), (2, .int x2), (3, .int x3), (4, .int x4)]) : W p l e (headSpec wsX8_newState rm_X8_newState).room s m args below meth c H locs 0 0 (MQ below (wm_Qi D cA ad dsM r M') args s 0 0 (wd_A ad dsM.length)) (F0 m 215 ls []) := by
  have hx := X.1.1
  have hb := X.1.2.1
  have hts := X.1.2.2.2.2
  unfold B_X8_newState_215 at hF
  refine lv_iload hx hb dX8_newState_215 (lv_at hl 4 rfl) ?_
  refine lv_iconst (v := (4 : Int32)) hx hb dX8_newState_217 (by decide) ?_
  refine lv_icmp_ge (tgt := 248) hx hb dX8_newState_218 (by decide) (fun c_23 => ?_) (fun c_23 => ?_)
  · have hF := if_t c_23 hF
    refine lv_aload_n hx hb dX8_newState_248 rfl (lv_at hl 0 rfl) ?_
    refine wd_getr (q := 6) X hP 0 dM_0 rfl in_X8_newState_X8 9 rfl (by decide) (by decide +kernel) dX8_newState_249 ?_
    refine lv_aload_n hx hb dX8_newState_252 rfl (lv_at hl 0 rfl) ?_
    refine wd_geti X hP 0 dM_0 rfl in_X8_newState_X8 6 rfl (by decide) (by decide +kernel) dX8_newState_253 ?_
    refine lv_iload_n hx hb dX8_newState_256 rfl (lv_at hl 1 rfl) ?_
    obtain ⟨h_1, hF⟩ := gi_c hF
    obtain ⟨M_2, e_3, hF⟩ := wr_c hF
    refine wd_ist X hP hS 6 dM_6 h_1 dX8_newState_257 (fun H locs hP hS => ?_)
    rw [← e_3] at hP
    refine lv_aload_n hx hb dX8_newState_258 rfl (lv_at hl 0 rfl) ?_
    refine wd_getr (q := 7) X hP 0 dM_0 rfl in_X8_newState_X8 10 rfl (by decide) (by decide +kernel) dX8_newState_259 ?_
    refine lv_aload_n hx hb dX8_newState_262 rfl (lv_at hl 0 rfl) ?_
    refine wd_geti X hP 0 dM_0 rfl in_X8_newState_X8 6 rfl (by decide) (by decide +kernel) dX8_newState_263 ?_
    refine lv_aload_n hx hb dX8_newState_266 rfl (lv_at hl 0 rfl) ?_
    refine wd_getr (q := 7) X hP 0 dM_0 rfl in_X8_newState_X8 10 rfl (by decide) (by decide +kernel) dX8_newState_267 ?_
    refine lv_iload_n hx hb dX8_newState_270 rfl (lv_at hl 1 rfl) ?_
    obtain ⟨h_4, hF⟩ := gi_c hF
    refine wd_ild X hP 7 dM_7 h_4 dX8_newState_271 ?_
    refine lv_iconst (v := (1 : Int32)) hx hb dX8_newState_272 (by decide) ?_
    refine lv_iadd hx hb dX8_newState_273 ?_
    obtain ⟨h_5, hF⟩ := gi_c hF
    obtain ⟨M_6, e_7, hF⟩ := wr_c hF
    refine wd_ist X hP hS 7 dM_7 h_5 dX8_newState_274 (fun H locs hP hS => ?_)
    rw [← e_7] at hP
    refine lv_aload_n hx hb dX8_newState_275 rfl (lv_at hl 0 rfl) ?_
    refine wd_getr (q := 9) X hP 0 dM_0 rfl in_X8_newState_X8 12 rfl (by decide) (by decide +kernel) dX8_newState_276 ?_
    refine lv_aload_n hx hb dX8_newState_279 rfl (lv_at hl 0 rfl) ?_
    refine wd_geti X hP 0 dM_0 rfl in_X8_newState_X8 6 rfl (by decide) (by decide +kernel) dX8_newState_280 ?_
    refine lv_iload_n hx hb dX8_newState_283 rfl (lv_at hl 2 rfl) ?_
    obtain ⟨h_8, hF⟩ := gi_c hF
    obtain ⟨M_9, e_10, hF⟩ := wr_c hF
    refine wd_zst X hP hS 9 dM_9 h_8 dX8_newState_284 (fun H locs hP hS => ?_)
    rw [← e_10] at hP
    refine lv_aload_n hx hb dX8_newState_285 rfl (lv_at hl 0 rfl) ?_
    refine wd_getr (q := 10) X hP 0 dM_0 rfl in_X8_newState_X8 13 rfl (by decide) (by decide +kernel) dX8_newState_286 ?_
    refine lv_aload_n hx hb dX8_newState_289 rfl (lv_at hl 0 rfl) ?_
    refine wd_geti X hP 0 dM_0 rfl in_X8_newState_X8 6 rfl (by decide) (by decide +kernel) dX8_newState_290 ?_
    refine lv_iload_n hx hb dX8_newState_293 rfl (lv_at hl 3 rfl) ?_
    obtain ⟨h_11, hF⟩ := gi_c hF
    obtain ⟨M_12, e_13, hF⟩ := wr_c hF
    refine wd_zst X hP hS 10 dM_10 h_11 dX8_newState_294 (fun H locs hP hS => ?_)
    rw [← e_13] at hP
    refine lv_aload_n hx hb dX8_newState_295 rfl (lv_at hl 0 rfl) ?_
    refine lv_dup hx hb dX8_newState_296 rfl ?_
    refine wd_geti X hP 0 dM_0 rfl in_X8_newState_X8 6 rfl (by decide) (by decide +kernel) dX8_newState_297 ?_
    refine lv_iconst (v := (1 : Int32)) hx hb dX8_newState_300 (by decide) ?_
    refine lv_iadd hx hb dX8_newState_301 ?_
    obtain ⟨M_14, e_15, hF⟩ := wr_c hF
    refine wd_puti X hP hS 0 dM_0 rfl in_X8_newState_X8 tyX8_ok nmX8 6 rfl (by decide) rfl rfl (by decide +kernel) dX8_newState_302 (fun H locs hP hS => ?_)
    rw [← e_15] at hP
    refine lv_iconst (v := (1 : Int32)) hx hb dX8_newState_305 (by decide) ?_
    cases hF
    exact wd_reti X hP hS rfl rfl dX8_newState_306
  · have hF := if_e c_23 hF
    refine lv_aload_n hx hb dX8_newState_221 rfl (lv_at hl 0 rfl) ?_
    refine wd_getr (q := 4) X hP 0 dM_0 rfl in_X8_newState_X8 7 rfl (by decide) (by decide +kernel) dX8_newState_222 ?_
    refine lv_iconst (v := (4 : Int32)) hx hb dX8_newState_225 (by decide) ?_
    refine lv_aload_n hx hb dX8_newState_226 rfl (lv_at hl 0 rfl) ?_
    refine wd_geti X hP 0 dM_0 rfl in_X8_newState_X8 6 rfl (by decide) (by decide +kernel) dX8_newState_227 ?_
    refine lv_imul hx hb dX8_newState_230 ?_
    refine lv_iload hx hb dX8_newState_231 (lv_at hl 4 rfl) ?_
    refine lv_iadd hx hb dX8_newState_233 ?_
    refine lv_aload_n hx hb dX8_newState_234 rfl (lv_at hl 0 rfl) ?_
    refine lv_iconst (v := (1 : Int32)) hx hb dX8_newState_235 (by decide) ?_
    refine lv_iload hx hb dX8_newState_236 (lv_at hl 4 rfl) ?_
    obtain ⟨r_16, hc_17, hF⟩ := bd_c hF
    refine wd_calli X hP hS [.int (1 : Int32), .int x4] [.int (((4 : Int32) * (M 0 6)) + x4), .ref (ad 4)] (c_X8_letter l D cA ad X.2.2.2.2   (1 : Int32) x4 M hc_17) (cwV 2 hts gX8_newState_X8_letter rfl rfl rfl (by decide +kernel) ⟨(by show _ ≤ _; first | exact Nat.le_of_ble_eq_true rfl | (simp [headSpec, rm_X8_newState]; omega) | omega), (by show _ ≤ _; first | exact Nat.le_of_ble_eq_true rfl | (simp [headSpec, rm_X8_newState]; omega) | omega)⟩) dM_0 rfl rfl hl.1 rfl (Nat.le_of_ble_eq_true rfl) dX8_newState_238 (fun H locs hP hS => ?_)
    obtain ⟨h_18, hF⟩ := gi_c hF
    obtain ⟨M_19, e_20, hF⟩ := wr_c hF
    refine wd_cst X hP hS 4 dM_4 h_18 dX8_newState_241 (fun H locs hP hS => ?_)
    rw [← e_20] at hP
    obtain ⟨x4_21, e_22, hF⟩ := nm_c hF
    refine lv_iinc (v := x4_21) (lv' := [(4, .int x4_21), (0, .ref (ad 0)), (1, .int x1), (2, .int x2), (3, .int x3)]) hx hb dX8_newState_242 hl (k := 4) rfl (by rw [e_22]; rfl) (by decide) rfl (fun ls hl => ?_)
    refine lv_goto (tgt := 215) hx hb dX8_newState_245 (by decide) ?_
    exact hk215 x1 x2 x3 x4_21 M_19 _ _ _ hF hP hS (lv_sub hl [1, 2, 3, 4, 0] rfl)
set_option maxHeartbeats 4000000 in
set_option maxRecDepth 100000 in
theorem wh_X8_newState_215 {p : Program} {l : Launch} {e : Env} {s : State} {m : MethodId} {args : Array Value} {below : List Frame} {meth : Method} {c : Code} {D : va_G} {cA : Nat → ClassId} {ad : Nat → Nat} (X : wd_X p s m args meth c cX8_newState 5 wsX8_newState RX8 (some .int) D cA ad dsM.length) {r : Int32} {M' : Mem}  : ∀ (n : Nat) (x1 : Int32) (x2 : Int32) (x3 : Int32) (x4 : Int32) (M : Mem) (H : Heap) (locs : List Loc) (ls : Array Slot), H_X8_newState_215  n x1 x2 x3 x4 M = some (r, M') → wd_P D cA ad dsM M H → va_S (wd_A ad dsM.length) s.heap H locs → lv_has ls 5 [(0, .ref (ad 0)), (1, .int x1), (2, .int x2), (3, .int x3), (4, .int x4)] → W p l e (headSpec wsX8_newState rm_X8_newState).room s m args below meth c H locs 0 0 (MQ below (wm_Qi D cA ad dsM r M') args s 0 0 (wd_A ad dsM.length)) (F0 m 215 ls []) := by
  intro n
  induction n with
  | zero => intro x1 x2 x3 x4 M H locs ls hF; cases hF
  | succ n ih => intro x1 x2 x3 x4 M H locs ls hF hP hS hl; exact wb_X8_newState_215 X (kh215 := H_X8_newState_215  n) ih x1 x2 x3 x4 M H locs ls hF hP hS hl
set_option maxHeartbeats 4000000 in
set_option maxRecDepth 100000 in
theorem wb_X8_newState_200 {p : Program} {l : Launch} {e : Env} {s : State} {m : MethodId} {args : Array Value} {below : List Frame} {meth : Method} {c : Code} {D : va_G} {cA : Nat → ClassId} {ad : Nat → Nat} (X : wd_X p s m args meth c cX8_newState 5 wsX8_newState RX8 (some .int) D cA ad dsM.length) {r : Int32} {M' : Mem}  (x1 : Int32) (x2 : Int32) (x3 : Int32) (M : Mem) (H : Heap) (locs : List Loc) (ls : Array Slot) (hF : B_X8_newState_200  x1 x2 x3 M = some (r, M')) (hP : wd_P D cA ad dsM M H) (hS : va_S (wd_A ad dsM.length) s.heap H locs) (hl : lv_has ls 5 [(0, .ref (ad 0)), (1, .int x1), (2, .int x2), (3, .int x3)]) : W p l e (headSpec wsX8_newState rm_X8_newState).room s m args below meth c H locs 0 0 (MQ below (wm_Qi D cA ad dsM r M') args s 0 0 (wd_A ad dsM.length)) (F0 m 200 ls []) := by
  have hx := X.1.1
  have hb := X.1.2.1
  have hts := X.1.2.2.2.2
  unfold B_X8_newState_200 at hF
  refine lv_aload_n hx hb dX8_newState_200 rfl (lv_at hl 0 rfl) ?_
  refine wd_geti X hP 0 dM_0 rfl in_X8_newState_X8 6 rfl (by decide) (by decide +kernel) dX8_newState_201 ?_
  refine lv_bipush (v := (14 : Int32)) hx hb dX8_newState_204 (by decide) ?_
  refine lv_icmp_ne (tgt := 212) hx hb dX8_newState_206 (by decide) (fun c_1 => ?_) (fun c_1 => ?_)
  · have hF := if_e c_1 hF
    refine lv_iconst (v := (0 : Int32)) hx hb dX8_newState_212 (by decide) ?_
    refine lv_istore (lv' := [(4, .int (0 : Int32)), (0, .ref (ad 0)), (1, .int x1), (2, .int x2), (3, .int x3)]) hx hb dX8_newState_213 hl (by decide) rfl (fun ls hl => ?_)
    exact wh_X8_newState_215 X    100 x1 x2 x3 (0 : Int32) M _ _ _ hF hP hS (lv_sub hl [1, 2, 3, 4, 0] rfl)
  · have hF := if_t c_1 hF
    refine lv_bipush (v := (-2 : Int32)) hx hb dX8_newState_209 (by decide) ?_
    cases hF
    exact wd_reti X hP hS rfl rfl dX8_newState_211
set_option maxHeartbeats 4000000 in
set_option maxRecDepth 100000 in
theorem wb_X8_newState_166 {p : Program} {l : Launch} {e : Env} {s : State} {m : MethodId} {args : Array Value} {below : List Frame} {meth : Method} {c : Code} {D : va_G} {cA : Nat → ClassId} {ad : Nat → Nat} (X : wd_X p s m args meth c cX8_newState 5 wsX8_newState RX8 (some .int) D cA ad dsM.length) {r : Int32} {M' : Mem}  (x1 : Int32) (x2 : Int32) (t0 : Int32) (M : Mem) (H : Heap) (locs : List Loc) (ls : Array Slot) (hF : B_X8_newState_166  x1 x2 t0 M = some (r, M')) (hP : wd_P D cA ad dsM M H) (hS : va_S (wd_A ad dsM.length) s.heap H locs) (hl : lv_has ls 5 [(0, .ref (ad 0)), (1, .int x1), (2, .int x2)]) : W p l e (headSpec wsX8_newState rm_X8_newState).room s m args below meth c H locs 0 0 (MQ below (wm_Qi D cA ad dsM r M') args s 0 0 (wd_A ad dsM.length)) (F0 m 166 ls [.int t0]) := by
  have hx := X.1.1
  have hb := X.1.2.1
  have hts := X.1.2.2.2.2
  unfold B_X8_newState_166 at hF
  refine lv_istore_n (lv' := [(3, .int t0), (0, .ref (ad 0)), (1, .int x1), (2, .int x2)]) hx hb dX8_newState_166 rfl hl (by decide) rfl (fun ls hl => ?_)
  refine lv_iload_n hx hb dX8_newState_167 rfl (lv_at hl 2 rfl) ?_
  refine lv_if_lt (tgt := 198) hx hb dX8_newState_168 (by decide) (fun c_6 => ?_) (fun c_6 => ?_)
  · have hF := if_t c_6 hF
    refine lv_iconst (v := (-1 : Int32)) hx hb dX8_newState_198 (by decide) ?_
    cases hF
    exact wd_reti X hP hS rfl rfl dX8_newState_199
  · have hF := if_e c_6 hF
    refine lv_aload_n hx hb dX8_newState_171 rfl (lv_at hl 1 rfl) ?_
    refine wd_getr (q := 7) X hP 0 dM_0 rfl in_X8_newState_X8 10 rfl (by decide) (by decide +kernel) dX8_newState_172 ?_
    refine lv_iload_n hx hb dX8_newState_175 rfl (lv_at hl 2 rfl) ?_
    obtain ⟨h_1, hF⟩ := gi_c hF
    refine wd_ild X hP 7 dM_7 h_1 dX8_newState_176 ?_
    refine lv_bipush (v := (6 : Int32)) hx hb dX8_newState_177 (by decide) ?_
    refine lv_icmp_eq (tgt := 198) hx hb dX8_newState_179 (by decide) (fun c_5 => ?_) (fun c_5 => ?_)
    · have hF := if_t c_5 hF
      refine lv_iconst (v := (-1 : Int32)) hx hb dX8_newState_198 (by decide) ?_
      cases hF
      exact wd_reti X hP hS rfl rfl dX8_newState_199
    · have hF := if_e c_5 hF
      refine lv_aload_n hx hb dX8_newState_182 rfl (lv_at hl 1 rfl) ?_
      refine wd_geti X hP 0 dM_0 rfl in_X8_newState_X8 3 rfl (by decide) (by decide +kernel) dX8_newState_183 ?_
      refine lv_iconst (v := (5 : Int32)) hx hb dX8_newState_186 (by decide) ?_
      refine lv_icmp_ne (tgt := 200) hx hb dX8_newState_187 (by decide) (fun c_4 => ?_) (fun c_4 => ?_)
      · have hF := if_e c_4 hF
        exact wb_X8_newState_200 X    x1 x2 t0 M _ _ _ hF hP hS (lv_sub hl [1, 2, 3, 0] rfl)
      · have hF := if_t c_4 hF
        refine lv_iload_n hx hb dX8_newState_190 rfl (lv_at hl 3 rfl) ?_
        refine lv_if_ne (tgt := 200) hx hb dX8_newState_191 (by decide) (fun c_3 => ?_) (fun c_3 => ?_)
        · have hF := if_e c_3 hF
          exact wb_X8_newState_200 X    x1 x2 t0 M _ _ _ hF hP hS (lv_sub hl [1, 2, 3, 0] rfl)
        · have hF := if_t c_3 hF
          refine lv_iload_n hx hb dX8_newState_194 rfl (lv_at hl 0 rfl) ?_
          refine lv_if_ne (tgt := 200) hx hb dX8_newState_195 (by decide) (fun c_2 => ?_) (fun c_2 => ?_)
          · have hF := if_e c_2 hF
            exact wb_X8_newState_200 X    x1 x2 t0 M _ _ _ hF hP hS (lv_sub hl [1, 2, 3, 0] rfl)
          · have hF := if_t c_2 hF
            refine lv_iconst (v := (-1 : Int32)) hx hb dX8_newState_198 (by decide) ?_
            cases hF
            exact wd_reti X hP hS rfl rfl dX8_newState_199
set_option maxHeartbeats 4000000 in
set_option maxRecDepth 100000 in
theorem wb_X8_newState_165 {p : Program} {l : Launch} {e : Env} {s : State} {m : MethodId} {args : Array Value} {below : List Frame} {meth : Method} {c : Code} {D : va_G} {cA : Nat → ClassId} {ad : Nat → Nat} (X : wd_X p s m args meth c cX8_newState 5 wsX8_newState RX8 (some .int) D cA ad dsM.length) {r : Int32} {M' : Mem}  (x1 : Int32) (x2 : Int32) (M : Mem) (H : Heap) (locs : List Loc) (ls : Array Slot) (hF : B_X8_newState_165  x1 x2 M = some (r, M')) (hP : wd_P D cA ad dsM M H) (hS : va_S (wd_A ad dsM.length) s.heap H locs) (hl : lv_has ls 5 [(0, .ref (ad 0)), (1, .int x1), (2, .int x2)]) : W p l e (headSpec wsX8_newState rm_X8_newState).room s m args below meth c H locs 0 0 (MQ below (wm_Qi D cA ad dsM r M') args s 0 0 (wd_A ad dsM.length)) (F0 m 165 ls []) := by
  have hx := X.1.1
  have hb := X.1.2.1
  have hts := X.1.2.2.2.2
  unfold B_X8_newState_165 at hF
  refine lv_iconst (v := (0 : Int32)) hx hb dX8_newState_165 (by decide) ?_
  exact wb_X8_newState_166 X    x1 x2 (0 : Int32) M _ _ _ hF hP hS (lv_sub hl [0, 1, 2] rfl)
set_option maxHeartbeats 4000000 in
set_option maxRecDepth 100000 in
theorem wb_X8_newState_98 {p : Program} {l : Launch} {e : Env} {s : State} {m : MethodId} {args : Array Value} {below : List Frame} {meth : Method} {c : Code} {D : va_G} {cA : Nat → ClassId} {ad : Nat → Nat} (X : wd_X p s m args meth c cX8_newState 5 wsX8_newState RX8 (some .int) D cA ad dsM.length) {r : Int32} {M' : Mem}  (x1 : Int32) (t0 : Int32) (M : Mem) (H : Heap) (locs : List Loc) (ls : Array Slot) (hF : B_X8_newState_98  x1 t0 M = some (r, M')) (hP : wd_P D cA ad dsM M H) (hS : va_S (wd_A ad dsM.length) s.heap H locs) (hl : lv_has ls 5 [(0, .ref (ad 0)), (1, .int x1)]) : W p l e (headSpec wsX8_newState rm_X8_newState).room s m args below meth c H locs 0 0 (MQ below (wm_Qi D cA ad dsM r M') args s 0 0 (wd_A ad dsM.length)) (F0 m 98 ls [.int t0]) := by
  have hx := X.1.1
  have hb := X.1.2.1
  have hts := X.1.2.2.2.2
  unfold B_X8_newState_98 at hF
  refine lv_istore_n (lv' := [(2, .int t0), (0, .ref (ad 0)), (1, .int x1)]) hx hb dX8_newState_98 rfl hl (by decide) rfl (fun ls hl => ?_)
  refine lv_aload_n hx hb dX8_newState_99 rfl (lv_at hl 1 rfl) ?_
  refine wd_geti X hP 0 dM_0 rfl in_X8_newState_X8 3 rfl (by decide) (by decide +kernel) dX8_newState_100 ?_
  refine lv_iconst (v := (5 : Int32)) hx hb dX8_newState_103 (by decide) ?_
  refine lv_icmp_ne (tgt := 165) hx hb dX8_newState_104 (by decide) (fun c_13 => ?_) (fun c_13 => ?_)
  · have hF := if_e c_13 hF
    exact wb_X8_newState_165 X    x1 t0 M _ _ _ hF hP hS (lv_sub hl [1, 2, 0] rfl)
  · have hF := if_t c_13 hF
    refine lv_aload_n hx hb dX8_newState_107 rfl (lv_at hl 1 rfl) ?_
    refine lv_iconst (v := (4 : Int32)) hx hb dX8_newState_108 (by decide) ?_
    refine lv_bipush (v := (114 : Int32)) hx hb dX8_newState_109 (by decide) ?_
    refine lv_bipush (v := (101 : Int32)) hx hb dX8_newState_111 (by decide) ?_
    refine lv_bipush (v := (109 : Int32)) hx hb dX8_newState_113 (by decide) ?_
    refine lv_bipush (v := (101 : Int32)) hx hb dX8_newState_115 (by decide) ?_
    refine lv_bipush (v := (109 : Int32)) hx hb dX8_newState_117 (by decide) ?_
    refine lv_bipush (v := (98 : Int32)) hx hb dX8_newState_119 (by decide) ?_
    obtain ⟨r_1, hc_2, hF⟩ := bd_c hF
    refine wd_calli X hP hS [.int (4 : Int32), .int (114 : Int32), .int (101 : Int32), .int (109 : Int32), .int (101 : Int32), .int (109 : Int32), .int (98 : Int32)] [] (c_X8_says l D cA ad X.2.2.2.2   (4 : Int32) (114 : Int32) (101 : Int32) (109 : Int32) (101 : Int32) (109 : Int32) (98 : Int32) M hc_2) (cwV 7 hts gX8_newState_X8_says rfl rfl rfl (by decide +kernel) ⟨(by show _ ≤ _; first | exact Nat.le_of_ble_eq_true rfl | (simp [headSpec, rm_X8_newState]; omega) | omega), (by show _ ≤ _; first | exact Nat.le_of_ble_eq_true rfl | (simp [headSpec, rm_X8_newState]; omega) | omega)⟩) dM_0 rfl rfl hl.1 rfl (Nat.le_of_ble_eq_true rfl) dX8_newState_121 (fun H locs hP hS => ?_)
    refine lv_if_eq (tgt := 165) hx hb dX8_newState_124 (by decide) (fun c_12 => ?_) (fun c_12 => ?_)
    · have hF := if_t c_12 hF
      exact wb_X8_newState_165 X    x1 t0 M _ _ _ hF hP hS (lv_sub hl [1, 2, 0] rfl)
    · have hF := if_e c_12 hF
      refine lv_aload_n hx hb dX8_newState_127 rfl (lv_at hl 1 rfl) ?_
      refine lv_iconst (v := (4 : Int32)) hx hb dX8_newState_128 (by decide) ?_
      obtain ⟨r_3, hc_4, hF⟩ := bd_c hF
      refine wd_calli X hP hS [.int (4 : Int32)] [] (c_X8_length l D cA ad X.2.2.2.2   (4 : Int32) M hc_4) (cwV 1 hts gX8_newState_X8_length rfl rfl rfl (by decide +kernel) ⟨(by show _ ≤ _; first | exact Nat.le_of_ble_eq_true rfl | (simp [headSpec, rm_X8_newState]; omega) | omega), (by show _ ≤ _; first | exact Nat.le_of_ble_eq_true rfl | (simp [headSpec, rm_X8_newState]; omega) | omega)⟩) dM_0 rfl rfl hl.1 rfl (Nat.le_of_ble_eq_true rfl) dX8_newState_129 (fun H locs hP hS => ?_)
      refine lv_bipush (v := (8 : Int32)) hx hb dX8_newState_132 (by decide) ?_
      refine lv_icmp_ne (tgt := 165) hx hb dX8_newState_134 (by decide) (fun c_11 => ?_) (fun c_11 => ?_)
      · have hF := if_e c_11 hF
        exact wb_X8_newState_165 X    x1 t0 M _ _ _ hF hP hS (lv_sub hl [1, 2, 0] rfl)
      · have hF := if_t c_11 hF
        refine lv_aload_n hx hb dX8_newState_137 rfl (lv_at hl 1 rfl) ?_
        refine lv_iconst (v := (4 : Int32)) hx hb dX8_newState_138 (by decide) ?_
        refine lv_bipush (v := (6 : Int32)) hx hb dX8_newState_139 (by decide) ?_
        obtain ⟨r_5, hc_6, hF⟩ := bd_c hF
        refine wd_calli X hP hS [.int (4 : Int32), .int (6 : Int32)] [] (c_X8_letter l D cA ad X.2.2.2.2   (4 : Int32) (6 : Int32) M hc_6) (cwV 2 hts gX8_newState_X8_letter rfl rfl rfl (by decide +kernel) ⟨(by show _ ≤ _; first | exact Nat.le_of_ble_eq_true rfl | (simp [headSpec, rm_X8_newState]; omega) | omega), (by show _ ≤ _; first | exact Nat.le_of_ble_eq_true rfl | (simp [headSpec, rm_X8_newState]; omega) | omega)⟩) dM_0 rfl rfl hl.1 rfl (Nat.le_of_ble_eq_true rfl) dX8_newState_141 (fun H locs hP hS => ?_)
        refine lv_bipush (v := (101 : Int32)) hx hb dX8_newState_144 (by decide) ?_
        refine lv_icmp_ne (tgt := 165) hx hb dX8_newState_146 (by decide) (fun c_10 => ?_) (fun c_10 => ?_)
        · have hF := if_e c_10 hF
          exact wb_X8_newState_165 X    x1 t0 M _ _ _ hF hP hS (lv_sub hl [1, 2, 0] rfl)
        · have hF := if_t c_10 hF
          refine lv_aload_n hx hb dX8_newState_149 rfl (lv_at hl 1 rfl) ?_
          refine lv_iconst (v := (4 : Int32)) hx hb dX8_newState_150 (by decide) ?_
          refine lv_bipush (v := (7 : Int32)) hx hb dX8_newState_151 (by decide) ?_
          obtain ⟨r_7, hc_8, hF⟩ := bd_c hF
          refine wd_calli X hP hS [.int (4 : Int32), .int (7 : Int32)] [] (c_X8_letter l D cA ad X.2.2.2.2   (4 : Int32) (7 : Int32) M hc_8) (cwV 2 hts gX8_newState_X8_letter rfl rfl rfl (by decide +kernel) ⟨(by show _ ≤ _; first | exact Nat.le_of_ble_eq_true rfl | (simp [headSpec, rm_X8_newState]; omega) | omega), (by show _ ≤ _; first | exact Nat.le_of_ble_eq_true rfl | (simp [headSpec, rm_X8_newState]; omega) | omega)⟩) dM_0 rfl rfl hl.1 rfl (Nat.le_of_ble_eq_true rfl) dX8_newState_153 (fun H locs hP hS => ?_)
          refine lv_bipush (v := (114 : Int32)) hx hb dX8_newState_156 (by decide) ?_
          refine lv_icmp_ne (tgt := 165) hx hb dX8_newState_158 (by decide) (fun c_9 => ?_) (fun c_9 => ?_)
          · have hF := if_e c_9 hF
            exact wb_X8_newState_165 X    x1 t0 M _ _ _ hF hP hS (lv_sub hl [1, 2, 0] rfl)
          · have hF := if_t c_9 hF
            refine lv_iconst (v := (1 : Int32)) hx hb dX8_newState_161 (by decide) ?_
            refine lv_goto (tgt := 166) hx hb dX8_newState_162 (by decide) ?_
            exact wb_X8_newState_166 X    x1 t0 (1 : Int32) M _ _ _ hF hP hS (lv_sub hl [1, 2, 0] rfl)
set_option maxHeartbeats 4000000 in
set_option maxRecDepth 100000 in
theorem wb_X8_newState_97 {p : Program} {l : Launch} {e : Env} {s : State} {m : MethodId} {args : Array Value} {below : List Frame} {meth : Method} {c : Code} {D : va_G} {cA : Nat → ClassId} {ad : Nat → Nat} (X : wd_X p s m args meth c cX8_newState 5 wsX8_newState RX8 (some .int) D cA ad dsM.length) {r : Int32} {M' : Mem}  (x1 : Int32) (M : Mem) (H : Heap) (locs : List Loc) (ls : Array Slot) (hF : B_X8_newState_97  x1 M = some (r, M')) (hP : wd_P D cA ad dsM M H) (hS : va_S (wd_A ad dsM.length) s.heap H locs) (hl : lv_has ls 5 [(0, .ref (ad 0)), (1, .int x1)]) : W p l e (headSpec wsX8_newState rm_X8_newState).room s m args below meth c H locs 0 0 (MQ below (wm_Qi D cA ad dsM r M') args s 0 0 (wd_A ad dsM.length)) (F0 m 97 ls []) := by
  have hx := X.1.1
  have hb := X.1.2.1
  have hts := X.1.2.2.2.2
  unfold B_X8_newState_97 at hF
  refine lv_iconst (v := (0 : Int32)) hx hb dX8_newState_97 (by decide) ?_
  exact wb_X8_newState_98 X    x1 (0 : Int32) M _ _ _ hF hP hS (lv_sub hl [0, 1] rfl)
set_option maxHeartbeats 4000000 in
set_option maxRecDepth 100000 in
theorem c_X8_newState (l : Launch) (D : va_G) (cA : Nat → ClassId) (ad : Nat → Nat) (hj : wd_inj ad dsM.length)    (M : Mem) {r : Int32} {M' : Mem} (hF : F_X8_newState M = some (r, M')) : wm_i l yX8_newState wsX8_newState rm_X8_newState D cA ad dsM M [.ref (ad 0)] r M' := by
  refine Met.ofW (cc := cX8_newState) (maxL := 5) (ret := (some .int)) (by decide) rfl ?_
  intro p e s m args below meth c s₁ B hml hv
  obtain ⟨rfl, hP, hK⟩ := hv
  have X : wd_X p s m _ meth c cX8_newState 5 wsX8_newState RX8 (some .int) D cA ad dsM.length := ⟨⟨B.exec, B.bytes, hml, findClass_of_methodNamed B.named, atoms_spec (ws := wsX8_newState) B.pre⟩, hK, B.notSynchronized, B.returns, hj⟩
  have hl := lv_entry ([.ref (ad 0)]) (n := 5) (Nat.le_of_ble_eq_true rfl)
  rw [lg_entry_eq]
  generalize (lg_sl ([.ref (ad 0)]) ++ List.replicate (5 - (lg_sl ([.ref (ad 0)])).length) Slot.unset).toArray = ls at hl ⊢
  have hl : lv_has ls 5 [(0, .ref (ad 0))] := hl
  have hS : va_S (wd_A ad dsM.length) s.heap s.heap [] := va_S.rf
  have hx := X.1.1
  have hb := X.1.2.1
  have hts := X.1.2.2.2.2
  unfold F_X8_newState at hF
  refine lv_aload_n hx hb dX8_newState_0 rfl (lv_at hl 0 rfl) ?_
  refine wd_geti X hP 0 dM_0 rfl in_X8_newState_X8 3 rfl (by decide) (by decide +kernel) dX8_newState_1 ?_
  refine lv_iconst (v := (4 : Int32)) hx hb dX8_newState_4 (by decide) ?_
  refine lv_icmp_lt (tgt := 49) hx hb dX8_newState_5 (by decide) (fun c_20 => ?_) (fun c_20 => ?_)
  · have hF := if_t c_20 hF
    refine lv_iconst (v := (-1 : Int32)) hx hb dX8_newState_49 (by decide) ?_
    cases hF
    exact wd_reti X hP hS rfl rfl dX8_newState_50
  · have hF := if_e c_20 hF
    refine lv_aload_n hx hb dX8_newState_8 rfl (lv_at hl 0 rfl) ?_
    refine wd_geti X hP 0 dM_0 rfl in_X8_newState_X8 3 rfl (by decide) (by decide +kernel) dX8_newState_9 ?_
    refine lv_iconst (v := (5 : Int32)) hx hb dX8_newState_12 (by decide) ?_
    refine lv_icmp_gt (tgt := 49) hx hb dX8_newState_13 (by decide) (fun c_19 => ?_) (fun c_19 => ?_)
    · have hF := if_t c_19 hF
      refine lv_iconst (v := (-1 : Int32)) hx hb dX8_newState_49 (by decide) ?_
      cases hF
      exact wd_reti X hP hS rfl rfl dX8_newState_50
    · have hF := if_e c_19 hF
      refine lv_aload_n hx hb dX8_newState_16 rfl (lv_at hl 0 rfl) ?_
      refine lv_iconst (v := (1 : Int32)) hx hb dX8_newState_17 (by decide) ?_
      refine lv_iconst (v := (4 : Int32)) hx hb dX8_newState_18 (by decide) ?_
      obtain ⟨r_1, hc_2, hF⟩ := bd_c hF
      refine wd_calli X hP hS [.int (1 : Int32), .int (4 : Int32)] [] (c_X8_isWord l D cA ad X.2.2.2.2   (1 : Int32) (4 : Int32) M hc_2) (cwV 2 hts gX8_newState_X8_isWord rfl rfl rfl (by decide +kernel) ⟨(by show _ ≤ _; first | exact Nat.le_of_ble_eq_true rfl | (simp [headSpec, rm_X8_newState]; omega) | omega), (by show _ ≤ _; first | exact Nat.le_of_ble_eq_true rfl | (simp [headSpec, rm_X8_newState]; omega) | omega)⟩) dM_0 rfl rfl hl.1 rfl (Nat.le_of_ble_eq_true rfl) dX8_newState_19 (fun H locs hP hS => ?_)
      refine lv_if_eq (tgt := 49) hx hb dX8_newState_22 (by decide) (fun c_18 => ?_) (fun c_18 => ?_)
      · have hF := if_t c_18 hF
        refine lv_iconst (v := (-1 : Int32)) hx hb dX8_newState_49 (by decide) ?_
        cases hF
        exact wd_reti X hP hS rfl rfl dX8_newState_50
      · have hF := if_e c_18 hF
        refine lv_aload_n hx hb dX8_newState_25 rfl (lv_at hl 0 rfl) ?_
        refine lv_iconst (v := (1 : Int32)) hx hb dX8_newState_26 (by decide) ?_
        obtain ⟨r_3, hc_4, hF⟩ := bd_c hF
        refine wd_calli X hP hS [.int (1 : Int32)] [] (c_X8_stateOf l D cA ad X.2.2.2.2   (1 : Int32) M hc_4) (cwV 1 hts gX8_newState_X8_stateOf rfl rfl rfl (by decide +kernel) ⟨(by show _ ≤ _; first | exact Nat.le_of_ble_eq_true rfl | (simp [headSpec, rm_X8_newState]; omega) | omega), (by show _ ≤ _; first | exact Nat.le_of_ble_eq_true rfl | (simp [headSpec, rm_X8_newState]; omega) | omega)⟩) dM_0 rfl rfl hl.1 rfl (Nat.le_of_ble_eq_true rfl) dX8_newState_27 (fun H locs hP hS => ?_)
        refine lv_if_ge (tgt := 49) hx hb dX8_newState_30 (by decide) (fun c_17 => ?_) (fun c_17 => ?_)
        · have hF := if_t c_17 hF
          refine lv_iconst (v := (-1 : Int32)) hx hb dX8_newState_49 (by decide) ?_
          cases hF
          exact wd_reti X hP hS rfl rfl dX8_newState_50
        · have hF := if_e c_17 hF
          refine lv_aload_n hx hb dX8_newState_33 rfl (lv_at hl 0 rfl) ?_
          refine lv_iconst (v := (2 : Int32)) hx hb dX8_newState_34 (by decide) ?_
          refine lv_bipush (v := (105 : Int32)) hx hb dX8_newState_35 (by decide) ?_
          refine lv_bipush (v := (110 : Int32)) hx hb dX8_newState_37 (by decide) ?_
          refine lv_iconst (v := (0 : Int32)) hx hb dX8_newState_39 (by decide) ?_
          refine lv_iconst (v := (0 : Int32)) hx hb dX8_newState_40 (by decide) ?_
          refine lv_iconst (v := (0 : Int32)) hx hb dX8_newState_41 (by decide) ?_
          refine lv_iconst (v := (0 : Int32)) hx hb dX8_newState_42 (by decide) ?_
          obtain ⟨r_5, hc_6, hF⟩ := bd_c hF
          refine wd_calli X hP hS [.int (2 : Int32), .int (105 : Int32), .int (110 : Int32), .int (0 : Int32), .int (0 : Int32), .int (0 : Int32), .int (0 : Int32)] [] (c_X8_says l D cA ad X.2.2.2.2   (2 : Int32) (105 : Int32) (110 : Int32) (0 : Int32) (0 : Int32) (0 : Int32) (0 : Int32) M hc_6) (cwV 7 hts gX8_newState_X8_says rfl rfl rfl (by decide +kernel) ⟨(by show _ ≤ _; first | exact Nat.le_of_ble_eq_true rfl | (simp [headSpec, rm_X8_newState]; omega) | omega), (by show _ ≤ _; first | exact Nat.le_of_ble_eq_true rfl | (simp [headSpec, rm_X8_newState]; omega) | omega)⟩) dM_0 rfl rfl hl.1 rfl (Nat.le_of_ble_eq_true rfl) dX8_newState_43 (fun H locs hP hS => ?_)
          refine lv_if_ne (tgt := 51) hx hb dX8_newState_46 (by decide) (fun c_16 => ?_) (fun c_16 => ?_)
          · have hF := if_e c_16 hF
            refine lv_aload_n hx hb dX8_newState_51 rfl (lv_at hl 0 rfl) ?_
            refine lv_iconst (v := (3 : Int32)) hx hb dX8_newState_52 (by decide) ?_
            obtain ⟨r_7, hc_8, hF⟩ := bd_c hF
            refine wd_calli X hP hS [.int (3 : Int32)] [] (c_X8_stateOf l D cA ad X.2.2.2.2   (3 : Int32) M hc_8) (cwV 1 hts gX8_newState_X8_stateOf rfl rfl rfl (by decide +kernel) ⟨(by show _ ≤ _; first | exact Nat.le_of_ble_eq_true rfl | (simp [headSpec, rm_X8_newState]; omega) | omega), (by show _ ≤ _; first | exact Nat.le_of_ble_eq_true rfl | (simp [headSpec, rm_X8_newState]; omega) | omega)⟩) dM_0 rfl rfl hl.1 rfl (Nat.le_of_ble_eq_true rfl) dX8_newState_53 (fun H locs hP hS => ?_)
            refine lv_istore_n (lv' := [(1, .int r_7), (0, .ref (ad 0))]) hx hb dX8_newState_56 rfl hl (by decide) rfl (fun ls hl => ?_)
            refine lv_aload_n hx hb dX8_newState_57 rfl (lv_at hl 1 rfl) ?_
            refine wd_geti X hP 0 dM_0 rfl in_X8_newState_X8 3 rfl (by decide) (by decide +kernel) dX8_newState_58 ?_
            refine lv_iconst (v := (5 : Int32)) hx hb dX8_newState_61 (by decide) ?_
            refine lv_icmp_ne (tgt := 97) hx hb dX8_newState_62 (by decide) (fun c_15 => ?_) (fun c_15 => ?_)
            · have hF := if_e c_15 hF
              exact wb_X8_newState_97 X    r_7 M _ _ _ hF hP hS (lv_sub hl [1, 0] rfl)
            · have hF := if_t c_15 hF
              refine lv_aload_n hx hb dX8_newState_65 rfl (lv_at hl 1 rfl) ?_
              refine lv_iconst (v := (4 : Int32)) hx hb dX8_newState_66 (by decide) ?_
              refine lv_bipush (v := (119 : Int32)) hx hb dX8_newState_67 (by decide) ?_
              refine lv_bipush (v := (104 : Int32)) hx hb dX8_newState_69 (by decide) ?_
              refine lv_bipush (v := (111 : Int32)) hx hb dX8_newState_71 (by decide) ?_
              refine lv_bipush (v := (108 : Int32)) hx hb dX8_newState_73 (by decide) ?_
              refine lv_bipush (v := (101 : Int32)) hx hb dX8_newState_75 (by decide) ?_
              refine lv_iconst (v := (0 : Int32)) hx hb dX8_newState_77 (by decide) ?_
              obtain ⟨r_9, hc_10, hF⟩ := bd_c hF
              refine wd_calli X hP hS [.int (4 : Int32), .int (119 : Int32), .int (104 : Int32), .int (111 : Int32), .int (108 : Int32), .int (101 : Int32), .int (0 : Int32)] [] (c_X8_says l D cA ad X.2.2.2.2   (4 : Int32) (119 : Int32) (104 : Int32) (111 : Int32) (108 : Int32) (101 : Int32) (0 : Int32) M hc_10) (cwV 7 hts gX8_newState_X8_says rfl rfl rfl (by decide +kernel) ⟨(by show _ ≤ _; first | exact Nat.le_of_ble_eq_true rfl | (simp [headSpec, rm_X8_newState]; omega) | omega), (by show _ ≤ _; first | exact Nat.le_of_ble_eq_true rfl | (simp [headSpec, rm_X8_newState]; omega) | omega)⟩) dM_0 rfl rfl hl.1 rfl (Nat.le_of_ble_eq_true rfl) dX8_newState_78 (fun H locs hP hS => ?_)
              refine lv_if_eq (tgt := 97) hx hb dX8_newState_81 (by decide) (fun c_14 => ?_) (fun c_14 => ?_)
              · have hF := if_t c_14 hF
                exact wb_X8_newState_97 X    r_7 M _ _ _ hF hP hS (lv_sub hl [1, 0] rfl)
              · have hF := if_e c_14 hF
                refine lv_aload_n hx hb dX8_newState_84 rfl (lv_at hl 1 rfl) ?_
                refine lv_iconst (v := (4 : Int32)) hx hb dX8_newState_85 (by decide) ?_
                obtain ⟨r_11, hc_12, hF⟩ := bd_c hF
                refine wd_calli X hP hS [.int (4 : Int32)] [] (c_X8_length l D cA ad X.2.2.2.2   (4 : Int32) M hc_12) (cwV 1 hts gX8_newState_X8_length rfl rfl rfl (by decide +kernel) ⟨(by show _ ≤ _; first | exact Nat.le_of_ble_eq_true rfl | (simp [headSpec, rm_X8_newState]; omega) | omega), (by show _ ≤ _; first | exact Nat.le_of_ble_eq_true rfl | (simp [headSpec, rm_X8_newState]; omega) | omega)⟩) dM_0 rfl rfl hl.1 rfl (Nat.le_of_ble_eq_true rfl) dX8_newState_86 (fun H locs hP hS => ?_)
                refine lv_iconst (v := (5 : Int32)) hx hb dX8_newState_89 (by decide) ?_
                refine lv_icmp_ne (tgt := 97) hx hb dX8_newState_90 (by decide) (fun c_13 => ?_) (fun c_13 => ?_)
                · have hF := if_e c_13 hF
                  exact wb_X8_newState_97 X    r_7 M _ _ _ hF hP hS (lv_sub hl [1, 0] rfl)
                · have hF := if_t c_13 hF
                  refine lv_iconst (v := (1 : Int32)) hx hb dX8_newState_93 (by decide) ?_
                  refine lv_goto (tgt := 98) hx hb dX8_newState_94 (by decide) ?_
                  exact wb_X8_newState_98 X    r_7 (1 : Int32) M _ _ _ hF hP hS (lv_sub hl [1, 0] rfl)
          · have hF := if_t c_16 hF
            refine lv_iconst (v := (-1 : Int32)) hx hb dX8_newState_49 (by decide) ?_
            cases hF
            exact wd_reti X hP hS rfl rfl dX8_newState_50
