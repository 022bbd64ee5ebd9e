/-! X3_findEvent (I)I -/
theorem in_X3_findEvent_X3 : ∀ w ∈ u_ws RX3 TX3 10, w ∈ wsX3_findEvent := by decide +kernel
set_option maxHeartbeats 4000000 in
set_option maxRecDepth 100000 in
theorem wb_X3_findEvent_2 {p : Program} {l : Launch} {e : Env} {s : State} {m : MethodId} {args : Array Value} {below : List Frame} {meth : Method} {c : Code} {D : va_G} {cA : Nat → ClassId} {ad : Nat → Nat} (X : wd_X p s m args meth c cX3_findEvent 3 wsX3_findEvent RX3 (some .int) D cA ad dsC.length) {kh2 : Int32 → Int32 → Option Int32} {M : Mem} {r : Int32} (hk2 : ∀ (x1 : Int32) (x2 : Int32) (H : Heap) (locs : List Loc) (ls : Array Slot), kh2 x1 x2 = some r → wd_P D cA ad dsC M H → va_S (wd_A ad dsC.length) s.heap H locs → lv_has ls 3 [(0, .ref (ad 18)), (1, .int x1), (2, .int x2)] → W p l e (headSpec wsX3_findEvent rm_X3_findEvent).room s m args below meth c H locs 0 0 (MQ below (wm_Qi D cA ad dsC r M) args s 0 0 (wd_A ad dsC.length)) (F0 m 2 ls [])) (x1 : Int32) (x2 : Int32) (H : Heap) (locs : List Loc) (ls : Array Slot) (hF : B_X3_findEvent_2 kh2 M x1 x2 = some r) (hP : wd_P D cA ad dsC M H) (hS : va_S (wd_A ad dsC.length) s.heap H locs) (hl : lv_has ls 3 [(0, .ref (ad 18)), (1, .int x1), (2, .int x2)]) : W p l e (headSpec wsX3_findEvent rm_X3_findEvent).room s m args below meth c H locs 0 0 (MQ below (wm_Qi D cA ad dsC r M) args s 0 0 (wd_A ad dsC.length)) (F0 m 2 ls []) := by
  have hx := X.1.1
  have hb := X.1.2.1
  have hts := X.1.2.2.2.2
  unfold B_X3_findEvent_2 at hF
  refine lv_iload_n hx hb dX3_findEvent_2 rfl (lv_at hl 2 rfl) ?_
  refine lv_aload_n hx hb dX3_findEvent_3 rfl (lv_at hl 0 rfl) ?_
  refine wd_geti X hP 18 dC_18 rfl in_X3_findEvent_X3 9 rfl (by decide) (by decide +kernel) dX3_findEvent_4 ?_
  refine lv_icmp_ge (tgt := 28) hx hb dX3_findEvent_7 (by decide) (fun c_5 => ?_) (fun c_5 => ?_)
  · have hF := if_t c_5 hF
    refine lv_iconst (v := (-1 : Int32)) hx hb dX3_findEvent_28 (by decide) ?_
    cases hF
    exact wd_reti X hP hS rfl rfl dX3_findEvent_29
  · have hF := if_e c_5 hF
    refine lv_aload_n hx hb dX3_findEvent_10 rfl (lv_at hl 0 rfl) ?_
    refine wd_getr (q := 19) X hP 18 dC_18 rfl in_X3_findEvent_X3 0 rfl (by decide) (by decide +kernel) dX3_findEvent_11 ?_
    refine lv_iload_n hx hb dX3_findEvent_14 rfl (lv_at hl 2 rfl) ?_
    obtain ⟨h_1, hF⟩ := gi_c hF
    refine wd_ild X hP 19 dC_19 h_1 dX3_findEvent_15 ?_
    refine lv_iload_n hx hb dX3_findEvent_16 rfl (lv_at hl 1 rfl) ?_
    refine lv_icmp_ne (tgt := 22) hx hb dX3_findEvent_17 (by decide) (fun c_4 => ?_) (fun c_4 => ?_)
    · have hF := if_e c_4 hF
      obtain ⟨x2_2, e_3, hF⟩ := nm_c hF
      refine lv_iinc (v := x2_2) (lv' := [(2, .int x2_2), (0, .ref (ad 18)), (1, .int x1)]) hx hb dX3_findEvent_22 hl (k := 2) rfl (by rw [e_3]; rfl) (by decide) rfl (fun ls hl => ?_)
      refine lv_goto (tgt := 2) hx hb dX3_findEvent_25 (by decide) ?_
      exact hk2 x1 x2_2 _ _ _ hF hP hS (lv_sub hl [1, 2, 0] rfl)
    · have hF := if_t c_4 hF
      refine lv_iload_n hx hb dX3_findEvent_20 rfl (lv_at hl 2 rfl) ?_
      cases hF
      exact wd_reti X hP hS rfl rfl dX3_findEvent_21
set_option maxHeartbeats 4000000 in
set_option maxRecDepth 100000 in
theorem wh_X3_findEvent_2 {p : Program} {l : Launch} {e : Env} {s : State} {m : MethodId} {args : Array Value} {below : List Frame} {meth : Method} {c : Code} {D : va_G} {cA : Nat → ClassId} {ad : Nat → Nat} (X : wd_X p s m args meth c cX3_findEvent 3 wsX3_findEvent RX3 (some .int) D cA ad dsC.length) {M : Mem} {r : Int32}  : ∀ (n : Nat) (x1 : Int32) (x2 : Int32) (H : Heap) (locs : List Loc) (ls : Array Slot), H_X3_findEvent_2 M n x1 x2 = some r → wd_P D cA ad dsC M H → va_S (wd_A ad dsC.length) s.heap H locs → lv_has ls 3 [(0, .ref (ad 18)), (1, .int x1), (2, .int x2)] → W p l e (headSpec wsX3_findEvent rm_X3_findEvent).room s m args below meth c H locs 0 0 (MQ below (wm_Qi D cA ad dsC r M) args s 0 0 (wd_A ad dsC.length)) (F0 m 2 ls []) := by
  intro n
  induction n with
  | zero => intro x1 x2 H locs ls hF; cases hF
  | succ n ih => intro x1 x2 H locs ls hF hP hS hl; exact wb_X3_findEvent_2 X (kh2 := H_X3_findEvent_2 M n) ih x1 x2 H locs ls hF hP hS hl
set_option maxHeartbeats 4000000 in
set_option maxRecDepth 100000 in
theorem c_X3_findEvent (l : Launch) (D : va_G) (cA : Nat → ClassId) (ad : Nat → Nat) (hj : wd_inj ad dsC.length)   (x1 : Int32) (M : Mem) {r : Int32} (hF : F_X3_findEvent x1 M = some r) : wm_i l yX3_findEvent wsX3_findEvent rm_X3_findEvent D cA ad dsC M [.ref (ad 18), .int x1] r M := by
  refine Met.ofW (cc := cX3_findEvent) (maxL := 3) (ret := (some .int)) (by decide) rfl ?_
  intro p e s m args below meth c s₁ B hml hv
  obtain ⟨rfl, hP, hK⟩ := hv
  have X : wd_X p s m _ meth c cX3_findEvent 3 wsX3_findEvent RX3 (some .int) D cA ad dsC.length := ⟨⟨B.exec, B.bytes, hml, findClass_of_methodNamed B.named, atoms_spec (ws := wsX3_findEvent) B.pre⟩, hK, B.notSynchronized, B.returns, hj⟩
  have hl := lv_entry ([.ref (ad 18), .int x1]) (n := 3) (Nat.le_of_ble_eq_true rfl)
  rw [lg_entry_eq]
  generalize (lg_sl ([.ref (ad 18), .int x1]) ++ List.replicate (3 - (lg_sl ([.ref (ad 18), .int x1])).length) Slot.unset).toArray = ls at hl ⊢
  have hl : lv_has ls 3 [(0, .ref (ad 18)), (1, .int x1)] := hl
  have hS : va_S (wd_A ad dsC.length) s.heap s.heap [] := va_S.rf
  have hx := X.1.1
  have hb := X.1.2.1
  have hts := X.1.2.2.2.2
  unfold F_X3_findEvent at hF
  refine lv_iconst (v := (0 : Int32)) hx hb dX3_findEvent_0 (by decide) ?_
  refine lv_istore_n (lv' := [(2, .int (0 : Int32)), (0, .ref (ad 18)), (1, .int x1)]) hx hb dX3_findEvent_1 rfl hl (by decide) rfl (fun ls hl => ?_)
  exact wh_X3_findEvent_2 X    100 x1 (0 : Int32) _ _ _ hF hP hS (lv_sub hl [1, 2, 0] rfl)
/-! X3_hasRoom (I)Z -/
theorem in_X3_hasRoom_X3 : ∀ w ∈ u_ws RX3 TX3 10, w ∈ wsX3_hasRoom := by decide +kernel
set_option maxHeartbeats 4000000 in
set_option maxRecDepth 100000 in
theorem wb_X3_hasRoom_27 {p : Program} {l : Launch} {e : Env} {s : State} {m : MethodId} {args : Array Value} {below : List Frame} {meth : Method} {c : Code} {D : va_G} {cA : Nat → ClassId} {ad : Nat → Nat} (X : wd_X p s m args meth c cX3_hasRoom 2 wsX3_hasRoom RX3 (some .boolean) D cA ad dsC.length) {M : Mem} {r : Int32}   (H : Heap) (locs : List Loc) (ls : Array Slot) (hF : B_X3_hasRoom_27 M  = some r) (hP : wd_P D cA ad dsC M H) (hS : va_S (wd_A ad dsC.length) s.heap H locs) (hl : lv_has ls 2 []) : W p l e (headSpec wsX3_hasRoom rm_X3_hasRoom).room s m args below meth c H locs 0 0 (MQ below (wm_Qi D cA ad dsC r M) args s 0 0 (wd_A ad dsC.length)) (F0 m 27 ls []) := by
  have hx := X.1.1
  have hb := X.1.2.1
  have hts := X.1.2.2.2.2
  unfold B_X3_hasRoom_27 at hF
  refine lv_iconst (v := (1 : Int32)) hx hb dX3_hasRoom_27 (by decide) ?_
  refine lv_goto (tgt := 32) hx hb dX3_hasRoom_28 (by decide) ?_
  cases hF
  exact wd_reti X hP hS rfl (by decide) dX3_hasRoom_32
set_option maxHeartbeats 4000000 in
set_option maxRecDepth 100000 in
theorem c_X3_hasRoom (l : Launch) (D : va_G) (cA : Nat → ClassId) (ad : Nat → Nat) (hj : wd_inj ad dsC.length)   (x1 : Int32) (M : Mem) {r : Int32} (hF : F_X3_hasRoom x1 M = some r) : wm_i l yX3_hasRoom wsX3_hasRoom rm_X3_hasRoom D cA ad dsC M [.ref (ad 18), .int x1] r M := by
  refine Met.ofW (cc := cX3_hasRoom) (maxL := 2) (ret := (some .boolean)) (by decide) rfl ?_
  intro p e s m args below meth c s₁ B hml hv
  obtain ⟨rfl, hP, hK⟩ := hv
  have X : wd_X p s m _ meth c cX3_hasRoom 2 wsX3_hasRoom RX3 (some .boolean) D cA ad dsC.length := ⟨⟨B.exec, B.bytes, hml, findClass_of_methodNamed B.named, atoms_spec (ws := wsX3_hasRoom) B.pre⟩, hK, B.notSynchronized, B.returns, hj⟩
  have hl := lv_entry ([.ref (ad 18), .int x1]) (n := 2) (Nat.le_of_ble_eq_true rfl)
  rw [lg_entry_eq]
  generalize (lg_sl ([.ref (ad 18), .int x1]) ++ List.replicate (2 - (lg_sl ([.ref (ad 18), .int x1])).length) Slot.unset).toArray = ls at hl ⊢
  have hl : lv_has ls 2 [(0, .ref (ad 18)), (1, .int x1)] := hl
  have hS : va_S (wd_A ad dsC.length) s.heap s.heap [] := va_S.rf
  have hx := X.1.1
  have hb := X.1.2.1
  have hts := X.1.2.2.2.2
  unfold F_X3_hasRoom at hF
  refine lv_aload_n hx hb dX3_hasRoom_0 rfl (lv_at hl 0 rfl) ?_
  refine wd_geti X hP 18 dC_18 rfl in_X3_hasRoom_X3 8 rfl (by decide) (by decide +kernel) dX3_hasRoom_1 ?_
  refine lv_bipush (v := (20 : Int32)) hx hb dX3_hasRoom_4 (by decide) ?_
  refine lv_icmp_ge (tgt := 31) hx hb dX3_hasRoom_6 (by decide) (fun c_5 => ?_) (fun c_5 => ?_)
  · have hF := if_t c_5 hF
    refine lv_iconst (v := (0 : Int32)) hx hb dX3_hasRoom_31 (by decide) ?_
    cases hF
    exact wd_reti X hP hS rfl (by decide) dX3_hasRoom_32
  · have hF := if_e c_5 hF
    refine lv_aload_n hx hb dX3_hasRoom_9 rfl (lv_at hl 0 rfl) ?_
    refine wd_geti X hP 18 dC_18 rfl in_X3_hasRoom_X3 9 rfl (by decide) (by decide +kernel) dX3_hasRoom_10 ?_
    refine lv_bipush (v := (6 : Int32)) hx hb dX3_hasRoom_13 (by decide) ?_
    refine lv_icmp_lt (tgt := 27) hx hb dX3_hasRoom_15 (by decide) (fun c_4 => ?_) (fun c_4 => ?_)
    · have hF := if_t c_4 hF
      exact wb_X3_hasRoom_27 X     _ _ _ hF hP hS (lv_sub hl [] rfl)
    · have hF := if_e c_4 hF
      refine lv_aload_n hx hb dX3_hasRoom_18 rfl (lv_at hl 0 rfl) ?_
      refine lv_iload_n hx hb dX3_hasRoom_19 rfl (lv_at hl 1 rfl) ?_
      obtain ⟨r_1, hc_2, hF⟩ := bd_c hF
      refine wd_calli X hP hS [.int x1] [] (c_X3_findEvent l D cA ad X.2.2.2.2   x1 M hc_2) (cwV 1 hts gX3_hasRoom_X3_findEvent rfl rfl rfl (by decide +kernel) ⟨(by show _ ≤ _; first | exact Nat.le_of_ble_eq_true rfl | (simp [headSpec, rm_X3_hasRoom]; omega) | omega), (by show _ ≤ _; first | exact Nat.le_of_ble_eq_true rfl | (simp [headSpec, rm_X3_hasRoom]; omega) | omega)⟩) dC_18 rfl rfl hl.1 rfl (Nat.le_of_ble_eq_true rfl) dX3_hasRoom_20 (fun H locs hP hS => ?_)
      refine lv_iconst (v := (-1 : Int32)) hx hb dX3_hasRoom_23 (by decide) ?_
      refine lv_icmp_eq (tgt := 31) hx hb dX3_hasRoom_24 (by decide) (fun c_3 => ?_) (fun c_3 => ?_)
      · have hF := if_t c_3 hF
        refine lv_iconst (v := (0 : Int32)) hx hb dX3_hasRoom_31 (by decide) ?_
        cases hF
        exact wd_reti X hP hS rfl (by decide) dX3_hasRoom_32
      · have hF := if_e c_3 hF
        exact wb_X3_hasRoom_27 X     _ _ _ hF hP hS (lv_sub hl [] rfl)
/-! X3_make (IIIIIZ)V -/
theorem in_X3_make_X3 : ∀ w ∈ u_ws RX3 TX3 10, w ∈ wsX3_make := by decide +kernel
set_option maxHeartbeats 4000000 in
set_option maxRecDepth 100000 in
theorem wb_X3_make_48 {p : Program} {l : Launch} {e : Env} {s : State} {m : MethodId} {args : Array Value} {below : List Frame} {meth : Method} {c : Code} {D : va_G} {cA : Nat → ClassId} {ad : Nat → Nat} (X : wd_X p s m args meth c cX3_make 8 wsX3_make RX3 none D cA ad dsC.length) {M' : Mem}  (x2 : Int32) (x3 : Int32) (x4 : Int32) (x5 : Int32) (x6 : Int32) (x7 : Int32) (M : Mem) (H : Heap) (locs : List Loc) (ls : Array Slot) (hF : B_X3_make_48  x2 x3 x4 x5 x6 x7 M = some M') (hP : wd_P D cA ad dsC M H) (hS : va_S (wd_A ad dsC.length) s.heap H locs) (hl : lv_has ls 8 [(0, .ref (ad 18)), (2, .int x2), (3, .int x3), (4, .int x4), (5, .int x5), (6, .int x6), (7, .int x7)]) : W p l e (headSpec wsX3_make rm_X3_make).room s m args below meth c H locs 0 0 (MQ below (wm_Qv D cA ad dsC M') args s 0 0 (wd_A ad dsC.length)) (F0 m 48 ls []) := by
  have hx := X.1.1
  have hb := X.1.2.1
  have hts := X.1.2.2.2.2
  unfold B_X3_make_48 at hF
  refine lv_aload_n hx hb dX3_make_48 rfl (lv_at hl 0 rfl) ?_
  refine wd_getr (q := 20) X hP 18 dC_18 rfl in_X3_make_X3 1 rfl (by decide) (by decide +kernel) dX3_make_49 ?_
  refine lv_aload_n hx hb dX3_make_52 rfl (lv_at hl 0 rfl) ?_
  refine wd_geti X hP 18 dC_18 rfl in_X3_make_X3 8 rfl (by decide) (by decide +kernel) dX3_make_53 ?_
  refine lv_iload hx hb dX3_make_56 (lv_at hl 6 rfl) ?_
  obtain ⟨h_1, hF⟩ := gi_c hF
  obtain ⟨M_2, e_3, hF⟩ := wr_c hF
  refine wd_ist X hP hS 20 dC_20 h_1 dX3_make_58 (fun H locs hP hS => ?_)
  rw [← e_3] at hP
  refine lv_aload_n hx hb dX3_make_59 rfl (lv_at hl 0 rfl) ?_
  refine wd_getr (q := 21) X hP 18 dC_18 rfl in_X3_make_X3 2 rfl (by decide) (by decide +kernel) dX3_make_60 ?_
  refine lv_aload_n hx hb dX3_make_63 rfl (lv_at hl 0 rfl) ?_
  refine wd_geti X hP 18 dC_18 rfl in_X3_make_X3 8 rfl (by decide) (by decide +kernel) dX3_make_64 ?_
  refine lv_iload_n hx hb dX3_make_67 rfl (lv_at hl 1 rfl) ?_
  obtain ⟨h_4, hF⟩ := gi_c hF
  obtain ⟨M_5, e_6, hF⟩ := wr_c hF
  refine wd_ist X hP hS 21 dC_21 h_4 dX3_make_68 (fun H locs hP hS => ?_)
  rw [← e_6] at hP
  refine lv_aload_n hx hb dX3_make_69 rfl (lv_at hl 0 rfl) ?_
  refine wd_getr (q := 22) X hP 18 dC_18 rfl in_X3_make_X3 3 rfl (by decide) (by decide +kernel) dX3_make_70 ?_
  refine lv_aload_n hx hb dX3_make_73 rfl (lv_at hl 0 rfl) ?_
  refine wd_geti X hP 18 dC_18 rfl in_X3_make_X3 8 rfl (by decide) (by decide +kernel) dX3_make_74 ?_
  refine lv_iload_n hx hb dX3_make_77 rfl (lv_at hl 2 rfl) ?_
  obtain ⟨h_7, hF⟩ := gi_c hF
  obtain ⟨M_8, e_9, hF⟩ := wr_c hF
  refine wd_ist X hP hS 22 dC_22 h_7 dX3_make_78 (fun H locs hP hS => ?_)
  rw [← e_9] at hP
  refine lv_aload_n hx hb dX3_make_79 rfl (lv_at hl 0 rfl) ?_
  refine wd_getr (q := 23) X hP 18 dC_18 rfl in_X3_make_X3 4 rfl (by decide) (by decide +kernel) dX3_make_80 ?_
  refine lv_aload_n hx hb dX3_make_83 rfl (lv_at hl 0 rfl) ?_
  refine wd_geti X hP 18 dC_18 rfl in_X3_make_X3 8 rfl (by decide) (by decide +kernel) dX3_make_84 ?_
  refine lv_iload hx hb dX3_make_87 (lv_at hl 3 rfl) ?_
  obtain ⟨h_10, hF⟩ := gi_c hF
  obtain ⟨M_11, e_12, hF⟩ := wr_c hF
  refine wd_ist X hP hS 23 dC_23 h_10 dX3_make_89 (fun H locs hP hS => ?_)
  rw [← e_12] at hP
  refine lv_aload_n hx hb dX3_make_90 rfl (lv_at hl 0 rfl) ?_
  refine wd_getr (q := 24) X hP 18 dC_18 rfl in_X3_make_X3 5 rfl (by decide) (by decide +kernel) dX3_make_91 ?_
  refine lv_aload_n hx hb dX3_make_94 rfl (lv_at hl 0 rfl) ?_
  refine wd_geti X hP 18 dC_18 rfl in_X3_make_X3 8 rfl (by decide) (by decide +kernel) dX3_make_95 ?_
  refine lv_iload hx hb dX3_make_98 (lv_at hl 4 rfl) ?_
  obtain ⟨h_13, hF⟩ := gi_c hF
  obtain ⟨M_14, e_15, hF⟩ := wr_c hF
  refine wd_ist X hP hS 24 dC_24 h_13 dX3_make_100 (fun H locs hP hS => ?_)
  rw [← e_15] at hP
  refine lv_aload_n hx hb dX3_make_101 rfl (lv_at hl 0 rfl) ?_
  refine wd_getr (q := 25) X hP 18 dC_18 rfl in_X3_make_X3 6 rfl (by decide) (by decide +kernel) dX3_make_102 ?_
  refine lv_aload_n hx hb dX3_make_105 rfl (lv_at hl 0 rfl) ?_
  refine wd_geti X hP 18 dC_18 rfl in_X3_make_X3 8 rfl (by decide) (by decide +kernel) dX3_make_106 ?_
  refine lv_iload hx hb dX3_make_109 (lv_at hl 5 rfl) ?_
  obtain ⟨h_16, hF⟩ := gi_c hF
  obtain ⟨M_17, e_18, hF⟩ := wr_c hF
  refine wd_zst X hP hS 25 dC_25 h_16 dX3_make_111 (fun H locs hP hS => ?_)
  rw [← e_18] at hP
  refine lv_aload_n hx hb dX3_make_112 rfl (lv_at hl 0 rfl) ?_
  refine lv_dup hx hb dX3_make_113 rfl ?_
  refine wd_geti X hP 18 dC_18 rfl in_X3_make_X3 8 rfl (by decide) (by decide +kernel) dX3_make_114 ?_
  refine lv_iconst (v := (1 : Int32)) hx hb dX3_make_117 (by decide) ?_
  refine lv_iadd hx hb dX3_make_118 ?_
  obtain ⟨M_19, e_20, hF⟩ := wr_c hF
  refine wd_puti X hP hS 18 dC_18 rfl in_X3_make_X3 tyX3_ok nmX3 8 rfl (by decide) rfl rfl (by decide +kernel) dX3_make_119 (fun H locs hP hS => ?_)
  rw [← e_20] at hP
  cases hF
  exact wd_retv X hP hS dX3_make_122
set_option maxHeartbeats 4000000 in
set_option maxRecDepth 100000 in
theorem c_X3_make (l : Launch) (D : va_G) (cA : Nat → ClassId) (ad : Nat → Nat) (hj : wd_inj ad dsC.length)   (x1 : Int32) (x2 : Int32) (x3 : Int32) (x4 : Int32) (x5 : Int32) (x6 : Int32) (M : Mem) {M' : Mem} (hF : F_X3_make x1 x2 x3 x4 x5 x6 M = some M') : wm_v l yX3_make wsX3_make rm_X3_make D cA ad dsC M [.ref (ad 18), .int x1, .int x2, .int x3, .int x4, .int x5, .int x6] M' := by
  refine Met.ofW (cc := cX3_make) (maxL := 8) (ret := none) (by decide) rfl ?_
  intro p e s m args below meth c s₁ B hml hv
  obtain ⟨rfl, hP, hK⟩ := hv
  have X : wd_X p s m _ meth c cX3_make 8 wsX3_make RX3 none D cA ad dsC.length := ⟨⟨B.exec, B.bytes, hml, findClass_of_methodNamed B.named, atoms_spec (ws := wsX3_make) B.pre⟩, hK, B.notSynchronized, B.returns, hj⟩
  have hl := lv_entry ([.ref (ad 18), .int x1, .int x2, .int x3, .int x4, .int x5, .int x6]) (n := 8) (Nat.le_of_ble_eq_true rfl)
  rw [lg_entry_eq]
  generalize (lg_sl ([.ref (ad 18), .int x1, .int x2, .int x3, .int x4, .int x5, .int x6]) ++ List.replicate (8 - (lg_sl ([.ref (ad 18), .int x1, .int x2, .int x3, .int x4, .int x5, .int x6])).length) Slot.unset).toArray = ls at hl ⊢
  have hl : lv_has ls 8 [(0, .ref (ad 18)), (1, .int x1), (2, .int x2), (3, .int x3), (4, .int x4), (5, .int x5), (6, .int x6)] := hl
  have hS : va_S (wd_A ad dsC.length) s.heap s.heap [] := va_S.rf
  have hx := X.1.1
  have hb := X.1.2.1
  have hts := X.1.2.2.2.2
  unfold F_X3_make at hF
  refine lv_aload_n hx hb dX3_make_0 rfl (lv_at hl 0 rfl) ?_
  refine lv_iload_n hx hb dX3_make_1 rfl (lv_at hl 1 rfl) ?_
  obtain ⟨r_1, hc_2, hF⟩ := bd_c hF
  refine wd_calli X hP hS [.int x1] [] (c_X3_hasRoom l D cA ad X.2.2.2.2   x1 M hc_2) (cwV 1 hts gX3_make_X3_hasRoom rfl rfl rfl (by decide +kernel) ⟨(by show _ ≤ _; first | exact Nat.le_of_ble_eq_true rfl | (simp [headSpec, rm_X3_make]; omega) | omega), (by show _ ≤ _; first | exact Nat.le_of_ble_eq_true rfl | (simp [headSpec, rm_X3_make]; omega) | omega)⟩) dC_18 rfl rfl hl.1 rfl (Nat.le_of_ble_eq_true rfl) dX3_make_2 (fun H locs hP hS => ?_)
  refine lv_if_ne (tgt := 9) hx hb dX3_make_5 (by decide) (fun c_13 => ?_) (fun c_13 => ?_)
  · have hF := if_e c_13 hF
    refine lv_aload_n hx hb dX3_make_9 rfl (lv_at hl 0 rfl) ?_
    refine lv_iload_n hx hb dX3_make_10 rfl (lv_at hl 1 rfl) ?_
    obtain ⟨r_3, hc_4, hF⟩ := bd_c hF
    refine wd_calli X hP hS [.int x1] [] (c_X3_findEvent l D cA ad X.2.2.2.2   x1 M hc_4) (cwV 1 hts gX3_make_X3_findEvent rfl rfl rfl (by decide +kernel) ⟨(by show _ ≤ _; first | exact Nat.le_of_ble_eq_true rfl | (simp [headSpec, rm_X3_make]; omega) | omega), (by show _ ≤ _; first | exact Nat.le_of_ble_eq_true rfl | (simp [headSpec, rm_X3_make]; omega) | omega)⟩) dC_18 rfl rfl hl.1 rfl (Nat.le_of_ble_eq_true rfl) dX3_make_11 (fun H locs hP hS => ?_)
    refine lv_istore (lv' := [(7, .int r_3), (0, .ref (ad 18)), (1, .int x1), (2, .int x2), (3, .int x3), (4, .int x4), (5, .int x5), (6, .int x6)]) hx hb dX3_make_14 hl (by decide) rfl (fun ls hl => ?_)
    refine lv_iload hx hb dX3_make_16 (lv_at hl 0 rfl) ?_
    refine lv_iconst (v := (-1 : Int32)) hx hb dX3_make_18 (by decide) ?_
    refine lv_icmp_ne (tgt := 48) hx hb dX3_make_19 (by decide) (fun c_12 => ?_) (fun c_12 => ?_)
    · have hF := if_e c_12 hF
      exact wb_X3_make_48 X    x2 x3 x4 x5 x6 r_3 M _ _ _ hF hP hS (lv_sub hl [1, 3, 4, 5, 6, 7, 0] rfl)
    · have hF := if_t c_12 hF
      refine lv_aload_n hx hb dX3_make_22 rfl (lv_at hl 1 rfl) ?_
      refine wd_geti X hP 18 dC_18 rfl in_X3_make_X3 9 rfl (by decide) (by decide +kernel) dX3_make_23 ?_
      obtain ⟨x7_5, e_6, hF⟩ := nm_c hF
      refine wd_top e_6 ?_
      refine lv_istore (lv' := [(7, .int x7_5), (0, .ref (ad 18)), (1, .int x1), (2, .int x2), (3, .int x3), (4, .int x4), (5, .int x5), (6, .int x6)]) hx hb dX3_make_26 hl (by decide) rfl (fun ls hl => ?_)
      refine lv_aload_n hx hb dX3_make_28 rfl (lv_at hl 1 rfl) ?_
      refine wd_getr (q := 19) X hP 18 dC_18 rfl in_X3_make_X3 0 rfl (by decide) (by decide +kernel) dX3_make_29 ?_
      refine lv_aload_n hx hb dX3_make_32 rfl (lv_at hl 1 rfl) ?_
      refine wd_geti X hP 18 dC_18 rfl in_X3_make_X3 9 rfl (by decide) (by decide +kernel) dX3_make_33 ?_
      refine lv_iload_n hx hb dX3_make_36 rfl (lv_at hl 2 rfl) ?_
      obtain ⟨h_7, hF⟩ := gi_c hF
      obtain ⟨M_8, e_9, hF⟩ := wr_c hF
      refine wd_ist X hP hS 19 dC_19 h_7 dX3_make_37 (fun H locs hP hS => ?_)
      rw [← e_9] at hP
      refine lv_aload_n hx hb dX3_make_38 rfl (lv_at hl 1 rfl) ?_
      refine lv_dup hx hb dX3_make_39 rfl ?_
      refine wd_geti X hP 18 dC_18 rfl in_X3_make_X3 9 rfl (by decide) (by decide +kernel) dX3_make_40 ?_
      refine lv_iconst (v := (1 : Int32)) hx hb dX3_make_43 (by decide) ?_
      refine lv_iadd hx hb dX3_make_44 ?_
      obtain ⟨M_10, e_11, hF⟩ := wr_c hF
      refine wd_puti X hP hS 18 dC_18 rfl in_X3_make_X3 tyX3_ok nmX3 9 rfl (by decide) rfl rfl (by decide +kernel) dX3_make_45 (fun H locs hP hS => ?_)
      rw [← e_11] at hP
      exact wb_X3_make_48 X    x2 x3 x4 x5 x6 x7_5 M_10 _ _ _ hF hP hS (lv_sub hl [1, 3, 4, 5, 6, 7, 0] rfl)
  · have hF := if_t c_13 hF
    cases hF
    exact wd_retv X hP hS dX3_make_8
/-! X3_marks ()LChartTable$MarkRows; -/
theorem in_X3_marks_X3 : ∀ w ∈ u_ws RX3 TX3 10, w ∈ wsX3_marks := by decide +kernel
set_option maxHeartbeats 4000000 in
set_option maxRecDepth 100000 in
theorem c_X3_marks (l : Launch) (D : va_G) (cA : Nat → ClassId) (ad : Nat → Nat) (hj : wd_inj ad dsC.length) (M : Mem) : wm_r l yX3_marks wsX3_marks rm_X3_marks D cA ad dsC M [.ref (ad 18)] 26 M := by
  refine Met.ofW (cc := cX3_marks) (maxL := 1) (ret := (some (.object "ChartTable$MarkRows"))) (by decide) rfl ?_
  intro p e s m args below meth c s₁ B hml hv
  obtain ⟨rfl, hP, hK⟩ := hv
  have X : wd_X p s m _ meth c cX3_marks 1 wsX3_marks RX3 (some (.object "ChartTable$MarkRows")) D cA ad dsC.length := ⟨⟨B.exec, B.bytes, hml, findClass_of_methodNamed B.named, atoms_spec (ws := wsX3_marks) B.pre⟩, hK, B.notSynchronized, B.returns, hj⟩
  have hl := lv_entry ([.ref (ad 18)]) (n := 1) (Nat.le_of_ble_eq_true rfl)
  rw [lg_entry_eq]
  generalize (lg_sl ([.ref (ad 18)]) ++ List.replicate (1 - (lg_sl ([.ref (ad 18)])).length) Slot.unset).toArray = ls at hl ⊢
  have hl : lv_has ls 1 [(0, .ref (ad 18))] := hl
  have hS : va_S (wd_A ad dsC.length) s.heap s.heap [] := va_S.rf
  have hx := X.1.1
  have hb := X.1.2.1
  have hts := X.1.2.2.2.2
  refine lv_aload_n hx hb dX3_marks_0 rfl (lv_at hl 0 rfl) ?_
  refine wd_getr (q := 26) X hP 18 dC_18 rfl in_X3_marks_X3 7 rfl (by decide) (by decide +kernel) dX3_marks_1 ?_
  exact W.aret (v := .ref (ad 26)) hx hb X.2.2.2.1 (Or.inl ⟨_, rfl⟩) (Or.inr ⟨_, rfl⟩) (fun t ht hW => ⟨⟨M, ad 26, rfl, rfl, rfl, by show wd_P D cA ad dsC M t.heap; rw [ht]; exact hP, va_K.moved hW.alike hK⟩, hS.F ht⟩) hS.2.2 dX3_marks_4 X.2.2.1
/-! X3_made ()I -/
theorem in_X3_made_X3 : ∀ w ∈ u_ws RX3 TX3 10, w ∈ wsX3_made := by decide +kernel
set_option maxHeartbeats 4000000 in
set_option maxRecDepth 100000 in
theorem c_X3_made (l : Launch) (D : va_G) (cA : Nat → ClassId) (ad : Nat → Nat) (hj : wd_inj ad dsC.length)    (M : Mem) {r : Int32} (hF : F_X3_made M = some r) : wm_i l yX3_made wsX3_made rm_X3_made D cA ad dsC M [.ref (ad 18)] r M := by
  refine Met.ofW (cc := cX3_made) (maxL := 1) (ret := (some .int)) (by decide) rfl ?_
  intro p e s m args below meth c s₁ B hml hv
  obtain ⟨rfl, hP, hK⟩ := hv
  have X : wd_X p s m _ meth c cX3_made 1 wsX3_made RX3 (some .int) D cA ad dsC.length := ⟨⟨B.exec, B.bytes, hml, findClass_of_methodNamed B.named, atoms_spec (ws := wsX3_made) B.pre⟩, hK, B.notSynchronized, B.returns, hj⟩
  have hl := lv_entry ([.ref (ad 18)]) (n := 1) (Nat.le_of_ble_eq_true rfl)
  rw [lg_entry_eq]
  generalize (lg_sl ([.ref (ad 18)]) ++ List.replicate (1 - (lg_sl ([.ref (ad 18)])).length) Slot.unset).toArray = ls at hl ⊢
  have hl : lv_has ls 1 [(0, .ref (ad 18))] := hl
  have hS : va_S (wd_A ad dsC.length) s.heap s.heap [] := va_S.rf
  have hx := X.1.1
  have hb := X.1.2.1
  have hts := X.1.2.2.2.2
  unfold F_X3_made at hF
  refine lv_aload_n hx hb dX3_made_0 rfl (lv_at hl 0 rfl) ?_
  refine wd_geti X hP 18 dC_18 rfl in_X3_made_X3 8 rfl (by decide) (by decide +kernel) dX3_made_1 ?_
  cases hF
  exact wd_reti X hP hS rfl rfl dX3_made_4
/-! X3_events ()I -/
theorem in_X3_events_X3 : ∀ w ∈ u_ws RX3 TX3 10, w ∈ wsX3_events := by decide +kernel
set_option maxHeartbeats 4000000 in
set_option maxRecDepth 100000 in
theorem c_X3_events (l : Launch) (D : va_G) (cA : Nat → ClassId) (ad : Nat → Nat) (hj : wd_inj ad dsC.length)    (M : Mem) {r : Int32} (hF : F_X3_events M = some r) : wm_i l yX3_events wsX3_events rm_X3_events D cA ad dsC M [.ref (ad 18)] r M := by
  refine Met.ofW (cc := cX3_events) (maxL := 1) (ret := (some .int)) (by decide) rfl ?_
  intro p e s m args below meth c s₁ B hml hv
  obtain ⟨rfl, hP, hK⟩ := hv
  have X : wd_X p s m _ meth c cX3_events 1 wsX3_events RX3 (some .int) D cA ad dsC.length := ⟨⟨B.exec, B.bytes, hml, findClass_of_methodNamed B.named, atoms_spec (ws := wsX3_events) B.pre⟩, hK, B.notSynchronized, B.returns, hj⟩
  have hl := lv_entry ([.ref (ad 18)]) (n := 1) (Nat.le_of_ble_eq_true rfl)
  rw [lg_entry_eq]
  generalize (lg_sl ([.ref (ad 18)]) ++ List.replicate (1 - (lg_sl ([.ref (ad 18)])).length) Slot.unset).toArray = ls at hl ⊢
  have hl : lv_has ls 1 [(0, .ref (ad 18))] := hl
  have hS : va_S (wd_A ad dsC.length) s.heap s.heap [] := va_S.rf
  have hx := X.1.1
  have hb := X.1.2.1
  have hts := X.1.2.2.2.2
  unfold F_X3_events at hF
  refine lv_aload_n hx hb dX3_events_0 rfl (lv_at hl 0 rfl) ?_
  refine wd_geti X hP 18 dC_18 rfl in_X3_events_X3 9 rfl (by decide) (by decide +kernel) dX3_events_1 ?_
  cases hF
  exact wd_reti X hP hS rfl rfl dX3_events_4
/-! X3_isRule (I)Z -/
theorem in_X3_isRule_X3 : ∀ w ∈ u_ws RX3 TX3 10, w ∈ wsX3_isRule := by decide +kernel
set_option maxHeartbeats 4000000 in
set_option maxRecDepth 100000 in
theorem c_X3_isRule (l : Launch) (D : va_G) (cA : Nat → ClassId) (ad : Nat → Nat) (hj : wd_inj ad dsC.length)   (x1 : Int32) (M : Mem) {r : Int32} (hF : F_X3_isRule x1 M = some r) : wm_i l yX3_isRule wsX3_isRule rm_X3_isRule D cA ad dsC M [.ref (ad 18), .int x1] r M := by
  refine Met.ofW (cc := cX3_isRule) (maxL := 2) (ret := (some .boolean)) (by decide) rfl ?_
  intro p e s m args below meth c s₁ B hml hv
  obtain ⟨rfl, hP, hK⟩ := hv
  have X : wd_X p s m _ meth c cX3_isRule 2 wsX3_isRule RX3 (some .boolean) D cA ad dsC.length := ⟨⟨B.exec, B.bytes, hml, findClass_of_methodNamed B.named, atoms_spec (ws := wsX3_isRule) B.pre⟩, hK, B.notSynchronized, B.returns, hj⟩
  have hl := lv_entry ([.ref (ad 18), .int x1]) (n := 2) (Nat.le_of_ble_eq_true rfl)
  rw [lg_entry_eq]
  generalize (lg_sl ([.ref (ad 18), .int x1]) ++ List.replicate (2 - (lg_sl ([.ref (ad 18), .int x1])).length) Slot.unset).toArray = ls at hl ⊢
  have hl : lv_has ls 2 [(0, .ref (ad 18)), (1, .int x1)] := hl
  have hS : va_S (wd_A ad dsC.length) s.heap s.heap [] := va_S.rf
  have hx := X.1.1
  have hb := X.1.2.1
  have hts := X.1.2.2.2.2
  unfold F_X3_isRule at hF
  refine lv_iload_n hx hb dX3_isRule_0 rfl (lv_at hl 1 rfl) ?_
  refine lv_if_lt (tgt := 16) hx hb dX3_isRule_1 (by decide) (fun c_2 => ?_) (fun c_2 => ?_)
  · have hF := if_t c_2 hF
    refine lv_iconst (v := (0 : Int32)) hx hb dX3_isRule_16 (by decide) ?_
    cases hF
    exact wd_reti X hP hS rfl (by decide) dX3_isRule_17
  · have hF := if_e c_2 hF
    refine lv_iload_n hx hb dX3_isRule_4 rfl (lv_at hl 1 rfl) ?_
    refine lv_aload_n hx hb dX3_isRule_5 rfl (lv_at hl 0 rfl) ?_
    refine wd_geti X hP 18 dC_18 rfl in_X3_isRule_X3 8 rfl (by decide) (by decide +kernel) dX3_isRule_6 ?_
    refine lv_icmp_ge (tgt := 16) hx hb dX3_isRule_9 (by decide) (fun c_1 => ?_) (fun c_1 => ?_)
    · have hF := if_t c_1 hF
      refine lv_iconst (v := (0 : Int32)) hx hb dX3_isRule_16 (by decide) ?_
      cases hF
      exact wd_reti X hP hS rfl (by decide) dX3_isRule_17
    · have hF := if_e c_1 hF
      refine lv_iconst (v := (1 : Int32)) hx hb dX3_isRule_12 (by decide) ?_
      refine lv_goto (tgt := 17) hx hb dX3_isRule_13 (by decide) ?_
      cases hF
      exact wd_reti X hP hS rfl (by decide) dX3_isRule_17
/-! X3_isEvent (I)Z -/
theorem in_X3_isEvent_X3 : ∀ w ∈ u_ws RX3 TX3 10, w ∈ wsX3_isEvent := by decide +kernel
set_option maxHeartbeats 4000000 in
set_option maxRecDepth 100000 in
theorem c_X3_isEvent (l : Launch) (D : va_G) (cA : Nat → ClassId) (ad : Nat → Nat) (hj : wd_inj ad dsC.length)   (x1 : Int32) (M : Mem) {r : Int32} (hF : F_X3_isEvent x1 M = some r) : wm_i l yX3_isEvent wsX3_isEvent rm_X3_isEvent D cA ad dsC M [.ref (ad 18), .int x1] r M := by
  refine Met.ofW (cc := cX3_isEvent) (maxL := 2) (ret := (some .boolean)) (by decide) rfl ?_
  intro p e s m args below meth c s₁ B hml hv
  obtain ⟨rfl, hP, hK⟩ := hv
  have X : wd_X p s m _ meth c cX3_isEvent 2 wsX3_isEvent RX3 (some .boolean) D cA ad dsC.length := ⟨⟨B.exec, B.bytes, hml, findClass_of_methodNamed B.named, atoms_spec (ws := wsX3_isEvent) B.pre⟩, hK, B.notSynchronized, B.returns, hj⟩
  have hl := lv_entry ([.ref (ad 18), .int x1]) (n := 2) (Nat.le_of_ble_eq_true rfl)
  rw [lg_entry_eq]
  generalize (lg_sl ([.ref (ad 18), .int x1]) ++ List.replicate (2 - (lg_sl ([.ref (ad 18), .int x1])).length) Slot.unset).toArray = ls at hl ⊢
  have hl : lv_has ls 2 [(0, .ref (ad 18)), (1, .int x1)] := hl
  have hS : va_S (wd_A ad dsC.length) s.heap s.heap [] := va_S.rf
  have hx := X.1.1
  have hb := X.1.2.1
  have hts := X.1.2.2.2.2
  unfold F_X3_isEvent at hF
  refine lv_iload_n hx hb dX3_isEvent_0 rfl (lv_at hl 1 rfl) ?_
  refine lv_if_lt (tgt := 16) hx hb dX3_isEvent_1 (by decide) (fun c_2 => ?_) (fun c_2 => ?_)
  · have hF := if_t c_2 hF
    refine lv_iconst (v := (0 : Int32)) hx hb dX3_isEvent_16 (by decide) ?_
    cases hF
    exact wd_reti X hP hS rfl (by decide) dX3_isEvent_17
  · have hF := if_e c_2 hF
    refine lv_iload_n hx hb dX3_isEvent_4 rfl (lv_at hl 1 rfl) ?_
    refine lv_aload_n hx hb dX3_isEvent_5 rfl (lv_at hl 0 rfl) ?_
    refine wd_geti X hP 18 dC_18 rfl in_X3_isEvent_X3 9 rfl (by decide) (by decide +kernel) dX3_isEvent_6 ?_
    refine lv_icmp_ge (tgt := 16) hx hb dX3_isEvent_9 (by decide) (fun c_1 => ?_) (fun c_1 => ?_)
    · have hF := if_t c_1 hF
      refine lv_iconst (v := (0 : Int32)) hx hb dX3_isEvent_16 (by decide) ?_
      cases hF
      exact wd_reti X hP hS rfl (by decide) dX3_isEvent_17
    · have hF := if_e c_1 hF
      refine lv_iconst (v := (1 : Int32)) hx hb dX3_isEvent_12 (by decide) ?_
      refine lv_goto (tgt := 17) hx hb dX3_isEvent_13 (by decide) ?_
      cases hF
      exact wd_reti X hP hS rfl (by decide) dX3_isEvent_17
/-! X3_isFor (III)Z -/
theorem in_X3_isFor_X3 : ∀ w ∈ u_ws RX3 TX3 10, w ∈ wsX3_isFor := by decide +kernel
set_option maxHeartbeats 4000000 in
set_option maxRecDepth 100000 in
theorem c_X3_isFor (l : Launch) (D : va_G) (cA : Nat → ClassId) (ad : Nat → Nat) (hj : wd_inj ad dsC.length)   (x1 : Int32) (x2 : Int32) (x3 : Int32) (M : Mem) {r : Int32} (hF : F_X3_isFor x1 x2 x3 M = some r) : wm_i l yX3_isFor wsX3_isFor rm_X3_isFor D cA ad dsC M [.ref (ad 18), .int x1, .int x2, .int x3] r M := by
  refine Met.ofW (cc := cX3_isFor) (maxL := 4) (ret := (some .boolean)) (by decide) rfl ?_
  intro p e s m args below meth c s₁ B hml hv
  obtain ⟨rfl, hP, hK⟩ := hv
  have X : wd_X p s m _ meth c cX3_isFor 4 wsX3_isFor RX3 (some .boolean) D cA ad dsC.length := ⟨⟨B.exec, B.bytes, hml, findClass_of_methodNamed B.named, atoms_spec (ws := wsX3_isFor) B.pre⟩, hK, B.notSynchronized, B.returns, hj⟩
  have hl := lv_entry ([.ref (ad 18), .int x1, .int x2, .int x3]) (n := 4) (Nat.le_of_ble_eq_true rfl)
  rw [lg_entry_eq]
  generalize (lg_sl ([.ref (ad 18), .int x1, .int x2, .int x3]) ++ List.replicate (4 - (lg_sl ([.ref (ad 18), .int x1, .int x2, .int x3])).length) Slot.unset).toArray = ls at hl ⊢
  have hl : lv_has ls 4 [(0, .ref (ad 18)), (1, .int x1), (2, .int x2), (3, .int x3)] := hl
  have hS : va_S (wd_A ad dsC.length) s.heap s.heap [] := va_S.rf
  have hx := X.1.1
  have hb := X.1.2.1
  have hts := X.1.2.2.2.2
  unfold F_X3_isFor at hF
  refine lv_aload_n hx hb dX3_isFor_0 rfl (lv_at hl 0 rfl) ?_
  refine lv_iload_n hx hb dX3_isFor_1 rfl (lv_at hl 1 rfl) ?_
  obtain ⟨r_1, hc_2, hF⟩ := bd_c hF
  refine wd_calli X hP hS [.int x1] [] (c_X3_isRule l D cA ad X.2.2.2.2   x1 M hc_2) (cwV 1 hts gX3_isFor_X3_isRule rfl rfl rfl (by decide +kernel) ⟨(by show _ ≤ _; first | exact Nat.le_of_ble_eq_true rfl | (simp [headSpec, rm_X3_isFor]; omega) | omega), (by show _ ≤ _; first | exact Nat.le_of_ble_eq_true rfl | (simp [headSpec, rm_X3_isFor]; omega) | omega)⟩) dC_18 rfl rfl hl.1 rfl (Nat.le_of_ble_eq_true rfl) dX3_isFor_2 (fun H locs hP hS => ?_)
  refine lv_if_eq (tgt := 32) hx hb dX3_isFor_5 (by decide) (fun c_7 => ?_) (fun c_7 => ?_)
  · have hF := if_t c_7 hF
    refine lv_iconst (v := (0 : Int32)) hx hb dX3_isFor_32 (by decide) ?_
    cases hF
    exact wd_reti X hP hS rfl (by decide) dX3_isFor_33
  · have hF := if_e c_7 hF
    refine lv_aload_n hx hb dX3_isFor_8 rfl (lv_at hl 0 rfl) ?_
    refine wd_getr (q := 20) X hP 18 dC_18 rfl in_X3_isFor_X3 1 rfl (by decide) (by decide +kernel) dX3_isFor_9 ?_
    refine lv_iload_n hx hb dX3_isFor_12 rfl (lv_at hl 1 rfl) ?_
    obtain ⟨h_3, hF⟩ := gi_c hF
    refine wd_ild X hP 20 dC_20 h_3 dX3_isFor_13 ?_
    refine lv_iload_n hx hb dX3_isFor_14 rfl (lv_at hl 2 rfl) ?_
    refine lv_icmp_ne (tgt := 32) hx hb dX3_isFor_15 (by decide) (fun c_6 => ?_) (fun c_6 => ?_)
    · have hF := if_e c_6 hF
      refine lv_iconst (v := (0 : Int32)) hx hb dX3_isFor_32 (by decide) ?_
      cases hF
      exact wd_reti X hP hS rfl (by decide) dX3_isFor_33
    · have hF := if_t c_6 hF
      refine lv_aload_n hx hb dX3_isFor_18 rfl (lv_at hl 0 rfl) ?_
      refine wd_getr (q := 21) X hP 18 dC_18 rfl in_X3_isFor_X3 2 rfl (by decide) (by decide +kernel) dX3_isFor_19 ?_
      refine lv_iload_n hx hb dX3_isFor_22 rfl (lv_at hl 1 rfl) ?_
      obtain ⟨h_4, hF⟩ := gi_c hF
      refine wd_ild X hP 21 dC_21 h_4 dX3_isFor_23 ?_
      refine lv_iload_n hx hb dX3_isFor_24 rfl (lv_at hl 3 rfl) ?_
      refine lv_icmp_ne (tgt := 32) hx hb dX3_isFor_25 (by decide) (fun c_5 => ?_) (fun c_5 => ?_)
      · have hF := if_e c_5 hF
        refine lv_iconst (v := (0 : Int32)) hx hb dX3_isFor_32 (by decide) ?_
        cases hF
        exact wd_reti X hP hS rfl (by decide) dX3_isFor_33
      · have hF := if_t c_5 hF
        refine lv_iconst (v := (1 : Int32)) hx hb dX3_isFor_28 (by decide) ?_
        refine lv_goto (tgt := 33) hx hb dX3_isFor_29 (by decide) ?_
        cases hF
        exact wd_reti X hP hS rfl (by decide) dX3_isFor_33
/-! X3_targetOf (I)I -/
theorem in_X3_targetOf_X3 : ∀ w ∈ u_ws RX3 TX3 10, w ∈ wsX3_targetOf := by decide +kernel
set_option maxHeartbeats 4000000 in
set_option maxRecDepth 100000 in
theorem c_X3_targetOf (l : Launch) (D : va_G) (cA : Nat → ClassId) (ad : Nat → Nat) (hj : wd_inj ad dsC.length)   (x1 : Int32) (M : Mem) {r : Int32} (hF : F_X3_targetOf x1 M = some r) : wm_i l yX3_targetOf wsX3_targetOf rm_X3_targetOf D cA ad dsC M [.ref (ad 18), .int x1] r M := by
  refine Met.ofW (cc := cX3_targetOf) (maxL := 2) (ret := (some .int)) (by decide) rfl ?_
  intro p e s m args below meth c s₁ B hml hv
  obtain ⟨rfl, hP, hK⟩ := hv
  have X : wd_X p s m _ meth c cX3_targetOf 2 wsX3_targetOf RX3 (some .int) D cA ad dsC.length := ⟨⟨B.exec, B.bytes, hml, findClass_of_methodNamed B.named, atoms_spec (ws := wsX3_targetOf) B.pre⟩, hK, B.notSynchronized, B.returns, hj⟩
  have hl := lv_entry ([.ref (ad 18), .int x1]) (n := 2) (Nat.le_of_ble_eq_true rfl)
  rw [lg_entry_eq]
  generalize (lg_sl ([.ref (ad 18), .int x1]) ++ List.replicate (2 - (lg_sl ([.ref (ad 18), .int x1])).length) Slot.unset).toArray = ls at hl ⊢
  have hl : lv_has ls 2 [(0, .ref (ad 18)), (1, .int x1)] := hl
  have hS : va_S (wd_A ad dsC.length) s.heap s.heap [] := va_S.rf
  have hx := X.1.1
  have hb := X.1.2.1
  have hts := X.1.2.2.2.2
  unfold F_X3_targetOf at hF
  refine lv_aload_n hx hb dX3_targetOf_0 rfl (lv_at hl 0 rfl) ?_
  refine lv_iload_n hx hb dX3_targetOf_1 rfl (lv_at hl 1 rfl) ?_
  obtain ⟨r_1, hc_2, hF⟩ := bd_c hF
  refine wd_calli X hP hS [.int x1] [] (c_X3_isRule l D cA ad X.2.2.2.2   x1 M hc_2) (cwV 1 hts gX3_targetOf_X3_isRule rfl rfl rfl (by decide +kernel) ⟨(by show _ ≤ _; first | exact Nat.le_of_ble_eq_true rfl | (simp [headSpec, rm_X3_targetOf]; omega) | omega), (by show _ ≤ _; first | exact Nat.le_of_ble_eq_true rfl | (simp [headSpec, rm_X3_targetOf]; omega) | omega)⟩) dC_18 rfl rfl hl.1 rfl (Nat.le_of_ble_eq_true rfl) dX3_targetOf_2 (fun H locs hP hS => ?_)
  refine lv_if_eq (tgt := 17) hx hb dX3_targetOf_5 (by decide) (fun c_4 => ?_) (fun c_4 => ?_)
  · have hF := if_t c_4 hF
    refine lv_iconst (v := (-1 : Int32)) hx hb dX3_targetOf_17 (by decide) ?_
    cases hF
    exact wd_reti X hP hS rfl rfl dX3_targetOf_18
  · have hF := if_e c_4 hF
    refine lv_aload_n hx hb dX3_targetOf_8 rfl (lv_at hl 0 rfl) ?_
    refine wd_getr (q := 22) X hP 18 dC_18 rfl in_X3_targetOf_X3 3 rfl (by decide) (by decide +kernel) dX3_targetOf_9 ?_
    refine lv_iload_n hx hb dX3_targetOf_12 rfl (lv_at hl 1 rfl) ?_
    obtain ⟨h_3, hF⟩ := gi_c hF
    refine wd_ild X hP 22 dC_22 h_3 dX3_targetOf_13 ?_
    refine lv_goto (tgt := 18) hx hb dX3_targetOf_14 (by decide) ?_
    cases hF
    exact wd_reti X hP hS rfl rfl dX3_targetOf_18
/-! X3_scopeOf (I)I -/
theorem in_X3_scopeOf_X3 : ∀ w ∈ u_ws RX3 TX3 10, w ∈ wsX3_scopeOf := by decide +kernel
set_option maxHeartbeats 4000000 in
set_option maxRecDepth 100000 in
theorem c_X3_scopeOf (l : Launch) (D : va_G) (cA : Nat → ClassId) (ad : Nat → Nat) (hj : wd_inj ad dsC.length)   (x1 : Int32) (M : Mem) {r : Int32} (hF : F_X3_scopeOf x1 M = some r) : wm_i l yX3_scopeOf wsX3_scopeOf rm_X3_scopeOf D cA ad dsC M [.ref (ad 18), .int x1] r M := by
  refine Met.ofW (cc := cX3_scopeOf) (maxL := 2) (ret := (some .int)) (by decide) rfl ?_
  intro p e s m args below meth c s₁ B hml hv
  obtain ⟨rfl, hP, hK⟩ := hv
  have X : wd_X p s m _ meth c cX3_scopeOf 2 wsX3_scopeOf RX3 (some .int) D cA ad dsC.length := ⟨⟨B.exec, B.bytes, hml, findClass_of_methodNamed B.named, atoms_spec (ws := wsX3_scopeOf) B.pre⟩, hK, B.notSynchronized, B.returns, hj⟩
  have hl := lv_entry ([.ref (ad 18), .int x1]) (n := 2) (Nat.le_of_ble_eq_true rfl)
  rw [lg_entry_eq]
  generalize (lg_sl ([.ref (ad 18), .int x1]) ++ List.replicate (2 - (lg_sl ([.ref (ad 18), .int x1])).length) Slot.unset).toArray = ls at hl ⊢
  have hl : lv_has ls 2 [(0, .ref (ad 18)), (1, .int x1)] := hl
  have hS : va_S (wd_A ad dsC.length) s.heap s.heap [] := va_S.rf
  have hx := X.1.1
  have hb := X.1.2.1
  have hts := X.1.2.2.2.2
  unfold F_X3_scopeOf at hF
  refine lv_aload_n hx hb dX3_scopeOf_0 rfl (lv_at hl 0 rfl) ?_
  refine lv_iload_n hx hb dX3_scopeOf_1 rfl (lv_at hl 1 rfl) ?_
  obtain ⟨r_1, hc_2, hF⟩ := bd_c hF
  refine wd_calli X hP hS [.int x1] [] (c_X3_isRule l D cA ad X.2.2.2.2   x1 M hc_2) (cwV 1 hts gX3_scopeOf_X3_isRule rfl rfl rfl (by decide +kernel) ⟨(by show _ ≤ _; first | exact Nat.le_of_ble_eq_true rfl | (simp [headSpec, rm_X3_scopeOf]; omega) | omega), (by show _ ≤ _; first | exact Nat.le_of_ble_eq_true rfl | (simp [headSpec, rm_X3_scopeOf]; omega) | omega)⟩) dC_18 rfl rfl hl.1 rfl (Nat.le_of_ble_eq_true rfl) dX3_scopeOf_2 (fun H locs hP hS => ?_)
  refine lv_if_eq (tgt := 17) hx hb dX3_scopeOf_5 (by decide) (fun c_4 => ?_) (fun c_4 => ?_)
  · have hF := if_t c_4 hF
    refine lv_iconst (v := (-1 : Int32)) hx hb dX3_scopeOf_17 (by decide) ?_
    cases hF
    exact wd_reti X hP hS rfl rfl dX3_scopeOf_18
  · have hF := if_e c_4 hF
    refine lv_aload_n hx hb dX3_scopeOf_8 rfl (lv_at hl 0 rfl) ?_
    refine wd_getr (q := 23) X hP 18 dC_18 rfl in_X3_scopeOf_X3 4 rfl (by decide) (by decide +kernel) dX3_scopeOf_9 ?_
    refine lv_iload_n hx hb dX3_scopeOf_12 rfl (lv_at hl 1 rfl) ?_
    obtain ⟨h_3, hF⟩ := gi_c hF
    refine wd_ild X hP 23 dC_23 h_3 dX3_scopeOf_13 ?_
    refine lv_goto (tgt := 18) hx hb dX3_scopeOf_14 (by decide) ?_
    cases hF
    exact wd_reti X hP hS rfl rfl dX3_scopeOf_18
/-! X3_askedOf (I)I -/
theorem in_X3_askedOf_X3 : ∀ w ∈ u_ws RX3 TX3 10, w ∈ wsX3_askedOf := by decide +kernel
set_option maxHeartbeats 4000000 in
set_option maxRecDepth 100000 in
theorem c_X3_askedOf (l : Launch) (D : va_G) (cA : Nat → ClassId) (ad : Nat → Nat) (hj : wd_inj ad dsC.length)   (x1 : Int32) (M : Mem) {r : Int32} (hF : F_X3_askedOf x1 M = some r) : wm_i l yX3_askedOf wsX3_askedOf rm_X3_askedOf D cA ad dsC M [.ref (ad 18), .int x1] r M := by
  refine Met.ofW (cc := cX3_askedOf) (maxL := 2) (ret := (some .int)) (by decide) rfl ?_
  intro p e s m args below meth c s₁ B hml hv
  obtain ⟨rfl, hP, hK⟩ := hv
  have X : wd_X p s m _ meth c cX3_askedOf 2 wsX3_askedOf RX3 (some .int) D cA ad dsC.length := ⟨⟨B.exec, B.bytes, hml, findClass_of_methodNamed B.named, atoms_spec (ws := wsX3_askedOf) B.pre⟩, hK, B.notSynchronized, B.returns, hj⟩
  have hl := lv_entry ([.ref (ad 18), .int x1]) (n := 2) (Nat.le_of_ble_eq_true rfl)
  rw [lg_entry_eq]
  generalize (lg_sl ([.ref (ad 18), .int x1]) ++ List.replicate (2 - (lg_sl ([.ref (ad 18), .int x1])).length) Slot.unset).toArray = ls at hl ⊢
  have hl : lv_has ls 2 [(0, .ref (ad 18)), (1, .int x1)] := hl
  have hS : va_S (wd_A ad dsC.length) s.heap s.heap [] := va_S.rf
  have hx := X.1.1
  have hb := X.1.2.1
  have hts := X.1.2.2.2.2
  unfold F_X3_askedOf at hF
  refine lv_aload_n hx hb dX3_askedOf_0 rfl (lv_at hl 0 rfl) ?_
  refine lv_iload_n hx hb dX3_askedOf_1 rfl (lv_at hl 1 rfl) ?_
  obtain ⟨r_1, hc_2, hF⟩ := bd_c hF
  refine wd_calli X hP hS [.int x1] [] (c_X3_isRule l D cA ad X.2.2.2.2   x1 M hc_2) (cwV 1 hts gX3_askedOf_X3_isRule rfl rfl rfl (by decide +kernel) ⟨(by show _ ≤ _; first | exact Nat.le_of_ble_eq_true rfl | (simp [headSpec, rm_X3_askedOf]; omega) | omega), (by show _ ≤ _; first | exact Nat.le_of_ble_eq_true rfl | (simp [headSpec, rm_X3_askedOf]; omega) | omega)⟩) dC_18 rfl rfl hl.1 rfl (Nat.le_of_ble_eq_true rfl) dX3_askedOf_2 (fun H locs hP hS => ?_)
  refine lv_if_eq (tgt := 17) hx hb dX3_askedOf_5 (by decide) (fun c_4 => ?_) (fun c_4 => ?_)
  · have hF := if_t c_4 hF
    refine lv_iconst (v := (-1 : Int32)) hx hb dX3_askedOf_17 (by decide) ?_
    cases hF
    exact wd_reti X hP hS rfl rfl dX3_askedOf_18
  · have hF := if_e c_4 hF
    refine lv_aload_n hx hb dX3_askedOf_8 rfl (lv_at hl 0 rfl) ?_
    refine wd_getr (q := 24) X hP 18 dC_18 rfl in_X3_askedOf_X3 5 rfl (by decide) (by decide +kernel) dX3_askedOf_9 ?_
    refine lv_iload_n hx hb dX3_askedOf_12 rfl (lv_at hl 1 rfl) ?_
    obtain ⟨h_3, hF⟩ := gi_c hF
    refine wd_ild X hP 24 dC_24 h_3 dX3_askedOf_13 ?_
    refine lv_goto (tgt := 18) hx hb dX3_askedOf_14 (by decide) ?_
    cases hF
    exact wd_reti X hP hS rfl rfl dX3_askedOf_18
/-! X3_isWantedActive (I)Z -/
theorem in_X3_isWantedActive_X3 : ∀ w ∈ u_ws RX3 TX3 10, w ∈ wsX3_isWantedActive := by decide +kernel
set_option maxHeartbeats 4000000 in
set_option maxRecDepth 100000 in
theorem c_X3_isWantedActive (l : Launch) (D : va_G) (cA : Nat → ClassId) (ad : Nat → Nat) (hj : wd_inj ad dsC.length)   (x1 : Int32) (M : Mem) {r : Int32} (hF : F_X3_isWantedActive x1 M = some r) : wm_i l yX3_isWantedActive wsX3_isWantedActive rm_X3_isWantedActive D cA ad dsC M [.ref (ad 18), .int x1] r M := by
  refine Met.ofW (cc := cX3_isWantedActive) (maxL := 2) (ret := (some .boolean)) (by decide) rfl ?_
  intro p e s m args below meth c s₁ B hml hv
  obtain ⟨rfl, hP, hK⟩ := hv
  have X : wd_X p s m _ meth c cX3_isWantedActive 2 wsX3_isWantedActive RX3 (some .boolean) D cA ad dsC.length := ⟨⟨B.exec, B.bytes, hml, findClass_of_methodNamed B.named, atoms_spec (ws := wsX3_isWantedActive) B.pre⟩, hK, B.notSynchronized, B.returns, hj⟩
  have hl := lv_entry ([.ref (ad 18), .int x1]) (n := 2) (Nat.le_of_ble_eq_true rfl)
  rw [lg_entry_eq]
  generalize (lg_sl ([.ref (ad 18), .int x1]) ++ List.replicate (2 - (lg_sl ([.ref (ad 18), .int x1])).length) Slot.unset).toArray = ls at hl ⊢
  have hl : lv_has ls 2 [(0, .ref (ad 18)), (1, .int x1)] := hl
  have hS : va_S (wd_A ad dsC.length) s.heap s.heap [] := va_S.rf
  have hx := X.1.1
  have hb := X.1.2.1
  have hts := X.1.2.2.2.2
  unfold F_X3_isWantedActive at hF
  refine lv_aload_n hx hb dX3_isWantedActive_0 rfl (lv_at hl 0 rfl) ?_
  refine lv_iload_n hx hb dX3_isWantedActive_1 rfl (lv_at hl 1 rfl) ?_
  obtain ⟨r_1, hc_2, hF⟩ := bd_c hF
  refine wd_calli X hP hS [.int x1] [] (c_X3_isRule l D cA ad X.2.2.2.2   x1 M hc_2) (cwV 1 hts gX3_isWantedActive_X3_isRule rfl rfl rfl (by decide +kernel) ⟨(by show _ ≤ _; first | exact Nat.le_of_ble_eq_true rfl | (simp [headSpec, rm_X3_isWantedActive]; omega) | omega), (by show _ ≤ _; first | exact Nat.le_of_ble_eq_true rfl | (simp [headSpec, rm_X3_isWantedActive]; omega) | omega)⟩) dC_18 rfl rfl hl.1 rfl (Nat.le_of_ble_eq_true rfl) dX3_isWantedActive_2 (fun H locs hP hS => ?_)
  refine lv_if_eq (tgt := 21) hx hb dX3_isWantedActive_5 (by decide) (fun c_5 => ?_) (fun c_5 => ?_)
  · have hF := if_t c_5 hF
    refine lv_iconst (v := (0 : Int32)) hx hb dX3_isWantedActive_21 (by decide) ?_
    cases hF
    exact wd_reti X hP hS rfl (by decide) dX3_isWantedActive_22
  · have hF := if_e c_5 hF
    refine lv_aload_n hx hb dX3_isWantedActive_8 rfl (lv_at hl 0 rfl) ?_
    refine wd_getr (q := 25) X hP 18 dC_18 rfl in_X3_isWantedActive_X3 6 rfl (by decide) (by decide +kernel) dX3_isWantedActive_9 ?_
    refine lv_iload_n hx hb dX3_isWantedActive_12 rfl (lv_at hl 1 rfl) ?_
    obtain ⟨h_3, hF⟩ := gi_c hF
    refine wd_zld X hP 25 dC_25 h_3 dX3_isWantedActive_13 ?_
    refine lv_if_eq (tgt := 21) hx hb dX3_isWantedActive_14 (by decide) (fun c_4 => ?_) (fun c_4 => ?_)
    · have hF := if_t c_4 hF
      refine lv_iconst (v := (0 : Int32)) hx hb dX3_isWantedActive_21 (by decide) ?_
      cases hF
      exact wd_reti X hP hS rfl (by decide) dX3_isWantedActive_22
    · have hF := if_e c_4 hF
      refine lv_iconst (v := (1 : Int32)) hx hb dX3_isWantedActive_17 (by decide) ?_
      refine lv_goto (tgt := 22) hx hb dX3_isWantedActive_18 (by decide) ?_
      cases hF
      exact wd_reti X hP hS rfl (by decide) dX3_isWantedActive_22
