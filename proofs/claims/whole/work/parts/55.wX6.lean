/-! X6_noteIn (I)V -/
theorem in_X6_noteIn_X6 : ∀ w ∈ u_ws RX6 TX6 5, w ∈ wsX6_noteIn := by decide +kernel
set_option maxHeartbeats 4000000 in
set_option maxRecDepth 100000 in
theorem c_X6_noteIn (l : Launch) (D : va_G) (cA : Nat → ClassId) (ad : Nat → Nat) (hj : wd_inj ad dsC.length)   (x1 : Int32) (M : Mem) {M' : Mem} (hF : F_X6_noteIn x1 M = some M') : wm_v l yX6_noteIn wsX6_noteIn rm_X6_noteIn D cA ad dsC M [.ref (ad 34), .int x1] M' := by
  refine Met.ofW (cc := cX6_noteIn) (maxL := 2) (ret := none) (by decide) rfl ?_
  intro p e s m args below meth c s₁ B hml hv
  obtain ⟨rfl, hP, hK⟩ := hv
  have X : wd_X p s m _ meth c cX6_noteIn 2 wsX6_noteIn RX6 none D cA ad dsC.length := ⟨⟨B.exec, B.bytes, hml, findClass_of_methodNamed B.named, atoms_spec (ws := wsX6_noteIn) B.pre⟩, hK, B.notSynchronized, B.returns, hj⟩
  have hl := lv_entry ([.ref (ad 34), .int x1]) (n := 2) (Nat.le_of_ble_eq_true rfl)
  rw [lg_entry_eq]
  generalize (lg_sl ([.ref (ad 34), .int x1]) ++ List.replicate (2 - (lg_sl ([.ref (ad 34), .int x1])).length) Slot.unset).toArray = ls at hl ⊢
  have hl : lv_has ls 2 [(0, .ref (ad 34)), (1, .int x1)] := hl
  have hS : va_S (wd_A ad dsC.length) s.heap s.heap [] := va_S.rf
  have hx := X.1.1
  have hb := X.1.2.1
  have hts := X.1.2.2.2.2
  unfold F_X6_noteIn at hF
  refine lv_aload_n hx hb dX6_noteIn_0 rfl (lv_at hl 0 rfl) ?_
  refine lv_iload_n hx hb dX6_noteIn_1 rfl (lv_at hl 1 rfl) ?_
  obtain ⟨M_1, e_2, hF⟩ := wr_c hF
  refine wd_puti X hP hS 34 dC_34 rfl in_X6_noteIn_X6 tyX6_ok nmX6 4 rfl (by decide) rfl rfl (by decide +kernel) dX6_noteIn_2 (fun H locs hP hS => ?_)
  rw [← e_2] at hP
  refine lv_aload_n hx hb dX6_noteIn_5 rfl (lv_at hl 0 rfl) ?_
  refine wd_getr (q := 31) X hP 34 dC_34 rfl in_X6_noteIn_X6 2 rfl (by decide) (by decide +kernel) dX6_noteIn_6 ?_
  refine lv_aload_n hx hb dX6_noteIn_9 rfl (lv_at hl 0 rfl) ?_
  refine wd_geti X hP 34 dC_34 rfl in_X6_noteIn_X6 4 rfl (by decide) (by decide +kernel) dX6_noteIn_10 ?_
  obtain ⟨M_5, hc_4, hF⟩ := bd_c hF
  refine wd_callv X hP hS [.int (M_1 34 4)] [] (c_X1_empty l D cA ad X.2.2.2.2 31 mr_31 (M_1 34 4) M_1 hc_4) (cwV 1 hts gX6_noteIn_X1_empty rfl rfl rfl (by decide +kernel) ⟨(by show _ ≤ _; first | exact Nat.le_of_ble_eq_true rfl | (simp [headSpec, rm_X6_noteIn]; omega) | omega), (by show _ ≤ _; first | exact Nat.le_of_ble_eq_true rfl | (simp [headSpec, rm_X6_noteIn]; omega) | omega)⟩) dC_31 rfl rfl hl.1 rfl (Nat.le_of_ble_eq_true rfl) dX6_noteIn_13 (fun H locs hP hS => ?_)
  cases hF
  exact wd_retv X hP hS dX6_noteIn_16
/-! X6_makeCurrent (II)V -/
theorem in_X6_makeCurrent_X6 : ∀ w ∈ u_ws RX6 TX6 5, w ∈ wsX6_makeCurrent := by decide +kernel
set_option maxHeartbeats 4000000 in
set_option maxRecDepth 100000 in
theorem c_X6_makeCurrent (l : Launch) (D : va_G) (cA : Nat → ClassId) (ad : Nat → Nat) (hj : wd_inj ad dsC.length)   (x1 : Int32) (x2 : Int32) (M : Mem) {M' : Mem} (hF : F_X6_makeCurrent x1 x2 M = some M') : wm_v l yX6_makeCurrent wsX6_makeCurrent rm_X6_makeCurrent D cA ad dsC M [.ref (ad 34), .int x1, .int x2] M' := by
  refine Met.ofW (cc := cX6_makeCurrent) (maxL := 3) (ret := none) (by decide) rfl ?_
  intro p e s m args below meth c s₁ B hml hv
  obtain ⟨rfl, hP, hK⟩ := hv
  have X : wd_X p s m _ meth c cX6_makeCurrent 3 wsX6_makeCurrent RX6 none D cA ad dsC.length := ⟨⟨B.exec, B.bytes, hml, findClass_of_methodNamed B.named, atoms_spec (ws := wsX6_makeCurrent) B.pre⟩, hK, B.notSynchronized, B.returns, hj⟩
  have hl := lv_entry ([.ref (ad 34), .int x1, .int x2]) (n := 3) (Nat.le_of_ble_eq_true rfl)
  rw [lg_entry_eq]
  generalize (lg_sl ([.ref (ad 34), .int x1, .int x2]) ++ List.replicate (3 - (lg_sl ([.ref (ad 34), .int x1, .int x2])).length) Slot.unset).toArray = ls at hl ⊢
  have hl : lv_has ls 3 [(0, .ref (ad 34)), (1, .int x1), (2, .int x2)] := hl
  have hS : va_S (wd_A ad dsC.length) s.heap s.heap [] := va_S.rf
  have hx := X.1.1
  have hb := X.1.2.1
  have hts := X.1.2.2.2.2
  unfold F_X6_makeCurrent at hF
  refine lv_iload_n hx hb dX6_makeCurrent_0 rfl (lv_at hl 1 rfl) ?_
  refine lv_if_lt (tgt := 17) hx hb dX6_makeCurrent_1 (by decide) (fun c_5 => ?_) (fun c_5 => ?_)
  · have hF := if_t c_5 hF
    cases hF
    exact wd_retv X hP hS dX6_makeCurrent_17
  · have hF := if_e c_5 hF
    refine lv_iload_n hx hb dX6_makeCurrent_4 rfl (lv_at hl 1 rfl) ?_
    refine lv_bipush (v := (14 : Int32)) hx hb dX6_makeCurrent_5 (by decide) ?_
    refine lv_icmp_ge (tgt := 17) hx hb dX6_makeCurrent_7 (by decide) (fun c_4 => ?_) (fun c_4 => ?_)
    · have hF := if_t c_4 hF
      cases hF
      exact wd_retv X hP hS dX6_makeCurrent_17
    · have hF := if_e c_4 hF
      refine lv_aload_n hx hb dX6_makeCurrent_10 rfl (lv_at hl 0 rfl) ?_
      refine wd_getr (q := 35) X hP 34 dC_34 rfl in_X6_makeCurrent_X6 3 rfl (by decide) (by decide +kernel) dX6_makeCurrent_11 ?_
      refine lv_iload_n hx hb dX6_makeCurrent_14 rfl (lv_at hl 1 rfl) ?_
      refine lv_iload_n hx hb dX6_makeCurrent_15 rfl (lv_at hl 2 rfl) ?_
      obtain ⟨h_1, hF⟩ := gi_c hF
      obtain ⟨M_2, e_3, hF⟩ := wr_c hF
      refine wd_ist X hP hS 35 dC_35 h_1 dX6_makeCurrent_16 (fun H locs hP hS => ?_)
      rw [← e_3] at hP
      cases hF
      exact wd_retv X hP hS dX6_makeCurrent_17
/-! X6_currentChild (I)I -/
theorem in_X6_currentChild_X6 : ∀ w ∈ u_ws RX6 TX6 5, w ∈ wsX6_currentChild := by decide +kernel
set_option maxHeartbeats 4000000 in
set_option maxRecDepth 100000 in
theorem c_X6_currentChild (l : Launch) (D : va_G) (cA : Nat → ClassId) (ad : Nat → Nat) (hj : wd_inj ad dsC.length)   (x1 : Int32) (M : Mem) {r : Int32} (hF : F_X6_currentChild x1 M = some r) : wm_i l yX6_currentChild wsX6_currentChild rm_X6_currentChild D cA ad dsC M [.ref (ad 34), .int x1] r M := by
  refine Met.ofW (cc := cX6_currentChild) (maxL := 2) (ret := (some .int)) (by decide) rfl ?_
  intro p e s m args below meth c s₁ B hml hv
  obtain ⟨rfl, hP, hK⟩ := hv
  have X : wd_X p s m _ meth c cX6_currentChild 2 wsX6_currentChild RX6 (some .int) D cA ad dsC.length := ⟨⟨B.exec, B.bytes, hml, findClass_of_methodNamed B.named, atoms_spec (ws := wsX6_currentChild) B.pre⟩, hK, B.notSynchronized, B.returns, hj⟩
  have hl := lv_entry ([.ref (ad 34), .int x1]) (n := 2) (Nat.le_of_ble_eq_true rfl)
  rw [lg_entry_eq]
  generalize (lg_sl ([.ref (ad 34), .int x1]) ++ List.replicate (2 - (lg_sl ([.ref (ad 34), .int x1])).length) Slot.unset).toArray = ls at hl ⊢
  have hl : lv_has ls 2 [(0, .ref (ad 34)), (1, .int x1)] := hl
  have hS : va_S (wd_A ad dsC.length) s.heap s.heap [] := va_S.rf
  have hx := X.1.1
  have hb := X.1.2.1
  have hts := X.1.2.2.2.2
  unfold F_X6_currentChild at hF
  refine lv_iload_n hx hb dX6_currentChild_0 rfl (lv_at hl 1 rfl) ?_
  refine lv_if_lt (tgt := 19) hx hb dX6_currentChild_1 (by decide) (fun c_3 => ?_) (fun c_3 => ?_)
  · have hF := if_t c_3 hF
    refine lv_iconst (v := (-1 : Int32)) hx hb dX6_currentChild_19 (by decide) ?_
    cases hF
    exact wd_reti X hP hS rfl rfl dX6_currentChild_20
  · have hF := if_e c_3 hF
    refine lv_iload_n hx hb dX6_currentChild_4 rfl (lv_at hl 1 rfl) ?_
    refine lv_bipush (v := (14 : Int32)) hx hb dX6_currentChild_5 (by decide) ?_
    refine lv_icmp_ge (tgt := 19) hx hb dX6_currentChild_7 (by decide) (fun c_2 => ?_) (fun c_2 => ?_)
    · have hF := if_t c_2 hF
      refine lv_iconst (v := (-1 : Int32)) hx hb dX6_currentChild_19 (by decide) ?_
      cases hF
      exact wd_reti X hP hS rfl rfl dX6_currentChild_20
    · have hF := if_e c_2 hF
      refine lv_aload_n hx hb dX6_currentChild_10 rfl (lv_at hl 0 rfl) ?_
      refine wd_getr (q := 35) X hP 34 dC_34 rfl in_X6_currentChild_X6 3 rfl (by decide) (by decide +kernel) dX6_currentChild_11 ?_
      refine lv_iload_n hx hb dX6_currentChild_14 rfl (lv_at hl 1 rfl) ?_
      obtain ⟨h_1, hF⟩ := gi_c hF
      refine wd_ild X hP 35 dC_35 h_1 dX6_currentChild_15 ?_
      refine lv_goto (tgt := 20) hx hb dX6_currentChild_16 (by decide) ?_
      cases hF
      exact wd_reti X hP hS rfl rfl dX6_currentChild_20
/-! X6_enter (III)V -/
theorem in_X6_enter_X6 : ∀ w ∈ u_ws RX6 TX6 5, w ∈ wsX6_enter := by decide +kernel
set_option maxHeartbeats 4000000 in
set_option maxRecDepth 100000 in
theorem wb_X6_enter_119 {p : Program} {l : Launch} {e : Env} {s : State} {m : MethodId} {args : Array Value} {below : List Frame} {meth : Method} {c : Code} {D : va_G} {cA : Nat → ClassId} {ad : Nat → Nat} (X : wd_X p s m args meth c cX6_enter 5 wsX6_enter RX6 none D cA ad dsC.length) {nR : Nat} {rec : Int32 → Int32 → Int32 → Mem → Option Mem} {M' : Mem} (hrec : ∀ (x1 : Int32) (x2 : Int32) (x3 : Int32) (M : Mem) (M' : Mem), rec x1 x2 x3 M = some M' → wm_v l yX6_enter wsX6_enter (rm_X6_enter nR) D cA ad dsC M [.ref (ad 34), .int x1, .int x2, .int x3] M') (x1 : Int32) (x2 : Int32) (x3 : Int32) (M : Mem) (H : Heap) (locs : List Loc) (ls : Array Slot) (hF : B_X6_enter_119 rec x1 x2 x3 M = some M') (hP : wd_P D cA ad dsC M H) (hS : va_S (wd_A ad dsC.length) s.heap H locs) (hl : lv_has ls 5 [(0, .ref (ad 34)), (1, .int x1), (2, .int x2), (3, .int x3)]) : W p l e (headSpec wsX6_enter (rm_X6_enter (nR + 1))).room s m args below meth c H locs 0 0 (MQ below (wm_Qv D cA ad dsC M') args s 0 0 (wd_A ad dsC.length)) (F0 m 119 ls []) := by
  have hx := X.1.1
  have hb := X.1.2.1
  have hts := X.1.2.2.2.2
  unfold B_X6_enter_119 at hF
  refine lv_aload_n hx hb dX6_enter_119 rfl (lv_at hl 0 rfl) ?_
  refine lv_aload_n hx hb dX6_enter_120 rfl (lv_at hl 0 rfl) ?_
  refine lv_iload_n hx hb dX6_enter_121 rfl (lv_at hl 1 rfl) ?_
  obtain ⟨r_1, hc_2, hF⟩ := bd_c hF
  refine wd_calli X hP hS [.int x1] [.ref (ad 34)] (c_X6_currentChild l D cA ad X.2.2.2.2   x1 M hc_2) (cwV 1 hts gX6_enter_X6_currentChild rfl rfl rfl (by decide +kernel) ⟨(by show _ ≤ _; first | exact Nat.le_of_ble_eq_true rfl | (simp [headSpec, rm_X6_enter]; omega) | omega), (by show _ ≤ _; first | exact Nat.le_of_ble_eq_true rfl | (simp [headSpec, rm_X6_enter]; omega) | omega)⟩) dC_34 rfl rfl hl.1 rfl (Nat.le_of_ble_eq_true rfl) dX6_enter_122 (fun H locs hP hS => ?_)
  refine lv_iload_n hx hb dX6_enter_125 rfl (lv_at hl 2 rfl) ?_
  refine lv_iload_n hx hb dX6_enter_126 rfl (lv_at hl 3 rfl) ?_
  refine lv_iconst (v := (1 : Int32)) hx hb dX6_enter_127 (by decide) ?_
  refine lv_iadd hx hb dX6_enter_128 ?_
  obtain ⟨M_5, hc_4, hF⟩ := bd_c hF
  refine wd_callv X hP hS [.int r_1, .int x2, .int (x3 + (1 : Int32))] [] (hrec r_1 x2 (x3 + (1 : Int32)) M _ hc_4) (cwV 3 hts gX6_enter_X6_enter rfl rfl rfl (by decide +kernel) ⟨(show nR + 2 + 1 ≤ nR + 1 + 2 by omega), (show 8 + (5 + 11) + (24 * nR + 56) ≤ 24 * (nR + 1) + 56 by omega)⟩) dC_34 rfl rfl hl.1 rfl (Nat.le_of_ble_eq_true rfl) dX6_enter_129 (fun H locs hP hS => ?_)
  cases hF
  exact wd_retv X hP hS dX6_enter_132
set_option maxHeartbeats 4000000 in
set_option maxRecDepth 100000 in
theorem wb_X6_enter_88 {p : Program} {l : Launch} {e : Env} {s : State} {m : MethodId} {args : Array Value} {below : List Frame} {meth : Method} {c : Code} {D : va_G} {cA : Nat → ClassId} {ad : Nat → Nat} (X : wd_X p s m args meth c cX6_enter 5 wsX6_enter RX6 none D cA ad dsC.length) {nR : Nat} {rec : Int32 → Int32 → Int32 → Mem → Option Mem} {kh53 : Int32 → Int32 → Int32 → Int32 → Mem → Option Mem} {M' : Mem} (hrec : ∀ (x1 : Int32) (x2 : Int32) (x3 : Int32) (M : Mem) (M' : Mem), rec x1 x2 x3 M = some M' → wm_v l yX6_enter wsX6_enter (rm_X6_enter nR) D cA ad dsC M [.ref (ad 34), .int x1, .int x2, .int x3] M') (hk53 : ∀ (x1 : Int32) (x2 : Int32) (x3 : Int32) (x4 : Int32) (M : Mem) (H : Heap) (locs : List Loc) (ls : Array Slot), kh53 x1 x2 x3 x4 M = some M' → wd_P D cA ad dsC M H → va_S (wd_A ad dsC.length) s.heap H locs → lv_has ls 5 [(0, .ref (ad 34)), (1, .int x1), (2, .int x2), (3, .int x3), (4, .int x4)] → W p l e (headSpec wsX6_enter (rm_X6_enter (nR + 1))).room s m args below meth c H locs 0 0 (MQ below (wm_Qv D cA ad dsC M') args s 0 0 (wd_A ad dsC.length)) (F0 m 53 ls [])) (x1 : Int32) (x2 : Int32) (x3 : Int32) (x4 : Int32) (M : Mem) (H : Heap) (locs : List Loc) (ls : Array Slot) (hF : B_X6_enter_88 rec kh53 x1 x2 x3 x4 M = some M') (hP : wd_P D cA ad dsC M H) (hS : va_S (wd_A ad dsC.length) s.heap H locs) (hl : lv_has ls 5 [(0, .ref (ad 34)), (1, .int x1), (2, .int x2), (3, .int x3), (4, .int x4)]) : W p l e (headSpec wsX6_enter (rm_X6_enter (nR + 1))).room s m args below meth c H locs 0 0 (MQ below (wm_Qv D cA ad dsC M') args s 0 0 (wd_A ad dsC.length)) (F0 m 88 ls []) := by
  have hx := X.1.1
  have hb := X.1.2.1
  have hts := X.1.2.2.2.2
  unfold B_X6_enter_88 at hF
  obtain ⟨x4_1, e_2, hF⟩ := nm_c hF
  refine lv_iinc (v := x4_1) (lv' := [(4, .int x4_1), (0, .ref (ad 34)), (1, .int x1), (2, .int x2), (3, .int x3)]) hx hb dX6_enter_88 hl (k := 4) rfl (by rw [e_2]; rfl) (by decide) rfl (fun ls hl => ?_)
  refine lv_goto (tgt := 53) hx hb dX6_enter_91 (by decide) ?_
  exact hk53 x1 x2 x3 x4_1 M _ _ _ hF hP hS (lv_sub hl [1, 2, 3, 4, 0] rfl)
set_option maxHeartbeats 4000000 in
set_option maxRecDepth 100000 in
theorem wb_X6_enter_53 {p : Program} {l : Launch} {e : Env} {s : State} {m : MethodId} {args : Array Value} {below : List Frame} {meth : Method} {c : Code} {D : va_G} {cA : Nat → ClassId} {ad : Nat → Nat} (X : wd_X p s m args meth c cX6_enter 5 wsX6_enter RX6 none D cA ad dsC.length) {nR : Nat} {rec : Int32 → Int32 → Int32 → Mem → Option Mem} {kh53 : Int32 → Int32 → Int32 → Int32 → Mem → Option Mem} {M' : Mem} (hrec : ∀ (x1 : Int32) (x2 : Int32) (x3 : Int32) (M : Mem) (M' : Mem), rec x1 x2 x3 M = some M' → wm_v l yX6_enter wsX6_enter (rm_X6_enter nR) D cA ad dsC M [.ref (ad 34), .int x1, .int x2, .int x3] M') (hk53 : ∀ (x1 : Int32) (x2 : Int32) (x3 : Int32) (x4 : Int32) (M : Mem) (H : Heap) (locs : List Loc) (ls : Array Slot), kh53 x1 x2 x3 x4 M = some M' → wd_P D cA ad dsC M H → va_S (wd_A ad dsC.length) s.heap H locs → lv_has ls 5 [(0, .ref (ad 34)), (1, .int x1), (2, .int x2), (3, .int x3), (4, .int x4)] → W p l e (headSpec wsX6_enter (rm_X6_enter (nR + 1))).room s m args below meth c H locs 0 0 (MQ below (wm_Qv D cA ad dsC M') args s 0 0 (wd_A ad dsC.length)) (F0 m 53 ls [])) (x1 : Int32) (x2 : Int32) (x3 : Int32) (x4 : Int32) (M : Mem) (H : Heap) (locs : List Loc) (ls : Array Slot) (hF : B_X6_enter_53 rec kh53 x1 x2 x3 x4 M = some M') (hP : wd_P D cA ad dsC M H) (hS : va_S (wd_A ad dsC.length) s.heap H locs) (hl : lv_has ls 5 [(0, .ref (ad 34)), (1, .int x1), (2, .int x2), (3, .int x3), (4, .int x4)]) : W p l e (headSpec wsX6_enter (rm_X6_enter (nR + 1))).room s m args below meth c H locs 0 0 (MQ below (wm_Qv D cA ad dsC M') args s 0 0 (wd_A ad dsC.length)) (F0 m 53 ls []) := by
  have hx := X.1.1
  have hb := X.1.2.1
  have hts := X.1.2.2.2.2
  unfold B_X6_enter_53 at hF
  refine lv_iload hx hb dX6_enter_53 (lv_at hl 4 rfl) ?_
  refine lv_aload_n hx hb dX6_enter_55 rfl (lv_at hl 0 rfl) ?_
  refine wd_getr (q := 5) X hP 34 dC_34 rfl in_X6_enter_X6 0 rfl (by decide) (by decide +kernel) dX6_enter_56 ?_
  obtain ⟨r_1, hc_2, hF⟩ := bd_c hF
  refine wd_calli X hP hS [] [.int x4] (c_X4_made l D cA ad X.2.2.2.2    M hc_2) (cwV 0 hts gX6_enter_X4_made rfl rfl rfl (by decide +kernel) ⟨(by show _ ≤ _; first | exact Nat.le_of_ble_eq_true rfl | (simp [headSpec, rm_X6_enter]; omega) | omega), (by show _ ≤ _; first | exact Nat.le_of_ble_eq_true rfl | (simp [headSpec, rm_X6_enter]; omega) | omega)⟩) dC_5 rfl rfl hl.1 rfl (Nat.le_of_ble_eq_true rfl) dX6_enter_59 (fun H locs hP hS => ?_)
  refine lv_icmp_ge (tgt := 94) hx hb dX6_enter_62 (by decide) (fun c_9 => ?_) (fun c_9 => ?_)
  · have hF := if_t c_9 hF
    cases hF
    exact wd_retv X hP hS dX6_enter_94
  · have hF := if_e c_9 hF
    refine lv_aload_n hx hb dX6_enter_65 rfl (lv_at hl 0 rfl) ?_
    refine wd_getr (q := 5) X hP 34 dC_34 rfl in_X6_enter_X6 0 rfl (by decide) (by decide +kernel) dX6_enter_66 ?_
    refine lv_iload hx hb dX6_enter_69 (lv_at hl 4 rfl) ?_
    obtain ⟨r_3, hc_4, hF⟩ := bd_c hF
    refine wd_calli X hP hS [.int x4] [] (c_X4_parentOf l D cA ad X.2.2.2.2   x4 M hc_4) (cwV 1 hts gX6_enter_X4_parentOf rfl rfl rfl (by decide +kernel) ⟨(by show _ ≤ _; first | exact Nat.le_of_ble_eq_true rfl | (simp [headSpec, rm_X6_enter]; omega) | omega), (by show _ ≤ _; first | exact Nat.le_of_ble_eq_true rfl | (simp [headSpec, rm_X6_enter]; omega) | omega)⟩) dC_5 rfl rfl hl.1 rfl (Nat.le_of_ble_eq_true rfl) dX6_enter_71 (fun H locs hP hS => ?_)
    refine lv_iload_n hx hb dX6_enter_74 rfl (lv_at hl 1 rfl) ?_
    refine lv_icmp_ne (tgt := 88) hx hb dX6_enter_75 (by decide) (fun c_8 => ?_) (fun c_8 => ?_)
    · have hF := if_e c_8 hF
      exact wb_X6_enter_88 X hrec hk53  x1 x2 x3 x4 M _ _ _ hF hP hS (lv_sub hl [0, 1, 2, 3, 4] rfl)
    · have hF := if_t c_8 hF
      refine lv_aload_n hx hb dX6_enter_78 rfl (lv_at hl 0 rfl) ?_
      refine lv_iload hx hb dX6_enter_79 (lv_at hl 4 rfl) ?_
      refine lv_iload_n hx hb dX6_enter_81 rfl (lv_at hl 2 rfl) ?_
      refine lv_iload_n hx hb dX6_enter_82 rfl (lv_at hl 3 rfl) ?_
      refine lv_iconst (v := (1 : Int32)) hx hb dX6_enter_83 (by decide) ?_
      refine lv_iadd hx hb dX6_enter_84 ?_
      obtain ⟨M_7, hc_6, hF⟩ := bd_c hF
      refine wd_callv X hP hS [.int x4, .int x2, .int (x3 + (1 : Int32))] [] (hrec x4 x2 (x3 + (1 : Int32)) M _ hc_6) (cwV 3 hts gX6_enter_X6_enter rfl rfl rfl (by decide +kernel) ⟨(show nR + 2 + 1 ≤ nR + 1 + 2 by omega), (show 8 + (5 + 11) + (24 * nR + 56) ≤ 24 * (nR + 1) + 56 by omega)⟩) dC_34 rfl rfl hl.1 rfl (Nat.le_of_ble_eq_true rfl) dX6_enter_85 (fun H locs hP hS => ?_)
      exact wb_X6_enter_88 X hrec hk53  x1 x2 x3 x4 M_7 _ _ _ hF hP hS (lv_sub hl [0, 1, 2, 3, 4] rfl)
set_option maxHeartbeats 4000000 in
set_option maxRecDepth 100000 in
theorem wh_X6_enter_53 {p : Program} {l : Launch} {e : Env} {s : State} {m : MethodId} {args : Array Value} {below : List Frame} {meth : Method} {c : Code} {D : va_G} {cA : Nat → ClassId} {ad : Nat → Nat} (X : wd_X p s m args meth c cX6_enter 5 wsX6_enter RX6 none D cA ad dsC.length) {nR : Nat} {rec : Int32 → Int32 → Int32 → Mem → Option Mem} {M' : Mem} (hrec : ∀ (x1 : Int32) (x2 : Int32) (x3 : Int32) (M : Mem) (M' : Mem), rec x1 x2 x3 M = some M' → wm_v l yX6_enter wsX6_enter (rm_X6_enter nR) D cA ad dsC M [.ref (ad 34), .int x1, .int x2, .int x3] M') : ∀ (n : Nat) (x1 : Int32) (x2 : Int32) (x3 : Int32) (x4 : Int32) (M : Mem) (H : Heap) (locs : List Loc) (ls : Array Slot), H_X6_enter_53 rec n x1 x2 x3 x4 M = some M' → wd_P D cA ad dsC M H → va_S (wd_A ad dsC.length) s.heap H locs → lv_has ls 5 [(0, .ref (ad 34)), (1, .int x1), (2, .int x2), (3, .int x3), (4, .int x4)] → W p l e (headSpec wsX6_enter (rm_X6_enter (nR + 1))).room s m args below meth c H locs 0 0 (MQ below (wm_Qv D cA ad dsC M') args s 0 0 (wd_A ad dsC.length)) (F0 m 53 ls []) := by
  intro n
  induction n with
  | zero => intro x1 x2 x3 x4 M H locs ls hF; cases hF
  | succ n ih => intro x1 x2 x3 x4 M H locs ls hF hP hS hl; exact wb_X6_enter_53 X (kh53 := H_X6_enter_53 rec n) hrec ih x1 x2 x3 x4 M H locs ls hF hP hS hl
set_option maxHeartbeats 4000000 in
set_option maxRecDepth 100000 in
theorem ce_X6_enter (l : Launch) (D : va_G) (cA : Nat → ClassId) (ad : Nat → Nat) (hj : wd_inj ad dsC.length) {nR : Nat} {rec : Int32 → Int32 → Int32 → Mem → Option Mem} (hrec : ∀ (x1 : Int32) (x2 : Int32) (x3 : Int32) (M : Mem) (M' : Mem), rec x1 x2 x3 M = some M' → wm_v l yX6_enter wsX6_enter (rm_X6_enter nR) D cA ad dsC M [.ref (ad 34), .int x1, .int x2, .int x3] M') (x1 : Int32) (x2 : Int32) (x3 : Int32) (M : Mem) {M' : Mem} (hF : B_X6_enter_e rec x1 x2 x3 M = some M') : wm_v l yX6_enter wsX6_enter (rm_X6_enter (nR + 1)) D cA ad dsC M [.ref (ad 34), .int x1, .int x2, .int x3] M' := by
  refine Met.ofW (cc := cX6_enter) (maxL := 5) (ret := none) (by decide) rfl ?_
  intro p e s m args below meth c s₁ B hml hv
  obtain ⟨rfl, hP, hK⟩ := hv
  have X : wd_X p s m _ meth c cX6_enter 5 wsX6_enter RX6 none D cA ad dsC.length := ⟨⟨B.exec, B.bytes, hml, findClass_of_methodNamed B.named, atoms_spec (ws := wsX6_enter) B.pre⟩, hK, B.notSynchronized, B.returns, hj⟩
  have hl := lv_entry ([.ref (ad 34), .int x1, .int x2, .int x3]) (n := 5) (Nat.le_of_ble_eq_true rfl)
  rw [lg_entry_eq]
  generalize (lg_sl ([.ref (ad 34), .int x1, .int x2, .int x3]) ++ List.replicate (5 - (lg_sl ([.ref (ad 34), .int x1, .int x2, .int x3])).length) Slot.unset).toArray = ls at hl ⊢
  have hl : lv_has ls 5 [(0, .ref (ad 34)), (1, .int x1), (2, .int x2), (3, .int x3)] := hl
  have hS : va_S (wd_A ad dsC.length) s.heap s.heap [] := va_S.rf
  have hx := X.1.1
  have hb := X.1.2.1
  have hts := X.1.2.2.2.2
  unfold B_X6_enter_e at hF
  refine lv_aload_n hx hb dX6_enter_0 rfl (lv_at hl 0 rfl) ?_
  refine wd_getr (q := 5) X hP 34 dC_34 rfl in_X6_enter_X6 0 rfl (by decide) (by decide +kernel) dX6_enter_1 ?_
  refine lv_iload_n hx hb dX6_enter_4 rfl (lv_at hl 1 rfl) ?_
  obtain ⟨r_1, hc_2, hF⟩ := bd_c hF
  refine wd_calli X hP hS [.int x1] [] (c_X4_isState l D cA ad X.2.2.2.2   x1 M hc_2) (cwV 1 hts gX6_enter_X4_isState rfl rfl rfl (by decide +kernel) ⟨(by show _ ≤ _; first | exact Nat.le_of_ble_eq_true rfl | (simp [headSpec, rm_X6_enter]; omega) | omega), (by show _ ≤ _; first | exact Nat.le_of_ble_eq_true rfl | (simp [headSpec, rm_X6_enter]; omega) | omega)⟩) dC_5 rfl rfl hl.1 rfl (Nat.le_of_ble_eq_true rfl) dX6_enter_5 (fun H locs hP hS => ?_)
  refine lv_if_eq (tgt := 17) hx hb dX6_enter_8 (by decide) (fun c_18 => ?_) (fun c_18 => ?_)
  · have hF := if_t c_18 hF
    cases hF
    exact wd_retv X hP hS dX6_enter_17
  · have hF := if_e c_18 hF
    refine lv_iload_n hx hb dX6_enter_11 rfl (lv_at hl 3 rfl) ?_
    refine lv_bipush (v := (6 : Int32)) hx hb dX6_enter_12 (by decide) ?_
    refine lv_icmp_le (tgt := 18) hx hb dX6_enter_14 (by decide) (fun c_17 => ?_) (fun c_17 => ?_)
    · have hF := if_t c_17 hF
      refine lv_aload_n hx hb dX6_enter_18 rfl (lv_at hl 0 rfl) ?_
      refine wd_getr (q := 31) X hP 34 dC_34 rfl in_X6_enter_X6 2 rfl (by decide) (by decide +kernel) dX6_enter_19 ?_
      refine lv_aload_n hx hb dX6_enter_22 rfl (lv_at hl 0 rfl) ?_
      refine wd_geti X hP 34 dC_34 rfl in_X6_enter_X6 4 rfl (by decide) (by decide +kernel) dX6_enter_23 ?_
      refine lv_aload_n hx hb dX6_enter_26 rfl (lv_at hl 0 rfl) ?_
      refine wd_getr (q := 5) X hP 34 dC_34 rfl in_X6_enter_X6 0 rfl (by decide) (by decide +kernel) dX6_enter_27 ?_
      refine wd_callr X hP hS [] [.int (M 34 4), .ref (ad 31)] (c_X4_entering l D cA ad X.2.2.2.2 M) (cwV 0 hts gX6_enter_X4_entering rfl rfl rfl (by decide +kernel) ⟨(by show _ ≤ _; first | exact Nat.le_of_ble_eq_true rfl | (simp [headSpec, rm_X6_enter]; omega) | omega), (by show _ ≤ _; first | exact Nat.le_of_ble_eq_true rfl | (simp [headSpec, rm_X6_enter]; omega) | omega)⟩) dC_5 rfl rfl hl.1 rfl (Nat.le_of_ble_eq_true rfl) dX6_enter_30 (fun H locs hP hS => ?_)
      refine lv_iload_n hx hb dX6_enter_33 rfl (lv_at hl 1 rfl) ?_
      obtain ⟨M_5, hc_4, hF⟩ := bd_c hF
      refine wd_callv X hP hS [.int (M 34 4), .ref (ad 12), .int x1] [] (c_X1_addRow l D cA ad X.2.2.2.2 31 12 mr_31 mr_12 (M 34 4) x1 M hc_4) (cwV 3 hts gX6_enter_X1_addRow rfl rfl rfl (by decide +kernel) ⟨(by show _ ≤ _; first | exact Nat.le_of_ble_eq_true rfl | (simp [headSpec, rm_X6_enter]; omega) | omega), (by show _ ≤ _; first | exact Nat.le_of_ble_eq_true rfl | (simp [headSpec, rm_X6_enter]; omega) | omega)⟩) dC_31 rfl rfl hl.1 rfl (Nat.le_of_ble_eq_true rfl) dX6_enter_34 (fun H locs hP hS => ?_)
      refine lv_aload_n hx hb dX6_enter_37 rfl (lv_at hl 0 rfl) ?_
      refine wd_getr (q := 5) X hP 34 dC_34 rfl in_X6_enter_X6 0 rfl (by decide) (by decide +kernel) dX6_enter_38 ?_
      refine lv_iload_n hx hb dX6_enter_41 rfl (lv_at hl 1 rfl) ?_
      obtain ⟨r_6, hc_7, hF⟩ := bd_c hF
      refine wd_calli X hP hS [.int x1] [] (c_X4_isWhole l D cA ad X.2.2.2.2   x1 M_5 hc_7) (cwV 1 hts gX6_enter_X4_isWhole rfl rfl rfl (by decide +kernel) ⟨(by show _ ≤ _; first | exact Nat.le_of_ble_eq_true rfl | (simp [headSpec, rm_X6_enter]; omega) | omega), (by show _ ≤ _; first | exact Nat.le_of_ble_eq_true rfl | (simp [headSpec, rm_X6_enter]; omega) | omega)⟩) dC_5 rfl rfl hl.1 rfl (Nat.le_of_ble_eq_true rfl) dX6_enter_42 (fun H locs hP hS => ?_)
      refine lv_if_eq (tgt := 95) hx hb dX6_enter_45 (by decide) (fun c_16 => ?_) (fun c_16 => ?_)
      · have hF := if_t c_16 hF
        refine lv_aload_n hx hb dX6_enter_95 rfl (lv_at hl 0 rfl) ?_
        refine wd_getr (q := 5) X hP 34 dC_34 rfl in_X6_enter_X6 0 rfl (by decide) (by decide +kernel) dX6_enter_96 ?_
        refine lv_iload_n hx hb dX6_enter_99 rfl (lv_at hl 1 rfl) ?_
        refine lv_iload_n hx hb dX6_enter_100 rfl (lv_at hl 2 rfl) ?_
        obtain ⟨r_8, hc_9, hF⟩ := bd_c hF
        refine wd_calli X hP hS [.int x1, .int x2] [] (c_X4_childToward l D cA ad X.2.2.2.2   x1 x2 M_5 hc_9) (cwV 2 hts gX6_enter_X4_childToward rfl rfl rfl (by decide +kernel) ⟨(by show _ ≤ _; first | exact Nat.le_of_ble_eq_true rfl | (simp [headSpec, rm_X6_enter]; omega) | omega), (by show _ ≤ _; first | exact Nat.le_of_ble_eq_true rfl | (simp [headSpec, rm_X6_enter]; omega) | omega)⟩) dC_5 rfl rfl hl.1 rfl (Nat.le_of_ble_eq_true rfl) dX6_enter_101 (fun H locs hP hS => ?_)
        refine lv_istore (lv' := [(4, .int r_8), (0, .ref (ad 34)), (1, .int x1), (2, .int x2), (3, .int x3)]) hx hb dX6_enter_104 hl (by decide) rfl (fun ls hl => ?_)
        refine lv_iload hx hb dX6_enter_106 (lv_at hl 0 rfl) ?_
        refine lv_iconst (v := (-1 : Int32)) hx hb dX6_enter_108 (by decide) ?_
        refine lv_icmp_eq (tgt := 119) hx hb dX6_enter_109 (by decide) (fun c_13 => ?_) (fun c_13 => ?_)
        · have hF := if_t c_13 hF
          exact wb_X6_enter_119 X hrec   x1 x2 x3 M_5 _ _ _ hF hP hS (lv_sub hl [1, 2, 3, 4] rfl)
        · have hF := if_e c_13 hF
          refine lv_aload_n hx hb dX6_enter_112 rfl (lv_at hl 1 rfl) ?_
          refine lv_iload_n hx hb dX6_enter_113 rfl (lv_at hl 2 rfl) ?_
          refine lv_iload hx hb dX6_enter_114 (lv_at hl 0 rfl) ?_
          obtain ⟨M_12, hc_11, hF⟩ := bd_c hF
          refine wd_callv X hP hS [.int x1, .int r_8] [] (c_X6_makeCurrent l D cA ad X.2.2.2.2   x1 r_8 M_5 hc_11) (cwV 2 hts gX6_enter_X6_makeCurrent rfl rfl rfl (by decide +kernel) ⟨(by show _ ≤ _; first | exact Nat.le_of_ble_eq_true rfl | (simp [headSpec, rm_X6_enter]; omega) | omega), (by show _ ≤ _; first | exact Nat.le_of_ble_eq_true rfl | (simp [headSpec, rm_X6_enter]; omega) | omega)⟩) dC_34 rfl rfl hl.1 rfl (Nat.le_of_ble_eq_true rfl) dX6_enter_116 (fun H locs hP hS => ?_)
          exact wb_X6_enter_119 X hrec   x1 x2 x3 M_12 _ _ _ hF hP hS (lv_sub hl [1, 2, 3, 4] rfl)
      · have hF := if_e c_16 hF
        refine lv_iload_n hx hb dX6_enter_48 rfl (lv_at hl 1 rfl) ?_
        refine lv_iconst (v := (1 : Int32)) hx hb dX6_enter_49 (by decide) ?_
        refine lv_iadd hx hb dX6_enter_50 ?_
        obtain ⟨x4_14, e_15, hF⟩ := nm_c hF
        refine wd_top e_15 ?_
        refine lv_istore (lv' := [(4, .int x4_14), (0, .ref (ad 34)), (1, .int x1), (2, .int x2), (3, .int x3)]) hx hb dX6_enter_51 hl (by decide) rfl (fun ls hl => ?_)
        exact wh_X6_enter_53 X hrec   100 x1 x2 x3 x4_14 M_5 _ _ _ hF hP hS (lv_sub hl [1, 2, 3, 4, 0] rfl)
    · have hF := if_e c_17 hF
      cases hF
      exact wd_retv X hP hS dX6_enter_17
set_option maxHeartbeats 4000000 in
set_option maxRecDepth 100000 in
theorem c_X6_enter (l : Launch) (D : va_G) (cA : Nat → ClassId) (ad : Nat → Nat) (hj : wd_inj ad dsC.length) : ∀ (n : Nat) (x1 : Int32) (x2 : Int32) (x3 : Int32) (M : Mem) {M' : Mem}, F_X6_enter n x1 x2 x3 M = some M' → wm_v l yX6_enter wsX6_enter (rm_X6_enter n) D cA ad dsC M [.ref (ad 34), .int x1, .int x2, .int x3] M' := by
  intro n
  induction n with
  | zero => intro x1 x2 x3 M M' hF; cases hF
  | succ n ih => intro x1 x2 x3 M M' hF; exact ce_X6_enter l D cA ad hj (rec := F_X6_enter n) (fun x1 x2 x3 M M' h => ih x1 x2 x3 M h) x1 x2 x3 M hF
/-! X6_start (I)V -/
theorem in_X6_start_X6 : ∀ w ∈ u_ws RX6 TX6 5, w ∈ wsX6_start := by decide +kernel
set_option maxHeartbeats 4000000 in
set_option maxRecDepth 100000 in
theorem wb_X6_start_2 {p : Program} {l : Launch} {e : Env} {s : State} {m : MethodId} {args : Array Value} {below : List Frame} {meth : Method} {c : Code} {D : va_G} {cA : Nat → ClassId} {ad : Nat → Nat} (X : wd_X p s m args meth c cX6_start 3 wsX6_start RX6 none D cA ad dsC.length) {kh2 : Int32 → Int32 → Mem → Option Mem} {M' : Mem} (hk2 : ∀ (x1 : Int32) (x2 : Int32) (M : Mem) (H : Heap) (locs : List Loc) (ls : Array Slot), kh2 x1 x2 M = some M' → wd_P D cA ad dsC M H → va_S (wd_A ad dsC.length) s.heap H locs → lv_has ls 3 [(0, .ref (ad 34)), (1, .int x1), (2, .int x2)] → W p l e (headSpec wsX6_start rm_X6_start).room s m args below meth c H locs 0 0 (MQ below (wm_Qv D cA ad dsC M') args s 0 0 (wd_A ad dsC.length)) (F0 m 2 ls [])) (x1 : Int32) (x2 : Int32) (M : Mem) (H : Heap) (locs : List Loc) (ls : Array Slot) (hF : B_X6_start_2 kh2 x1 x2 M = some M') (hP : wd_P D cA ad dsC M H) (hS : va_S (wd_A ad dsC.length) s.heap H locs) (hl : lv_has ls 3 [(0, .ref (ad 34)), (1, .int x1), (2, .int x2)]) : W p l e (headSpec wsX6_start rm_X6_start).room s m args below meth c H locs 0 0 (MQ below (wm_Qv D cA ad dsC M') args s 0 0 (wd_A ad dsC.length)) (F0 m 2 ls []) := by
  have hx := X.1.1
  have hb := X.1.2.1
  have hts := X.1.2.2.2.2
  unfold B_X6_start_2 at hF
  refine lv_iload_n hx hb dX6_start_2 rfl (lv_at hl 2 rfl) ?_
  refine lv_bipush (v := (14 : Int32)) hx hb dX6_start_3 (by decide) ?_
  refine lv_icmp_ge (tgt := 28) hx hb dX6_start_5 (by decide) (fun c_14 => ?_) (fun c_14 => ?_)
  · have hF := if_t c_14 hF
    refine lv_aload_n hx hb dX6_start_28 rfl (lv_at hl 0 rfl) ?_
    refine lv_iload_n hx hb dX6_start_29 rfl (lv_at hl 1 rfl) ?_
    obtain ⟨M_3, hc_2, hF⟩ := bd_c hF
    refine wd_callv X hP hS [.int x1] [] (c_X6_noteIn l D cA ad X.2.2.2.2   x1 M hc_2) (cwV 1 hts gX6_start_X6_noteIn rfl rfl rfl (by decide +kernel) ⟨(by show _ ≤ _; first | exact Nat.le_of_ble_eq_true rfl | (simp [headSpec, rm_X6_start]; omega) | omega), (by show _ ≤ _; first | exact Nat.le_of_ble_eq_true rfl | (simp [headSpec, rm_X6_start]; omega) | omega)⟩) dC_34 rfl rfl hl.1 rfl (Nat.le_of_ble_eq_true rfl) dX6_start_30 (fun H locs hP hS => ?_)
    refine lv_aload_n hx hb dX6_start_33 rfl (lv_at hl 0 rfl) ?_
    refine lv_iconst (v := (0 : Int32)) hx hb dX6_start_34 (by decide) ?_
    refine lv_iconst (v := (-1 : Int32)) hx hb dX6_start_35 (by decide) ?_
    refine lv_iconst (v := (0 : Int32)) hx hb dX6_start_36 (by decide) ?_
    obtain ⟨M_6, hc_5, hF⟩ := bd_c hF
    refine wd_callv X hP hS [.int (0 : Int32), .int (-1 : Int32), .int (0 : Int32)] [] (c_X6_enter l D cA ad X.2.2.2.2 10   (0 : Int32) (-1 : Int32) (0 : Int32) M_3 hc_5) (cwV 3 hts gX6_start_X6_enter rfl rfl rfl (by decide +kernel) ⟨(by show _ ≤ _; first | exact Nat.le_of_ble_eq_true rfl | (simp [headSpec, rm_X6_start]; omega) | omega), (by show _ ≤ _; first | exact Nat.le_of_ble_eq_true rfl | (simp [headSpec, rm_X6_start]; omega) | omega)⟩) dC_34 rfl rfl hl.1 rfl (Nat.le_of_ble_eq_true rfl) dX6_start_37 (fun H locs hP hS => ?_)
    cases hF
    exact wd_retv X hP hS dX6_start_40
  · have hF := if_e c_14 hF
    refine lv_aload_n hx hb dX6_start_8 rfl (lv_at hl 0 rfl) ?_
    refine wd_getr (q := 35) X hP 34 dC_34 rfl in_X6_start_X6 3 rfl (by decide) (by decide +kernel) dX6_start_9 ?_
    refine lv_iload_n hx hb dX6_start_12 rfl (lv_at hl 2 rfl) ?_
    refine lv_aload_n hx hb dX6_start_13 rfl (lv_at hl 0 rfl) ?_
    refine wd_getr (q := 5) X hP 34 dC_34 rfl in_X6_start_X6 0 rfl (by decide) (by decide +kernel) dX6_start_14 ?_
    refine lv_iload_n hx hb dX6_start_17 rfl (lv_at hl 2 rfl) ?_
    obtain ⟨r_7, hc_8, hF⟩ := bd_c hF
    refine wd_calli X hP hS [.int x2] [.int x2, .ref (ad 35)] (c_X4_currentAtFirst l D cA ad X.2.2.2.2   x2 M hc_8) (cwV 1 hts gX6_start_X4_currentAtFirst rfl rfl rfl (by decide +kernel) ⟨(by show _ ≤ _; first | exact Nat.le_of_ble_eq_true rfl | (simp [headSpec, rm_X6_start]; omega) | omega), (by show _ ≤ _; first | exact Nat.le_of_ble_eq_true rfl | (simp [headSpec, rm_X6_start]; omega) | omega)⟩) dC_5 rfl rfl hl.1 rfl (Nat.le_of_ble_eq_true rfl) dX6_start_18 (fun H locs hP hS => ?_)
    obtain ⟨h_9, hF⟩ := gi_c hF
    obtain ⟨M_10, e_11, hF⟩ := wr_c hF
    refine wd_ist X hP hS 35 dC_35 h_9 dX6_start_21 (fun H locs hP hS => ?_)
    rw [← e_11] at hP
    obtain ⟨x2_12, e_13, hF⟩ := nm_c hF
    refine lv_iinc (v := x2_12) (lv' := [(2, .int x2_12), (0, .ref (ad 34)), (1, .int x1)]) hx hb dX6_start_22 hl (k := 2) rfl (by rw [e_13]; rfl) (by decide) rfl (fun ls hl => ?_)
    refine lv_goto (tgt := 2) hx hb dX6_start_25 (by decide) ?_
    exact hk2 x1 x2_12 M_10 _ _ _ hF hP hS (lv_sub hl [1, 2, 0] rfl)
set_option maxHeartbeats 4000000 in
set_option maxRecDepth 100000 in
theorem wh_X6_start_2 {p : Program} {l : Launch} {e : Env} {s : State} {m : MethodId} {args : Array Value} {below : List Frame} {meth : Method} {c : Code} {D : va_G} {cA : Nat → ClassId} {ad : Nat → Nat} (X : wd_X p s m args meth c cX6_start 3 wsX6_start RX6 none D cA ad dsC.length) {M' : Mem}  : ∀ (n : Nat) (x1 : Int32) (x2 : Int32) (M : Mem) (H : Heap) (locs : List Loc) (ls : Array Slot), H_X6_start_2  n x1 x2 M = some M' → wd_P D cA ad dsC M H → va_S (wd_A ad dsC.length) s.heap H locs → lv_has ls 3 [(0, .ref (ad 34)), (1, .int x1), (2, .int x2)] → W p l e (headSpec wsX6_start rm_X6_start).room s m args below meth c H locs 0 0 (MQ below (wm_Qv D cA ad dsC M') args s 0 0 (wd_A ad dsC.length)) (F0 m 2 ls []) := by
  intro n
  induction n with
  | zero => intro x1 x2 M H locs ls hF; cases hF
  | succ n ih => intro x1 x2 M H locs ls hF hP hS hl; exact wb_X6_start_2 X (kh2 := H_X6_start_2  n) ih x1 x2 M H locs ls hF hP hS hl
set_option maxHeartbeats 4000000 in
set_option maxRecDepth 100000 in
theorem c_X6_start (l : Launch) (D : va_G) (cA : Nat → ClassId) (ad : Nat → Nat) (hj : wd_inj ad dsC.length)   (x1 : Int32) (M : Mem) {M' : Mem} (hF : F_X6_start x1 M = some M') : wm_v l yX6_start wsX6_start rm_X6_start D cA ad dsC M [.ref (ad 34), .int x1] M' := by
  refine Met.ofW (cc := cX6_start) (maxL := 3) (ret := none) (by decide) rfl ?_
  intro p e s m args below meth c s₁ B hml hv
  obtain ⟨rfl, hP, hK⟩ := hv
  have X : wd_X p s m _ meth c cX6_start 3 wsX6_start RX6 none D cA ad dsC.length := ⟨⟨B.exec, B.bytes, hml, findClass_of_methodNamed B.named, atoms_spec (ws := wsX6_start) B.pre⟩, hK, B.notSynchronized, B.returns, hj⟩
  have hl := lv_entry ([.ref (ad 34), .int x1]) (n := 3) (Nat.le_of_ble_eq_true rfl)
  rw [lg_entry_eq]
  generalize (lg_sl ([.ref (ad 34), .int x1]) ++ List.replicate (3 - (lg_sl ([.ref (ad 34), .int x1])).length) Slot.unset).toArray = ls at hl ⊢
  have hl : lv_has ls 3 [(0, .ref (ad 34)), (1, .int x1)] := hl
  have hS : va_S (wd_A ad dsC.length) s.heap s.heap [] := va_S.rf
  have hx := X.1.1
  have hb := X.1.2.1
  have hts := X.1.2.2.2.2
  unfold F_X6_start at hF
  refine lv_iconst (v := (0 : Int32)) hx hb dX6_start_0 (by decide) ?_
  refine lv_istore_n (lv' := [(2, .int (0 : Int32)), (0, .ref (ad 34)), (1, .int x1)]) hx hb dX6_start_1 rfl hl (by decide) rfl (fun ls hl => ?_)
  exact wh_X6_start_2 X    100 x1 (0 : Int32) M _ _ _ hF hP hS (lv_sub hl [1, 2, 0] rfl)
/-! X6_isActive (I)Z -/
theorem in_X6_isActive_X6 : ∀ w ∈ u_ws RX6 TX6 5, w ∈ wsX6_isActive := by decide +kernel
set_option maxHeartbeats 4000000 in
set_option maxRecDepth 100000 in
theorem wb_X6_isActive_57 {p : Program} {l : Launch} {e : Env} {s : State} {m : MethodId} {args : Array Value} {below : List Frame} {meth : Method} {c : Code} {D : va_G} {cA : Nat → ClassId} {ad : Nat → Nat} (X : wd_X p s m args meth c cX6_isActive 5 wsX6_isActive RX6 (some .boolean) D cA ad dsC.length) {M : Mem} {r : Int32}  (x2 : Int32) (H : Heap) (locs : List Loc) (ls : Array Slot) (hF : B_X6_isActive_57 M x2 = some r) (hP : wd_P D cA ad dsC M H) (hS : va_S (wd_A ad dsC.length) s.heap H locs) (hl : lv_has ls 5 [(2, .int x2)]) : W p l e (headSpec wsX6_isActive rm_X6_isActive).room s m args below meth c H locs 0 0 (MQ below (wm_Qi D cA ad dsC r M) args s 0 0 (wd_A ad dsC.length)) (F0 m 57 ls []) := by
  have hx := X.1.1
  have hb := X.1.2.1
  have hts := X.1.2.2.2.2
  unfold B_X6_isActive_57 at hF
  refine lv_iload_n hx hb dX6_isActive_57 rfl (lv_at hl 0 rfl) ?_
  refine lv_if_ne (tgt := 65) hx hb dX6_isActive_58 (by decide) (fun c_1 => ?_) (fun c_1 => ?_)
  · have hF := if_e c_1 hF
    refine lv_iconst (v := (0 : Int32)) hx hb dX6_isActive_65 (by decide) ?_
    cases hF
    exact wd_reti X hP hS rfl (by decide) dX6_isActive_66
  · have hF := if_t c_1 hF
    refine lv_iconst (v := (1 : Int32)) hx hb dX6_isActive_61 (by decide) ?_
    refine lv_goto (tgt := 66) hx hb dX6_isActive_62 (by decide) ?_
    cases hF
    exact wd_reti X hP hS rfl (by decide) dX6_isActive_66
set_option maxHeartbeats 4000000 in
set_option maxRecDepth 100000 in
theorem wb_X6_isActive_48 {p : Program} {l : Launch} {e : Env} {s : State} {m : MethodId} {args : Array Value} {below : List Frame} {meth : Method} {c : Code} {D : va_G} {cA : Nat → ClassId} {ad : Nat → Nat} (X : wd_X p s m args meth c cX6_isActive 5 wsX6_isActive RX6 (some .boolean) D cA ad dsC.length) {kh4 : Int32 → Int32 → Option Int32} {M : Mem} {r : Int32} (hk4 : ∀ (x2 : Int32) (x3 : Int32) (H : Heap) (locs : List Loc) (ls : Array Slot), kh4 x2 x3 = some r → wd_P D cA ad dsC M H → va_S (wd_A ad dsC.length) s.heap H locs → lv_has ls 5 [(0, .ref (ad 34)), (2, .int x2), (3, .int x3)] → W p l e (headSpec wsX6_isActive rm_X6_isActive).room s m args below meth c H locs 0 0 (MQ below (wm_Qi D cA ad dsC r M) args s 0 0 (wd_A ad dsC.length)) (F0 m 4 ls [])) (x3 : Int32) (x4 : Int32) (H : Heap) (locs : List Loc) (ls : Array Slot) (hF : B_X6_isActive_48 kh4 M x3 x4 = some r) (hP : wd_P D cA ad dsC M H) (hS : va_S (wd_A ad dsC.length) s.heap H locs) (hl : lv_has ls 5 [(0, .ref (ad 34)), (3, .int x3), (4, .int x4)]) : W p l e (headSpec wsX6_isActive rm_X6_isActive).room s m args below meth c H locs 0 0 (MQ below (wm_Qi D cA ad dsC r M) args s 0 0 (wd_A ad dsC.length)) (F0 m 48 ls []) := by
  have hx := X.1.1
  have hb := X.1.2.1
  have hts := X.1.2.2.2.2
  unfold B_X6_isActive_48 at hF
  refine lv_iload hx hb dX6_isActive_48 (lv_at hl 2 rfl) ?_
  refine lv_istore_n (lv' := [(2, .int x4), (0, .ref (ad 34)), (3, .int x3), (4, .int x4)]) hx hb dX6_isActive_50 rfl hl (by decide) rfl (fun ls hl => ?_)
  obtain ⟨x3_1, e_2, hF⟩ := nm_c hF
  refine lv_iinc (v := x3_1) (lv' := [(3, .int x3_1), (2, .int x4), (0, .ref (ad 34)), (4, .int x4)]) hx hb dX6_isActive_51 hl (k := 2) rfl (by rw [e_2]; rfl) (by decide) rfl (fun ls hl => ?_)
  refine lv_goto (tgt := 4) hx hb dX6_isActive_54 (by decide) ?_
  exact hk4 x4 x3_1 _ _ _ hF hP hS (lv_sub hl [2, 1, 0] rfl)
set_option maxHeartbeats 4000000 in
set_option maxRecDepth 100000 in
theorem wb_X6_isActive_4 {p : Program} {l : Launch} {e : Env} {s : State} {m : MethodId} {args : Array Value} {below : List Frame} {meth : Method} {c : Code} {D : va_G} {cA : Nat → ClassId} {ad : Nat → Nat} (X : wd_X p s m args meth c cX6_isActive 5 wsX6_isActive RX6 (some .boolean) D cA ad dsC.length) {kh4 : Int32 → Int32 → Option Int32} {M : Mem} {r : Int32} (hk4 : ∀ (x2 : Int32) (x3 : Int32) (H : Heap) (locs : List Loc) (ls : Array Slot), kh4 x2 x3 = some r → wd_P D cA ad dsC M H → va_S (wd_A ad dsC.length) s.heap H locs → lv_has ls 5 [(0, .ref (ad 34)), (2, .int x2), (3, .int x3)] → W p l e (headSpec wsX6_isActive rm_X6_isActive).room s m args below meth c H locs 0 0 (MQ below (wm_Qi D cA ad dsC r M) args s 0 0 (wd_A ad dsC.length)) (F0 m 4 ls [])) (x2 : Int32) (x3 : Int32) (H : Heap) (locs : List Loc) (ls : Array Slot) (hF : B_X6_isActive_4 kh4 M x2 x3 = some r) (hP : wd_P D cA ad dsC M H) (hS : va_S (wd_A ad dsC.length) s.heap H locs) (hl : lv_has ls 5 [(0, .ref (ad 34)), (2, .int x2), (3, .int x3)]) : W p l e (headSpec wsX6_isActive rm_X6_isActive).room s m args below meth c H locs 0 0 (MQ below (wm_Qi D cA ad dsC r M) args s 0 0 (wd_A ad dsC.length)) (F0 m 4 ls []) := by
  have hx := X.1.1
  have hb := X.1.2.1
  have hts := X.1.2.2.2.2
  unfold B_X6_isActive_4 at hF
  refine lv_iload_n hx hb dX6_isActive_4 rfl (lv_at hl 2 rfl) ?_
  refine lv_bipush (v := (6 : Int32)) hx hb dX6_isActive_5 (by decide) ?_
  refine lv_icmp_gt (tgt := 57) hx hb dX6_isActive_7 (by decide) (fun c_10 => ?_) (fun c_10 => ?_)
  · have hF := if_t c_10 hF
    exact wb_X6_isActive_57 X    x2 _ _ _ hF hP hS (lv_sub hl [1] rfl)
  · have hF := if_e c_10 hF
    refine lv_iload_n hx hb dX6_isActive_10 rfl (lv_at hl 1 rfl) ?_
    refine lv_if_le (tgt := 57) hx hb dX6_isActive_11 (by decide) (fun c_9 => ?_) (fun c_9 => ?_)
    · have hF := if_t c_9 hF
      exact wb_X6_isActive_57 X    x2 _ _ _ hF hP hS (lv_sub hl [1] rfl)
    · have hF := if_e c_9 hF
      refine lv_aload_n hx hb dX6_isActive_14 rfl (lv_at hl 0 rfl) ?_
      refine wd_getr (q := 5) X hP 34 dC_34 rfl in_X6_isActive_X6 0 rfl (by decide) (by decide +kernel) dX6_isActive_15 ?_
      refine lv_iload_n hx hb dX6_isActive_18 rfl (lv_at hl 1 rfl) ?_
      obtain ⟨r_1, hc_2, hF⟩ := bd_c hF
      refine wd_calli X hP hS [.int x2] [] (c_X4_parentOf l D cA ad X.2.2.2.2   x2 M hc_2) (cwV 1 hts gX6_isActive_X4_parentOf rfl rfl rfl (by decide +kernel) ⟨(by show _ ≤ _; first | exact Nat.le_of_ble_eq_true rfl | (simp [headSpec, rm_X6_isActive]; omega) | omega), (by show _ ≤ _; first | exact Nat.le_of_ble_eq_true rfl | (simp [headSpec, rm_X6_isActive]; omega) | omega)⟩) dC_5 rfl rfl hl.1 rfl (Nat.le_of_ble_eq_true rfl) dX6_isActive_19 (fun H locs hP hS => ?_)
      refine lv_istore (lv' := [(4, .int r_1), (0, .ref (ad 34)), (2, .int x2), (3, .int x3)]) hx hb dX6_isActive_22 hl (by decide) rfl (fun ls hl => ?_)
      refine lv_aload_n hx hb dX6_isActive_24 rfl (lv_at hl 1 rfl) ?_
      refine wd_getr (q := 5) X hP 34 dC_34 rfl in_X6_isActive_X6 0 rfl (by decide) (by decide +kernel) dX6_isActive_25 ?_
      refine lv_iload hx hb dX6_isActive_28 (lv_at hl 0 rfl) ?_
      obtain ⟨r_3, hc_4, hF⟩ := bd_c hF
      refine wd_calli X hP hS [.int r_1] [] (c_X4_isWhole l D cA ad X.2.2.2.2   r_1 M hc_4) (cwV 1 hts gX6_isActive_X4_isWhole rfl rfl rfl (by decide +kernel) ⟨(by show _ ≤ _; first | exact Nat.le_of_ble_eq_true rfl | (simp [headSpec, rm_X6_isActive]; omega) | omega), (by show _ ≤ _; first | exact Nat.le_of_ble_eq_true rfl | (simp [headSpec, rm_X6_isActive]; omega) | omega)⟩) dC_5 rfl rfl hl.1 rfl (Nat.le_of_ble_eq_true rfl) dX6_isActive_30 (fun H locs hP hS => ?_)
      refine lv_if_ne (tgt := 48) hx hb dX6_isActive_33 (by decide) (fun c_8 => ?_) (fun c_8 => ?_)
      · have hF := if_e c_8 hF
        exact wb_X6_isActive_48 X  hk4  x3 r_1 _ _ _ hF hP hS (lv_sub hl [1, 3, 0] rfl)
      · have hF := if_t c_8 hF
        refine lv_aload_n hx hb dX6_isActive_36 rfl (lv_at hl 1 rfl) ?_
        refine lv_iload hx hb dX6_isActive_37 (lv_at hl 0 rfl) ?_
        obtain ⟨r_5, hc_6, hF⟩ := bd_c hF
        refine wd_calli X hP hS [.int r_1] [] (c_X6_currentChild l D cA ad X.2.2.2.2   r_1 M hc_6) (cwV 1 hts gX6_isActive_X6_currentChild rfl rfl rfl (by decide +kernel) ⟨(by show _ ≤ _; first | exact Nat.le_of_ble_eq_true rfl | (simp [headSpec, rm_X6_isActive]; omega) | omega), (by show _ ≤ _; first | exact Nat.le_of_ble_eq_true rfl | (simp [headSpec, rm_X6_isActive]; omega) | omega)⟩) dC_34 rfl rfl hl.1 rfl (Nat.le_of_ble_eq_true rfl) dX6_isActive_39 (fun H locs hP hS => ?_)
        refine lv_iload_n hx hb dX6_isActive_42 rfl (lv_at hl 2 rfl) ?_
        refine lv_icmp_eq (tgt := 48) hx hb dX6_isActive_43 (by decide) (fun c_7 => ?_) (fun c_7 => ?_)
        · have hF := if_t c_7 hF
          exact wb_X6_isActive_48 X  hk4  x3 r_1 _ _ _ hF hP hS (lv_sub hl [1, 3, 0] rfl)
        · have hF := if_e c_7 hF
          refine lv_iconst (v := (0 : Int32)) hx hb dX6_isActive_46 (by decide) ?_
          cases hF
          exact wd_reti X hP hS rfl (by decide) dX6_isActive_47
set_option maxHeartbeats 4000000 in
set_option maxRecDepth 100000 in
theorem wh_X6_isActive_4 {p : Program} {l : Launch} {e : Env} {s : State} {m : MethodId} {args : Array Value} {below : List Frame} {meth : Method} {c : Code} {D : va_G} {cA : Nat → ClassId} {ad : Nat → Nat} (X : wd_X p s m args meth c cX6_isActive 5 wsX6_isActive RX6 (some .boolean) D cA ad dsC.length) {M : Mem} {r : Int32}  : ∀ (n : Nat) (x2 : Int32) (x3 : Int32) (H : Heap) (locs : List Loc) (ls : Array Slot), H_X6_isActive_4 M n x2 x3 = some r → wd_P D cA ad dsC M H → va_S (wd_A ad dsC.length) s.heap H locs → lv_has ls 5 [(0, .ref (ad 34)), (2, .int x2), (3, .int x3)] → W p l e (headSpec wsX6_isActive rm_X6_isActive).room s m args below meth c H locs 0 0 (MQ below (wm_Qi D cA ad dsC r M) args s 0 0 (wd_A ad dsC.length)) (F0 m 4 ls []) := by
  intro n
  induction n with
  | zero => intro x2 x3 H locs ls hF; cases hF
  | succ n ih => intro x2 x3 H locs ls hF hP hS hl; exact wb_X6_isActive_4 X (kh4 := H_X6_isActive_4 M n) ih x2 x3 H locs ls hF hP hS hl
set_option maxHeartbeats 4000000 in
set_option maxRecDepth 100000 in
theorem c_X6_isActive (l : Launch) (D : va_G) (cA : Nat → ClassId) (ad : Nat → Nat) (hj : wd_inj ad dsC.length)   (x1 : Int32) (M : Mem) {r : Int32} (hF : F_X6_isActive x1 M = some r) : wm_i l yX6_isActive wsX6_isActive rm_X6_isActive D cA ad dsC M [.ref (ad 34), .int x1] r M := by
  refine Met.ofW (cc := cX6_isActive) (maxL := 5) (ret := (some .boolean)) (by decide) rfl ?_
  intro p e s m args below meth c s₁ B hml hv
  obtain ⟨rfl, hP, hK⟩ := hv
  have X : wd_X p s m _ meth c cX6_isActive 5 wsX6_isActive RX6 (some .boolean) D cA ad dsC.length := ⟨⟨B.exec, B.bytes, hml, findClass_of_methodNamed B.named, atoms_spec (ws := wsX6_isActive) B.pre⟩, hK, B.notSynchronized, B.returns, hj⟩
  have hl := lv_entry ([.ref (ad 34), .int x1]) (n := 5) (Nat.le_of_ble_eq_true rfl)
  rw [lg_entry_eq]
  generalize (lg_sl ([.ref (ad 34), .int x1]) ++ List.replicate (5 - (lg_sl ([.ref (ad 34), .int x1])).length) Slot.unset).toArray = ls at hl ⊢
  have hl : lv_has ls 5 [(0, .ref (ad 34)), (1, .int x1)] := hl
  have hS : va_S (wd_A ad dsC.length) s.heap s.heap [] := va_S.rf
  have hx := X.1.1
  have hb := X.1.2.1
  have hts := X.1.2.2.2.2
  unfold F_X6_isActive at hF
  refine lv_iload_n hx hb dX6_isActive_0 rfl (lv_at hl 1 rfl) ?_
  refine lv_istore_n (lv' := [(2, .int x1), (0, .ref (ad 34)), (1, .int x1)]) hx hb dX6_isActive_1 rfl hl (by decide) rfl (fun ls hl => ?_)
  refine lv_iconst (v := (0 : Int32)) hx hb dX6_isActive_2 (by decide) ?_
  refine lv_istore_n (lv' := [(3, .int (0 : Int32)), (2, .int x1), (0, .ref (ad 34)), (1, .int x1)]) hx hb dX6_isActive_3 rfl hl (by decide) rfl (fun ls hl => ?_)
  exact wh_X6_isActive_4 X    100 x1 (0 : Int32) _ _ _ hF hP hS (lv_sub hl [2, 1, 0] rfl)
/-! X6_ownRule (II)I -/
theorem in_X6_ownRule_X6 : ∀ w ∈ u_ws RX6 TX6 5, w ∈ wsX6_ownRule := by decide +kernel
set_option maxHeartbeats 4000000 in
set_option maxRecDepth 100000 in
theorem wb_X6_ownRule_51 {p : Program} {l : Launch} {e : Env} {s : State} {m : MethodId} {args : Array Value} {below : List Frame} {meth : Method} {c : Code} {D : va_G} {cA : Nat → ClassId} {ad : Nat → Nat} (X : wd_X p s m args meth c cX6_ownRule 4 wsX6_ownRule RX6 (some .int) D cA ad dsC.length) {kh2 : Int32 → Int32 → Int32 → Option Int32} {M : Mem} {r : Int32} (hk2 : ∀ (x1 : Int32) (x2 : Int32) (x3 : Int32) (H : Heap) (locs : List Loc) (ls : Array Slot), kh2 x1 x2 x3 = some r → wd_P D cA ad dsC M H → va_S (wd_A ad dsC.length) s.heap H locs → lv_has ls 4 [(0, .ref (ad 34)), (1, .int x1), (2, .int x2), (3, .int x3)] → W p l e (headSpec wsX6_ownRule rm_X6_ownRule).room s m args below meth c H locs 0 0 (MQ below (wm_Qi D cA ad dsC r M) args s 0 0 (wd_A ad dsC.length)) (F0 m 2 ls [])) (x1 : Int32) (x2 : Int32) (x3 : Int32) (H : Heap) (locs : List Loc) (ls : Array Slot) (hF : B_X6_ownRule_51 kh2 M x1 x2 x3 = some r) (hP : wd_P D cA ad dsC M H) (hS : va_S (wd_A ad dsC.length) s.heap H locs) (hl : lv_has ls 4 [(0, .ref (ad 34)), (1, .int x1), (2, .int x2), (3, .int x3)]) : W p l e (headSpec wsX6_ownRule rm_X6_ownRule).room s m args below meth c H locs 0 0 (MQ below (wm_Qi D cA ad dsC r M) args s 0 0 (wd_A ad dsC.length)) (F0 m 51 ls []) := by
  have hx := X.1.1
  have hb := X.1.2.1
  have hts := X.1.2.2.2.2
  unfold B_X6_ownRule_51 at hF
  obtain ⟨x3_1, e_2, hF⟩ := nm_c hF
  refine lv_iinc (v := x3_1) (lv' := [(3, .int x3_1), (0, .ref (ad 34)), (1, .int x1), (2, .int x2)]) hx hb dX6_ownRule_51 hl (k := 3) rfl (by rw [e_2]; rfl) (by decide) rfl (fun ls hl => ?_)
  refine lv_goto (tgt := 2) hx hb dX6_ownRule_54 (by decide) ?_
  exact hk2 x1 x2 x3_1 _ _ _ hF hP hS (lv_sub hl [1, 2, 3, 0] rfl)
set_option maxHeartbeats 4000000 in
set_option maxRecDepth 100000 in
theorem wb_X6_ownRule_2 {p : Program} {l : Launch} {e : Env} {s : State} {m : MethodId} {args : Array Value} {below : List Frame} {meth : Method} {c : Code} {D : va_G} {cA : Nat → ClassId} {ad : Nat → Nat} (X : wd_X p s m args meth c cX6_ownRule 4 wsX6_ownRule RX6 (some .int) D cA ad dsC.length) {kh2 : Int32 → Int32 → Int32 → Option Int32} {M : Mem} {r : Int32} (hk2 : ∀ (x1 : Int32) (x2 : Int32) (x3 : Int32) (H : Heap) (locs : List Loc) (ls : Array Slot), kh2 x1 x2 x3 = some r → wd_P D cA ad dsC M H → va_S (wd_A ad dsC.length) s.heap H locs → lv_has ls 4 [(0, .ref (ad 34)), (1, .int x1), (2, .int x2), (3, .int x3)] → W p l e (headSpec wsX6_ownRule rm_X6_ownRule).room s m args below meth c H locs 0 0 (MQ below (wm_Qi D cA ad dsC r M) args s 0 0 (wd_A ad dsC.length)) (F0 m 2 ls [])) (x1 : Int32) (x2 : Int32) (x3 : Int32) (H : Heap) (locs : List Loc) (ls : Array Slot) (hF : B_X6_ownRule_2 kh2 M x1 x2 x3 = some r) (hP : wd_P D cA ad dsC M H) (hS : va_S (wd_A ad dsC.length) s.heap H locs) (hl : lv_has ls 4 [(0, .ref (ad 34)), (1, .int x1), (2, .int x2), (3, .int x3)]) : W p l e (headSpec wsX6_ownRule rm_X6_ownRule).room s m args below meth c H locs 0 0 (MQ below (wm_Qi D cA ad dsC r M) args s 0 0 (wd_A ad dsC.length)) (F0 m 2 ls []) := by
  have hx := X.1.1
  have hb := X.1.2.1
  have hts := X.1.2.2.2.2
  unfold B_X6_ownRule_2 at hF
  refine lv_iload_n hx hb dX6_ownRule_2 rfl (lv_at hl 3 rfl) ?_
  refine lv_aload_n hx hb dX6_ownRule_3 rfl (lv_at hl 0 rfl) ?_
  refine wd_getr (q := 18) X hP 34 dC_34 rfl in_X6_ownRule_X6 1 rfl (by decide) (by decide +kernel) dX6_ownRule_4 ?_
  obtain ⟨r_1, hc_2, hF⟩ := bd_c hF
  refine wd_calli X hP hS [] [.int x3] (c_X3_made l D cA ad X.2.2.2.2    M hc_2) (cwV 0 hts gX6_ownRule_X3_made rfl rfl rfl (by decide +kernel) ⟨(by show _ ≤ _; first | exact Nat.le_of_ble_eq_true rfl | (simp [headSpec, rm_X6_ownRule]; omega) | omega), (by show _ ≤ _; first | exact Nat.le_of_ble_eq_true rfl | (simp [headSpec, rm_X6_ownRule]; omega) | omega)⟩) dC_18 rfl rfl hl.1 rfl (Nat.le_of_ble_eq_true rfl) dX6_ownRule_7 (fun H locs hP hS => ?_)
  refine lv_icmp_ge (tgt := 57) hx hb dX6_ownRule_10 (by decide) (fun c_13 => ?_) (fun c_13 => ?_)
  · have hF := if_t c_13 hF
    refine lv_iconst (v := (-1 : Int32)) hx hb dX6_ownRule_57 (by decide) ?_
    cases hF
    exact wd_reti X hP hS rfl rfl dX6_ownRule_58
  · have hF := if_e c_13 hF
    refine lv_aload_n hx hb dX6_ownRule_13 rfl (lv_at hl 0 rfl) ?_
    refine wd_getr (q := 18) X hP 34 dC_34 rfl in_X6_ownRule_X6 1 rfl (by decide) (by decide +kernel) dX6_ownRule_14 ?_
    refine lv_iload_n hx hb dX6_ownRule_17 rfl (lv_at hl 3 rfl) ?_
    refine lv_iload_n hx hb dX6_ownRule_18 rfl (lv_at hl 2 rfl) ?_
    refine lv_iload_n hx hb dX6_ownRule_19 rfl (lv_at hl 1 rfl) ?_
    obtain ⟨r_3, hc_4, hF⟩ := bd_c hF
    refine wd_calli X hP hS [.int x3, .int x2, .int x1] [] (c_X3_isFor l D cA ad X.2.2.2.2   x3 x2 x1 M hc_4) (cwV 3 hts gX6_ownRule_X3_isFor rfl rfl rfl (by decide +kernel) ⟨(by show _ ≤ _; first | exact Nat.le_of_ble_eq_true rfl | (simp [headSpec, rm_X6_ownRule]; omega) | omega), (by show _ ≤ _; first | exact Nat.le_of_ble_eq_true rfl | (simp [headSpec, rm_X6_ownRule]; omega) | omega)⟩) dC_18 rfl rfl hl.1 rfl (Nat.le_of_ble_eq_true rfl) dX6_ownRule_20 (fun H locs hP hS => ?_)
    refine lv_if_eq (tgt := 51) hx hb dX6_ownRule_23 (by decide) (fun c_12 => ?_) (fun c_12 => ?_)
    · have hF := if_t c_12 hF
      exact wb_X6_ownRule_51 X  hk2  x1 x2 x3 _ _ _ hF hP hS (lv_sub hl [0, 1, 2, 3] rfl)
    · have hF := if_e c_12 hF
      refine lv_aload_n hx hb dX6_ownRule_26 rfl (lv_at hl 0 rfl) ?_
      refine lv_aload_n hx hb dX6_ownRule_27 rfl (lv_at hl 0 rfl) ?_
      refine wd_getr (q := 18) X hP 34 dC_34 rfl in_X6_ownRule_X6 1 rfl (by decide) (by decide +kernel) dX6_ownRule_28 ?_
      refine lv_iload_n hx hb dX6_ownRule_31 rfl (lv_at hl 3 rfl) ?_
      obtain ⟨r_5, hc_6, hF⟩ := bd_c hF
      refine wd_calli X hP hS [.int x3] [.ref (ad 34)] (c_X3_askedOf l D cA ad X.2.2.2.2   x3 M hc_6) (cwV 1 hts gX6_ownRule_X3_askedOf rfl rfl rfl (by decide +kernel) ⟨(by show _ ≤ _; first | exact Nat.le_of_ble_eq_true rfl | (simp [headSpec, rm_X6_ownRule]; omega) | omega), (by show _ ≤ _; first | exact Nat.le_of_ble_eq_true rfl | (simp [headSpec, rm_X6_ownRule]; omega) | omega)⟩) dC_18 rfl rfl hl.1 rfl (Nat.le_of_ble_eq_true rfl) dX6_ownRule_32 (fun H locs hP hS => ?_)
      obtain ⟨r_7, hc_8, hF⟩ := bd_c hF
      refine wd_calli X hP hS [.int r_5] [] (c_X6_isActive l D cA ad X.2.2.2.2   r_5 M hc_8) (cwV 1 hts gX6_ownRule_X6_isActive rfl rfl rfl (by decide +kernel) ⟨(by show _ ≤ _; first | exact Nat.le_of_ble_eq_true rfl | (simp [headSpec, rm_X6_ownRule]; omega) | omega), (by show _ ≤ _; first | exact Nat.le_of_ble_eq_true rfl | (simp [headSpec, rm_X6_ownRule]; omega) | omega)⟩) dC_34 rfl rfl hl.1 rfl (Nat.le_of_ble_eq_true rfl) dX6_ownRule_35 (fun H locs hP hS => ?_)
      refine lv_aload_n hx hb dX6_ownRule_38 rfl (lv_at hl 0 rfl) ?_
      refine wd_getr (q := 18) X hP 34 dC_34 rfl in_X6_ownRule_X6 1 rfl (by decide) (by decide +kernel) dX6_ownRule_39 ?_
      refine lv_iload_n hx hb dX6_ownRule_42 rfl (lv_at hl 3 rfl) ?_
      obtain ⟨r_9, hc_10, hF⟩ := bd_c hF
      refine wd_calli X hP hS [.int x3] [.int r_7] (c_X3_isWantedActive l D cA ad X.2.2.2.2   x3 M hc_10) (cwV 1 hts gX6_ownRule_X3_isWantedActive rfl rfl rfl (by decide +kernel) ⟨(by show _ ≤ _; first | exact Nat.le_of_ble_eq_true rfl | (simp [headSpec, rm_X6_ownRule]; omega) | omega), (by show _ ≤ _; first | exact Nat.le_of_ble_eq_true rfl | (simp [headSpec, rm_X6_ownRule]; omega) | omega)⟩) dC_18 rfl rfl hl.1 rfl (Nat.le_of_ble_eq_true rfl) dX6_ownRule_43 (fun H locs hP hS => ?_)
      refine lv_icmp_ne (tgt := 51) hx hb dX6_ownRule_46 (by decide) (fun c_11 => ?_) (fun c_11 => ?_)
      · have hF := if_e c_11 hF
        exact wb_X6_ownRule_51 X  hk2  x1 x2 x3 _ _ _ hF hP hS (lv_sub hl [0, 1, 2, 3] rfl)
      · have hF := if_t c_11 hF
        refine lv_iload_n hx hb dX6_ownRule_49 rfl (lv_at hl 3 rfl) ?_
        cases hF
        exact wd_reti X hP hS rfl rfl dX6_ownRule_50
set_option maxHeartbeats 4000000 in
set_option maxRecDepth 100000 in
theorem wh_X6_ownRule_2 {p : Program} {l : Launch} {e : Env} {s : State} {m : MethodId} {args : Array Value} {below : List Frame} {meth : Method} {c : Code} {D : va_G} {cA : Nat → ClassId} {ad : Nat → Nat} (X : wd_X p s m args meth c cX6_ownRule 4 wsX6_ownRule RX6 (some .int) D cA ad dsC.length) {M : Mem} {r : Int32}  : ∀ (n : Nat) (x1 : Int32) (x2 : Int32) (x3 : Int32) (H : Heap) (locs : List Loc) (ls : Array Slot), H_X6_ownRule_2 M n x1 x2 x3 = some r → wd_P D cA ad dsC M H → va_S (wd_A ad dsC.length) s.heap H locs → lv_has ls 4 [(0, .ref (ad 34)), (1, .int x1), (2, .int x2), (3, .int x3)] → W p l e (headSpec wsX6_ownRule rm_X6_ownRule).room s m args below meth c H locs 0 0 (MQ below (wm_Qi D cA ad dsC r M) args s 0 0 (wd_A ad dsC.length)) (F0 m 2 ls []) := by
  intro n
  induction n with
  | zero => intro x1 x2 x3 H locs ls hF; cases hF
  | succ n ih => intro x1 x2 x3 H locs ls hF hP hS hl; exact wb_X6_ownRule_2 X (kh2 := H_X6_ownRule_2 M n) ih x1 x2 x3 H locs ls hF hP hS hl
set_option maxHeartbeats 4000000 in
set_option maxRecDepth 100000 in
theorem c_X6_ownRule (l : Launch) (D : va_G) (cA : Nat → ClassId) (ad : Nat → Nat) (hj : wd_inj ad dsC.length)   (x1 : Int32) (x2 : Int32) (M : Mem) {r : Int32} (hF : F_X6_ownRule x1 x2 M = some r) : wm_i l yX6_ownRule wsX6_ownRule rm_X6_ownRule D cA ad dsC M [.ref (ad 34), .int x1, .int x2] r M := by
  refine Met.ofW (cc := cX6_ownRule) (maxL := 4) (ret := (some .int)) (by decide) rfl ?_
  intro p e s m args below meth c s₁ B hml hv
  obtain ⟨rfl, hP, hK⟩ := hv
  have X : wd_X p s m _ meth c cX6_ownRule 4 wsX6_ownRule RX6 (some .int) D cA ad dsC.length := ⟨⟨B.exec, B.bytes, hml, findClass_of_methodNamed B.named, atoms_spec (ws := wsX6_ownRule) B.pre⟩, hK, B.notSynchronized, B.returns, hj⟩
  have hl := lv_entry ([.ref (ad 34), .int x1, .int x2]) (n := 4) (Nat.le_of_ble_eq_true rfl)
  rw [lg_entry_eq]
  generalize (lg_sl ([.ref (ad 34), .int x1, .int x2]) ++ List.replicate (4 - (lg_sl ([.ref (ad 34), .int x1, .int x2])).length) Slot.unset).toArray = ls at hl ⊢
  have hl : lv_has ls 4 [(0, .ref (ad 34)), (1, .int x1), (2, .int x2)] := hl
  have hS : va_S (wd_A ad dsC.length) s.heap s.heap [] := va_S.rf
  have hx := X.1.1
  have hb := X.1.2.1
  have hts := X.1.2.2.2.2
  unfold F_X6_ownRule at hF
  refine lv_iconst (v := (0 : Int32)) hx hb dX6_ownRule_0 (by decide) ?_
  refine lv_istore_n (lv' := [(3, .int (0 : Int32)), (0, .ref (ad 34)), (1, .int x1), (2, .int x2)]) hx hb dX6_ownRule_1 rfl hl (by decide) rfl (fun ls hl => ?_)
  exact wh_X6_ownRule_2 X    100 x1 x2 (0 : Int32) _ _ _ hF hP hS (lv_sub hl [1, 2, 3, 0] rfl)
/-! X6_leave (II)V -/
theorem in_X6_leave_X6 : ∀ w ∈ u_ws RX6 TX6 5, w ∈ wsX6_leave := by decide +kernel
set_option maxHeartbeats 4000000 in
set_option maxRecDepth 100000 in
theorem wb_X6_leave_85 {p : Program} {l : Launch} {e : Env} {s : State} {m : MethodId} {args : Array Value} {below : List Frame} {meth : Method} {c : Code} {D : va_G} {cA : Nat → ClassId} {ad : Nat → Nat} (X : wd_X p s m args meth c cX6_leave 4 wsX6_leave RX6 none D cA ad dsC.length) {nR : Nat} {rec : Int32 → Int32 → Mem → Option Mem} {M' : Mem} (hrec : ∀ (x1 : Int32) (x2 : Int32) (M : Mem) (M' : Mem), rec x1 x2 M = some M' → wm_v l yX6_leave wsX6_leave (rm_X6_leave nR) D cA ad dsC M [.ref (ad 34), .int x1, .int x2] M') (x1 : Int32) (M : Mem) (H : Heap) (locs : List Loc) (ls : Array Slot) (hF : B_X6_leave_85 rec x1 M = some M') (hP : wd_P D cA ad dsC M H) (hS : va_S (wd_A ad dsC.length) s.heap H locs) (hl : lv_has ls 4 [(0, .ref (ad 34)), (1, .int x1)]) : W p l e (headSpec wsX6_leave (rm_X6_leave (nR + 1))).room s m args below meth c H locs 0 0 (MQ below (wm_Qv D cA ad dsC M') args s 0 0 (wd_A ad dsC.length)) (F0 m 85 ls []) := by
  have hx := X.1.1
  have hb := X.1.2.1
  have hts := X.1.2.2.2.2
  unfold B_X6_leave_85 at hF
  refine lv_aload_n hx hb dX6_leave_85 rfl (lv_at hl 0 rfl) ?_
  refine wd_getr (q := 31) X hP 34 dC_34 rfl in_X6_leave_X6 2 rfl (by decide) (by decide +kernel) dX6_leave_86 ?_
  refine lv_aload_n hx hb dX6_leave_89 rfl (lv_at hl 0 rfl) ?_
  refine wd_geti X hP 34 dC_34 rfl in_X6_leave_X6 4 rfl (by decide) (by decide +kernel) dX6_leave_90 ?_
  refine lv_aload_n hx hb dX6_leave_93 rfl (lv_at hl 0 rfl) ?_
  refine wd_getr (q := 5) X hP 34 dC_34 rfl in_X6_leave_X6 0 rfl (by decide) (by decide +kernel) dX6_leave_94 ?_
  refine wd_callr X hP hS [] [.int (M 34 4), .ref (ad 31)] (c_X4_leaving l D cA ad X.2.2.2.2 M) (cwV 0 hts gX6_leave_X4_leaving rfl rfl rfl (by decide +kernel) ⟨(by show _ ≤ _; first | exact Nat.le_of_ble_eq_true rfl | (simp [headSpec, rm_X6_leave]; omega) | omega), (by show _ ≤ _; first | exact Nat.le_of_ble_eq_true rfl | (simp [headSpec, rm_X6_leave]; omega) | omega)⟩) dC_5 rfl rfl hl.1 rfl (Nat.le_of_ble_eq_true rfl) dX6_leave_97 (fun H locs hP hS => ?_)
  refine lv_iload_n hx hb dX6_leave_100 rfl (lv_at hl 1 rfl) ?_
  obtain ⟨M_3, hc_2, hF⟩ := bd_c hF
  refine wd_callv X hP hS [.int (M 34 4), .ref (ad 15), .int x1] [] (c_X1_addRow l D cA ad X.2.2.2.2 31 15 mr_31 mr_15 (M 34 4) x1 M hc_2) (cwV 3 hts gX6_leave_X1_addRow rfl rfl rfl (by decide +kernel) ⟨(by show _ ≤ _; first | exact Nat.le_of_ble_eq_true rfl | (simp [headSpec, rm_X6_leave]; omega) | omega), (by show _ ≤ _; first | exact Nat.le_of_ble_eq_true rfl | (simp [headSpec, rm_X6_leave]; omega) | omega)⟩) dC_31 rfl rfl hl.1 rfl (Nat.le_of_ble_eq_true rfl) dX6_leave_101 (fun H locs hP hS => ?_)
  refine lv_aload_n hx hb dX6_leave_104 rfl (lv_at hl 0 rfl) ?_
  refine wd_getr (q := 5) X hP 34 dC_34 rfl in_X6_leave_X6 0 rfl (by decide) (by decide +kernel) dX6_leave_105 ?_
  refine lv_iload_n hx hb dX6_leave_108 rfl (lv_at hl 1 rfl) ?_
  obtain ⟨r_4, hc_5, hF⟩ := bd_c hF
  refine wd_calli X hP hS [.int x1] [] (c_X4_isRemembering l D cA ad X.2.2.2.2   x1 M_3 hc_5) (cwV 1 hts gX6_leave_X4_isRemembering rfl rfl rfl (by decide +kernel) ⟨(by show _ ≤ _; first | exact Nat.le_of_ble_eq_true rfl | (simp [headSpec, rm_X6_leave]; omega) | omega), (by show _ ≤ _; first | exact Nat.le_of_ble_eq_true rfl | (simp [headSpec, rm_X6_leave]; omega) | omega)⟩) dC_5 rfl rfl hl.1 rfl (Nat.le_of_ble_eq_true rfl) dX6_leave_109 (fun H locs hP hS => ?_)
  refine lv_if_ne (tgt := 128) hx hb dX6_leave_112 (by decide) (fun c_11 => ?_) (fun c_11 => ?_)
  · have hF := if_e c_11 hF
    cases hF
    exact wd_retv X hP hS dX6_leave_128
  · have hF := if_t c_11 hF
    refine lv_aload_n hx hb dX6_leave_115 rfl (lv_at hl 0 rfl) ?_
    refine lv_iload_n hx hb dX6_leave_116 rfl (lv_at hl 1 rfl) ?_
    refine lv_aload_n hx hb dX6_leave_117 rfl (lv_at hl 0 rfl) ?_
    refine wd_getr (q := 5) X hP 34 dC_34 rfl in_X6_leave_X6 0 rfl (by decide) (by decide +kernel) dX6_leave_118 ?_
    refine lv_iload_n hx hb dX6_leave_121 rfl (lv_at hl 1 rfl) ?_
    obtain ⟨r_6, hc_7, hF⟩ := bd_c hF
    refine wd_calli X hP hS [.int x1] [.int x1, .ref (ad 34)] (c_X4_currentAtFirst l D cA ad X.2.2.2.2   x1 M_3 hc_7) (cwV 1 hts gX6_leave_X4_currentAtFirst rfl rfl rfl (by decide +kernel) ⟨(by show _ ≤ _; first | exact Nat.le_of_ble_eq_true rfl | (simp [headSpec, rm_X6_leave]; omega) | omega), (by show _ ≤ _; first | exact Nat.le_of_ble_eq_true rfl | (simp [headSpec, rm_X6_leave]; omega) | omega)⟩) dC_5 rfl rfl hl.1 rfl (Nat.le_of_ble_eq_true rfl) dX6_leave_122 (fun H locs hP hS => ?_)
    obtain ⟨M_10, hc_9, hF⟩ := bd_c hF
    refine wd_callv X hP hS [.int x1, .int r_6] [] (c_X6_makeCurrent l D cA ad X.2.2.2.2   x1 r_6 M_3 hc_9) (cwV 2 hts gX6_leave_X6_makeCurrent rfl rfl rfl (by decide +kernel) ⟨(by show _ ≤ _; first | exact Nat.le_of_ble_eq_true rfl | (simp [headSpec, rm_X6_leave]; omega) | omega), (by show _ ≤ _; first | exact Nat.le_of_ble_eq_true rfl | (simp [headSpec, rm_X6_leave]; omega) | omega)⟩) dC_34 rfl rfl hl.1 rfl (Nat.le_of_ble_eq_true rfl) dX6_leave_125 (fun H locs hP hS => ?_)
    cases hF
    exact wd_retv X hP hS dX6_leave_128
set_option maxHeartbeats 4000000 in
set_option maxRecDepth 100000 in
theorem wb_X6_leave_64 {p : Program} {l : Launch} {e : Env} {s : State} {m : MethodId} {args : Array Value} {below : List Frame} {meth : Method} {c : Code} {D : va_G} {cA : Nat → ClassId} {ad : Nat → Nat} (X : wd_X p s m args meth c cX6_leave 4 wsX6_leave RX6 none D cA ad dsC.length) {nR : Nat} {rec : Int32 → Int32 → Mem → Option Mem} {kh39 : Int32 → Int32 → Int32 → Mem → Option Mem} {M' : Mem} (hrec : ∀ (x1 : Int32) (x2 : Int32) (M : Mem) (M' : Mem), rec x1 x2 M = some M' → wm_v l yX6_leave wsX6_leave (rm_X6_leave nR) D cA ad dsC M [.ref (ad 34), .int x1, .int x2] M') (hk39 : ∀ (x1 : Int32) (x2 : Int32) (x3 : Int32) (M : Mem) (H : Heap) (locs : List Loc) (ls : Array Slot), kh39 x1 x2 x3 M = some M' → wd_P D cA ad dsC M H → va_S (wd_A ad dsC.length) s.heap H locs → lv_has ls 4 [(0, .ref (ad 34)), (1, .int x1), (2, .int x2), (3, .int x3)] → W p l e (headSpec wsX6_leave (rm_X6_leave (nR + 1))).room s m args below meth c H locs 0 0 (MQ below (wm_Qv D cA ad dsC M') args s 0 0 (wd_A ad dsC.length)) (F0 m 39 ls [])) (x1 : Int32) (x2 : Int32) (x3 : Int32) (M : Mem) (H : Heap) (locs : List Loc) (ls : Array Slot) (hF : B_X6_leave_64 rec kh39 x1 x2 x3 M = some M') (hP : wd_P D cA ad dsC M H) (hS : va_S (wd_A ad dsC.length) s.heap H locs) (hl : lv_has ls 4 [(0, .ref (ad 34)), (1, .int x1), (2, .int x2), (3, .int x3)]) : W p l e (headSpec wsX6_leave (rm_X6_leave (nR + 1))).room s m args below meth c H locs 0 0 (MQ below (wm_Qv D cA ad dsC M') args s 0 0 (wd_A ad dsC.length)) (F0 m 64 ls []) := by
  have hx := X.1.1
  have hb := X.1.2.1
  have hts := X.1.2.2.2.2
  unfold B_X6_leave_64 at hF
  obtain ⟨x3_1, e_2, hF⟩ := nm_c hF
  refine lv_iinc (v := x3_1) (lv' := [(3, .int x3_1), (0, .ref (ad 34)), (1, .int x1), (2, .int x2)]) hx hb dX6_leave_64 hl (k := 3) rfl (by rw [e_2]; rfl) (by decide) rfl (fun ls hl => ?_)
  refine lv_goto (tgt := 39) hx hb dX6_leave_67 (by decide) ?_
  exact hk39 x1 x2 x3_1 M _ _ _ hF hP hS (lv_sub hl [1, 2, 3, 0] rfl)
set_option maxHeartbeats 4000000 in
set_option maxRecDepth 100000 in
theorem wb_X6_leave_39 {p : Program} {l : Launch} {e : Env} {s : State} {m : MethodId} {args : Array Value} {below : List Frame} {meth : Method} {c : Code} {D : va_G} {cA : Nat → ClassId} {ad : Nat → Nat} (X : wd_X p s m args meth c cX6_leave 4 wsX6_leave RX6 none D cA ad dsC.length) {nR : Nat} {rec : Int32 → Int32 → Mem → Option Mem} {kh39 : Int32 → Int32 → Int32 → Mem → Option Mem} {M' : Mem} (hrec : ∀ (x1 : Int32) (x2 : Int32) (M : Mem) (M' : Mem), rec x1 x2 M = some M' → wm_v l yX6_leave wsX6_leave (rm_X6_leave nR) D cA ad dsC M [.ref (ad 34), .int x1, .int x2] M') (hk39 : ∀ (x1 : Int32) (x2 : Int32) (x3 : Int32) (M : Mem) (H : Heap) (locs : List Loc) (ls : Array Slot), kh39 x1 x2 x3 M = some M' → wd_P D cA ad dsC M H → va_S (wd_A ad dsC.length) s.heap H locs → lv_has ls 4 [(0, .ref (ad 34)), (1, .int x1), (2, .int x2), (3, .int x3)] → W p l e (headSpec wsX6_leave (rm_X6_leave (nR + 1))).room s m args below meth c H locs 0 0 (MQ below (wm_Qv D cA ad dsC M') args s 0 0 (wd_A ad dsC.length)) (F0 m 39 ls [])) (x1 : Int32) (x2 : Int32) (x3 : Int32) (M : Mem) (H : Heap) (locs : List Loc) (ls : Array Slot) (hF : B_X6_leave_39 rec kh39 x1 x2 x3 M = some M') (hP : wd_P D cA ad dsC M H) (hS : va_S (wd_A ad dsC.length) s.heap H locs) (hl : lv_has ls 4 [(0, .ref (ad 34)), (1, .int x1), (2, .int x2), (3, .int x3)]) : W p l e (headSpec wsX6_leave (rm_X6_leave (nR + 1))).room s m args below meth c H locs 0 0 (MQ below (wm_Qv D cA ad dsC M') args s 0 0 (wd_A ad dsC.length)) (F0 m 39 ls []) := by
  have hx := X.1.1
  have hb := X.1.2.1
  have hts := X.1.2.2.2.2
  unfold B_X6_leave_39 at hF
  refine lv_iload_n hx hb dX6_leave_39 rfl (lv_at hl 3 rfl) ?_
  refine lv_iload_n hx hb dX6_leave_40 rfl (lv_at hl 1 rfl) ?_
  refine lv_icmp_le (tgt := 70) hx hb dX6_leave_41 (by decide) (fun c_7 => ?_) (fun c_7 => ?_)
  · have hF := if_t c_7 hF
    refine lv_goto (tgt := 85) hx hb dX6_leave_70 (by decide) ?_
    exact wb_X6_leave_85 X hrec   x1 M _ _ _ hF hP hS (lv_sub hl [0, 1] rfl)
  · have hF := if_e c_7 hF
    refine lv_aload_n hx hb dX6_leave_44 rfl (lv_at hl 0 rfl) ?_
    refine wd_getr (q := 5) X hP 34 dC_34 rfl in_X6_leave_X6 0 rfl (by decide) (by decide +kernel) dX6_leave_45 ?_
    refine lv_iload_n hx hb dX6_leave_48 rfl (lv_at hl 3 rfl) ?_
    obtain ⟨r_1, hc_2, hF⟩ := bd_c hF
    refine wd_calli X hP hS [.int x3] [] (c_X4_parentOf l D cA ad X.2.2.2.2   x3 M hc_2) (cwV 1 hts gX6_leave_X4_parentOf rfl rfl rfl (by decide +kernel) ⟨(by show _ ≤ _; first | exact Nat.le_of_ble_eq_true rfl | (simp [headSpec, rm_X6_leave]; omega) | omega), (by show _ ≤ _; first | exact Nat.le_of_ble_eq_true rfl | (simp [headSpec, rm_X6_leave]; omega) | omega)⟩) dC_5 rfl rfl hl.1 rfl (Nat.le_of_ble_eq_true rfl) dX6_leave_49 (fun H locs hP hS => ?_)
    refine lv_iload_n hx hb dX6_leave_52 rfl (lv_at hl 1 rfl) ?_
    refine lv_icmp_ne (tgt := 64) hx hb dX6_leave_53 (by decide) (fun c_6 => ?_) (fun c_6 => ?_)
    · have hF := if_e c_6 hF
      exact wb_X6_leave_64 X hrec hk39  x1 x2 x3 M _ _ _ hF hP hS (lv_sub hl [0, 1, 2, 3] rfl)
    · have hF := if_t c_6 hF
      refine lv_aload_n hx hb dX6_leave_56 rfl (lv_at hl 0 rfl) ?_
      refine lv_iload_n hx hb dX6_leave_57 rfl (lv_at hl 3 rfl) ?_
      refine lv_iload_n hx hb dX6_leave_58 rfl (lv_at hl 2 rfl) ?_
      refine lv_iconst (v := (1 : Int32)) hx hb dX6_leave_59 (by decide) ?_
      refine lv_iadd hx hb dX6_leave_60 ?_
      obtain ⟨M_5, hc_4, hF⟩ := bd_c hF
      refine wd_callv X hP hS [.int x3, .int (x2 + (1 : Int32))] [] (hrec x3 (x2 + (1 : Int32)) M _ hc_4) (cwV 2 hts gX6_leave_X6_leave rfl rfl rfl (by decide +kernel) ⟨(show nR + 2 + 1 ≤ nR + 1 + 2 by omega), (show 8 + (4 + 11) + (23 * nR + 56) ≤ 23 * (nR + 1) + 56 by omega)⟩) dC_34 rfl rfl hl.1 rfl (Nat.le_of_ble_eq_true rfl) dX6_leave_61 (fun H locs hP hS => ?_)
      exact wb_X6_leave_64 X hrec hk39  x1 x2 x3 M_5 _ _ _ hF hP hS (lv_sub hl [0, 1, 2, 3] rfl)
set_option maxHeartbeats 4000000 in
set_option maxRecDepth 100000 in
theorem wh_X6_leave_39 {p : Program} {l : Launch} {e : Env} {s : State} {m : MethodId} {args : Array Value} {below : List Frame} {meth : Method} {c : Code} {D : va_G} {cA : Nat → ClassId} {ad : Nat → Nat} (X : wd_X p s m args meth c cX6_leave 4 wsX6_leave RX6 none D cA ad dsC.length) {nR : Nat} {rec : Int32 → Int32 → Mem → Option Mem} {M' : Mem} (hrec : ∀ (x1 : Int32) (x2 : Int32) (M : Mem) (M' : Mem), rec x1 x2 M = some M' → wm_v l yX6_leave wsX6_leave (rm_X6_leave nR) D cA ad dsC M [.ref (ad 34), .int x1, .int x2] M') : ∀ (n : Nat) (x1 : Int32) (x2 : Int32) (x3 : Int32) (M : Mem) (H : Heap) (locs : List Loc) (ls : Array Slot), H_X6_leave_39 rec n x1 x2 x3 M = some M' → wd_P D cA ad dsC M H → va_S (wd_A ad dsC.length) s.heap H locs → lv_has ls 4 [(0, .ref (ad 34)), (1, .int x1), (2, .int x2), (3, .int x3)] → W p l e (headSpec wsX6_leave (rm_X6_leave (nR + 1))).room s m args below meth c H locs 0 0 (MQ below (wm_Qv D cA ad dsC M') args s 0 0 (wd_A ad dsC.length)) (F0 m 39 ls []) := by
  intro n
  induction n with
  | zero => intro x1 x2 x3 M H locs ls hF; cases hF
  | succ n ih => intro x1 x2 x3 M H locs ls hF hP hS hl; exact wb_X6_leave_39 X (kh39 := H_X6_leave_39 rec n) hrec ih x1 x2 x3 M H locs ls hF hP hS hl
set_option maxHeartbeats 4000000 in
set_option maxRecDepth 100000 in
theorem ce_X6_leave (l : Launch) (D : va_G) (cA : Nat → ClassId) (ad : Nat → Nat) (hj : wd_inj ad dsC.length) {nR : Nat} {rec : Int32 → Int32 → Mem → Option Mem} (hrec : ∀ (x1 : Int32) (x2 : Int32) (M : Mem) (M' : Mem), rec x1 x2 M = some M' → wm_v l yX6_leave wsX6_leave (rm_X6_leave nR) D cA ad dsC M [.ref (ad 34), .int x1, .int x2] M') (x1 : Int32) (x2 : Int32) (M : Mem) {M' : Mem} (hF : B_X6_leave_e rec x1 x2 M = some M') : wm_v l yX6_leave wsX6_leave (rm_X6_leave (nR + 1)) D cA ad dsC M [.ref (ad 34), .int x1, .int x2] M' := by
  refine Met.ofW (cc := cX6_leave) (maxL := 4) (ret := none) (by decide) rfl ?_
  intro p e s m args below meth c s₁ B hml hv
  obtain ⟨rfl, hP, hK⟩ := hv
  have X : wd_X p s m _ meth c cX6_leave 4 wsX6_leave RX6 none D cA ad dsC.length := ⟨⟨B.exec, B.bytes, hml, findClass_of_methodNamed B.named, atoms_spec (ws := wsX6_leave) B.pre⟩, hK, B.notSynchronized, B.returns, hj⟩
  have hl := lv_entry ([.ref (ad 34), .int x1, .int x2]) (n := 4) (Nat.le_of_ble_eq_true rfl)
  rw [lg_entry_eq]
  generalize (lg_sl ([.ref (ad 34), .int x1, .int x2]) ++ List.replicate (4 - (lg_sl ([.ref (ad 34), .int x1, .int x2])).length) Slot.unset).toArray = ls at hl ⊢
  have hl : lv_has ls 4 [(0, .ref (ad 34)), (1, .int x1), (2, .int x2)] := hl
  have hS : va_S (wd_A ad dsC.length) s.heap s.heap [] := va_S.rf
  have hx := X.1.1
  have hb := X.1.2.1
  have hts := X.1.2.2.2.2
  unfold B_X6_leave_e at hF
  refine lv_aload_n hx hb dX6_leave_0 rfl (lv_at hl 0 rfl) ?_
  refine wd_getr (q := 5) X hP 34 dC_34 rfl in_X6_leave_X6 0 rfl (by decide) (by decide +kernel) dX6_leave_1 ?_
  refine lv_iload_n hx hb dX6_leave_4 rfl (lv_at hl 1 rfl) ?_
  obtain ⟨r_1, hc_2, hF⟩ := bd_c hF
  refine wd_calli X hP hS [.int x1] [] (c_X4_isState l D cA ad X.2.2.2.2   x1 M hc_2) (cwV 1 hts gX6_leave_X4_isState rfl rfl rfl (by decide +kernel) ⟨(by show _ ≤ _; first | exact Nat.le_of_ble_eq_true rfl | (simp [headSpec, rm_X6_leave]; omega) | omega), (by show _ ≤ _; first | exact Nat.le_of_ble_eq_true rfl | (simp [headSpec, rm_X6_leave]; omega) | omega)⟩) dC_5 rfl rfl hl.1 rfl (Nat.le_of_ble_eq_true rfl) dX6_leave_5 (fun H locs hP hS => ?_)
  refine lv_if_eq (tgt := 17) hx hb dX6_leave_8 (by decide) (fun c_16 => ?_) (fun c_16 => ?_)
  · have hF := if_t c_16 hF
    cases hF
    exact wd_retv X hP hS dX6_leave_17
  · have hF := if_e c_16 hF
    refine lv_iload_n hx hb dX6_leave_11 rfl (lv_at hl 2 rfl) ?_
    refine lv_bipush (v := (6 : Int32)) hx hb dX6_leave_12 (by decide) ?_
    refine lv_icmp_le (tgt := 18) hx hb dX6_leave_14 (by decide) (fun c_15 => ?_) (fun c_15 => ?_)
    · have hF := if_t c_15 hF
      refine lv_aload_n hx hb dX6_leave_18 rfl (lv_at hl 0 rfl) ?_
      refine wd_getr (q := 5) X hP 34 dC_34 rfl in_X6_leave_X6 0 rfl (by decide) (by decide +kernel) dX6_leave_19 ?_
      refine lv_iload_n hx hb dX6_leave_22 rfl (lv_at hl 1 rfl) ?_
      obtain ⟨r_3, hc_4, hF⟩ := bd_c hF
      refine wd_calli X hP hS [.int x1] [] (c_X4_isWhole l D cA ad X.2.2.2.2   x1 M hc_4) (cwV 1 hts gX6_leave_X4_isWhole rfl rfl rfl (by decide +kernel) ⟨(by show _ ≤ _; first | exact Nat.le_of_ble_eq_true rfl | (simp [headSpec, rm_X6_leave]; omega) | omega), (by show _ ≤ _; first | exact Nat.le_of_ble_eq_true rfl | (simp [headSpec, rm_X6_leave]; omega) | omega)⟩) dC_5 rfl rfl hl.1 rfl (Nat.le_of_ble_eq_true rfl) dX6_leave_23 (fun H locs hP hS => ?_)
      refine lv_if_eq (tgt := 73) hx hb dX6_leave_26 (by decide) (fun c_14 => ?_) (fun c_14 => ?_)
      · have hF := if_t c_14 hF
        refine lv_aload_n hx hb dX6_leave_73 rfl (lv_at hl 0 rfl) ?_
        refine lv_aload_n hx hb dX6_leave_74 rfl (lv_at hl 0 rfl) ?_
        refine lv_iload_n hx hb dX6_leave_75 rfl (lv_at hl 1 rfl) ?_
        obtain ⟨r_5, hc_6, hF⟩ := bd_c hF
        refine wd_calli X hP hS [.int x1] [.ref (ad 34)] (c_X6_currentChild l D cA ad X.2.2.2.2   x1 M hc_6) (cwV 1 hts gX6_leave_X6_currentChild rfl rfl rfl (by decide +kernel) ⟨(by show _ ≤ _; first | exact Nat.le_of_ble_eq_true rfl | (simp [headSpec, rm_X6_leave]; omega) | omega), (by show _ ≤ _; first | exact Nat.le_of_ble_eq_true rfl | (simp [headSpec, rm_X6_leave]; omega) | omega)⟩) dC_34 rfl rfl hl.1 rfl (Nat.le_of_ble_eq_true rfl) dX6_leave_76 (fun H locs hP hS => ?_)
        refine lv_iload_n hx hb dX6_leave_79 rfl (lv_at hl 2 rfl) ?_
        refine lv_iconst (v := (1 : Int32)) hx hb dX6_leave_80 (by decide) ?_
        refine lv_iadd hx hb dX6_leave_81 ?_
        obtain ⟨M_9, hc_8, hF⟩ := bd_c hF
        refine wd_callv X hP hS [.int r_5, .int (x2 + (1 : Int32))] [] (hrec r_5 (x2 + (1 : Int32)) M _ hc_8) (cwV 2 hts gX6_leave_X6_leave rfl rfl rfl (by decide +kernel) ⟨(show nR + 2 + 1 ≤ nR + 1 + 2 by omega), (show 8 + (4 + 11) + (23 * nR + 56) ≤ 23 * (nR + 1) + 56 by omega)⟩) dC_34 rfl rfl hl.1 rfl (Nat.le_of_ble_eq_true rfl) dX6_leave_82 (fun H locs hP hS => ?_)
        exact wb_X6_leave_85 X hrec   x1 M_9 _ _ _ hF hP hS (lv_sub hl [0, 1] rfl)
      · have hF := if_e c_14 hF
        refine lv_aload_n hx hb dX6_leave_29 rfl (lv_at hl 0 rfl) ?_
        refine wd_getr (q := 5) X hP 34 dC_34 rfl in_X6_leave_X6 0 rfl (by decide) (by decide +kernel) dX6_leave_30 ?_
        obtain ⟨r_10, hc_11, hF⟩ := bd_c hF
        refine wd_calli X hP hS [] [] (c_X4_made l D cA ad X.2.2.2.2    M hc_11) (cwV 0 hts gX6_leave_X4_made rfl rfl rfl (by decide +kernel) ⟨(by show _ ≤ _; first | exact Nat.le_of_ble_eq_true rfl | (simp [headSpec, rm_X6_leave]; omega) | omega), (by show _ ≤ _; first | exact Nat.le_of_ble_eq_true rfl | (simp [headSpec, rm_X6_leave]; omega) | omega)⟩) dC_5 rfl rfl hl.1 rfl (Nat.le_of_ble_eq_true rfl) dX6_leave_33 (fun H locs hP hS => ?_)
        refine lv_iconst (v := (1 : Int32)) hx hb dX6_leave_36 (by decide) ?_
        refine lv_isub hx hb dX6_leave_37 ?_
        obtain ⟨x3_12, e_13, hF⟩ := nm_c hF
        refine wd_top e_13 ?_
        refine lv_istore_n (lv' := [(3, .int x3_12), (0, .ref (ad 34)), (1, .int x1), (2, .int x2)]) hx hb dX6_leave_38 rfl hl (by decide) rfl (fun ls hl => ?_)
        exact wh_X6_leave_39 X hrec   100 x1 x2 x3_12 M _ _ _ hF hP hS (lv_sub hl [1, 2, 3, 0] rfl)
    · have hF := if_e c_15 hF
      cases hF
      exact wd_retv X hP hS dX6_leave_17
set_option maxHeartbeats 4000000 in
set_option maxRecDepth 100000 in
theorem c_X6_leave (l : Launch) (D : va_G) (cA : Nat → ClassId) (ad : Nat → Nat) (hj : wd_inj ad dsC.length) : ∀ (n : Nat) (x1 : Int32) (x2 : Int32) (M : Mem) {M' : Mem}, F_X6_leave n x1 x2 M = some M' → wm_v l yX6_leave wsX6_leave (rm_X6_leave n) D cA ad dsC M [.ref (ad 34), .int x1, .int x2] M' := by
  intro n
  induction n with
  | zero => intro x1 x2 M M' hF; cases hF
  | succ n ih => intro x1 x2 M M' hF; exact ce_X6_leave l D cA ad hj (rec := F_X6_leave n) (fun x1 x2 M M' h => ih x1 x2 M h) x1 x2 M hF
/-! X6_take (I)I -/
theorem in_X6_take_X6 : ∀ w ∈ u_ws RX6 TX6 5, w ∈ wsX6_take := by decide +kernel
set_option maxHeartbeats 4000000 in
set_option maxRecDepth 100000 in
theorem c_X6_take (l : Launch) (D : va_G) (cA : Nat → ClassId) (ad : Nat → Nat) (hj : wd_inj ad dsC.length)   (x1 : Int32) (M : Mem) {r : Int32} {M' : Mem} (hF : F_X6_take x1 M = some (r, M')) : wm_i l yX6_take wsX6_take rm_X6_take D cA ad dsC M [.ref (ad 34), .int x1] r M' := by
  refine Met.ofW (cc := cX6_take) (maxL := 5) (ret := (some .int)) (by decide) rfl ?_
  intro p e s m args below meth c s₁ B hml hv
  obtain ⟨rfl, hP, hK⟩ := hv
  have X : wd_X p s m _ meth c cX6_take 5 wsX6_take RX6 (some .int) D cA ad dsC.length := ⟨⟨B.exec, B.bytes, hml, findClass_of_methodNamed B.named, atoms_spec (ws := wsX6_take) B.pre⟩, hK, B.notSynchronized, B.returns, hj⟩
  have hl := lv_entry ([.ref (ad 34), .int x1]) (n := 5) (Nat.le_of_ble_eq_true rfl)
  rw [lg_entry_eq]
  generalize (lg_sl ([.ref (ad 34), .int x1]) ++ List.replicate (5 - (lg_sl ([.ref (ad 34), .int x1])).length) Slot.unset).toArray = ls at hl ⊢
  have hl : lv_has ls 5 [(0, .ref (ad 34)), (1, .int x1)] := hl
  have hS : va_S (wd_A ad dsC.length) s.heap s.heap [] := va_S.rf
  have hx := X.1.1
  have hb := X.1.2.1
  have hts := X.1.2.2.2.2
  unfold F_X6_take at hF
  refine lv_aload_n hx hb dX6_take_0 rfl (lv_at hl 0 rfl) ?_
  refine wd_getr (q := 18) X hP 34 dC_34 rfl in_X6_take_X6 1 rfl (by decide) (by decide +kernel) dX6_take_1 ?_
  refine lv_iload_n hx hb dX6_take_4 rfl (lv_at hl 1 rfl) ?_
  obtain ⟨r_1, hc_2, hF⟩ := bd_c hF
  refine wd_calli X hP hS [.int x1] [] (c_X3_isRule l D cA ad X.2.2.2.2   x1 M hc_2) (cwV 1 hts gX6_take_X3_isRule rfl rfl rfl (by decide +kernel) ⟨(by show _ ≤ _; first | exact Nat.le_of_ble_eq_true rfl | (simp [headSpec, rm_X6_take]; omega) | omega), (by show _ ≤ _; first | exact Nat.le_of_ble_eq_true rfl | (simp [headSpec, rm_X6_take]; omega) | omega)⟩) dC_18 rfl rfl hl.1 rfl (Nat.le_of_ble_eq_true rfl) dX6_take_5 (fun H locs hP hS => ?_)
  refine lv_if_ne (tgt := 14) hx hb dX6_take_8 (by decide) (fun c_27 => ?_) (fun c_27 => ?_)
  · have hF := if_e c_27 hF
    refine lv_aload_n hx hb dX6_take_14 rfl (lv_at hl 0 rfl) ?_
    refine wd_getr (q := 18) X hP 34 dC_34 rfl in_X6_take_X6 1 rfl (by decide) (by decide +kernel) dX6_take_15 ?_
    refine lv_iload_n hx hb dX6_take_18 rfl (lv_at hl 1 rfl) ?_
    obtain ⟨r_3, hc_4, hF⟩ := bd_c hF
    refine wd_calli X hP hS [.int x1] [] (c_X3_scopeOf l D cA ad X.2.2.2.2   x1 M hc_4) (cwV 1 hts gX6_take_X3_scopeOf rfl rfl rfl (by decide +kernel) ⟨(by show _ ≤ _; first | exact Nat.le_of_ble_eq_true rfl | (simp [headSpec, rm_X6_take]; omega) | omega), (by show _ ≤ _; first | exact Nat.le_of_ble_eq_true rfl | (simp [headSpec, rm_X6_take]; omega) | omega)⟩) dC_18 rfl rfl hl.1 rfl (Nat.le_of_ble_eq_true rfl) dX6_take_19 (fun H locs hP hS => ?_)
    refine lv_istore_n (lv' := [(2, .int r_3), (0, .ref (ad 34)), (1, .int x1)]) hx hb dX6_take_22 rfl hl (by decide) rfl (fun ls hl => ?_)
    refine lv_aload_n hx hb dX6_take_23 rfl (lv_at hl 1 rfl) ?_
    refine wd_getr (q := 18) X hP 34 dC_34 rfl in_X6_take_X6 1 rfl (by decide) (by decide +kernel) dX6_take_24 ?_
    refine lv_iload_n hx hb dX6_take_27 rfl (lv_at hl 2 rfl) ?_
    obtain ⟨r_5, hc_6, hF⟩ := bd_c hF
    refine wd_calli X hP hS [.int x1] [] (c_X3_targetOf l D cA ad X.2.2.2.2   x1 M hc_6) (cwV 1 hts gX6_take_X3_targetOf rfl rfl rfl (by decide +kernel) ⟨(by show _ ≤ _; first | exact Nat.le_of_ble_eq_true rfl | (simp [headSpec, rm_X6_take]; omega) | omega), (by show _ ≤ _; first | exact Nat.le_of_ble_eq_true rfl | (simp [headSpec, rm_X6_take]; omega) | omega)⟩) dC_18 rfl rfl hl.1 rfl (Nat.le_of_ble_eq_true rfl) dX6_take_28 (fun H locs hP hS => ?_)
    refine lv_istore_n (lv' := [(3, .int r_5), (2, .int r_3), (0, .ref (ad 34)), (1, .int x1)]) hx hb dX6_take_31 rfl hl (by decide) rfl (fun ls hl => ?_)
    refine lv_aload_n hx hb dX6_take_32 rfl (lv_at hl 2 rfl) ?_
    refine wd_getr (q := 5) X hP 34 dC_34 rfl in_X6_take_X6 0 rfl (by decide) (by decide +kernel) dX6_take_33 ?_
    refine lv_iload_n hx hb dX6_take_36 rfl (lv_at hl 1 rfl) ?_
    obtain ⟨r_7, hc_8, hF⟩ := bd_c hF
    refine wd_calli X hP hS [.int r_3] [] (c_X4_depthOf l D cA ad X.2.2.2.2   r_3 M hc_8) (cwV 1 hts gX6_take_X4_depthOf rfl rfl rfl (by decide +kernel) ⟨(by show _ ≤ _; first | exact Nat.le_of_ble_eq_true rfl | (simp [headSpec, rm_X6_take]; omega) | omega), (by show _ ≤ _; first | exact Nat.le_of_ble_eq_true rfl | (simp [headSpec, rm_X6_take]; omega) | omega)⟩) dC_5 rfl rfl hl.1 rfl (Nat.le_of_ble_eq_true rfl) dX6_take_37 (fun H locs hP hS => ?_)
    refine lv_istore (lv' := [(4, .int r_7), (3, .int r_5), (2, .int r_3), (0, .ref (ad 34)), (1, .int x1)]) hx hb dX6_take_40 hl (by decide) rfl (fun ls hl => ?_)
    refine lv_aload_n hx hb dX6_take_42 rfl (lv_at hl 3 rfl) ?_
    refine lv_aload_n hx hb dX6_take_43 rfl (lv_at hl 3 rfl) ?_
    refine lv_iload_n hx hb dX6_take_44 rfl (lv_at hl 2 rfl) ?_
    obtain ⟨r_9, hc_10, hF⟩ := bd_c hF
    refine wd_calli X hP hS [.int r_3] [.ref (ad 34)] (c_X6_currentChild l D cA ad X.2.2.2.2   r_3 M hc_10) (cwV 1 hts gX6_take_X6_currentChild rfl rfl rfl (by decide +kernel) ⟨(by show _ ≤ _; first | exact Nat.le_of_ble_eq_true rfl | (simp [headSpec, rm_X6_take]; omega) | omega), (by show _ ≤ _; first | exact Nat.le_of_ble_eq_true rfl | (simp [headSpec, rm_X6_take]; omega) | omega)⟩) dC_34 rfl rfl hl.1 rfl (Nat.le_of_ble_eq_true rfl) dX6_take_45 (fun H locs hP hS => ?_)
    refine lv_iload hx hb dX6_take_48 (lv_at hl 0 rfl) ?_
    refine lv_iconst (v := (1 : Int32)) hx hb dX6_take_50 (by decide) ?_
    refine lv_iadd hx hb dX6_take_51 ?_
    obtain ⟨M_13, hc_12, hF⟩ := bd_c hF
    refine wd_callv X hP hS [.int r_9, .int (r_7 + (1 : Int32))] [] (c_X6_leave l D cA ad X.2.2.2.2 10   r_9 (r_7 + (1 : Int32)) M hc_12) (cwV 2 hts gX6_take_X6_leave rfl rfl rfl (by decide +kernel) ⟨(by show _ ≤ _; first | exact Nat.le_of_ble_eq_true rfl | (simp [headSpec, rm_X6_take]; omega) | omega), (by show _ ≤ _; first | exact Nat.le_of_ble_eq_true rfl | (simp [headSpec, rm_X6_take]; omega) | omega)⟩) dC_34 rfl rfl hl.1 rfl (Nat.le_of_ble_eq_true rfl) dX6_take_52 (fun H locs hP hS => ?_)
    refine lv_aload_n hx hb dX6_take_55 rfl (lv_at hl 3 rfl) ?_
    refine wd_getr (q := 31) X hP 34 dC_34 rfl in_X6_take_X6 2 rfl (by decide) (by decide +kernel) dX6_take_56 ?_
    refine lv_aload_n hx hb dX6_take_59 rfl (lv_at hl 3 rfl) ?_
    refine wd_geti X hP 34 dC_34 rfl in_X6_take_X6 4 rfl (by decide) (by decide +kernel) dX6_take_60 ?_
    refine lv_aload_n hx hb dX6_take_63 rfl (lv_at hl 3 rfl) ?_
    refine wd_getr (q := 18) X hP 34 dC_34 rfl in_X6_take_X6 1 rfl (by decide) (by decide +kernel) dX6_take_64 ?_
    refine wd_callr X hP hS [] [.int (M_13 34 4), .ref (ad 31)] (c_X3_marks l D cA ad X.2.2.2.2 M_13) (cwV 0 hts gX6_take_X3_marks rfl rfl rfl (by decide +kernel) ⟨(by show _ ≤ _; first | exact Nat.le_of_ble_eq_true rfl | (simp [headSpec, rm_X6_take]; omega) | omega), (by show _ ≤ _; first | exact Nat.le_of_ble_eq_true rfl | (simp [headSpec, rm_X6_take]; omega) | omega)⟩) dC_18 rfl rfl hl.1 rfl (Nat.le_of_ble_eq_true rfl) dX6_take_67 (fun H locs hP hS => ?_)
    refine lv_iload_n hx hb dX6_take_70 rfl (lv_at hl 4 rfl) ?_
    obtain ⟨M_16, hc_15, hF⟩ := bd_c hF
    refine wd_callv X hP hS [.int (M_13 34 4), .ref (ad 26), .int x1] [] (c_X1_addRow l D cA ad X.2.2.2.2 31 26 mr_31 mr_26 (M_13 34 4) x1 M_13 hc_15) (cwV 3 hts gX6_take_X1_addRow rfl rfl rfl (by decide +kernel) ⟨(by show _ ≤ _; first | exact Nat.le_of_ble_eq_true rfl | (simp [headSpec, rm_X6_take]; omega) | omega), (by show _ ≤ _; first | exact Nat.le_of_ble_eq_true rfl | (simp [headSpec, rm_X6_take]; omega) | omega)⟩) dC_31 rfl rfl hl.1 rfl (Nat.le_of_ble_eq_true rfl) dX6_take_71 (fun H locs hP hS => ?_)
    refine lv_aload_n hx hb dX6_take_74 rfl (lv_at hl 3 rfl) ?_
    refine lv_iload_n hx hb dX6_take_75 rfl (lv_at hl 2 rfl) ?_
    refine lv_aload_n hx hb dX6_take_76 rfl (lv_at hl 3 rfl) ?_
    refine wd_getr (q := 5) X hP 34 dC_34 rfl in_X6_take_X6 0 rfl (by decide) (by decide +kernel) dX6_take_77 ?_
    refine lv_iload_n hx hb dX6_take_80 rfl (lv_at hl 2 rfl) ?_
    refine lv_iload_n hx hb dX6_take_81 rfl (lv_at hl 1 rfl) ?_
    obtain ⟨r_17, hc_18, hF⟩ := bd_c hF
    refine wd_calli X hP hS [.int r_3, .int r_5] [.int r_3, .ref (ad 34)] (c_X4_childToward l D cA ad X.2.2.2.2   r_3 r_5 M_16 hc_18) (cwV 2 hts gX6_take_X4_childToward rfl rfl rfl (by decide +kernel) ⟨(by show _ ≤ _; first | exact Nat.le_of_ble_eq_true rfl | (simp [headSpec, rm_X6_take]; omega) | omega), (by show _ ≤ _; first | exact Nat.le_of_ble_eq_true rfl | (simp [headSpec, rm_X6_take]; omega) | omega)⟩) dC_5 rfl rfl hl.1 rfl (Nat.le_of_ble_eq_true rfl) dX6_take_82 (fun H locs hP hS => ?_)
    obtain ⟨M_21, hc_20, hF⟩ := bd_c hF
    refine wd_callv X hP hS [.int r_3, .int r_17] [] (c_X6_makeCurrent l D cA ad X.2.2.2.2   r_3 r_17 M_16 hc_20) (cwV 2 hts gX6_take_X6_makeCurrent rfl rfl rfl (by decide +kernel) ⟨(by show _ ≤ _; first | exact Nat.le_of_ble_eq_true rfl | (simp [headSpec, rm_X6_take]; omega) | omega), (by show _ ≤ _; first | exact Nat.le_of_ble_eq_true rfl | (simp [headSpec, rm_X6_take]; omega) | omega)⟩) dC_34 rfl rfl hl.1 rfl (Nat.le_of_ble_eq_true rfl) dX6_take_85 (fun H locs hP hS => ?_)
    refine lv_aload_n hx hb dX6_take_88 rfl (lv_at hl 3 rfl) ?_
    refine lv_aload_n hx hb dX6_take_89 rfl (lv_at hl 3 rfl) ?_
    refine lv_iload_n hx hb dX6_take_90 rfl (lv_at hl 2 rfl) ?_
    obtain ⟨r_22, hc_23, hF⟩ := bd_c hF
    refine wd_calli X hP hS [.int r_3] [.ref (ad 34)] (c_X6_currentChild l D cA ad X.2.2.2.2   r_3 M_21 hc_23) (cwV 1 hts gX6_take_X6_currentChild rfl rfl rfl (by decide +kernel) ⟨(by show _ ≤ _; first | exact Nat.le_of_ble_eq_true rfl | (simp [headSpec, rm_X6_take]; omega) | omega), (by show _ ≤ _; first | exact Nat.le_of_ble_eq_true rfl | (simp [headSpec, rm_X6_take]; omega) | omega)⟩) dC_34 rfl rfl hl.1 rfl (Nat.le_of_ble_eq_true rfl) dX6_take_91 (fun H locs hP hS => ?_)
    refine lv_iload_n hx hb dX6_take_94 rfl (lv_at hl 1 rfl) ?_
    refine lv_iload hx hb dX6_take_95 (lv_at hl 0 rfl) ?_
    refine lv_iconst (v := (1 : Int32)) hx hb dX6_take_97 (by decide) ?_
    refine lv_iadd hx hb dX6_take_98 ?_
    obtain ⟨M_26, hc_25, hF⟩ := bd_c hF
    refine wd_callv X hP hS [.int r_22, .int r_5, .int (r_7 + (1 : Int32))] [] (c_X6_enter l D cA ad X.2.2.2.2 10   r_22 r_5 (r_7 + (1 : Int32)) M_21 hc_25) (cwV 3 hts gX6_take_X6_enter rfl rfl rfl (by decide +kernel) ⟨(by show _ ≤ _; first | exact Nat.le_of_ble_eq_true rfl | (simp [headSpec, rm_X6_take]; omega) | omega), (by show _ ≤ _; first | exact Nat.le_of_ble_eq_true rfl | (simp [headSpec, rm_X6_take]; omega) | omega)⟩) dC_34 rfl rfl hl.1 rfl (Nat.le_of_ble_eq_true rfl) dX6_take_99 (fun H locs hP hS => ?_)
    refine lv_iload hx hb dX6_take_102 (lv_at hl 0 rfl) ?_
    cases hF
    exact wd_reti X hP hS rfl rfl dX6_take_104
  · have hF := if_t c_27 hF
    refine lv_bipush (v := (7 : Int32)) hx hb dX6_take_11 (by decide) ?_
    cases hF
    exact wd_reti X hP hS rfl rfl dX6_take_13
/-! X6_offer (III)I -/
theorem in_X6_offer_X6 : ∀ w ∈ u_ws RX6 TX6 5, w ∈ wsX6_offer := by decide +kernel
set_option maxHeartbeats 4000000 in
set_option maxRecDepth 100000 in
theorem wb_X6_offer_112 {p : Program} {l : Launch} {e : Env} {s : State} {m : MethodId} {args : Array Value} {below : List Frame} {meth : Method} {c : Code} {D : va_G} {cA : Nat → ClassId} {ad : Nat → Nat} (X : wd_X p s m args meth c cX6_offer 6 wsX6_offer RX6 (some .int) D cA ad dsC.length) {nR : Nat} {rec : Int32 → Int32 → Int32 → Mem → Option (Int32 × Mem)} {r : Int32} {M' : Mem} (hrec : ∀ (x1 : Int32) (x2 : Int32) (x3 : Int32) (M : Mem) (r : Int32) (M' : Mem), rec x1 x2 x3 M = some (r, M') → wm_i l yX6_offer wsX6_offer (rm_X6_offer nR) D cA ad dsC M [.ref (ad 34), .int x1, .int x2, .int x3] r M') (x1 : Int32) (x2 : Int32) (x4 : Int32) (M : Mem) (H : Heap) (locs : List Loc) (ls : Array Slot) (hF : B_X6_offer_112 rec x1 x2 x4 M = some (r, M')) (hP : wd_P D cA ad dsC M H) (hS : va_S (wd_A ad dsC.length) s.heap H locs) (hl : lv_has ls 6 [(0, .ref (ad 34)), (1, .int x1), (2, .int x2), (4, .int x4)]) : W p l e (headSpec wsX6_offer (rm_X6_offer (nR + 1))).room s m args below meth c H locs 0 0 (MQ below (wm_Qi D cA ad dsC r M') args s 0 0 (wd_A ad dsC.length)) (F0 m 112 ls []) := by
  have hx := X.1.1
  have hb := X.1.2.1
  have hts := X.1.2.2.2.2
  unfold B_X6_offer_112 at hF
  refine lv_iload hx hb dX6_offer_112 (lv_at hl 3 rfl) ?_
  refine lv_bipush (v := (7 : Int32)) hx hb dX6_offer_114 (by decide) ?_
  refine lv_icmp_ne (tgt := 132) hx hb dX6_offer_116 (by decide) (fun c_6 => ?_) (fun c_6 => ?_)
  · have hF := if_e c_6 hF
    refine lv_iload hx hb dX6_offer_132 (lv_at hl 3 rfl) ?_
    cases hF
    exact wd_reti X hP hS rfl rfl dX6_offer_134
  · have hF := if_t c_6 hF
    refine lv_aload_n hx hb dX6_offer_119 rfl (lv_at hl 0 rfl) ?_
    refine lv_aload_n hx hb dX6_offer_120 rfl (lv_at hl 0 rfl) ?_
    refine lv_iload_n hx hb dX6_offer_121 rfl (lv_at hl 1 rfl) ?_
    refine lv_iload_n hx hb dX6_offer_122 rfl (lv_at hl 2 rfl) ?_
    obtain ⟨r_1, hc_2, hF⟩ := bd_c hF
    refine wd_calli X hP hS [.int x1, .int x2] [.ref (ad 34)] (c_X6_ownRule l D cA ad X.2.2.2.2   x1 x2 M hc_2) (cwV 2 hts gX6_offer_X6_ownRule rfl rfl rfl (by decide +kernel) ⟨(by show _ ≤ _; first | exact Nat.le_of_ble_eq_true rfl | (simp [headSpec, rm_X6_offer]; omega) | omega), (by show _ ≤ _; first | exact Nat.le_of_ble_eq_true rfl | (simp [headSpec, rm_X6_offer]; omega) | omega)⟩) dC_34 rfl rfl hl.1 rfl (Nat.le_of_ble_eq_true rfl) dX6_offer_123 (fun H locs hP hS => ?_)
    obtain ⟨r_3, M_5, hc_4, hF⟩ := bd2_c hF
    refine wd_calli X hP hS [.int r_1] [] (c_X6_take l D cA ad X.2.2.2.2   r_1 M hc_4) (cwV 1 hts gX6_offer_X6_take rfl rfl rfl (by decide +kernel) ⟨(by show _ ≤ _; first | exact Nat.le_of_ble_eq_true rfl | (simp [headSpec, rm_X6_offer]; omega) | omega), (by show _ ≤ _; first | exact Nat.le_of_ble_eq_true rfl | (simp [headSpec, rm_X6_offer]; omega) | omega)⟩) dC_34 rfl rfl hl.1 rfl (Nat.le_of_ble_eq_true rfl) dX6_offer_126 (fun H locs hP hS => ?_)
    refine lv_goto (tgt := 134) hx hb dX6_offer_129 (by decide) ?_
    cases hF
    exact wd_reti X hP hS rfl rfl dX6_offer_134
set_option maxHeartbeats 4000000 in
set_option maxRecDepth 100000 in
theorem wb_X6_offer_94 {p : Program} {l : Launch} {e : Env} {s : State} {m : MethodId} {args : Array Value} {below : List Frame} {meth : Method} {c : Code} {D : va_G} {cA : Nat → ClassId} {ad : Nat → Nat} (X : wd_X p s m args meth c cX6_offer 6 wsX6_offer RX6 (some .int) D cA ad dsC.length) {nR : Nat} {rec : Int32 → Int32 → Int32 → Mem → Option (Int32 × Mem)} {r : Int32} {M' : Mem} (hrec : ∀ (x1 : Int32) (x2 : Int32) (x3 : Int32) (M : Mem) (r : Int32) (M' : Mem), rec x1 x2 x3 M = some (r, M') → wm_i l yX6_offer wsX6_offer (rm_X6_offer nR) D cA ad dsC M [.ref (ad 34), .int x1, .int x2, .int x3] r M') (x1 : Int32) (x2 : Int32) (x4 : Int32) (M : Mem) (H : Heap) (locs : List Loc) (ls : Array Slot) (hF : B_X6_offer_94 rec x1 x2 x4 M = some (r, M')) (hP : wd_P D cA ad dsC M H) (hS : va_S (wd_A ad dsC.length) s.heap H locs) (hl : lv_has ls 6 [(0, .ref (ad 34)), (1, .int x1), (2, .int x2), (4, .int x4)]) : W p l e (headSpec wsX6_offer (rm_X6_offer (nR + 1))).room s m args below meth c H locs 0 0 (MQ below (wm_Qi D cA ad dsC r M') args s 0 0 (wd_A ad dsC.length)) (F0 m 94 ls []) := by
  have hx := X.1.1
  have hb := X.1.2.1
  have hts := X.1.2.2.2.2
  unfold B_X6_offer_94 at hF
  refine lv_goto (tgt := 112) hx hb dX6_offer_94 (by decide) ?_
  exact wb_X6_offer_112 X hrec   x1 x2 x4 M _ _ _ hF hP hS (lv_sub hl [0, 1, 2, 3] rfl)
set_option maxHeartbeats 4000000 in
set_option maxRecDepth 100000 in
theorem wb_X6_offer_88 {p : Program} {l : Launch} {e : Env} {s : State} {m : MethodId} {args : Array Value} {below : List Frame} {meth : Method} {c : Code} {D : va_G} {cA : Nat → ClassId} {ad : Nat → Nat} (X : wd_X p s m args meth c cX6_offer 6 wsX6_offer RX6 (some .int) D cA ad dsC.length) {nR : Nat} {rec : Int32 → Int32 → Int32 → Mem → Option (Int32 × Mem)} {kh40 : Int32 → Int32 → Int32 → Int32 → Int32 → Mem → Option (Int32 × Mem)} {r : Int32} {M' : Mem} (hrec : ∀ (x1 : Int32) (x2 : Int32) (x3 : Int32) (M : Mem) (r : Int32) (M' : Mem), rec x1 x2 x3 M = some (r, M') → wm_i l yX6_offer wsX6_offer (rm_X6_offer nR) D cA ad dsC M [.ref (ad 34), .int x1, .int x2, .int x3] r M') (hk40 : ∀ (x1 : Int32) (x2 : Int32) (x3 : Int32) (x4 : Int32) (x5 : Int32) (M : Mem) (H : Heap) (locs : List Loc) (ls : Array Slot), kh40 x1 x2 x3 x4 x5 M = some (r, M') → wd_P D cA ad dsC M H → va_S (wd_A ad dsC.length) s.heap H locs → lv_has ls 6 [(0, .ref (ad 34)), (1, .int x1), (2, .int x2), (3, .int x3), (4, .int x4), (5, .int x5)] → W p l e (headSpec wsX6_offer (rm_X6_offer (nR + 1))).room s m args below meth c H locs 0 0 (MQ below (wm_Qi D cA ad dsC r M') args s 0 0 (wd_A ad dsC.length)) (F0 m 40 ls [])) (x1 : Int32) (x2 : Int32) (x3 : Int32) (x4 : Int32) (x5 : Int32) (M : Mem) (H : Heap) (locs : List Loc) (ls : Array Slot) (hF : B_X6_offer_88 rec kh40 x1 x2 x3 x4 x5 M = some (r, M')) (hP : wd_P D cA ad dsC M H) (hS : va_S (wd_A ad dsC.length) s.heap H locs) (hl : lv_has ls 6 [(0, .ref (ad 34)), (1, .int x1), (2, .int x2), (3, .int x3), (4, .int x4), (5, .int x5)]) : W p l e (headSpec wsX6_offer (rm_X6_offer (nR + 1))).room s m args below meth c H locs 0 0 (MQ below (wm_Qi D cA ad dsC r M') args s 0 0 (wd_A ad dsC.length)) (F0 m 88 ls []) := by
  have hx := X.1.1
  have hb := X.1.2.1
  have hts := X.1.2.2.2.2
  unfold B_X6_offer_88 at hF
  obtain ⟨x5_1, e_2, hF⟩ := nm_c hF
  refine lv_iinc (v := x5_1) (lv' := [(5, .int x5_1), (0, .ref (ad 34)), (1, .int x1), (2, .int x2), (3, .int x3), (4, .int x4)]) hx hb dX6_offer_88 hl (k := 5) rfl (by rw [e_2]; rfl) (by decide) rfl (fun ls hl => ?_)
  refine lv_goto (tgt := 40) hx hb dX6_offer_91 (by decide) ?_
  exact hk40 x1 x2 x3 x4 x5_1 M _ _ _ hF hP hS (lv_sub hl [1, 2, 3, 4, 5, 0] rfl)
set_option maxHeartbeats 4000000 in
set_option maxRecDepth 100000 in
theorem wb_X6_offer_40 {p : Program} {l : Launch} {e : Env} {s : State} {m : MethodId} {args : Array Value} {below : List Frame} {meth : Method} {c : Code} {D : va_G} {cA : Nat → ClassId} {ad : Nat → Nat} (X : wd_X p s m args meth c cX6_offer 6 wsX6_offer RX6 (some .int) D cA ad dsC.length) {nR : Nat} {rec : Int32 → Int32 → Int32 → Mem → Option (Int32 × Mem)} {kh40 : Int32 → Int32 → Int32 → Int32 → Int32 → Mem → Option (Int32 × Mem)} {r : Int32} {M' : Mem} (hrec : ∀ (x1 : Int32) (x2 : Int32) (x3 : Int32) (M : Mem) (r : Int32) (M' : Mem), rec x1 x2 x3 M = some (r, M') → wm_i l yX6_offer wsX6_offer (rm_X6_offer nR) D cA ad dsC M [.ref (ad 34), .int x1, .int x2, .int x3] r M') (hk40 : ∀ (x1 : Int32) (x2 : Int32) (x3 : Int32) (x4 : Int32) (x5 : Int32) (M : Mem) (H : Heap) (locs : List Loc) (ls : Array Slot), kh40 x1 x2 x3 x4 x5 M = some (r, M') → wd_P D cA ad dsC M H → va_S (wd_A ad dsC.length) s.heap H locs → lv_has ls 6 [(0, .ref (ad 34)), (1, .int x1), (2, .int x2), (3, .int x3), (4, .int x4), (5, .int x5)] → W p l e (headSpec wsX6_offer (rm_X6_offer (nR + 1))).room s m args below meth c H locs 0 0 (MQ below (wm_Qi D cA ad dsC r M') args s 0 0 (wd_A ad dsC.length)) (F0 m 40 ls [])) (x1 : Int32) (x2 : Int32) (x3 : Int32) (x4 : Int32) (x5 : Int32) (M : Mem) (H : Heap) (locs : List Loc) (ls : Array Slot) (hF : B_X6_offer_40 rec kh40 x1 x2 x3 x4 x5 M = some (r, M')) (hP : wd_P D cA ad dsC M H) (hS : va_S (wd_A ad dsC.length) s.heap H locs) (hl : lv_has ls 6 [(0, .ref (ad 34)), (1, .int x1), (2, .int x2), (3, .int x3), (4, .int x4), (5, .int x5)]) : W p l e (headSpec wsX6_offer (rm_X6_offer (nR + 1))).room s m args below meth c H locs 0 0 (MQ below (wm_Qi D cA ad dsC r M') args s 0 0 (wd_A ad dsC.length)) (F0 m 40 ls []) := by
  have hx := X.1.1
  have hb := X.1.2.1
  have hts := X.1.2.2.2.2
  unfold B_X6_offer_40 at hF
  refine lv_iload hx hb dX6_offer_40 (lv_at hl 5 rfl) ?_
  refine lv_aload_n hx hb dX6_offer_42 rfl (lv_at hl 0 rfl) ?_
  refine wd_getr (q := 5) X hP 34 dC_34 rfl in_X6_offer_X6 0 rfl (by decide) (by decide +kernel) dX6_offer_43 ?_
  obtain ⟨r_1, hc_2, hF⟩ := bd_c hF
  refine wd_calli X hP hS [] [.int x5] (c_X4_made l D cA ad X.2.2.2.2    M hc_2) (cwV 0 hts gX6_offer_X4_made rfl rfl rfl (by decide +kernel) ⟨(by show _ ≤ _; first | exact Nat.le_of_ble_eq_true rfl | (simp [headSpec, rm_X6_offer]; omega) | omega), (by show _ ≤ _; first | exact Nat.le_of_ble_eq_true rfl | (simp [headSpec, rm_X6_offer]; omega) | omega)⟩) dC_5 rfl rfl hl.1 rfl (Nat.le_of_ble_eq_true rfl) dX6_offer_46 (fun H locs hP hS => ?_)
  refine lv_icmp_ge (tgt := 94) hx hb dX6_offer_49 (by decide) (fun c_12 => ?_) (fun c_12 => ?_)
  · have hF := if_t c_12 hF
    exact wb_X6_offer_94 X hrec   x1 x2 x4 M _ _ _ hF hP hS (lv_sub hl [0, 1, 2, 4] rfl)
  · have hF := if_e c_12 hF
    refine lv_iload hx hb dX6_offer_52 (lv_at hl 4 rfl) ?_
    refine lv_iload_n hx hb dX6_offer_54 rfl (lv_at hl 3 rfl) ?_
    refine lv_icmp_le (tgt := 94) hx hb dX6_offer_55 (by decide) (fun c_11 => ?_) (fun c_11 => ?_)
    · have hF := if_t c_11 hF
      exact wb_X6_offer_94 X hrec   x1 x2 x4 M _ _ _ hF hP hS (lv_sub hl [0, 1, 2, 4] rfl)
    · have hF := if_e c_11 hF
      refine lv_aload_n hx hb dX6_offer_58 rfl (lv_at hl 0 rfl) ?_
      refine wd_getr (q := 5) X hP 34 dC_34 rfl in_X6_offer_X6 0 rfl (by decide) (by decide +kernel) dX6_offer_59 ?_
      refine lv_iload hx hb dX6_offer_62 (lv_at hl 5 rfl) ?_
      obtain ⟨r_3, hc_4, hF⟩ := bd_c hF
      refine wd_calli X hP hS [.int x5] [] (c_X4_parentOf l D cA ad X.2.2.2.2   x5 M hc_4) (cwV 1 hts gX6_offer_X4_parentOf rfl rfl rfl (by decide +kernel) ⟨(by show _ ≤ _; first | exact Nat.le_of_ble_eq_true rfl | (simp [headSpec, rm_X6_offer]; omega) | omega), (by show _ ≤ _; first | exact Nat.le_of_ble_eq_true rfl | (simp [headSpec, rm_X6_offer]; omega) | omega)⟩) dC_5 rfl rfl hl.1 rfl (Nat.le_of_ble_eq_true rfl) dX6_offer_64 (fun H locs hP hS => ?_)
      refine lv_iload_n hx hb dX6_offer_67 rfl (lv_at hl 1 rfl) ?_
      refine lv_icmp_ne (tgt := 88) hx hb dX6_offer_68 (by decide) (fun c_10 => ?_) (fun c_10 => ?_)
      · have hF := if_e c_10 hF
        exact wb_X6_offer_88 X hrec hk40  x1 x2 x3 x4 x5 M _ _ _ hF hP hS (lv_sub hl [0, 1, 2, 3, 4, 5] rfl)
      · have hF := if_t c_10 hF
        refine lv_iload hx hb dX6_offer_71 (lv_at hl 4 rfl) ?_
        refine lv_aload_n hx hb dX6_offer_73 rfl (lv_at hl 0 rfl) ?_
        refine lv_iload hx hb dX6_offer_74 (lv_at hl 5 rfl) ?_
        refine lv_iload_n hx hb dX6_offer_76 rfl (lv_at hl 2 rfl) ?_
        refine lv_iload_n hx hb dX6_offer_77 rfl (lv_at hl 3 rfl) ?_
        refine lv_iconst (v := (1 : Int32)) hx hb dX6_offer_78 (by decide) ?_
        refine lv_iadd hx hb dX6_offer_79 ?_
        obtain ⟨r_5, M_7, hc_6, hF⟩ := bd2_c hF
        refine wd_calli X hP hS [.int x5, .int x2, .int (x3 + (1 : Int32))] [.int x4] (hrec x5 x2 (x3 + (1 : Int32)) M _ _ hc_6) (cwV 3 hts gX6_offer_X6_offer rfl rfl rfl (by decide +kernel) ⟨(show nR + 14 + 1 ≤ nR + 1 + 14 by omega), (show 8 + (6 + 11) + (25 * nR + 344) ≤ 25 * (nR + 1) + 344 by omega)⟩) dC_34 rfl rfl hl.1 rfl (Nat.le_of_ble_eq_true rfl) dX6_offer_80 (fun H locs hP hS => ?_)
        refine va_mmin hx hb (X.1.2.2.1.trans hl.1.symm) X.1.2.2.2.1 (hts _ (by decide +kernel)) (hts _ (by decide +kernel)) (hts _ (by decide +kernel)) (hts _ (by decide +kernel)) (by show _ ≤ _; first | exact Nat.le_of_ble_eq_true rfl | (simp [headSpec, rm_X6_offer]; omega) | omega) (by show _ ≤ _; first | exact Nat.le_of_ble_eq_true rfl | (simp [headSpec, rm_X6_offer]; omega) | omega) (Nat.zero_le _) (Nat.zero_le _) dX6_offer_83 ?_
        obtain ⟨x4_8, e_9, hF⟩ := nm_c hF
        refine wd_top e_9 ?_
        refine lv_istore (lv' := [(4, .int x4_8), (0, .ref (ad 34)), (1, .int x1), (2, .int x2), (3, .int x3), (5, .int x5)]) hx hb dX6_offer_86 hl (by decide) rfl (fun ls hl => ?_)
        exact wb_X6_offer_88 X hrec hk40  x1 x2 x3 x4_8 x5 M_7 _ _ _ hF hP hS (lv_sub hl [1, 2, 3, 4, 0, 5] rfl)
set_option maxHeartbeats 4000000 in
set_option maxRecDepth 100000 in
theorem wh_X6_offer_40 {p : Program} {l : Launch} {e : Env} {s : State} {m : MethodId} {args : Array Value} {below : List Frame} {meth : Method} {c : Code} {D : va_G} {cA : Nat → ClassId} {ad : Nat → Nat} (X : wd_X p s m args meth c cX6_offer 6 wsX6_offer RX6 (some .int) D cA ad dsC.length) {nR : Nat} {rec : Int32 → Int32 → Int32 → Mem → Option (Int32 × Mem)} {r : Int32} {M' : Mem} (hrec : ∀ (x1 : Int32) (x2 : Int32) (x3 : Int32) (M : Mem) (r : Int32) (M' : Mem), rec x1 x2 x3 M = some (r, M') → wm_i l yX6_offer wsX6_offer (rm_X6_offer nR) D cA ad dsC M [.ref (ad 34), .int x1, .int x2, .int x3] r M') : ∀ (n : Nat) (x1 : Int32) (x2 : Int32) (x3 : Int32) (x4 : Int32) (x5 : Int32) (M : Mem) (H : Heap) (locs : List Loc) (ls : Array Slot), H_X6_offer_40 rec n x1 x2 x3 x4 x5 M = some (r, M') → wd_P D cA ad dsC M H → va_S (wd_A ad dsC.length) s.heap H locs → lv_has ls 6 [(0, .ref (ad 34)), (1, .int x1), (2, .int x2), (3, .int x3), (4, .int x4), (5, .int x5)] → W p l e (headSpec wsX6_offer (rm_X6_offer (nR + 1))).room s m args below meth c H locs 0 0 (MQ below (wm_Qi D cA ad dsC r M') args s 0 0 (wd_A ad dsC.length)) (F0 m 40 ls []) := by
  intro n
  induction n with
  | zero => intro x1 x2 x3 x4 x5 M H locs ls hF; cases hF
  | succ n ih => intro x1 x2 x3 x4 x5 M H locs ls hF hP hS hl; exact wb_X6_offer_40 X (kh40 := H_X6_offer_40 rec n) hrec ih x1 x2 x3 x4 x5 M H locs ls hF hP hS hl
set_option maxHeartbeats 4000000 in
set_option maxRecDepth 100000 in
theorem ce_X6_offer (l : Launch) (D : va_G) (cA : Nat → ClassId) (ad : Nat → Nat) (hj : wd_inj ad dsC.length) {nR : Nat} {rec : Int32 → Int32 → Int32 → Mem → Option (Int32 × Mem)} (hrec : ∀ (x1 : Int32) (x2 : Int32) (x3 : Int32) (M : Mem) (r : Int32) (M' : Mem), rec x1 x2 x3 M = some (r, M') → wm_i l yX6_offer wsX6_offer (rm_X6_offer nR) D cA ad dsC M [.ref (ad 34), .int x1, .int x2, .int x3] r M') (x1 : Int32) (x2 : Int32) (x3 : Int32) (M : Mem) {r : Int32} {M' : Mem} (hF : B_X6_offer_e rec x1 x2 x3 M = some (r, M')) : wm_i l yX6_offer wsX6_offer (rm_X6_offer (nR + 1)) D cA ad dsC M [.ref (ad 34), .int x1, .int x2, .int x3] r M' := by
  refine Met.ofW (cc := cX6_offer) (maxL := 6) (ret := (some .int)) (by decide) rfl ?_
  intro p e s m args below meth c s₁ B hml hv
  obtain ⟨rfl, hP, hK⟩ := hv
  have X : wd_X p s m _ meth c cX6_offer 6 wsX6_offer RX6 (some .int) D cA ad dsC.length := ⟨⟨B.exec, B.bytes, hml, findClass_of_methodNamed B.named, atoms_spec (ws := wsX6_offer) B.pre⟩, hK, B.notSynchronized, B.returns, hj⟩
  have hl := lv_entry ([.ref (ad 34), .int x1, .int x2, .int x3]) (n := 6) (Nat.le_of_ble_eq_true rfl)
  rw [lg_entry_eq]
  generalize (lg_sl ([.ref (ad 34), .int x1, .int x2, .int x3]) ++ List.replicate (6 - (lg_sl ([.ref (ad 34), .int x1, .int x2, .int x3])).length) Slot.unset).toArray = ls at hl ⊢
  have hl : lv_has ls 6 [(0, .ref (ad 34)), (1, .int x1), (2, .int x2), (3, .int x3)] := hl
  have hS : va_S (wd_A ad dsC.length) s.heap s.heap [] := va_S.rf
  have hx := X.1.1
  have hb := X.1.2.1
  have hts := X.1.2.2.2.2
  unfold B_X6_offer_e at hF
  refine lv_aload_n hx hb dX6_offer_0 rfl (lv_at hl 0 rfl) ?_
  refine wd_getr (q := 5) X hP 34 dC_34 rfl in_X6_offer_X6 0 rfl (by decide) (by decide +kernel) dX6_offer_1 ?_
  refine lv_iload_n hx hb dX6_offer_4 rfl (lv_at hl 1 rfl) ?_
  obtain ⟨r_1, hc_2, hF⟩ := bd_c hF
  refine wd_calli X hP hS [.int x1] [] (c_X4_isState l D cA ad X.2.2.2.2   x1 M hc_2) (cwV 1 hts gX6_offer_X4_isState rfl rfl rfl (by decide +kernel) ⟨(by show _ ≤ _; first | exact Nat.le_of_ble_eq_true rfl | (simp [headSpec, rm_X6_offer]; omega) | omega), (by show _ ≤ _; first | exact Nat.le_of_ble_eq_true rfl | (simp [headSpec, rm_X6_offer]; omega) | omega)⟩) dC_5 rfl rfl hl.1 rfl (Nat.le_of_ble_eq_true rfl) dX6_offer_5 (fun H locs hP hS => ?_)
  refine lv_if_eq (tgt := 17) hx hb dX6_offer_8 (by decide) (fun c_14 => ?_) (fun c_14 => ?_)
  · have hF := if_t c_14 hF
    refine lv_bipush (v := (7 : Int32)) hx hb dX6_offer_17 (by decide) ?_
    cases hF
    exact wd_reti X hP hS rfl rfl dX6_offer_19
  · have hF := if_e c_14 hF
    refine lv_iload_n hx hb dX6_offer_11 rfl (lv_at hl 3 rfl) ?_
    refine lv_bipush (v := (6 : Int32)) hx hb dX6_offer_12 (by decide) ?_
    refine lv_icmp_le (tgt := 20) hx hb dX6_offer_14 (by decide) (fun c_13 => ?_) (fun c_13 => ?_)
    · have hF := if_t c_13 hF
      refine lv_bipush (v := (7 : Int32)) hx hb dX6_offer_20 (by decide) ?_
      refine lv_istore (lv' := [(4, .int (7 : Int32)), (0, .ref (ad 34)), (1, .int x1), (2, .int x2), (3, .int x3)]) hx hb dX6_offer_22 hl (by decide) rfl (fun ls hl => ?_)
      refine lv_aload_n hx hb dX6_offer_24 rfl (lv_at hl 1 rfl) ?_
      refine wd_getr (q := 5) X hP 34 dC_34 rfl in_X6_offer_X6 0 rfl (by decide) (by decide +kernel) dX6_offer_25 ?_
      refine lv_iload_n hx hb dX6_offer_28 rfl (lv_at hl 2 rfl) ?_
      obtain ⟨r_3, hc_4, hF⟩ := bd_c hF
      refine wd_calli X hP hS [.int x1] [] (c_X4_isWhole l D cA ad X.2.2.2.2   x1 M hc_4) (cwV 1 hts gX6_offer_X4_isWhole rfl rfl rfl (by decide +kernel) ⟨(by show _ ≤ _; first | exact Nat.le_of_ble_eq_true rfl | (simp [headSpec, rm_X6_offer]; omega) | omega), (by show _ ≤ _; first | exact Nat.le_of_ble_eq_true rfl | (simp [headSpec, rm_X6_offer]; omega) | omega)⟩) dC_5 rfl rfl hl.1 rfl (Nat.le_of_ble_eq_true rfl) dX6_offer_29 (fun H locs hP hS => ?_)
      refine lv_if_eq (tgt := 97) hx hb dX6_offer_32 (by decide) (fun c_12 => ?_) (fun c_12 => ?_)
      · have hF := if_t c_12 hF
        refine lv_aload_n hx hb dX6_offer_97 rfl (lv_at hl 1 rfl) ?_
        refine lv_aload_n hx hb dX6_offer_98 rfl (lv_at hl 1 rfl) ?_
        refine lv_iload_n hx hb dX6_offer_99 rfl (lv_at hl 2 rfl) ?_
        obtain ⟨r_5, hc_6, hF⟩ := bd_c hF
        refine wd_calli X hP hS [.int x1] [.ref (ad 34)] (c_X6_currentChild l D cA ad X.2.2.2.2   x1 M hc_6) (cwV 1 hts gX6_offer_X6_currentChild rfl rfl rfl (by decide +kernel) ⟨(by show _ ≤ _; first | exact Nat.le_of_ble_eq_true rfl | (simp [headSpec, rm_X6_offer]; omega) | omega), (by show _ ≤ _; first | exact Nat.le_of_ble_eq_true rfl | (simp [headSpec, rm_X6_offer]; omega) | omega)⟩) dC_34 rfl rfl hl.1 rfl (Nat.le_of_ble_eq_true rfl) dX6_offer_100 (fun H locs hP hS => ?_)
        refine lv_iload_n hx hb dX6_offer_103 rfl (lv_at hl 3 rfl) ?_
        refine lv_iload_n hx hb dX6_offer_104 rfl (lv_at hl 4 rfl) ?_
        refine lv_iconst (v := (1 : Int32)) hx hb dX6_offer_105 (by decide) ?_
        refine lv_iadd hx hb dX6_offer_106 ?_
        obtain ⟨r_7, M_9, hc_8, hF⟩ := bd2_c hF
        refine wd_calli X hP hS [.int r_5, .int x2, .int (x3 + (1 : Int32))] [] (hrec r_5 x2 (x3 + (1 : Int32)) M _ _ hc_8) (cwV 3 hts gX6_offer_X6_offer rfl rfl rfl (by decide +kernel) ⟨(show nR + 14 + 1 ≤ nR + 1 + 14 by omega), (show 8 + (6 + 11) + (25 * nR + 344) ≤ 25 * (nR + 1) + 344 by omega)⟩) dC_34 rfl rfl hl.1 rfl (Nat.le_of_ble_eq_true rfl) dX6_offer_107 (fun H locs hP hS => ?_)
        refine lv_istore (lv' := [(4, .int r_7), (0, .ref (ad 34)), (1, .int x1), (2, .int x2), (3, .int x3)]) hx hb dX6_offer_110 hl (by decide) rfl (fun ls hl => ?_)
        exact wb_X6_offer_112 X hrec   x1 x2 r_7 M_9 _ _ _ hF hP hS (lv_sub hl [1, 2, 3, 0] rfl)
      · have hF := if_e c_12 hF
        refine lv_iload_n hx hb dX6_offer_35 rfl (lv_at hl 2 rfl) ?_
        refine lv_iconst (v := (1 : Int32)) hx hb dX6_offer_36 (by decide) ?_
        refine lv_iadd hx hb dX6_offer_37 ?_
        obtain ⟨x5_10, e_11, hF⟩ := nm_c hF
        refine wd_top e_11 ?_
        refine lv_istore (lv' := [(5, .int x5_10), (4, .int (7 : Int32)), (0, .ref (ad 34)), (1, .int x1), (2, .int x2), (3, .int x3)]) hx hb dX6_offer_38 hl (by decide) rfl (fun ls hl => ?_)
        exact wh_X6_offer_40 X hrec   100 x1 x2 x3 (7 : Int32) x5_10 M _ _ _ hF hP hS (lv_sub hl [2, 3, 4, 5, 1, 0] rfl)
    · have hF := if_e c_13 hF
      refine lv_bipush (v := (7 : Int32)) hx hb dX6_offer_17 (by decide) ?_
      cases hF
      exact wd_reti X hP hS rfl rfl dX6_offer_19
set_option maxHeartbeats 4000000 in
set_option maxRecDepth 100000 in
theorem c_X6_offer (l : Launch) (D : va_G) (cA : Nat → ClassId) (ad : Nat → Nat) (hj : wd_inj ad dsC.length) : ∀ (n : Nat) (x1 : Int32) (x2 : Int32) (x3 : Int32) (M : Mem) {r : Int32} {M' : Mem}, F_X6_offer n x1 x2 x3 M = some (r, M') → wm_i l yX6_offer wsX6_offer (rm_X6_offer n) D cA ad dsC M [.ref (ad 34), .int x1, .int x2, .int x3] r M' := by
  intro n
  induction n with
  | zero => intro x1 x2 x3 M r M' hF; cases hF
  | succ n ih => intro x1 x2 x3 M r M' hF; exact ce_X6_offer l D cA ad hj (rec := F_X6_offer n) (fun x1 x2 x3 M r M' h => ih x1 x2 x3 M h) x1 x2 x3 M hF
/-! X6_receive (II)V -/
set_option maxHeartbeats 4000000 in
set_option maxRecDepth 100000 in
theorem c_X6_receive (l : Launch) (D : va_G) (cA : Nat → ClassId) (ad : Nat → Nat) (hj : wd_inj ad dsC.length)   (x1 : Int32) (x2 : Int32) (M : Mem) {M' : Mem} (hF : F_X6_receive x1 x2 M = some M') : wm_v l yX6_receive wsX6_receive rm_X6_receive D cA ad dsC M [.ref (ad 34), .int x1, .int x2] M' := by
  refine Met.ofW (cc := cX6_receive) (maxL := 3) (ret := none) (by decide) rfl ?_
  intro p e s m args below meth c s₁ B hml hv
  obtain ⟨rfl, hP, hK⟩ := hv
  have X : wd_X p s m _ meth c cX6_receive 3 wsX6_receive RX6 none D cA ad dsC.length := ⟨⟨B.exec, B.bytes, hml, findClass_of_methodNamed B.named, atoms_spec (ws := wsX6_receive) B.pre⟩, hK, B.notSynchronized, B.returns, hj⟩
  have hl := lv_entry ([.ref (ad 34), .int x1, .int x2]) (n := 3) (Nat.le_of_ble_eq_true rfl)
  rw [lg_entry_eq]
  generalize (lg_sl ([.ref (ad 34), .int x1, .int x2]) ++ List.replicate (3 - (lg_sl ([.ref (ad 34), .int x1, .int x2])).length) Slot.unset).toArray = ls at hl ⊢
  have hl : lv_has ls 3 [(0, .ref (ad 34)), (1, .int x1), (2, .int x2)] := hl
  have hS : va_S (wd_A ad dsC.length) s.heap s.heap [] := va_S.rf
  have hx := X.1.1
  have hb := X.1.2.1
  have hts := X.1.2.2.2.2
  unfold F_X6_receive at hF
  refine lv_aload_n hx hb dX6_receive_0 rfl (lv_at hl 0 rfl) ?_
  refine lv_iload_n hx hb dX6_receive_1 rfl (lv_at hl 2 rfl) ?_
  obtain ⟨M_3, hc_2, hF⟩ := bd_c hF
  refine wd_callv X hP hS [.int x2] [] (c_X6_noteIn l D cA ad X.2.2.2.2   x2 M hc_2) (cwV 1 hts gX6_receive_X6_noteIn rfl rfl rfl (by decide +kernel) ⟨(by show _ ≤ _; first | exact Nat.le_of_ble_eq_true rfl | (simp [headSpec, rm_X6_receive]; omega) | omega), (by show _ ≤ _; first | exact Nat.le_of_ble_eq_true rfl | (simp [headSpec, rm_X6_receive]; omega) | omega)⟩) dC_34 rfl rfl hl.1 rfl (Nat.le_of_ble_eq_true rfl) dX6_receive_2 (fun H locs hP hS => ?_)
  refine lv_aload_n hx hb dX6_receive_5 rfl (lv_at hl 0 rfl) ?_
  refine lv_iconst (v := (0 : Int32)) hx hb dX6_receive_6 (by decide) ?_
  refine lv_iload_n hx hb dX6_receive_7 rfl (lv_at hl 1 rfl) ?_
  refine lv_iconst (v := (0 : Int32)) hx hb dX6_receive_8 (by decide) ?_
  obtain ⟨r_4, M_6, hc_5, hF⟩ := bd2_c hF
  refine wd_calli X hP hS [.int (0 : Int32), .int x1, .int (0 : Int32)] [] (c_X6_offer l D cA ad X.2.2.2.2 10   (0 : Int32) x1 (0 : Int32) M_3 hc_5) (cwV 3 hts gX6_receive_X6_offer rfl rfl rfl (by decide +kernel) ⟨(by show _ ≤ _; first | exact Nat.le_of_ble_eq_true rfl | (simp [headSpec, rm_X6_receive]; omega) | omega), (by show _ ≤ _; first | exact Nat.le_of_ble_eq_true rfl | (simp [headSpec, rm_X6_receive]; omega) | omega)⟩) dC_34 rfl rfl hl.1 rfl (Nat.le_of_ble_eq_true rfl) dX6_receive_9 (fun H locs hP hS => ?_)
  refine lv_pop hx hb dX6_receive_12 rfl ?_
  cases hF
  exact wd_retv X hP hS dX6_receive_13
