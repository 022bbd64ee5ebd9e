/-! X8_offer (I)V -/
theorem in_X8_offer_X8 : ∀ w ∈ u_ws RX8 TX8 39, w ∈ wsX8_offer := by decide +kernel
set_option maxHeartbeats 4000000 in
set_option maxRecDepth 100000 in
theorem wb_X8_offer_204 {p : Program} {l : Launch} {e : Env} {s : State} {m : MethodId} {args : Array Value} {below : List Frame} {meth : Method} {c : Code} {D : va_G} {cA : Nat → ClassId} {ad : Nat → Nat} (X : wd_X p s m args meth c cX8_offer 7 wsX8_offer RX8 none D cA ad dsM.length) {kh24 : Int32 → Int32 → Mem → Option Mem} {M' : Mem} (hk24 : ∀ (x1 : Int32) (x2 : Int32) (M : Mem) (H : Heap) (locs : List Loc) (ls : Array Slot), kh24 x1 x2 M = some M' → wd_P D cA ad dsM M H → va_S (wd_A ad dsM.length) s.heap H locs → lv_has ls 7 [(0, .ref (ad 0)), (1, .int x1), (2, .int x2)] → W p l e (headSpec wsX8_offer rm_X8_offer).room s m args below meth c H locs 0 0 (MQ below (wm_Qv D cA ad dsM M') args s 0 0 (wd_A ad dsM.length)) (F0 m 24 ls [])) (x1 : Int32) (x2 : Int32) (M : Mem) (H : Heap) (locs : List Loc) (ls : Array Slot) (hF : B_X8_offer_204 kh24 x1 x2 M = some M') (hP : wd_P D cA ad dsM M H) (hS : va_S (wd_A ad dsM.length) s.heap H locs) (hl : lv_has ls 7 [(0, .ref (ad 0)), (1, .int x1), (2, .int x2)]) : W p l e (headSpec wsX8_offer rm_X8_offer).room s m args below meth c H locs 0 0 (MQ below (wm_Qv D cA ad dsM M') args s 0 0 (wd_A ad dsM.length)) (F0 m 204 ls []) := by
  have hx := X.1.1
  have hb := X.1.2.1
  have hts := X.1.2.2.2.2
  unfold B_X8_offer_204 at hF
  refine lv_goto (tgt := 24) hx hb dX8_offer_204 (by decide) ?_
  exact hk24 x1 x2 M _ _ _ hF hP hS (lv_sub hl [0, 1, 2] rfl)
set_option maxHeartbeats 4000000 in
set_option maxRecDepth 100000 in
theorem wb_X8_offer_166 {p : Program} {l : Launch} {e : Env} {s : State} {m : MethodId} {args : Array Value} {below : List Frame} {meth : Method} {c : Code} {D : va_G} {cA : Nat → ClassId} {ad : Nat → Nat} (X : wd_X p s m args meth c cX8_offer 7 wsX8_offer RX8 none D cA ad dsM.length) {kh24 : Int32 → Int32 → Mem → Option Mem} {M' : Mem} (hk24 : ∀ (x1 : Int32) (x2 : Int32) (M : Mem) (H : Heap) (locs : List Loc) (ls : Array Slot), kh24 x1 x2 M = some M' → wd_P D cA ad dsM M H → va_S (wd_A ad dsM.length) s.heap H locs → lv_has ls 7 [(0, .ref (ad 0)), (1, .int x1), (2, .int x2)] → W p l e (headSpec wsX8_offer rm_X8_offer).room s m args below meth c H locs 0 0 (MQ below (wm_Qv D cA ad dsM M') args s 0 0 (wd_A ad dsM.length)) (F0 m 24 ls [])) (x1 : Int32) (x2 : Int32) (M : Mem) (H : Heap) (locs : List Loc) (ls : Array Slot) (hF : B_X8_offer_166 kh24 x1 x2 M = some M') (hP : wd_P D cA ad dsM M H) (hS : va_S (wd_A ad dsM.length) s.heap H locs) (hl : lv_has ls 7 [(0, .ref (ad 0)), (1, .int x1), (2, .int x2)]) : W p l e (headSpec wsX8_offer rm_X8_offer).room s m args below meth c H locs 0 0 (MQ below (wm_Qv D cA ad dsM M') args s 0 0 (wd_A ad dsM.length)) (F0 m 166 ls []) := by
  have hx := X.1.1
  have hb := X.1.2.1
  have hts := X.1.2.2.2.2
  unfold B_X8_offer_166 at hF
  obtain ⟨x2_1, e_2, hF⟩ := nm_c hF
  refine lv_iinc (v := x2_1) (lv' := [(2, .int x2_1), (0, .ref (ad 0)), (1, .int x1)]) hx hb dX8_offer_166 hl (k := 2) rfl (by rw [e_2]; rfl) (by decide) rfl (fun ls hl => ?_)
  refine lv_iload_n hx hb dX8_offer_169 rfl (lv_at hl 0 rfl) ?_
  refine lv_if_le (tgt := 204) hx hb dX8_offer_170 (by decide) (fun c_10 => ?_) (fun c_10 => ?_)
  · have hF := if_t c_10 hF
    exact wb_X8_offer_204 X  hk24  x1 x2_1 M _ _ _ hF hP hS (lv_sub hl [1, 2, 0] rfl)
  · have hF := if_e c_10 hF
    refine lv_aload_n hx hb dX8_offer_173 rfl (lv_at hl 1 rfl) ?_
    refine wd_getr (q := 29) X hP 0 dM_0 rfl in_X8_offer_X8 38 rfl (by decide) (by decide +kernel) dX8_offer_174 ?_
    refine lv_iload_n hx hb dX8_offer_177 rfl (lv_at hl 0 rfl) ?_
    obtain ⟨h_3, hF⟩ := gi_c hF
    refine wd_ild X hP 29 dM_29 h_3 dX8_offer_178 ?_
    refine lv_aload_n hx hb dX8_offer_179 rfl (lv_at hl 1 rfl) ?_
    refine wd_getr (q := 29) X hP 0 dM_0 rfl in_X8_offer_X8 38 rfl (by decide) (by decide +kernel) dX8_offer_180 ?_
    refine lv_iload_n hx hb dX8_offer_183 rfl (lv_at hl 0 rfl) ?_
    refine lv_iconst (v := (1 : Int32)) hx hb dX8_offer_184 (by decide) ?_
    refine lv_isub hx hb dX8_offer_185 ?_
    obtain ⟨h_4, hF⟩ := gi_c hF
    refine wd_ild X hP 29 dM_29 h_4 dX8_offer_186 ?_
    refine lv_icmp_ge (tgt := 204) hx hb dX8_offer_187 (by decide) (fun c_9 => ?_) (fun c_9 => ?_)
    · have hF := if_t c_9 hF
      exact wb_X8_offer_204 X  hk24  x1 x2_1 M _ _ _ hF hP hS (lv_sub hl [1, 2, 0] rfl)
    · have hF := if_e c_9 hF
      refine lv_aload_n hx hb dX8_offer_190 rfl (lv_at hl 1 rfl) ?_
      refine wd_getr (q := 29) X hP 0 dM_0 rfl in_X8_offer_X8 38 rfl (by decide) (by decide +kernel) dX8_offer_191 ?_
      refine lv_iload_n hx hb dX8_offer_194 rfl (lv_at hl 0 rfl) ?_
      refine lv_iconst (v := (1 : Int32)) hx hb dX8_offer_195 (by decide) ?_
      refine lv_isub hx hb dX8_offer_196 ?_
      refine lv_aload_n hx hb dX8_offer_197 rfl (lv_at hl 1 rfl) ?_
      refine wd_getr (q := 29) X hP 0 dM_0 rfl in_X8_offer_X8 38 rfl (by decide) (by decide +kernel) dX8_offer_198 ?_
      refine lv_iload_n hx hb dX8_offer_201 rfl (lv_at hl 0 rfl) ?_
      obtain ⟨h_5, hF⟩ := gi_c hF
      refine wd_ild X hP 29 dM_29 h_5 dX8_offer_202 ?_
      obtain ⟨h_6, hF⟩ := gi_c hF
      obtain ⟨M_7, e_8, hF⟩ := wr_c hF
      refine wd_ist X hP hS 29 dM_29 h_6 dX8_offer_203 (fun H locs hP hS => ?_)
      rw [← e_8] at hP
      exact wb_X8_offer_204 X  hk24  x1 x2_1 M_7 _ _ _ hF hP hS (lv_sub hl [1, 2, 0] rfl)
set_option maxHeartbeats 4000000 in
set_option maxRecDepth 100000 in
theorem wb_X8_offer_93 {p : Program} {l : Launch} {e : Env} {s : State} {m : MethodId} {args : Array Value} {below : List Frame} {meth : Method} {c : Code} {D : va_G} {cA : Nat → ClassId} {ad : Nat → Nat} (X : wd_X p s m args meth c cX8_offer 7 wsX8_offer RX8 none D cA ad dsM.length) {kh24 : Int32 → Int32 → Mem → Option Mem} {M' : Mem} (hk24 : ∀ (x1 : Int32) (x2 : Int32) (M : Mem) (H : Heap) (locs : List Loc) (ls : Array Slot), kh24 x1 x2 M = some M' → wd_P D cA ad dsM M H → va_S (wd_A ad dsM.length) s.heap H locs → lv_has ls 7 [(0, .ref (ad 0)), (1, .int x1), (2, .int x2)] → W p l e (headSpec wsX8_offer rm_X8_offer).room s m args below meth c H locs 0 0 (MQ below (wm_Qv D cA ad dsM M') args s 0 0 (wd_A ad dsM.length)) (F0 m 24 ls [])) (x1 : Int32) (x2 : Int32) (x3 : Int32) (t0 : Int32) (M : Mem) (H : Heap) (locs : List Loc) (ls : Array Slot) (hF : B_X8_offer_93 kh24 x1 x2 x3 t0 M = some M') (hP : wd_P D cA ad dsM M H) (hS : va_S (wd_A ad dsM.length) s.heap H locs) (hl : lv_has ls 7 [(0, .ref (ad 0)), (1, .int x1), (2, .int x2), (3, .int x3)]) : W p l e (headSpec wsX8_offer rm_X8_offer).room s m args below meth c H locs 0 0 (MQ below (wm_Qv D cA ad dsM M') args s 0 0 (wd_A ad dsM.length)) (F0 m 93 ls [.int t0]) := by
  have hx := X.1.1
  have hb := X.1.2.1
  have hts := X.1.2.2.2.2
  unfold B_X8_offer_93 at hF
  refine lv_istore (lv' := [(6, .int t0), (0, .ref (ad 0)), (1, .int x1), (2, .int x2), (3, .int x3)]) hx hb dX8_offer_93 hl (by decide) rfl (fun ls hl => ?_)
  refine lv_iload hx hb dX8_offer_95 (lv_at hl 0 rfl) ?_
  refine lv_if_lt (tgt := 139) hx hb dX8_offer_97 (by decide) (fun c_23 => ?_) (fun c_23 => ?_)
  · have hF := if_t c_23 hF
    refine lv_aload_n hx hb dX8_offer_139 rfl (lv_at hl 1 rfl) ?_
    refine wd_getr (q := 29) X hP 0 dM_0 rfl in_X8_offer_X8 38 rfl (by decide) (by decide +kernel) dX8_offer_140 ?_
    refine lv_iload_n hx hb dX8_offer_143 rfl (lv_at hl 3 rfl) ?_
    refine lv_iconst (v := (1 : Int32)) hx hb dX8_offer_144 (by decide) ?_
    refine lv_isub hx hb dX8_offer_145 ?_
    obtain ⟨h_1, hF⟩ := gi_c hF
    refine wd_ild X hP 29 dM_29 h_1 dX8_offer_146 ?_
    refine lv_bipush (v := (99 : Int32)) hx hb dX8_offer_147 (by decide) ?_
    refine lv_icmp_ne (tgt := 166) hx hb dX8_offer_149 (by decide) (fun c_8 => ?_) (fun c_8 => ?_)
    · have hF := if_e c_8 hF
      exact wb_X8_offer_166 X  hk24  x1 x2 M _ _ _ hF hP hS (lv_sub hl [1, 2, 3] rfl)
    · have hF := if_t c_8 hF
      refine lv_aload_n hx hb dX8_offer_152 rfl (lv_at hl 1 rfl) ?_
      refine wd_getr (q := 29) X hP 0 dM_0 rfl in_X8_offer_X8 38 rfl (by decide) (by decide +kernel) dX8_offer_153 ?_
      refine lv_iload_n hx hb dX8_offer_156 rfl (lv_at hl 3 rfl) ?_
      refine lv_iconst (v := (1 : Int32)) hx hb dX8_offer_157 (by decide) ?_
      refine lv_isub hx hb dX8_offer_158 ?_
      refine lv_aload_n hx hb dX8_offer_159 rfl (lv_at hl 1 rfl) ?_
      refine lv_iload_n hx hb dX8_offer_160 rfl (lv_at hl 4 rfl) ?_
      refine lv_iload_n hx hb dX8_offer_161 rfl (lv_at hl 2 rfl) ?_
      obtain ⟨r_2, M_4, hc_3, hF⟩ := bd2_c hF
      refine wd_calli X hP hS [.int x3, .int x1] [.int (x2 - (1 : Int32)), .ref (ad 29)] (c_X8_own l D cA ad X.2.2.2.2   x3 x1 M hc_3) (cwV 2 hts gX8_offer_X8_own rfl rfl rfl (by decide +kernel) ⟨(by show _ ≤ _; first | exact Nat.le_of_ble_eq_true rfl | (simp [headSpec, rm_X8_offer]; omega) | omega), (by show _ ≤ _; first | exact Nat.le_of_ble_eq_true rfl | (simp [headSpec, rm_X8_offer]; omega) | omega)⟩) dM_0 rfl rfl hl.1 rfl (Nat.le_of_ble_eq_true rfl) dX8_offer_162 (fun H locs hP hS => ?_)
      obtain ⟨h_5, hF⟩ := gi_c hF
      obtain ⟨M_6, e_7, hF⟩ := wr_c hF
      refine wd_ist X hP hS 29 dM_29 h_5 dX8_offer_165 (fun H locs hP hS => ?_)
      rw [← e_7] at hP
      exact wb_X8_offer_166 X  hk24  x1 x2 M_6 _ _ _ hF hP hS (lv_sub hl [1, 2, 3] rfl)
  · have hF := if_e c_23 hF
    refine lv_aload_n hx hb dX8_offer_100 rfl (lv_at hl 1 rfl) ?_
    refine wd_getr (q := 28) X hP 0 dM_0 rfl in_X8_offer_X8 37 rfl (by decide) (by decide +kernel) dX8_offer_101 ?_
    refine lv_iload_n hx hb dX8_offer_104 rfl (lv_at hl 3 rfl) ?_
    refine lv_iconst (v := (1 : Int32)) hx hb dX8_offer_105 (by decide) ?_
    refine lv_isub hx hb dX8_offer_106 ?_
    refine lv_iload hx hb dX8_offer_107 (lv_at hl 0 rfl) ?_
    obtain ⟨h_9, hF⟩ := gi_c hF
    obtain ⟨M_10, e_11, hF⟩ := wr_c hF
    refine wd_ist X hP hS 28 dM_28 h_9 dX8_offer_109 (fun H locs hP hS => ?_)
    rw [← e_11] at hP
    refine lv_aload_n hx hb dX8_offer_110 rfl (lv_at hl 1 rfl) ?_
    refine wd_getr (q := 27) X hP 0 dM_0 rfl in_X8_offer_X8 36 rfl (by decide) (by decide +kernel) dX8_offer_111 ?_
    refine lv_iload_n hx hb dX8_offer_114 rfl (lv_at hl 3 rfl) ?_
    refine lv_iload hx hb dX8_offer_115 (lv_at hl 0 rfl) ?_
    obtain ⟨h_12, hF⟩ := gi_c hF
    obtain ⟨M_13, e_14, hF⟩ := wr_c hF
    refine wd_ist X hP hS 27 dM_27 h_12 dX8_offer_117 (fun H locs hP hS => ?_)
    rw [← e_14] at hP
    refine lv_aload_n hx hb dX8_offer_118 rfl (lv_at hl 1 rfl) ?_
    refine wd_getr (q := 28) X hP 0 dM_0 rfl in_X8_offer_X8 37 rfl (by decide) (by decide +kernel) dX8_offer_119 ?_
    refine lv_iload_n hx hb dX8_offer_122 rfl (lv_at hl 3 rfl) ?_
    refine lv_iconst (v := (-1 : Int32)) hx hb dX8_offer_123 (by decide) ?_
    obtain ⟨h_15, hF⟩ := gi_c hF
    obtain ⟨M_16, e_17, hF⟩ := wr_c hF
    refine wd_ist X hP hS 28 dM_28 h_15 dX8_offer_124 (fun H locs hP hS => ?_)
    rw [← e_17] at hP
    refine lv_aload_n hx hb dX8_offer_125 rfl (lv_at hl 1 rfl) ?_
    refine wd_getr (q := 29) X hP 0 dM_0 rfl in_X8_offer_X8 38 rfl (by decide) (by decide +kernel) dX8_offer_126 ?_
    refine lv_iload_n hx hb dX8_offer_129 rfl (lv_at hl 3 rfl) ?_
    refine lv_bipush (v := (99 : Int32)) hx hb dX8_offer_130 (by decide) ?_
    obtain ⟨h_18, hF⟩ := gi_c hF
    obtain ⟨M_19, e_20, hF⟩ := wr_c hF
    refine wd_ist X hP hS 29 dM_29 h_18 dX8_offer_132 (fun H locs hP hS => ?_)
    rw [← e_20] at hP
    obtain ⟨x2_21, e_22, hF⟩ := nm_c hF
    refine lv_iinc (v := x2_21) (lv' := [(2, .int x2_21), (6, .int t0), (0, .ref (ad 0)), (1, .int x1), (3, .int x3)]) hx hb dX8_offer_133 hl (k := 3) rfl (by rw [e_22]; rfl) (by decide) rfl (fun ls hl => ?_)
    refine lv_goto (tgt := 204) hx hb dX8_offer_136 (by decide) ?_
    exact wb_X8_offer_204 X  hk24  x1 x2_21 M_19 _ _ _ hF hP hS (lv_sub hl [2, 3, 0] rfl)
set_option maxHeartbeats 4000000 in
set_option maxRecDepth 100000 in
theorem wb_X8_offer_75 {p : Program} {l : Launch} {e : Env} {s : State} {m : MethodId} {args : Array Value} {below : List Frame} {meth : Method} {c : Code} {D : va_G} {cA : Nat → ClassId} {ad : Nat → Nat} (X : wd_X p s m args meth c cX8_offer 7 wsX8_offer RX8 none D cA ad dsM.length) {kh24 : Int32 → Int32 → Mem → Option Mem} {M' : Mem} (hk24 : ∀ (x1 : Int32) (x2 : Int32) (M : Mem) (H : Heap) (locs : List Loc) (ls : Array Slot), kh24 x1 x2 M = some M' → wd_P D cA ad dsM M H → va_S (wd_A ad dsM.length) s.heap H locs → lv_has ls 7 [(0, .ref (ad 0)), (1, .int x1), (2, .int x2)] → W p l e (headSpec wsX8_offer rm_X8_offer).room s m args below meth c H locs 0 0 (MQ below (wm_Qv D cA ad dsM M') args s 0 0 (wd_A ad dsM.length)) (F0 m 24 ls [])) (x1 : Int32) (x2 : Int32) (x3 : Int32) (x4 : Int32) (t0 : Int32) (M : Mem) (H : Heap) (locs : List Loc) (ls : Array Slot) (hF : B_X8_offer_75 kh24 x1 x2 x3 x4 t0 M = some M') (hP : wd_P D cA ad dsM M H) (hS : va_S (wd_A ad dsM.length) s.heap H locs) (hl : lv_has ls 7 [(0, .ref (ad 0)), (1, .int x1), (2, .int x2), (3, .int x3), (4, .int x4)]) : W p l e (headSpec wsX8_offer rm_X8_offer).room s m args below meth c H locs 0 0 (MQ below (wm_Qv D cA ad dsM M') args s 0 0 (wd_A ad dsM.length)) (F0 m 75 ls [.int t0]) := by
  have hx := X.1.1
  have hb := X.1.2.1
  have hts := X.1.2.2.2.2
  unfold B_X8_offer_75 at hF
  refine lv_istore (lv' := [(5, .int t0), (0, .ref (ad 0)), (1, .int x1), (2, .int x2), (3, .int x3), (4, .int x4)]) hx hb dX8_offer_75 hl (by decide) rfl (fun ls hl => ?_)
  refine lv_iload hx hb dX8_offer_77 (lv_at hl 0 rfl) ?_
  refine lv_if_eq (tgt := 86) hx hb dX8_offer_79 (by decide) (fun c_3 => ?_) (fun c_3 => ?_)
  · have hF := if_t c_3 hF
    refine lv_aload_n hx hb dX8_offer_86 rfl (lv_at hl 1 rfl) ?_
    refine lv_iload_n hx hb dX8_offer_87 rfl (lv_at hl 4 rfl) ?_
    refine lv_iload hx hb dX8_offer_88 (lv_at hl 5 rfl) ?_
    obtain ⟨r_1, hc_2, hF⟩ := bd_c hF
    refine wd_calli X hP hS [.int x3, .int x4] [] (c_X8_following l D cA ad X.2.2.2.2   x3 x4 M hc_2) (cwV 2 hts gX8_offer_X8_following rfl rfl rfl (by decide +kernel) ⟨(by show _ ≤ _; first | exact Nat.le_of_ble_eq_true rfl | (simp [headSpec, rm_X8_offer]; omega) | omega), (by show _ ≤ _; first | exact Nat.le_of_ble_eq_true rfl | (simp [headSpec, rm_X8_offer]; omega) | omega)⟩) dM_0 rfl rfl hl.1 rfl (Nat.le_of_ble_eq_true rfl) dX8_offer_90 (fun H locs hP hS => ?_)
    exact wb_X8_offer_93 X  hk24  x1 x2 x3 r_1 M _ _ _ hF hP hS (lv_sub hl [1, 2, 3, 4] rfl)
  · have hF := if_e c_3 hF
    refine lv_iconst (v := (-1 : Int32)) hx hb dX8_offer_82 (by decide) ?_
    refine lv_goto (tgt := 93) hx hb dX8_offer_83 (by decide) ?_
    exact wb_X8_offer_93 X  hk24  x1 x2 x3 (-1 : Int32) M _ _ _ hF hP hS (lv_sub hl [1, 2, 3, 4] rfl)
set_option maxHeartbeats 4000000 in
set_option maxRecDepth 100000 in
theorem wb_X8_offer_74 {p : Program} {l : Launch} {e : Env} {s : State} {m : MethodId} {args : Array Value} {below : List Frame} {meth : Method} {c : Code} {D : va_G} {cA : Nat → ClassId} {ad : Nat → Nat} (X : wd_X p s m args meth c cX8_offer 7 wsX8_offer RX8 none D cA ad dsM.length) {kh24 : Int32 → Int32 → Mem → Option Mem} {M' : Mem} (hk24 : ∀ (x1 : Int32) (x2 : Int32) (M : Mem) (H : Heap) (locs : List Loc) (ls : Array Slot), kh24 x1 x2 M = some M' → wd_P D cA ad dsM M H → va_S (wd_A ad dsM.length) s.heap H locs → lv_has ls 7 [(0, .ref (ad 0)), (1, .int x1), (2, .int x2)] → W p l e (headSpec wsX8_offer rm_X8_offer).room s m args below meth c H locs 0 0 (MQ below (wm_Qv D cA ad dsM M') args s 0 0 (wd_A ad dsM.length)) (F0 m 24 ls [])) (x1 : Int32) (x2 : Int32) (x3 : Int32) (x4 : Int32) (M : Mem) (H : Heap) (locs : List Loc) (ls : Array Slot) (hF : B_X8_offer_74 kh24 x1 x2 x3 x4 M = some M') (hP : wd_P D cA ad dsM M H) (hS : va_S (wd_A ad dsM.length) s.heap H locs) (hl : lv_has ls 7 [(0, .ref (ad 0)), (1, .int x1), (2, .int x2), (3, .int x3), (4, .int x4)]) : W p l e (headSpec wsX8_offer rm_X8_offer).room s m args below meth c H locs 0 0 (MQ below (wm_Qv D cA ad dsM M') args s 0 0 (wd_A ad dsM.length)) (F0 m 74 ls []) := by
  have hx := X.1.1
  have hb := X.1.2.1
  have hts := X.1.2.2.2.2
  unfold B_X8_offer_74 at hF
  refine lv_iconst (v := (0 : Int32)) hx hb dX8_offer_74 (by decide) ?_
  exact wb_X8_offer_75 X  hk24  x1 x2 x3 x4 (0 : Int32) M _ _ _ hF hP hS (lv_sub hl [0, 1, 2, 3, 4] rfl)
set_option maxHeartbeats 4000000 in
set_option maxRecDepth 100000 in
theorem wb_X8_offer_24 {p : Program} {l : Launch} {e : Env} {s : State} {m : MethodId} {args : Array Value} {below : List Frame} {meth : Method} {c : Code} {D : va_G} {cA : Nat → ClassId} {ad : Nat → Nat} (X : wd_X p s m args meth c cX8_offer 7 wsX8_offer RX8 none D cA ad dsM.length) {kh24 : Int32 → Int32 → Mem → Option Mem} {M' : Mem} (hk24 : ∀ (x1 : Int32) (x2 : Int32) (M : Mem) (H : Heap) (locs : List Loc) (ls : Array Slot), kh24 x1 x2 M = some M' → wd_P D cA ad dsM M H → va_S (wd_A ad dsM.length) s.heap H locs → lv_has ls 7 [(0, .ref (ad 0)), (1, .int x1), (2, .int x2)] → W p l e (headSpec wsX8_offer rm_X8_offer).room s m args below meth c H locs 0 0 (MQ below (wm_Qv D cA ad dsM M') args s 0 0 (wd_A ad dsM.length)) (F0 m 24 ls [])) (x1 : Int32) (x2 : Int32) (M : Mem) (H : Heap) (locs : List Loc) (ls : Array Slot) (hF : B_X8_offer_24 kh24 x1 x2 M = some M') (hP : wd_P D cA ad dsM M H) (hS : va_S (wd_A ad dsM.length) s.heap H locs) (hl : lv_has ls 7 [(0, .ref (ad 0)), (1, .int x1), (2, .int x2)]) : W p l e (headSpec wsX8_offer rm_X8_offer).room s m args below meth c H locs 0 0 (MQ below (wm_Qv D cA ad dsM M') args s 0 0 (wd_A ad dsM.length)) (F0 m 24 ls []) := by
  have hx := X.1.1
  have hb := X.1.2.1
  have hts := X.1.2.2.2.2
  unfold B_X8_offer_24 at hF
  refine lv_iload_n hx hb dX8_offer_24 rfl (lv_at hl 2 rfl) ?_
  refine lv_if_le (tgt := 207) hx hb dX8_offer_25 (by decide) (fun c_11 => ?_) (fun c_11 => ?_)
  · have hF := if_t c_11 hF
    cases hF
    exact wd_retv X hP hS dX8_offer_207
  · have hF := if_e c_11 hF
    refine lv_aload_n hx hb dX8_offer_28 rfl (lv_at hl 0 rfl) ?_
    refine wd_getr (q := 27) X hP 0 dM_0 rfl in_X8_offer_X8 36 rfl (by decide) (by decide +kernel) dX8_offer_29 ?_
    refine lv_iload_n hx hb dX8_offer_32 rfl (lv_at hl 2 rfl) ?_
    refine lv_iconst (v := (1 : Int32)) hx hb dX8_offer_33 (by decide) ?_
    refine lv_isub hx hb dX8_offer_34 ?_
    obtain ⟨h_1, hF⟩ := gi_c hF
    refine wd_ild X hP 27 dM_27 h_1 dX8_offer_35 ?_
    obtain ⟨x3_2, e_3, hF⟩ := nm_c hF
    refine wd_top e_3 ?_
    refine lv_istore_n (lv' := [(3, .int x3_2), (0, .ref (ad 0)), (1, .int x1), (2, .int x2)]) hx hb dX8_offer_36 rfl hl (by decide) rfl (fun ls hl => ?_)
    refine lv_aload_n hx hb dX8_offer_37 rfl (lv_at hl 1 rfl) ?_
    refine wd_getr (q := 28) X hP 0 dM_0 rfl in_X8_offer_X8 37 rfl (by decide) (by decide +kernel) dX8_offer_38 ?_
    refine lv_iload_n hx hb dX8_offer_41 rfl (lv_at hl 3 rfl) ?_
    refine lv_iconst (v := (1 : Int32)) hx hb dX8_offer_42 (by decide) ?_
    refine lv_isub hx hb dX8_offer_43 ?_
    obtain ⟨h_4, hF⟩ := gi_c hF
    refine wd_ild X hP 28 dM_28 h_4 dX8_offer_44 ?_
    obtain ⟨x4_5, e_6, hF⟩ := nm_c hF
    refine wd_top e_6 ?_
    refine lv_istore (lv' := [(4, .int x4_5), (3, .int x3_2), (0, .ref (ad 0)), (1, .int x1), (2, .int x2)]) hx hb dX8_offer_45 hl (by decide) rfl (fun ls hl => ?_)
    refine lv_iload hx hb dX8_offer_47 (lv_at hl 0 rfl) ?_
    refine lv_if_lt (tgt := 74) hx hb dX8_offer_49 (by decide) (fun c_10 => ?_) (fun c_10 => ?_)
    · have hF := if_t c_10 hF
      exact wb_X8_offer_74 X  hk24  x1 x2 x3_2 x4_5 M _ _ _ hF hP hS (lv_sub hl [2, 3, 4, 1, 0] rfl)
    · have hF := if_e c_10 hF
      refine lv_aload_n hx hb dX8_offer_52 rfl (lv_at hl 2 rfl) ?_
      refine wd_getr (q := 29) X hP 0 dM_0 rfl in_X8_offer_X8 38 rfl (by decide) (by decide +kernel) dX8_offer_53 ?_
      refine lv_iload_n hx hb dX8_offer_56 rfl (lv_at hl 4 rfl) ?_
      refine lv_iconst (v := (1 : Int32)) hx hb dX8_offer_57 (by decide) ?_
      refine lv_isub hx hb dX8_offer_58 ?_
      obtain ⟨h_7, hF⟩ := gi_c hF
      refine wd_ild X hP 29 dM_29 h_7 dX8_offer_59 ?_
      refine lv_aload_n hx hb dX8_offer_60 rfl (lv_at hl 2 rfl) ?_
      refine wd_getr (q := 7) X hP 0 dM_0 rfl in_X8_offer_X8 10 rfl (by decide) (by decide +kernel) dX8_offer_61 ?_
      refine lv_iload hx hb dX8_offer_64 (lv_at hl 0 rfl) ?_
      obtain ⟨h_8, hF⟩ := gi_c hF
      refine wd_ild X hP 7 dM_7 h_8 dX8_offer_66 ?_
      refine lv_icmp_ge (tgt := 74) hx hb dX8_offer_67 (by decide) (fun c_9 => ?_) (fun c_9 => ?_)
      · have hF := if_t c_9 hF
        exact wb_X8_offer_74 X  hk24  x1 x2 x3_2 x4_5 M _ _ _ hF hP hS (lv_sub hl [2, 3, 4, 1, 0] rfl)
      · have hF := if_e c_9 hF
        refine lv_iconst (v := (1 : Int32)) hx hb dX8_offer_70 (by decide) ?_
        refine lv_goto (tgt := 75) hx hb dX8_offer_71 (by decide) ?_
        exact wb_X8_offer_75 X  hk24  x1 x2 x3_2 x4_5 (1 : Int32) M _ _ _ hF hP hS (lv_sub hl [2, 3, 4, 1, 0] rfl)
set_option maxHeartbeats 4000000 in
set_option maxRecDepth 100000 in
theorem wh_X8_offer_24 {p : Program} {l : Launch} {e : Env} {s : State} {m : MethodId} {args : Array Value} {below : List Frame} {meth : Method} {c : Code} {D : va_G} {cA : Nat → ClassId} {ad : Nat → Nat} (X : wd_X p s m args meth c cX8_offer 7 wsX8_offer RX8 none D cA ad dsM.length) {M' : Mem}  : ∀ (n : Nat) (x1 : Int32) (x2 : Int32) (M : Mem) (H : Heap) (locs : List Loc) (ls : Array Slot), H_X8_offer_24  n x1 x2 M = some M' → wd_P D cA ad dsM M H → va_S (wd_A ad dsM.length) s.heap H locs → lv_has ls 7 [(0, .ref (ad 0)), (1, .int x1), (2, .int x2)] → W p l e (headSpec wsX8_offer rm_X8_offer).room s m args below meth c H locs 0 0 (MQ below (wm_Qv D cA ad dsM M') args s 0 0 (wd_A ad dsM.length)) (F0 m 24 ls []) := by
  intro n
  induction n with
  | zero => intro x1 x2 M H locs ls hF; cases hF
  | succ n ih => intro x1 x2 M H locs ls hF hP hS hl; exact wb_X8_offer_24 X (kh24 := H_X8_offer_24  n) ih x1 x2 M H locs ls hF hP hS hl
set_option maxHeartbeats 4000000 in
set_option maxRecDepth 100000 in
theorem c_X8_offer (l : Launch) (D : va_G) (cA : Nat → ClassId) (ad : Nat → Nat) (hj : wd_inj ad dsM.length)   (x1 : Int32) (M : Mem) {M' : Mem} (hF : F_X8_offer x1 M = some M') : wm_v l yX8_offer wsX8_offer rm_X8_offer D cA ad dsM M [.ref (ad 0), .int x1] M' := by
  refine Met.ofW (cc := cX8_offer) (maxL := 7) (ret := none) (by decide) rfl ?_
  intro p e s m args below meth c s₁ B hml hv
  obtain ⟨rfl, hP, hK⟩ := hv
  have X : wd_X p s m _ meth c cX8_offer 7 wsX8_offer RX8 none D cA ad dsM.length := ⟨⟨B.exec, B.bytes, hml, findClass_of_methodNamed B.named, atoms_spec (ws := wsX8_offer) B.pre⟩, hK, B.notSynchronized, B.returns, hj⟩
  have hl := lv_entry ([.ref (ad 0), .int x1]) (n := 7) (Nat.le_of_ble_eq_true rfl)
  rw [lg_entry_eq]
  generalize (lg_sl ([.ref (ad 0), .int x1]) ++ List.replicate (7 - (lg_sl ([.ref (ad 0), .int x1])).length) Slot.unset).toArray = ls at hl ⊢
  have hl : lv_has ls 7 [(0, .ref (ad 0)), (1, .int x1)] := hl
  have hS : va_S (wd_A ad dsM.length) s.heap s.heap [] := va_S.rf
  have hx := X.1.1
  have hb := X.1.2.1
  have hts := X.1.2.2.2.2
  unfold F_X8_offer at hF
  refine lv_iconst (v := (1 : Int32)) hx hb dX8_offer_0 (by decide) ?_
  refine lv_istore_n (lv' := [(2, .int (1 : Int32)), (0, .ref (ad 0)), (1, .int x1)]) hx hb dX8_offer_1 rfl hl (by decide) rfl (fun ls hl => ?_)
  refine lv_aload_n hx hb dX8_offer_2 rfl (lv_at hl 1 rfl) ?_
  refine wd_getr (q := 27) X hP 0 dM_0 rfl in_X8_offer_X8 36 rfl (by decide) (by decide +kernel) dX8_offer_3 ?_
  refine lv_iconst (v := (0 : Int32)) hx hb dX8_offer_6 (by decide) ?_
  refine lv_iconst (v := (0 : Int32)) hx hb dX8_offer_7 (by decide) ?_
  obtain ⟨h_1, hF⟩ := gi_c hF
  obtain ⟨M_2, e_3, hF⟩ := wr_c hF
  refine wd_ist X hP hS 27 dM_27 h_1 dX8_offer_8 (fun H locs hP hS => ?_)
  rw [← e_3] at hP
  refine lv_aload_n hx hb dX8_offer_9 rfl (lv_at hl 1 rfl) ?_
  refine wd_getr (q := 28) X hP 0 dM_0 rfl in_X8_offer_X8 37 rfl (by decide) (by decide +kernel) dX8_offer_10 ?_
  refine lv_iconst (v := (0 : Int32)) hx hb dX8_offer_13 (by decide) ?_
  refine lv_iconst (v := (-1 : Int32)) hx hb dX8_offer_14 (by decide) ?_
  obtain ⟨h_4, hF⟩ := gi_c hF
  obtain ⟨M_5, e_6, hF⟩ := wr_c hF
  refine wd_ist X hP hS 28 dM_28 h_4 dX8_offer_15 (fun H locs hP hS => ?_)
  rw [← e_6] at hP
  refine lv_aload_n hx hb dX8_offer_16 rfl (lv_at hl 1 rfl) ?_
  refine wd_getr (q := 29) X hP 0 dM_0 rfl in_X8_offer_X8 38 rfl (by decide) (by decide +kernel) dX8_offer_17 ?_
  refine lv_iconst (v := (0 : Int32)) hx hb dX8_offer_20 (by decide) ?_
  refine lv_bipush (v := (99 : Int32)) hx hb dX8_offer_21 (by decide) ?_
  obtain ⟨h_7, hF⟩ := gi_c hF
  obtain ⟨M_8, e_9, hF⟩ := wr_c hF
  refine wd_ist X hP hS 29 dM_29 h_7 dX8_offer_23 (fun H locs hP hS => ?_)
  rw [← e_9] at hP
  exact wh_X8_offer_24 X    10000000000 x1 (1 : Int32) M_8 _ _ _ hF hP hS (lv_sub hl [1, 2, 0] rfl)
/-! X8_configuration ()I -/
theorem in_X8_configuration_X8 : ∀ w ∈ u_ws RX8 TX8 39, w ∈ wsX8_configuration := by decide +kernel
set_option maxHeartbeats 4000000 in
set_option maxRecDepth 100000 in
theorem wb_X8_configuration_83 {p : Program} {l : Launch} {e : Env} {s : State} {m : MethodId} {args : Array Value} {below : List Frame} {meth : Method} {c : Code} {D : va_G} {cA : Nat → ClassId} {ad : Nat → Nat} (X : wd_X p s m args meth c cX8_configuration 4 wsX8_configuration RX8 (some .int) D cA ad dsM.length) {kh83 : Int32 → Mem → Option (Int32 × Mem)} {r : Int32} {M' : Mem} (hk83 : ∀ (x1 : Int32) (M : Mem) (H : Heap) (locs : List Loc) (ls : Array Slot), kh83 x1 M = some (r, M') → wd_P D cA ad dsM M H → va_S (wd_A ad dsM.length) s.heap H locs → lv_has ls 4 [(0, .ref (ad 0)), (1, .int x1)] → W p l e (headSpec wsX8_configuration rm_X8_configuration).room s m args below meth c H locs 0 0 (MQ below (wm_Qi D cA ad dsM r M') args s 0 0 (wd_A ad dsM.length)) (F0 m 83 ls [])) (x1 : Int32) (M : Mem) (H : Heap) (locs : List Loc) (ls : Array Slot) (hF : B_X8_configuration_83 kh83 x1 M = some (r, M')) (hP : wd_P D cA ad dsM M H) (hS : va_S (wd_A ad dsM.length) s.heap H locs) (hl : lv_has ls 4 [(0, .ref (ad 0)), (1, .int x1)]) : W p l e (headSpec wsX8_configuration rm_X8_configuration).room s m args below meth c H locs 0 0 (MQ below (wm_Qi D cA ad dsM r M') args s 0 0 (wd_A ad dsM.length)) (F0 m 83 ls []) := by
  have hx := X.1.1
  have hb := X.1.2.1
  have hts := X.1.2.2.2.2
  unfold B_X8_configuration_83 at hF
  refine lv_iload_n hx hb dX8_configuration_83 rfl (lv_at hl 1 rfl) ?_
  refine lv_aload_n hx hb dX8_configuration_84 rfl (lv_at hl 0 rfl) ?_
  refine wd_geti X hP 0 dM_0 rfl in_X8_configuration_X8 6 rfl (by decide) (by decide +kernel) dX8_configuration_85 ?_
  refine lv_icmp_ge (tgt := 117) hx hb dX8_configuration_88 (by decide) (fun c_9 => ?_) (fun c_9 => ?_)
  · have hF := if_t c_9 hF
    refine lv_aload_n hx hb dX8_configuration_117 rfl (lv_at hl 0 rfl) ?_
    refine lv_dup hx hb dX8_configuration_118 rfl ?_
    refine wd_geti X hP 0 dM_0 rfl in_X8_configuration_X8 27 rfl (by decide) (by decide +kernel) dX8_configuration_119 ?_
    refine lv_iconst (v := (1 : Int32)) hx hb dX8_configuration_122 (by decide) ?_
    refine lv_iadd hx hb dX8_configuration_123 ?_
    obtain ⟨M_1, e_2, hF⟩ := wr_c hF
    refine wd_puti X hP hS 0 dM_0 rfl in_X8_configuration_X8 tyX8_ok nmX8 27 rfl (by decide) rfl rfl (by decide +kernel) dX8_configuration_124 (fun H locs hP hS => ?_)
    rw [← e_2] at hP
    refine lv_aload_n hx hb dX8_configuration_127 rfl (lv_at hl 0 rfl) ?_
    refine wd_geti X hP 0 dM_0 rfl in_X8_configuration_X8 27 rfl (by decide) (by decide +kernel) dX8_configuration_128 ?_
    refine lv_iconst (v := (1 : Int32)) hx hb dX8_configuration_131 (by decide) ?_
    refine lv_isub hx hb dX8_configuration_132 ?_
    cases hF
    exact wd_reti X hP hS rfl rfl dX8_configuration_133
  · have hF := if_e c_9 hF
    refine lv_aload_n hx hb dX8_configuration_91 rfl (lv_at hl 0 rfl) ?_
    refine wd_getr (q := 21) X hP 0 dM_0 rfl in_X8_configuration_X8 30 rfl (by decide) (by decide +kernel) dX8_configuration_92 ?_
    refine lv_bipush (v := (14 : Int32)) hx hb dX8_configuration_95 (by decide) ?_
    refine lv_aload_n hx hb dX8_configuration_97 rfl (lv_at hl 0 rfl) ?_
    refine wd_geti X hP 0 dM_0 rfl in_X8_configuration_X8 27 rfl (by decide) (by decide +kernel) dX8_configuration_98 ?_
    refine lv_imul hx hb dX8_configuration_101 ?_
    refine lv_iload_n hx hb dX8_configuration_102 rfl (lv_at hl 1 rfl) ?_
    refine lv_iadd hx hb dX8_configuration_103 ?_
    refine lv_aload_n hx hb dX8_configuration_104 rfl (lv_at hl 0 rfl) ?_
    refine wd_getr (q := 19) X hP 0 dM_0 rfl in_X8_configuration_X8 24 rfl (by decide) (by decide +kernel) dX8_configuration_105 ?_
    refine lv_iload_n hx hb dX8_configuration_108 rfl (lv_at hl 1 rfl) ?_
    obtain ⟨h_3, hF⟩ := gi_c hF
    refine wd_ild X hP 19 dM_19 h_3 dX8_configuration_109 ?_
    obtain ⟨h_4, hF⟩ := gi_c hF
    obtain ⟨M_5, e_6, hF⟩ := wr_c hF
    refine wd_ist X hP hS 21 dM_21 h_4 dX8_configuration_110 (fun H locs hP hS => ?_)
    rw [← e_6] at hP
    obtain ⟨x1_7, e_8, hF⟩ := nm_c hF
    refine lv_iinc (v := x1_7) (lv' := [(1, .int x1_7), (0, .ref (ad 0))]) hx hb dX8_configuration_111 hl (k := 1) rfl (by rw [e_8]; rfl) (by decide) rfl (fun ls hl => ?_)
    refine lv_goto (tgt := 83) hx hb dX8_configuration_114 (by decide) ?_
    exact hk83 x1_7 M_5 _ _ _ hF hP hS (lv_sub hl [1, 0] rfl)
set_option maxHeartbeats 4000000 in
set_option maxRecDepth 100000 in
theorem wh_X8_configuration_83 {p : Program} {l : Launch} {e : Env} {s : State} {m : MethodId} {args : Array Value} {below : List Frame} {meth : Method} {c : Code} {D : va_G} {cA : Nat → ClassId} {ad : Nat → Nat} (X : wd_X p s m args meth c cX8_configuration 4 wsX8_configuration RX8 (some .int) D cA ad dsM.length) {r : Int32} {M' : Mem}  : ∀ (n : Nat) (x1 : Int32) (M : Mem) (H : Heap) (locs : List Loc) (ls : Array Slot), H_X8_configuration_83  n x1 M = some (r, M') → wd_P D cA ad dsM M H → va_S (wd_A ad dsM.length) s.heap H locs → lv_has ls 4 [(0, .ref (ad 0)), (1, .int x1)] → W p l e (headSpec wsX8_configuration rm_X8_configuration).room s m args below meth c H locs 0 0 (MQ below (wm_Qi D cA ad dsM r M') args s 0 0 (wd_A ad dsM.length)) (F0 m 83 ls []) := by
  intro n
  induction n with
  | zero => intro x1 M H locs ls hF; cases hF
  | succ n ih => intro x1 M H locs ls hF hP hS hl; exact wb_X8_configuration_83 X (kh83 := H_X8_configuration_83  n) ih x1 M H locs ls hF hP hS hl
set_option maxHeartbeats 4000000 in
set_option maxRecDepth 100000 in
theorem wb_X8_configuration_51 {p : Program} {l : Launch} {e : Env} {s : State} {m : MethodId} {args : Array Value} {below : List Frame} {meth : Method} {c : Code} {D : va_G} {cA : Nat → ClassId} {ad : Nat → Nat} (X : wd_X p s m args meth c cX8_configuration 4 wsX8_configuration RX8 (some .int) D cA ad dsM.length) {kh2 : Int32 → Mem → Option (Int32 × Mem)} {kh14 : Int32 → Int32 → Int32 → Mem → Option (Int32 × Mem)} {r : Int32} {M' : Mem} (hk2 : ∀ (x1 : Int32) (M : Mem) (H : Heap) (locs : List Loc) (ls : Array Slot), kh2 x1 M = some (r, M') → wd_P D cA ad dsM M H → va_S (wd_A ad dsM.length) s.heap H locs → lv_has ls 4 [(0, .ref (ad 0)), (1, .int x1)] → W p l e (headSpec wsX8_configuration rm_X8_configuration).room s m args below meth c H locs 0 0 (MQ below (wm_Qi D cA ad dsM r M') args s 0 0 (wd_A ad dsM.length)) (F0 m 2 ls [])) (hk14 : ∀ (x1 : Int32) (x2 : Int32) (x3 : Int32) (M : Mem) (H : Heap) (locs : List Loc) (ls : Array Slot), kh14 x1 x2 x3 M = some (r, M') → wd_P D cA ad dsM M H → va_S (wd_A ad dsM.length) s.heap H locs → lv_has ls 4 [(0, .ref (ad 0)), (1, .int x1), (2, .int x2), (3, .int x3)] → W p l e (headSpec wsX8_configuration rm_X8_configuration).room s m args below meth c H locs 0 0 (MQ below (wm_Qi D cA ad dsM r M') args s 0 0 (wd_A ad dsM.length)) (F0 m 14 ls [])) (x1 : Int32) (x3 : Int32) (t0 : Int32) (M : Mem) (H : Heap) (locs : List Loc) (ls : Array Slot) (hF : B_X8_configuration_51 kh2 kh14 x1 x3 t0 M = some (r, M')) (hP : wd_P D cA ad dsM M H) (hS : va_S (wd_A ad dsM.length) s.heap H locs) (hl : lv_has ls 4 [(0, .ref (ad 0)), (1, .int x1), (3, .int x3)]) : W p l e (headSpec wsX8_configuration rm_X8_configuration).room s m args below meth c H locs 0 0 (MQ below (wm_Qi D cA ad dsM r M') args s 0 0 (wd_A ad dsM.length)) (F0 m 51 ls [.int t0]) := by
  have hx := X.1.1
  have hb := X.1.2.1
  have hts := X.1.2.2.2.2
  unfold B_X8_configuration_51 at hF
  refine lv_istore_n (lv' := [(2, .int t0), (0, .ref (ad 0)), (1, .int x1), (3, .int x3)]) hx hb dX8_configuration_51 rfl hl (by decide) rfl (fun ls hl => ?_)
  obtain ⟨x3_1, e_2, hF⟩ := nm_c hF
  refine lv_iinc (v := x3_1) (lv' := [(3, .int x3_1), (2, .int t0), (0, .ref (ad 0)), (1, .int x1)]) hx hb dX8_configuration_52 hl (k := 3) rfl (by rw [e_2]; rfl) (by decide) rfl (fun ls hl => ?_)
  refine lv_goto (tgt := 14) hx hb dX8_configuration_55 (by decide) ?_
  exact hk14 x1 t0 x3_1 M _ _ _ hF hP hS (lv_sub hl [2, 3, 1, 0] rfl)
set_option maxHeartbeats 4000000 in
set_option maxRecDepth 100000 in
theorem wb_X8_configuration_50 {p : Program} {l : Launch} {e : Env} {s : State} {m : MethodId} {args : Array Value} {below : List Frame} {meth : Method} {c : Code} {D : va_G} {cA : Nat → ClassId} {ad : Nat → Nat} (X : wd_X p s m args meth c cX8_configuration 4 wsX8_configuration RX8 (some .int) D cA ad dsM.length) {kh2 : Int32 → Mem → Option (Int32 × Mem)} {kh14 : Int32 → Int32 → Int32 → Mem → Option (Int32 × Mem)} {r : Int32} {M' : Mem} (hk2 : ∀ (x1 : Int32) (M : Mem) (H : Heap) (locs : List Loc) (ls : Array Slot), kh2 x1 M = some (r, M') → wd_P D cA ad dsM M H → va_S (wd_A ad dsM.length) s.heap H locs → lv_has ls 4 [(0, .ref (ad 0)), (1, .int x1)] → W p l e (headSpec wsX8_configuration rm_X8_configuration).room s m args below meth c H locs 0 0 (MQ below (wm_Qi D cA ad dsM r M') args s 0 0 (wd_A ad dsM.length)) (F0 m 2 ls [])) (hk14 : ∀ (x1 : Int32) (x2 : Int32) (x3 : Int32) (M : Mem) (H : Heap) (locs : List Loc) (ls : Array Slot), kh14 x1 x2 x3 M = some (r, M') → wd_P D cA ad dsM M H → va_S (wd_A ad dsM.length) s.heap H locs → lv_has ls 4 [(0, .ref (ad 0)), (1, .int x1), (2, .int x2), (3, .int x3)] → W p l e (headSpec wsX8_configuration rm_X8_configuration).room s m args below meth c H locs 0 0 (MQ below (wm_Qi D cA ad dsM r M') args s 0 0 (wd_A ad dsM.length)) (F0 m 14 ls [])) (x1 : Int32) (x3 : Int32) (M : Mem) (H : Heap) (locs : List Loc) (ls : Array Slot) (hF : B_X8_configuration_50 kh2 kh14 x1 x3 M = some (r, M')) (hP : wd_P D cA ad dsM M H) (hS : va_S (wd_A ad dsM.length) s.heap H locs) (hl : lv_has ls 4 [(0, .ref (ad 0)), (1, .int x1), (3, .int x3)]) : W p l e (headSpec wsX8_configuration rm_X8_configuration).room s m args below meth c H locs 0 0 (MQ below (wm_Qi D cA ad dsM r M') args s 0 0 (wd_A ad dsM.length)) (F0 m 50 ls []) := by
  have hx := X.1.1
  have hb := X.1.2.1
  have hts := X.1.2.2.2.2
  unfold B_X8_configuration_50 at hF
  refine lv_iconst (v := (0 : Int32)) hx hb dX8_configuration_50 (by decide) ?_
  exact wb_X8_configuration_51 X  hk2 hk14  x1 x3 (0 : Int32) M _ _ _ hF hP hS (lv_sub hl [0, 1, 2] rfl)
set_option maxHeartbeats 4000000 in
set_option maxRecDepth 100000 in
theorem wb_X8_configuration_14 {p : Program} {l : Launch} {e : Env} {s : State} {m : MethodId} {args : Array Value} {below : List Frame} {meth : Method} {c : Code} {D : va_G} {cA : Nat → ClassId} {ad : Nat → Nat} (X : wd_X p s m args meth c cX8_configuration 4 wsX8_configuration RX8 (some .int) D cA ad dsM.length) {kh2 : Int32 → Mem → Option (Int32 × Mem)} {kh14 : Int32 → Int32 → Int32 → Mem → Option (Int32 × Mem)} {r : Int32} {M' : Mem} (hk2 : ∀ (x1 : Int32) (M : Mem) (H : Heap) (locs : List Loc) (ls : Array Slot), kh2 x1 M = some (r, M') → wd_P D cA ad dsM M H → va_S (wd_A ad dsM.length) s.heap H locs → lv_has ls 4 [(0, .ref (ad 0)), (1, .int x1)] → W p l e (headSpec wsX8_configuration rm_X8_configuration).room s m args below meth c H locs 0 0 (MQ below (wm_Qi D cA ad dsM r M') args s 0 0 (wd_A ad dsM.length)) (F0 m 2 ls [])) (hk14 : ∀ (x1 : Int32) (x2 : Int32) (x3 : Int32) (M : Mem) (H : Heap) (locs : List Loc) (ls : Array Slot), kh14 x1 x2 x3 M = some (r, M') → wd_P D cA ad dsM M H → va_S (wd_A ad dsM.length) s.heap H locs → lv_has ls 4 [(0, .ref (ad 0)), (1, .int x1), (2, .int x2), (3, .int x3)] → W p l e (headSpec wsX8_configuration rm_X8_configuration).room s m args below meth c H locs 0 0 (MQ below (wm_Qi D cA ad dsM r M') args s 0 0 (wd_A ad dsM.length)) (F0 m 14 ls [])) (x1 : Int32) (x2 : Int32) (x3 : Int32) (M : Mem) (H : Heap) (locs : List Loc) (ls : Array Slot) (hF : B_X8_configuration_14 kh2 kh14 x1 x2 x3 M = some (r, M')) (hP : wd_P D cA ad dsM M H) (hS : va_S (wd_A ad dsM.length) s.heap H locs) (hl : lv_has ls 4 [(0, .ref (ad 0)), (1, .int x1), (2, .int x2), (3, .int x3)]) : W p l e (headSpec wsX8_configuration rm_X8_configuration).room s m args below meth c H locs 0 0 (MQ below (wm_Qi D cA ad dsM r M') args s 0 0 (wd_A ad dsM.length)) (F0 m 14 ls []) := by
  have hx := X.1.1
  have hb := X.1.2.1
  have hts := X.1.2.2.2.2
  unfold B_X8_configuration_14 at hF
  refine lv_iload_n hx hb dX8_configuration_14 rfl (lv_at hl 3 rfl) ?_
  refine lv_aload_n hx hb dX8_configuration_15 rfl (lv_at hl 0 rfl) ?_
  refine wd_geti X hP 0 dM_0 rfl in_X8_configuration_X8 6 rfl (by decide) (by decide +kernel) dX8_configuration_16 ?_
  refine lv_icmp_ge (tgt := 58) hx hb dX8_configuration_19 (by decide) (fun c_8 => ?_) (fun c_8 => ?_)
  · have hF := if_t c_8 hF
    refine lv_iload_n hx hb dX8_configuration_58 rfl (lv_at hl 2 rfl) ?_
    refine lv_if_eq (tgt := 64) hx hb dX8_configuration_59 (by decide) (fun c_3 => ?_) (fun c_3 => ?_)
    · have hF := if_t c_3 hF
      obtain ⟨x1_1, e_2, hF⟩ := nm_c hF
      refine lv_iinc (v := x1_1) (lv' := [(1, .int x1_1), (0, .ref (ad 0)), (2, .int x2), (3, .int x3)]) hx hb dX8_configuration_64 hl (k := 1) rfl (by rw [e_2]; rfl) (by decide) rfl (fun ls hl => ?_)
      refine lv_goto (tgt := 2) hx hb dX8_configuration_67 (by decide) ?_
      exact hk2 x1_1 M _ _ _ hF hP hS (lv_sub hl [1, 0] rfl)
    · have hF := if_e c_3 hF
      refine lv_iload_n hx hb dX8_configuration_62 rfl (lv_at hl 1 rfl) ?_
      cases hF
      exact wd_reti X hP hS rfl rfl dX8_configuration_63
  · have hF := if_e c_8 hF
    refine lv_iload_n hx hb dX8_configuration_22 rfl (lv_at hl 2 rfl) ?_
    refine lv_if_eq (tgt := 50) hx hb dX8_configuration_23 (by decide) (fun c_7 => ?_) (fun c_7 => ?_)
    · have hF := if_t c_7 hF
      exact wb_X8_configuration_50 X  hk2 hk14  x1 x3 M _ _ _ hF hP hS (lv_sub hl [0, 1, 3] rfl)
    · have hF := if_e c_7 hF
      refine lv_aload_n hx hb dX8_configuration_26 rfl (lv_at hl 0 rfl) ?_
      refine wd_getr (q := 21) X hP 0 dM_0 rfl in_X8_configuration_X8 30 rfl (by decide) (by decide +kernel) dX8_configuration_27 ?_
      refine lv_bipush (v := (14 : Int32)) hx hb dX8_configuration_30 (by decide) ?_
      refine lv_iload_n hx hb dX8_configuration_32 rfl (lv_at hl 1 rfl) ?_
      refine lv_imul hx hb dX8_configuration_33 ?_
      refine lv_iload_n hx hb dX8_configuration_34 rfl (lv_at hl 3 rfl) ?_
      refine lv_iadd hx hb dX8_configuration_35 ?_
      obtain ⟨h_4, hF⟩ := gi_c hF
      refine wd_ild X hP 21 dM_21 h_4 dX8_configuration_36 ?_
      refine lv_aload_n hx hb dX8_configuration_37 rfl (lv_at hl 0 rfl) ?_
      refine wd_getr (q := 19) X hP 0 dM_0 rfl in_X8_configuration_X8 24 rfl (by decide) (by decide +kernel) dX8_configuration_38 ?_
      refine lv_iload_n hx hb dX8_configuration_41 rfl (lv_at hl 3 rfl) ?_
      obtain ⟨h_5, hF⟩ := gi_c hF
      refine wd_ild X hP 19 dM_19 h_5 dX8_configuration_42 ?_
      refine lv_icmp_ne (tgt := 50) hx hb dX8_configuration_43 (by decide) (fun c_6 => ?_) (fun c_6 => ?_)
      · have hF := if_e c_6 hF
        exact wb_X8_configuration_50 X  hk2 hk14  x1 x3 M _ _ _ hF hP hS (lv_sub hl [0, 1, 3] rfl)
      · have hF := if_t c_6 hF
        refine lv_iconst (v := (1 : Int32)) hx hb dX8_configuration_46 (by decide) ?_
        refine lv_goto (tgt := 51) hx hb dX8_configuration_47 (by decide) ?_
        exact wb_X8_configuration_51 X  hk2 hk14  x1 x3 (1 : Int32) M _ _ _ hF hP hS (lv_sub hl [0, 1, 3] rfl)
set_option maxHeartbeats 4000000 in
set_option maxRecDepth 100000 in
theorem wh_X8_configuration_14 {p : Program} {l : Launch} {e : Env} {s : State} {m : MethodId} {args : Array Value} {below : List Frame} {meth : Method} {c : Code} {D : va_G} {cA : Nat → ClassId} {ad : Nat → Nat} (X : wd_X p s m args meth c cX8_configuration 4 wsX8_configuration RX8 (some .int) D cA ad dsM.length) {kh2 : Int32 → Mem → Option (Int32 × Mem)} {r : Int32} {M' : Mem} (hk2 : ∀ (x1 : Int32) (M : Mem) (H : Heap) (locs : List Loc) (ls : Array Slot), kh2 x1 M = some (r, M') → wd_P D cA ad dsM M H → va_S (wd_A ad dsM.length) s.heap H locs → lv_has ls 4 [(0, .ref (ad 0)), (1, .int x1)] → W p l e (headSpec wsX8_configuration rm_X8_configuration).room s m args below meth c H locs 0 0 (MQ below (wm_Qi D cA ad dsM r M') args s 0 0 (wd_A ad dsM.length)) (F0 m 2 ls [])) : ∀ (n : Nat) (x1 : Int32) (x2 : Int32) (x3 : Int32) (M : Mem) (H : Heap) (locs : List Loc) (ls : Array Slot), H_X8_configuration_14 kh2 n x1 x2 x3 M = some (r, M') → wd_P D cA ad dsM M H → va_S (wd_A ad dsM.length) s.heap H locs → lv_has ls 4 [(0, .ref (ad 0)), (1, .int x1), (2, .int x2), (3, .int x3)] → W p l e (headSpec wsX8_configuration rm_X8_configuration).room s m args below meth c H locs 0 0 (MQ below (wm_Qi D cA ad dsM r M') args s 0 0 (wd_A ad dsM.length)) (F0 m 14 ls []) := by
  intro n
  induction n with
  | zero => intro x1 x2 x3 M H locs ls hF; cases hF
  | succ n ih => intro x1 x2 x3 M H locs ls hF hP hS hl; exact wb_X8_configuration_14 X (kh14 := H_X8_configuration_14 kh2 n) hk2 ih x1 x2 x3 M H locs ls hF hP hS hl
set_option maxHeartbeats 4000000 in
set_option maxRecDepth 100000 in
theorem wb_X8_configuration_2 {p : Program} {l : Launch} {e : Env} {s : State} {m : MethodId} {args : Array Value} {below : List Frame} {meth : Method} {c : Code} {D : va_G} {cA : Nat → ClassId} {ad : Nat → Nat} (X : wd_X p s m args meth c cX8_configuration 4 wsX8_configuration RX8 (some .int) D cA ad dsM.length) {kh2 : Int32 → Mem → Option (Int32 × Mem)} {r : Int32} {M' : Mem} (hk2 : ∀ (x1 : Int32) (M : Mem) (H : Heap) (locs : List Loc) (ls : Array Slot), kh2 x1 M = some (r, M') → wd_P D cA ad dsM M H → va_S (wd_A ad dsM.length) s.heap H locs → lv_has ls 4 [(0, .ref (ad 0)), (1, .int x1)] → W p l e (headSpec wsX8_configuration rm_X8_configuration).room s m args below meth c H locs 0 0 (MQ below (wm_Qi D cA ad dsM r M') args s 0 0 (wd_A ad dsM.length)) (F0 m 2 ls [])) (x1 : Int32) (M : Mem) (H : Heap) (locs : List Loc) (ls : Array Slot) (hF : B_X8_configuration_2 kh2 x1 M = some (r, M')) (hP : wd_P D cA ad dsM M H) (hS : va_S (wd_A ad dsM.length) s.heap H locs) (hl : lv_has ls 4 [(0, .ref (ad 0)), (1, .int x1)]) : W p l e (headSpec wsX8_configuration rm_X8_configuration).room s m args below meth c H locs 0 0 (MQ below (wm_Qi D cA ad dsM r M') args s 0 0 (wd_A ad dsM.length)) (F0 m 2 ls []) := by
  have hx := X.1.1
  have hb := X.1.2.1
  have hts := X.1.2.2.2.2
  unfold B_X8_configuration_2 at hF
  refine lv_iload_n hx hb dX8_configuration_2 rfl (lv_at hl 1 rfl) ?_
  refine lv_aload_n hx hb dX8_configuration_3 rfl (lv_at hl 0 rfl) ?_
  refine wd_geti X hP 0 dM_0 rfl in_X8_configuration_X8 27 rfl (by decide) (by decide +kernel) dX8_configuration_4 ?_
  refine lv_icmp_ge (tgt := 70) hx hb dX8_configuration_7 (by decide) (fun c_2 => ?_) (fun c_2 => ?_)
  · have hF := if_t c_2 hF
    refine lv_aload_n hx hb dX8_configuration_70 rfl (lv_at hl 0 rfl) ?_
    refine wd_geti X hP 0 dM_0 rfl in_X8_configuration_X8 27 rfl (by decide) (by decide +kernel) dX8_configuration_71 ?_
    refine lv_bipush (v := (30 : Int32)) hx hb dX8_configuration_74 (by decide) ?_
    refine lv_icmp_ne (tgt := 81) hx hb dX8_configuration_76 (by decide) (fun c_1 => ?_) (fun c_1 => ?_)
    · have hF := if_e c_1 hF
      refine lv_iconst (v := (0 : Int32)) hx hb dX8_configuration_81 (by decide) ?_
      refine lv_istore_n (lv' := [(1, .int (0 : Int32)), (0, .ref (ad 0))]) hx hb dX8_configuration_82 rfl hl (by decide) rfl (fun ls hl => ?_)
      exact wh_X8_configuration_83 X    100 (0 : Int32) M _ _ _ hF hP hS (lv_sub hl [1, 0] rfl)
    · have hF := if_t c_1 hF
      refine lv_iconst (v := (-1 : Int32)) hx hb dX8_configuration_79 (by decide) ?_
      cases hF
      exact wd_reti X hP hS rfl rfl dX8_configuration_80
  · have hF := if_e c_2 hF
    refine lv_iconst (v := (1 : Int32)) hx hb dX8_configuration_10 (by decide) ?_
    refine lv_istore_n (lv' := [(2, .int (1 : Int32)), (0, .ref (ad 0)), (1, .int x1)]) hx hb dX8_configuration_11 rfl hl (by decide) rfl (fun ls hl => ?_)
    refine lv_iconst (v := (0 : Int32)) hx hb dX8_configuration_12 (by decide) ?_
    refine lv_istore_n (lv' := [(3, .int (0 : Int32)), (2, .int (1 : Int32)), (0, .ref (ad 0)), (1, .int x1)]) hx hb dX8_configuration_13 rfl hl (by decide) rfl (fun ls hl => ?_)
    exact wh_X8_configuration_14 X  hk2  100 x1 (1 : Int32) (0 : Int32) M _ _ _ hF hP hS (lv_sub hl [2, 3, 1, 0] rfl)
set_option maxHeartbeats 4000000 in
set_option maxRecDepth 100000 in
theorem wh_X8_configuration_2 {p : Program} {l : Launch} {e : Env} {s : State} {m : MethodId} {args : Array Value} {below : List Frame} {meth : Method} {c : Code} {D : va_G} {cA : Nat → ClassId} {ad : Nat → Nat} (X : wd_X p s m args meth c cX8_configuration 4 wsX8_configuration RX8 (some .int) D cA ad dsM.length) {r : Int32} {M' : Mem}  : ∀ (n : Nat) (x1 : Int32) (M : Mem) (H : Heap) (locs : List Loc) (ls : Array Slot), H_X8_configuration_2  n x1 M = some (r, M') → wd_P D cA ad dsM M H → va_S (wd_A ad dsM.length) s.heap H locs → lv_has ls 4 [(0, .ref (ad 0)), (1, .int x1)] → W p l e (headSpec wsX8_configuration rm_X8_configuration).room s m args below meth c H locs 0 0 (MQ below (wm_Qi D cA ad dsM r M') args s 0 0 (wd_A ad dsM.length)) (F0 m 2 ls []) := by
  intro n
  induction n with
  | zero => intro x1 M H locs ls hF; cases hF
  | succ n ih => intro x1 M H locs ls hF hP hS hl; exact wb_X8_configuration_2 X (kh2 := H_X8_configuration_2  n) ih x1 M H locs ls hF hP hS hl
set_option maxHeartbeats 4000000 in
set_option maxRecDepth 100000 in
theorem c_X8_configuration (l : Launch) (D : va_G) (cA : Nat → ClassId) (ad : Nat → Nat) (hj : wd_inj ad dsM.length)    (M : Mem) {r : Int32} {M' : Mem} (hF : F_X8_configuration M = some (r, M')) : wm_i l yX8_configuration wsX8_configuration rm_X8_configuration D cA ad dsM M [.ref (ad 0)] r M' := by
  refine Met.ofW (cc := cX8_configuration) (maxL := 4) (ret := (some .int)) (by decide) rfl ?_
  intro p e s m args below meth c s₁ B hml hv
  obtain ⟨rfl, hP, hK⟩ := hv
  have X : wd_X p s m _ meth c cX8_configuration 4 wsX8_configuration RX8 (some .int) D cA ad dsM.length := ⟨⟨B.exec, B.bytes, hml, findClass_of_methodNamed B.named, atoms_spec (ws := wsX8_configuration) B.pre⟩, hK, B.notSynchronized, B.returns, hj⟩
  have hl := lv_entry ([.ref (ad 0)]) (n := 4) (Nat.le_of_ble_eq_true rfl)
  rw [lg_entry_eq]
  generalize (lg_sl ([.ref (ad 0)]) ++ List.replicate (4 - (lg_sl ([.ref (ad 0)])).length) Slot.unset).toArray = ls at hl ⊢
  have hl : lv_has ls 4 [(0, .ref (ad 0))] := hl
  have hS : va_S (wd_A ad dsM.length) s.heap s.heap [] := va_S.rf
  have hx := X.1.1
  have hb := X.1.2.1
  have hts := X.1.2.2.2.2
  unfold F_X8_configuration at hF
  refine lv_iconst (v := (0 : Int32)) hx hb dX8_configuration_0 (by decide) ?_
  refine lv_istore_n (lv' := [(1, .int (0 : Int32)), (0, .ref (ad 0))]) hx hb dX8_configuration_1 rfl hl (by decide) rfl (fun ls hl => ?_)
  exact wh_X8_configuration_2 X    100 (0 : Int32) M _ _ _ hF hP hS (lv_sub hl [1, 0] rfl)
/-! X8_keep (I)V -/
theorem in_X8_keep_X8 : ∀ w ∈ u_ws RX8 TX8 39, w ∈ wsX8_keep := by decide +kernel
set_option maxHeartbeats 4000000 in
set_option maxRecDepth 100000 in
theorem wb_X8_keep_12 {p : Program} {l : Launch} {e : Env} {s : State} {m : MethodId} {args : Array Value} {below : List Frame} {meth : Method} {c : Code} {D : va_G} {cA : Nat → ClassId} {ad : Nat → Nat} (X : wd_X p s m args meth c cX8_keep 3 wsX8_keep RX8 none D cA ad dsM.length) {kh12 : Int32 → Int32 → Mem → Option Mem} {M' : Mem} (hk12 : ∀ (x1 : Int32) (x2 : Int32) (M : Mem) (H : Heap) (locs : List Loc) (ls : Array Slot), kh12 x1 x2 M = some M' → wd_P D cA ad dsM M H → va_S (wd_A ad dsM.length) s.heap H locs → lv_has ls 3 [(0, .ref (ad 0)), (1, .int x1), (2, .int x2)] → W p l e (headSpec wsX8_keep rm_X8_keep).room s m args below meth c H locs 0 0 (MQ below (wm_Qv D cA ad dsM M') args s 0 0 (wd_A ad dsM.length)) (F0 m 12 ls [])) (x1 : Int32) (x2 : Int32) (M : Mem) (H : Heap) (locs : List Loc) (ls : Array Slot) (hF : B_X8_keep_12 kh12 x1 x2 M = some M') (hP : wd_P D cA ad dsM M H) (hS : va_S (wd_A ad dsM.length) s.heap H locs) (hl : lv_has ls 3 [(0, .ref (ad 0)), (1, .int x1), (2, .int x2)]) : W p l e (headSpec wsX8_keep rm_X8_keep).room s m args below meth c H locs 0 0 (MQ below (wm_Qv D cA ad dsM M') args s 0 0 (wd_A ad dsM.length)) (F0 m 12 ls []) := by
  have hx := X.1.1
  have hb := X.1.2.1
  have hts := X.1.2.2.2.2
  unfold B_X8_keep_12 at hF
  refine lv_iload_n hx hb dX8_keep_12 rfl (lv_at hl 2 rfl) ?_
  refine lv_aload_n hx hb dX8_keep_13 rfl (lv_at hl 0 rfl) ?_
  refine wd_geti X hP 0 dM_0 rfl in_X8_keep_X8 26 rfl (by decide) (by decide +kernel) dX8_keep_14 ?_
  refine lv_icmp_ge (tgt := 43) hx hb dX8_keep_17 (by decide) (fun c_7 => ?_) (fun c_7 => ?_)
  · have hF := if_t c_7 hF
    cases hF
    exact wd_retv X hP hS dX8_keep_43
  · have hF := if_e c_7 hF
    refine lv_aload_n hx hb dX8_keep_20 rfl (lv_at hl 0 rfl) ?_
    refine wd_getr (q := 24) X hP 0 dM_0 rfl in_X8_keep_X8 33 rfl (by decide) (by decide +kernel) dX8_keep_21 ?_
    refine lv_bipush (v := (40 : Int32)) hx hb dX8_keep_24 (by decide) ?_
    refine lv_iload_n hx hb dX8_keep_26 rfl (lv_at hl 1 rfl) ?_
    refine lv_imul hx hb dX8_keep_27 ?_
    refine lv_iload_n hx hb dX8_keep_28 rfl (lv_at hl 2 rfl) ?_
    refine lv_iadd hx hb dX8_keep_29 ?_
    refine lv_aload_n hx hb dX8_keep_30 rfl (lv_at hl 0 rfl) ?_
    refine wd_getr (q := 20) X hP 0 dM_0 rfl in_X8_keep_X8 25 rfl (by decide) (by decide +kernel) dX8_keep_31 ?_
    refine lv_iload_n hx hb dX8_keep_34 rfl (lv_at hl 2 rfl) ?_
    obtain ⟨h_1, hF⟩ := gi_c hF
    refine wd_cld X hP 20 dM_20 h_1 dX8_keep_35 ?_
    obtain ⟨h_2, hF⟩ := gi_c hF
    obtain ⟨M_3, e_4, hF⟩ := wr_c hF
    refine wd_cst X hP hS 24 dM_24 h_2 dX8_keep_36 (fun H locs hP hS => ?_)
    rw [← e_4] at hP
    obtain ⟨x2_5, e_6, hF⟩ := nm_c hF
    refine lv_iinc (v := x2_5) (lv' := [(2, .int x2_5), (0, .ref (ad 0)), (1, .int x1)]) hx hb dX8_keep_37 hl (k := 2) rfl (by rw [e_6]; rfl) (by decide) rfl (fun ls hl => ?_)
    refine lv_goto (tgt := 12) hx hb dX8_keep_40 (by decide) ?_
    exact hk12 x1 x2_5 M_3 _ _ _ hF hP hS (lv_sub hl [1, 2, 0] rfl)
set_option maxHeartbeats 4000000 in
set_option maxRecDepth 100000 in
theorem wh_X8_keep_12 {p : Program} {l : Launch} {e : Env} {s : State} {m : MethodId} {args : Array Value} {below : List Frame} {meth : Method} {c : Code} {D : va_G} {cA : Nat → ClassId} {ad : Nat → Nat} (X : wd_X p s m args meth c cX8_keep 3 wsX8_keep RX8 none D cA ad dsM.length) {M' : Mem}  : ∀ (n : Nat) (x1 : Int32) (x2 : Int32) (M : Mem) (H : Heap) (locs : List Loc) (ls : Array Slot), H_X8_keep_12  n x1 x2 M = some M' → wd_P D cA ad dsM M H → va_S (wd_A ad dsM.length) s.heap H locs → lv_has ls 3 [(0, .ref (ad 0)), (1, .int x1), (2, .int x2)] → W p l e (headSpec wsX8_keep rm_X8_keep).room s m args below meth c H locs 0 0 (MQ below (wm_Qv D cA ad dsM M') args s 0 0 (wd_A ad dsM.length)) (F0 m 12 ls []) := by
  intro n
  induction n with
  | zero => intro x1 x2 M H locs ls hF; cases hF
  | succ n ih => intro x1 x2 M H locs ls hF hP hS hl; exact wb_X8_keep_12 X (kh12 := H_X8_keep_12  n) ih x1 x2 M H locs ls hF hP hS hl
set_option maxHeartbeats 4000000 in
set_option maxRecDepth 100000 in
theorem c_X8_keep (l : Launch) (D : va_G) (cA : Nat → ClassId) (ad : Nat → Nat) (hj : wd_inj ad dsM.length)   (x1 : Int32) (M : Mem) {M' : Mem} (hF : F_X8_keep x1 M = some M') : wm_v l yX8_keep wsX8_keep rm_X8_keep D cA ad dsM M [.ref (ad 0), .int x1] M' := by
  refine Met.ofW (cc := cX8_keep) (maxL := 3) (ret := none) (by decide) rfl ?_
  intro p e s m args below meth c s₁ B hml hv
  obtain ⟨rfl, hP, hK⟩ := hv
  have X : wd_X p s m _ meth c cX8_keep 3 wsX8_keep RX8 none D cA ad dsM.length := ⟨⟨B.exec, B.bytes, hml, findClass_of_methodNamed B.named, atoms_spec (ws := wsX8_keep) B.pre⟩, hK, B.notSynchronized, B.returns, hj⟩
  have hl := lv_entry ([.ref (ad 0), .int x1]) (n := 3) (Nat.le_of_ble_eq_true rfl)
  rw [lg_entry_eq]
  generalize (lg_sl ([.ref (ad 0), .int x1]) ++ List.replicate (3 - (lg_sl ([.ref (ad 0), .int x1])).length) Slot.unset).toArray = ls at hl ⊢
  have hl : lv_has ls 3 [(0, .ref (ad 0)), (1, .int x1)] := hl
  have hS : va_S (wd_A ad dsM.length) s.heap s.heap [] := va_S.rf
  have hx := X.1.1
  have hb := X.1.2.1
  have hts := X.1.2.2.2.2
  unfold F_X8_keep at hF
  refine lv_aload_n hx hb dX8_keep_0 rfl (lv_at hl 0 rfl) ?_
  refine wd_getr (q := 23) X hP 0 dM_0 rfl in_X8_keep_X8 32 rfl (by decide) (by decide +kernel) dX8_keep_1 ?_
  refine lv_iload_n hx hb dX8_keep_4 rfl (lv_at hl 1 rfl) ?_
  refine lv_aload_n hx hb dX8_keep_5 rfl (lv_at hl 0 rfl) ?_
  refine wd_geti X hP 0 dM_0 rfl in_X8_keep_X8 26 rfl (by decide) (by decide +kernel) dX8_keep_6 ?_
  obtain ⟨h_1, hF⟩ := gi_c hF
  obtain ⟨M_2, e_3, hF⟩ := wr_c hF
  refine wd_ist X hP hS 23 dM_23 h_1 dX8_keep_9 (fun H locs hP hS => ?_)
  rw [← e_3] at hP
  refine lv_iconst (v := (0 : Int32)) hx hb dX8_keep_10 (by decide) ?_
  refine lv_istore_n (lv' := [(2, .int (0 : Int32)), (0, .ref (ad 0)), (1, .int x1)]) hx hb dX8_keep_11 rfl hl (by decide) rfl (fun ls hl => ?_)
  exact wh_X8_keep_12 X    100 x1 (0 : Int32) M_2 _ _ _ hF hP hS (lv_sub hl [1, 2, 0] rfl)
/-! X8_offered (II)V -/
theorem in_X8_offered_X8 : ∀ w ∈ u_ws RX8 TX8 39, w ∈ wsX8_offered := by decide +kernel
set_option maxHeartbeats 4000000 in
set_option maxRecDepth 100000 in
theorem wb_X8_offered_2 {p : Program} {l : Launch} {e : Env} {s : State} {m : MethodId} {args : Array Value} {below : List Frame} {meth : Method} {c : Code} {D : va_G} {cA : Nat → ClassId} {ad : Nat → Nat} (X : wd_X p s m args meth c cX8_offered 4 wsX8_offered RX8 none D cA ad dsM.length) {kh2 : Int32 → Int32 → Int32 → Mem → Option Mem} {M' : Mem} (hk2 : ∀ (x1 : Int32) (x2 : Int32) (x3 : Int32) (M : Mem) (H : Heap) (locs : List Loc) (ls : Array Slot), kh2 x1 x2 x3 M = some M' → wd_P D cA ad dsM M H → va_S (wd_A ad dsM.length) s.heap H locs → lv_has ls 4 [(0, .ref (ad 0)), (1, .int x1), (2, .int x2), (3, .int x3)] → W p l e (headSpec wsX8_offered rm_X8_offered).room s m args below meth c H locs 0 0 (MQ below (wm_Qv D cA ad dsM M') args s 0 0 (wd_A ad dsM.length)) (F0 m 2 ls [])) (x1 : Int32) (x2 : Int32) (x3 : Int32) (M : Mem) (H : Heap) (locs : List Loc) (ls : Array Slot) (hF : B_X8_offered_2 kh2 x1 x2 x3 M = some M') (hP : wd_P D cA ad dsM M H) (hS : va_S (wd_A ad dsM.length) s.heap H locs) (hl : lv_has ls 4 [(0, .ref (ad 0)), (1, .int x1), (2, .int x2), (3, .int x3)]) : W p l e (headSpec wsX8_offered rm_X8_offered).room s m args below meth c H locs 0 0 (MQ below (wm_Qv D cA ad dsM M') args s 0 0 (wd_A ad dsM.length)) (F0 m 2 ls []) := by
  have hx := X.1.1
  have hb := X.1.2.1
  have hts := X.1.2.2.2.2
  unfold B_X8_offered_2 at hF
  refine lv_iload_n hx hb dX8_offered_2 rfl (lv_at hl 3 rfl) ?_
  refine lv_aload_n hx hb dX8_offered_3 rfl (lv_at hl 0 rfl) ?_
  refine wd_geti X hP 0 dM_0 rfl in_X8_offered_X8 6 rfl (by decide) (by decide +kernel) dX8_offered_4 ?_
  refine lv_icmp_ge (tgt := 33) hx hb dX8_offered_7 (by decide) (fun c_12 => ?_) (fun c_12 => ?_)
  · have hF := if_t c_12 hF
    refine lv_aload_n hx hb dX8_offered_33 rfl (lv_at hl 0 rfl) ?_
    refine lv_iconst (v := (0 : Int32)) hx hb dX8_offered_34 (by decide) ?_
    obtain ⟨M_1, e_2, hF⟩ := wr_c hF
    refine wd_puti X hP hS 0 dM_0 rfl in_X8_offered_X8 tyX8_ok nmX8 26 rfl (by decide) rfl rfl (by decide +kernel) dX8_offered_35 (fun H locs hP hS => ?_)
    rw [← e_2] at hP
    refine lv_aload_n hx hb dX8_offered_38 rfl (lv_at hl 0 rfl) ?_
    refine lv_iload_n hx hb dX8_offered_39 rfl (lv_at hl 2 rfl) ?_
    obtain ⟨M_5, hc_4, hF⟩ := bd_c hF
    refine wd_callv X hP hS [.int x2] [] (c_X8_offer l D cA ad X.2.2.2.2   x2 M_1 hc_4) (cwV 1 hts gX8_offered_X8_offer rfl rfl rfl (by decide +kernel) ⟨(by show _ ≤ _; first | exact Nat.le_of_ble_eq_true rfl | (simp [headSpec, rm_X8_offered]; omega) | omega), (by show _ ≤ _; first | exact Nat.le_of_ble_eq_true rfl | (simp [headSpec, rm_X8_offered]; omega) | omega)⟩) dM_0 rfl rfl hl.1 rfl (Nat.le_of_ble_eq_true rfl) dX8_offered_40 (fun H locs hP hS => ?_)
    cases hF
    exact wd_retv X hP hS dX8_offered_43
  · have hF := if_e c_12 hF
    refine lv_aload_n hx hb dX8_offered_10 rfl (lv_at hl 0 rfl) ?_
    refine wd_getr (q := 19) X hP 0 dM_0 rfl in_X8_offered_X8 24 rfl (by decide) (by decide +kernel) dX8_offered_11 ?_
    refine lv_iload_n hx hb dX8_offered_14 rfl (lv_at hl 3 rfl) ?_
    refine lv_aload_n hx hb dX8_offered_15 rfl (lv_at hl 0 rfl) ?_
    refine wd_getr (q := 21) X hP 0 dM_0 rfl in_X8_offered_X8 30 rfl (by decide) (by decide +kernel) dX8_offered_16 ?_
    refine lv_bipush (v := (14 : Int32)) hx hb dX8_offered_19 (by decide) ?_
    refine lv_iload_n hx hb dX8_offered_21 rfl (lv_at hl 1 rfl) ?_
    refine lv_imul hx hb dX8_offered_22 ?_
    refine lv_iload_n hx hb dX8_offered_23 rfl (lv_at hl 3 rfl) ?_
    refine lv_iadd hx hb dX8_offered_24 ?_
    obtain ⟨h_6, hF⟩ := gi_c hF
    refine wd_ild X hP 21 dM_21 h_6 dX8_offered_25 ?_
    obtain ⟨h_7, hF⟩ := gi_c hF
    obtain ⟨M_8, e_9, hF⟩ := wr_c hF
    refine wd_ist X hP hS 19 dM_19 h_7 dX8_offered_26 (fun H locs hP hS => ?_)
    rw [← e_9] at hP
    obtain ⟨x3_10, e_11, hF⟩ := nm_c hF
    refine lv_iinc (v := x3_10) (lv' := [(3, .int x3_10), (0, .ref (ad 0)), (1, .int x1), (2, .int x2)]) hx hb dX8_offered_27 hl (k := 3) rfl (by rw [e_11]; rfl) (by decide) rfl (fun ls hl => ?_)
    refine lv_goto (tgt := 2) hx hb dX8_offered_30 (by decide) ?_
    exact hk2 x1 x2 x3_10 M_8 _ _ _ hF hP hS (lv_sub hl [1, 2, 3, 0] rfl)
set_option maxHeartbeats 4000000 in
set_option maxRecDepth 100000 in
theorem wh_X8_offered_2 {p : Program} {l : Launch} {e : Env} {s : State} {m : MethodId} {args : Array Value} {below : List Frame} {meth : Method} {c : Code} {D : va_G} {cA : Nat → ClassId} {ad : Nat → Nat} (X : wd_X p s m args meth c cX8_offered 4 wsX8_offered RX8 none D cA ad dsM.length) {M' : Mem}  : ∀ (n : Nat) (x1 : Int32) (x2 : Int32) (x3 : Int32) (M : Mem) (H : Heap) (locs : List Loc) (ls : Array Slot), H_X8_offered_2  n x1 x2 x3 M = some M' → wd_P D cA ad dsM M H → va_S (wd_A ad dsM.length) s.heap H locs → lv_has ls 4 [(0, .ref (ad 0)), (1, .int x1), (2, .int x2), (3, .int x3)] → W p l e (headSpec wsX8_offered rm_X8_offered).room s m args below meth c H locs 0 0 (MQ below (wm_Qv D cA ad dsM M') args s 0 0 (wd_A ad dsM.length)) (F0 m 2 ls []) := by
  intro n
  induction n with
  | zero => intro x1 x2 x3 M H locs ls hF; cases hF
  | succ n ih => intro x1 x2 x3 M H locs ls hF hP hS hl; exact wb_X8_offered_2 X (kh2 := H_X8_offered_2  n) ih x1 x2 x3 M H locs ls hF hP hS hl
set_option maxHeartbeats 4000000 in
set_option maxRecDepth 100000 in
theorem c_X8_offered (l : Launch) (D : va_G) (cA : Nat → ClassId) (ad : Nat → Nat) (hj : wd_inj ad dsM.length)   (x1 : Int32) (x2 : Int32) (M : Mem) {M' : Mem} (hF : F_X8_offered x1 x2 M = some M') : wm_v l yX8_offered wsX8_offered rm_X8_offered D cA ad dsM M [.ref (ad 0), .int x1, .int x2] M' := by
  refine Met.ofW (cc := cX8_offered) (maxL := 4) (ret := none) (by decide) rfl ?_
  intro p e s m args below meth c s₁ B hml hv
  obtain ⟨rfl, hP, hK⟩ := hv
  have X : wd_X p s m _ meth c cX8_offered 4 wsX8_offered RX8 none D cA ad dsM.length := ⟨⟨B.exec, B.bytes, hml, findClass_of_methodNamed B.named, atoms_spec (ws := wsX8_offered) B.pre⟩, hK, B.notSynchronized, B.returns, hj⟩
  have hl := lv_entry ([.ref (ad 0), .int x1, .int x2]) (n := 4) (Nat.le_of_ble_eq_true rfl)
  rw [lg_entry_eq]
  generalize (lg_sl ([.ref (ad 0), .int x1, .int x2]) ++ List.replicate (4 - (lg_sl ([.ref (ad 0), .int x1, .int x2])).length) Slot.unset).toArray = ls at hl ⊢
  have hl : lv_has ls 4 [(0, .ref (ad 0)), (1, .int x1), (2, .int x2)] := hl
  have hS : va_S (wd_A ad dsM.length) s.heap s.heap [] := va_S.rf
  have hx := X.1.1
  have hb := X.1.2.1
  have hts := X.1.2.2.2.2
  unfold F_X8_offered at hF
  refine lv_iconst (v := (0 : Int32)) hx hb dX8_offered_0 (by decide) ?_
  refine lv_istore_n (lv' := [(3, .int (0 : Int32)), (0, .ref (ad 0)), (1, .int x1), (2, .int x2)]) hx hb dX8_offered_1 rfl hl (by decide) rfl (fun ls hl => ?_)
  exact wh_X8_offered_2 X    100 x1 x2 (0 : Int32) M _ _ _ hF hP hS (lv_sub hl [1, 2, 3, 0] rfl)
/-! X8_compile ()I -/
theorem in_X8_compile_X8 : ∀ w ∈ u_ws RX8 TX8 39, w ∈ wsX8_compile := by decide +kernel
set_option maxHeartbeats 4000000 in
set_option maxRecDepth 100000 in
theorem wb_X8_compile_146 {p : Program} {l : Launch} {e : Env} {s : State} {m : MethodId} {args : Array Value} {below : List Frame} {meth : Method} {c : Code} {D : va_G} {cA : Nat → ClassId} {ad : Nat → Nat} (X : wd_X p s m args meth c cX8_compile 4 wsX8_compile RX8 (some .int) D cA ad dsM.length) {r : Int32} {M' : Mem}  (t0 : Int32) (M : Mem) (H : Heap) (locs : List Loc) (ls : Array Slot) (hF : B_X8_compile_146  t0 M = some (r, M')) (hP : wd_P D cA ad dsM M H) (hS : va_S (wd_A ad dsM.length) s.heap H locs) (hl : lv_has ls 4 [(0, .ref (ad 0))]) : W p l e (headSpec wsX8_compile rm_X8_compile).room s m args below meth c H locs 0 0 (MQ below (wm_Qi D cA ad dsM r M') args s 0 0 (wd_A ad dsM.length)) (F0 m 146 ls [.int t0, .ref (ad 0)]) := by
  have hx := X.1.1
  have hb := X.1.2.1
  have hts := X.1.2.2.2.2
  unfold B_X8_compile_146 at hF
  obtain ⟨M_1, e_2, hF⟩ := wr_c hF
  refine wd_puti X hP hS 0 dM_0 rfl in_X8_compile_X8 tyX8_ok nmX8 27 rfl (by decide) rfl rfl (by decide +kernel) dX8_compile_146 (fun H locs hP hS => ?_)
  rw [← e_2] at hP
  refine lv_aload_n hx hb dX8_compile_149 rfl (lv_at hl 0 rfl) ?_
  refine lv_iconst (v := (0 : Int32)) hx hb dX8_compile_150 (by decide) ?_
  obtain ⟨M_3, e_4, hF⟩ := wr_c hF
  refine wd_puti X hP hS 0 dM_0 rfl in_X8_compile_X8 tyX8_ok nmX8 28 rfl (by decide) rfl rfl (by decide +kernel) dX8_compile_151 (fun H locs hP hS => ?_)
  rw [← e_4] at hP
  refine lv_aload_n hx hb dX8_compile_154 rfl (lv_at hl 0 rfl) ?_
  refine lv_aload_n hx hb dX8_compile_155 rfl (lv_at hl 0 rfl) ?_
  refine wd_getr (q := 23) X hP 0 dM_0 rfl in_X8_compile_X8 32 rfl (by decide) (by decide +kernel) dX8_compile_156 ?_
  refine lv_sipush (v := (180 : Int32)) hx hb dX8_compile_159 (by decide) ?_
  obtain ⟨h_5, hF⟩ := gi_c hF
  refine wd_ild X hP 23 dM_23 h_5 dX8_compile_162 ?_
  obtain ⟨M_6, e_7, hF⟩ := wr_c hF
  refine wd_puti X hP hS 0 dM_0 rfl in_X8_compile_X8 tyX8_ok nmX8 29 rfl (by decide) rfl rfl (by decide +kernel) dX8_compile_163 (fun H locs hP hS => ?_)
  rw [← e_7] at hP
  refine lv_aload_n hx hb dX8_compile_166 rfl (lv_at hl 0 rfl) ?_
  refine wd_geti X hP 0 dM_0 rfl in_X8_compile_X8 27 rfl (by decide) (by decide +kernel) dX8_compile_167 ?_
  refine lv_if_le (tgt := 180) hx hb dX8_compile_170 (by decide) (fun c_11 => ?_) (fun c_11 => ?_)
  · have hF := if_t c_11 hF
    refine lv_aload_n hx hb dX8_compile_180 rfl (lv_at hl 0 rfl) ?_
    refine lv_iconst (v := (1 : Int32)) hx hb dX8_compile_181 (by decide) ?_
    obtain ⟨r_8, M_10, hc_9, hF⟩ := bd2_c hF
    refine wd_calli X hP hS [.int (1 : Int32)] [] (c_X8_fails l D cA ad X.2.2.2.2   (1 : Int32) M_6 hc_9) (cwV 1 hts gX8_compile_X8_fails rfl rfl rfl (by decide +kernel) ⟨(by show _ ≤ _; first | exact Nat.le_of_ble_eq_true rfl | (simp [headSpec, rm_X8_compile]; omega) | omega), (by show _ ≤ _; first | exact Nat.le_of_ble_eq_true rfl | (simp [headSpec, rm_X8_compile]; omega) | omega)⟩) dM_0 rfl rfl hl.1 rfl (Nat.le_of_ble_eq_true rfl) dX8_compile_182 (fun H locs hP hS => ?_)
    cases hF
    exact wd_reti X hP hS rfl rfl dX8_compile_185
  · have hF := if_e c_11 hF
    refine lv_aload_n hx hb dX8_compile_173 rfl (lv_at hl 0 rfl) ?_
    refine wd_geti X hP 0 dM_0 rfl in_X8_compile_X8 27 rfl (by decide) (by decide +kernel) dX8_compile_174 ?_
    refine lv_goto (tgt := 185) hx hb dX8_compile_177 (by decide) ?_
    cases hF
    exact wd_reti X hP hS rfl rfl dX8_compile_185
set_option maxHeartbeats 4000000 in
set_option maxRecDepth 100000 in
theorem wb_X8_compile_133 {p : Program} {l : Launch} {e : Env} {s : State} {m : MethodId} {args : Array Value} {below : List Frame} {meth : Method} {c : Code} {D : va_G} {cA : Nat → ClassId} {ad : Nat → Nat} (X : wd_X p s m args meth c cX8_compile 4 wsX8_compile RX8 (some .int) D cA ad dsM.length) {r : Int32} {M' : Mem}  (x1 : Int32) (M : Mem) (H : Heap) (locs : List Loc) (ls : Array Slot) (hF : B_X8_compile_133  x1 M = some (r, M')) (hP : wd_P D cA ad dsM M H) (hS : va_S (wd_A ad dsM.length) s.heap H locs) (hl : lv_has ls 4 [(0, .ref (ad 0)), (1, .int x1)]) : W p l e (headSpec wsX8_compile rm_X8_compile).room s m args below meth c H locs 0 0 (MQ below (wm_Qi D cA ad dsM r M') args s 0 0 (wd_A ad dsM.length)) (F0 m 133 ls []) := by
  have hx := X.1.1
  have hb := X.1.2.1
  have hts := X.1.2.2.2.2
  unfold B_X8_compile_133 at hF
  refine lv_aload_n hx hb dX8_compile_133 rfl (lv_at hl 0 rfl) ?_
  refine lv_iload_n hx hb dX8_compile_134 rfl (lv_at hl 1 rfl) ?_
  refine lv_if_ge (tgt := 142) hx hb dX8_compile_135 (by decide) (fun c_1 => ?_) (fun c_1 => ?_)
  · have hF := if_t c_1 hF
    refine lv_aload_n hx hb dX8_compile_142 rfl (lv_at hl 0 rfl) ?_
    refine wd_geti X hP 0 dM_0 rfl in_X8_compile_X8 27 rfl (by decide) (by decide +kernel) dX8_compile_143 ?_
    exact wb_X8_compile_146 X    (M 0 27) M _ _ _ hF hP hS (lv_sub hl [0] rfl)
  · have hF := if_e c_1 hF
    refine lv_iconst (v := (0 : Int32)) hx hb dX8_compile_138 (by decide) ?_
    refine lv_goto (tgt := 146) hx hb dX8_compile_139 (by decide) ?_
    exact wb_X8_compile_146 X    (0 : Int32) M _ _ _ hF hP hS (lv_sub hl [0] rfl)
set_option maxHeartbeats 4000000 in
set_option maxRecDepth 100000 in
theorem wb_X8_compile_127 {p : Program} {l : Launch} {e : Env} {s : State} {m : MethodId} {args : Array Value} {below : List Frame} {meth : Method} {c : Code} {D : va_G} {cA : Nat → ClassId} {ad : Nat → Nat} (X : wd_X p s m args meth c cX8_compile 4 wsX8_compile RX8 (some .int) D cA ad dsM.length) {kh62 : Int32 → Int32 → Mem → Option (Int32 × Mem)} {r : Int32} {M' : Mem} (hk62 : ∀ (x1 : Int32) (x2 : Int32) (M : Mem) (H : Heap) (locs : List Loc) (ls : Array Slot), kh62 x1 x2 M = some (r, M') → wd_P D cA ad dsM M H → va_S (wd_A ad dsM.length) s.heap H locs → lv_has ls 4 [(0, .ref (ad 0)), (1, .int x1), (2, .int x2)] → W p l e (headSpec wsX8_compile rm_X8_compile).room s m args below meth c H locs 0 0 (MQ below (wm_Qi D cA ad dsM r M') args s 0 0 (wd_A ad dsM.length)) (F0 m 62 ls [])) (x1 : Int32) (x2 : Int32) (M : Mem) (H : Heap) (locs : List Loc) (ls : Array Slot) (hF : B_X8_compile_127 kh62 x1 x2 M = some (r, M')) (hP : wd_P D cA ad dsM M H) (hS : va_S (wd_A ad dsM.length) s.heap H locs) (hl : lv_has ls 4 [(0, .ref (ad 0)), (1, .int x1), (2, .int x2)]) : W p l e (headSpec wsX8_compile rm_X8_compile).room s m args below meth c H locs 0 0 (MQ below (wm_Qi D cA ad dsM r M') args s 0 0 (wd_A ad dsM.length)) (F0 m 127 ls []) := by
  have hx := X.1.1
  have hb := X.1.2.1
  have hts := X.1.2.2.2.2
  unfold B_X8_compile_127 at hF
  obtain ⟨x2_1, e_2, hF⟩ := nm_c hF
  refine lv_iinc (v := x2_1) (lv' := [(2, .int x2_1), (0, .ref (ad 0)), (1, .int x1)]) hx hb dX8_compile_127 hl (k := 2) rfl (by rw [e_2]; rfl) (by decide) rfl (fun ls hl => ?_)
  refine lv_goto (tgt := 62) hx hb dX8_compile_130 (by decide) ?_
  exact hk62 x1 x2_1 M _ _ _ hF hP hS (lv_sub hl [1, 2, 0] rfl)
set_option maxHeartbeats 4000000 in
set_option maxRecDepth 100000 in
theorem wb_X8_compile_76 {p : Program} {l : Launch} {e : Env} {s : State} {m : MethodId} {args : Array Value} {below : List Frame} {meth : Method} {c : Code} {D : va_G} {cA : Nat → ClassId} {ad : Nat → Nat} (X : wd_X p s m args meth c cX8_compile 4 wsX8_compile RX8 (some .int) D cA ad dsM.length) {kh62 : Int32 → Int32 → Mem → Option (Int32 × Mem)} {kh76 : Int32 → Int32 → Int32 → Mem → Option (Int32 × Mem)} {r : Int32} {M' : Mem} (hk62 : ∀ (x1 : Int32) (x2 : Int32) (M : Mem) (H : Heap) (locs : List Loc) (ls : Array Slot), kh62 x1 x2 M = some (r, M') → wd_P D cA ad dsM M H → va_S (wd_A ad dsM.length) s.heap H locs → lv_has ls 4 [(0, .ref (ad 0)), (1, .int x1), (2, .int x2)] → W p l e (headSpec wsX8_compile rm_X8_compile).room s m args below meth c H locs 0 0 (MQ below (wm_Qi D cA ad dsM r M') args s 0 0 (wd_A ad dsM.length)) (F0 m 62 ls [])) (hk76 : ∀ (x1 : Int32) (x2 : Int32) (x3 : Int32) (M : Mem) (H : Heap) (locs : List Loc) (ls : Array Slot), kh76 x1 x2 x3 M = some (r, M') → wd_P D cA ad dsM M H → va_S (wd_A ad dsM.length) s.heap H locs → lv_has ls 4 [(0, .ref (ad 0)), (1, .int x1), (2, .int x2), (3, .int x3)] → W p l e (headSpec wsX8_compile rm_X8_compile).room s m args below meth c H locs 0 0 (MQ below (wm_Qi D cA ad dsM r M') args s 0 0 (wd_A ad dsM.length)) (F0 m 76 ls [])) (x1 : Int32) (x2 : Int32) (x3 : Int32) (M : Mem) (H : Heap) (locs : List Loc) (ls : Array Slot) (hF : B_X8_compile_76 kh62 kh76 x1 x2 x3 M = some (r, M')) (hP : wd_P D cA ad dsM M H) (hS : va_S (wd_A ad dsM.length) s.heap H locs) (hl : lv_has ls 4 [(0, .ref (ad 0)), (1, .int x1), (2, .int x2), (3, .int x3)]) : W p l e (headSpec wsX8_compile rm_X8_compile).room s m args below meth c H locs 0 0 (MQ below (wm_Qi D cA ad dsM r M') args s 0 0 (wd_A ad dsM.length)) (F0 m 76 ls []) := by
  have hx := X.1.1
  have hb := X.1.2.1
  have hts := X.1.2.2.2.2
  unfold B_X8_compile_76 at hF
  refine lv_iload_n hx hb dX8_compile_76 rfl (lv_at hl 3 rfl) ?_
  refine lv_aload_n hx hb dX8_compile_77 rfl (lv_at hl 0 rfl) ?_
  refine wd_geti X hP 0 dM_0 rfl in_X8_compile_X8 14 rfl (by decide) (by decide +kernel) dX8_compile_78 ?_
  refine lv_icmp_ge (tgt := 127) hx hb dX8_compile_81 (by decide) (fun c_16 => ?_) (fun c_16 => ?_)
  · have hF := if_t c_16 hF
    exact wb_X8_compile_127 X  hk62  x1 x2 M _ _ _ hF hP hS (lv_sub hl [0, 1, 2] rfl)
  · have hF := if_e c_16 hF
    refine lv_iload_n hx hb dX8_compile_84 rfl (lv_at hl 1 rfl) ?_
    refine lv_if_lt (tgt := 127) hx hb dX8_compile_85 (by decide) (fun c_15 => ?_) (fun c_15 => ?_)
    · have hF := if_t c_15 hF
      exact wb_X8_compile_127 X  hk62  x1 x2 M _ _ _ hF hP hS (lv_sub hl [0, 1, 2] rfl)
    · have hF := if_e c_15 hF
      refine lv_aload_n hx hb dX8_compile_88 rfl (lv_at hl 0 rfl) ?_
      refine lv_iload_n hx hb dX8_compile_89 rfl (lv_at hl 2 rfl) ?_
      refine lv_iload_n hx hb dX8_compile_90 rfl (lv_at hl 3 rfl) ?_
      obtain ⟨M_3, hc_2, hF⟩ := bd_c hF
      refine wd_callv X hP hS [.int x2, .int x3] [] (c_X8_offered l D cA ad X.2.2.2.2   x2 x3 M hc_2) (cwV 2 hts gX8_compile_X8_offered rfl rfl rfl (by decide +kernel) ⟨(by show _ ≤ _; first | exact Nat.le_of_ble_eq_true rfl | (simp [headSpec, rm_X8_compile]; omega) | omega), (by show _ ≤ _; first | exact Nat.le_of_ble_eq_true rfl | (simp [headSpec, rm_X8_compile]; omega) | omega)⟩) dM_0 rfl rfl hl.1 rfl (Nat.le_of_ble_eq_true rfl) dX8_compile_91 (fun H locs hP hS => ?_)
      refine lv_aload_n hx hb dX8_compile_94 rfl (lv_at hl 0 rfl) ?_
      refine lv_bipush (v := (6 : Int32)) hx hb dX8_compile_95 (by decide) ?_
      refine lv_iload_n hx hb dX8_compile_97 rfl (lv_at hl 2 rfl) ?_
      refine lv_imul hx hb dX8_compile_98 ?_
      refine lv_iload_n hx hb dX8_compile_99 rfl (lv_at hl 3 rfl) ?_
      refine lv_iadd hx hb dX8_compile_100 ?_
      obtain ⟨M_6, hc_5, hF⟩ := bd_c hF
      refine wd_callv X hP hS [.int (((6 : Int32) * x2) + x3)] [] (c_X8_keep l D cA ad X.2.2.2.2   (((6 : Int32) * x2) + x3) M_3 hc_5) (cwV 1 hts gX8_compile_X8_keep rfl rfl rfl (by decide +kernel) ⟨(by show _ ≤ _; first | exact Nat.le_of_ble_eq_true rfl | (simp [headSpec, rm_X8_compile]; omega) | omega), (by show _ ≤ _; first | exact Nat.le_of_ble_eq_true rfl | (simp [headSpec, rm_X8_compile]; omega) | omega)⟩) dM_0 rfl rfl hl.1 rfl (Nat.le_of_ble_eq_true rfl) dX8_compile_101 (fun H locs hP hS => ?_)
      refine lv_aload_n hx hb dX8_compile_104 rfl (lv_at hl 0 rfl) ?_
      obtain ⟨r_7, M_9, hc_8, hF⟩ := bd2_c hF
      refine wd_calli X hP hS [] [] (c_X8_configuration l D cA ad X.2.2.2.2    M_6 hc_8) (cwV 0 hts gX8_compile_X8_configuration rfl rfl rfl (by decide +kernel) ⟨(by show _ ≤ _; first | exact Nat.le_of_ble_eq_true rfl | (simp [headSpec, rm_X8_compile]; omega) | omega), (by show _ ≤ _; first | exact Nat.le_of_ble_eq_true rfl | (simp [headSpec, rm_X8_compile]; omega) | omega)⟩) dM_0 rfl rfl hl.1 rfl (Nat.le_of_ble_eq_true rfl) dX8_compile_105 (fun H locs hP hS => ?_)
      refine lv_istore_n (lv' := [(1, .int r_7), (0, .ref (ad 0)), (2, .int x2), (3, .int x3)]) hx hb dX8_compile_108 rfl hl (by decide) rfl (fun ls hl => ?_)
      refine lv_aload_n hx hb dX8_compile_109 rfl (lv_at hl 1 rfl) ?_
      refine wd_getr (q := 22) X hP 0 dM_0 rfl in_X8_compile_X8 31 rfl (by decide) (by decide +kernel) dX8_compile_110 ?_
      refine lv_bipush (v := (6 : Int32)) hx hb dX8_compile_113 (by decide) ?_
      refine lv_iload_n hx hb dX8_compile_115 rfl (lv_at hl 2 rfl) ?_
      refine lv_imul hx hb dX8_compile_116 ?_
      refine lv_iload_n hx hb dX8_compile_117 rfl (lv_at hl 3 rfl) ?_
      refine lv_iadd hx hb dX8_compile_118 ?_
      refine lv_iload_n hx hb dX8_compile_119 rfl (lv_at hl 0 rfl) ?_
      obtain ⟨h_10, hF⟩ := gi_c hF
      obtain ⟨M_11, e_12, hF⟩ := wr_c hF
      refine wd_ist X hP hS 22 dM_22 h_10 dX8_compile_120 (fun H locs hP hS => ?_)
      rw [← e_12] at hP
      obtain ⟨x3_13, e_14, hF⟩ := nm_c hF
      refine lv_iinc (v := x3_13) (lv' := [(3, .int x3_13), (1, .int r_7), (0, .ref (ad 0)), (2, .int x2)]) hx hb dX8_compile_121 hl (k := 3) rfl (by rw [e_14]; rfl) (by decide) rfl (fun ls hl => ?_)
      refine lv_goto (tgt := 76) hx hb dX8_compile_124 (by decide) ?_
      exact hk76 r_7 x2 x3_13 M_11 _ _ _ hF hP hS (lv_sub hl [2, 1, 3, 0] rfl)
set_option maxHeartbeats 4000000 in
set_option maxRecDepth 100000 in
theorem wh_X8_compile_76 {p : Program} {l : Launch} {e : Env} {s : State} {m : MethodId} {args : Array Value} {below : List Frame} {meth : Method} {c : Code} {D : va_G} {cA : Nat → ClassId} {ad : Nat → Nat} (X : wd_X p s m args meth c cX8_compile 4 wsX8_compile RX8 (some .int) D cA ad dsM.length) {kh62 : Int32 → Int32 → Mem → Option (Int32 × Mem)} {r : Int32} {M' : Mem} (hk62 : ∀ (x1 : Int32) (x2 : Int32) (M : Mem) (H : Heap) (locs : List Loc) (ls : Array Slot), kh62 x1 x2 M = some (r, M') → wd_P D cA ad dsM M H → va_S (wd_A ad dsM.length) s.heap H locs → lv_has ls 4 [(0, .ref (ad 0)), (1, .int x1), (2, .int x2)] → W p l e (headSpec wsX8_compile rm_X8_compile).room s m args below meth c H locs 0 0 (MQ below (wm_Qi D cA ad dsM r M') args s 0 0 (wd_A ad dsM.length)) (F0 m 62 ls [])) : ∀ (n : Nat) (x1 : Int32) (x2 : Int32) (x3 : Int32) (M : Mem) (H : Heap) (locs : List Loc) (ls : Array Slot), H_X8_compile_76 kh62 n x1 x2 x3 M = some (r, M') → wd_P D cA ad dsM M H → va_S (wd_A ad dsM.length) s.heap H locs → lv_has ls 4 [(0, .ref (ad 0)), (1, .int x1), (2, .int x2), (3, .int x3)] → W p l e (headSpec wsX8_compile rm_X8_compile).room s m args below meth c H locs 0 0 (MQ below (wm_Qi D cA ad dsM r M') args s 0 0 (wd_A ad dsM.length)) (F0 m 76 ls []) := by
  intro n
  induction n with
  | zero => intro x1 x2 x3 M H locs ls hF; cases hF
  | succ n ih => intro x1 x2 x3 M H locs ls hF hP hS hl; exact wb_X8_compile_76 X (kh76 := H_X8_compile_76 kh62 n) hk62 ih x1 x2 x3 M H locs ls hF hP hS hl
set_option maxHeartbeats 4000000 in
set_option maxRecDepth 100000 in
theorem wb_X8_compile_62 {p : Program} {l : Launch} {e : Env} {s : State} {m : MethodId} {args : Array Value} {below : List Frame} {meth : Method} {c : Code} {D : va_G} {cA : Nat → ClassId} {ad : Nat → Nat} (X : wd_X p s m args meth c cX8_compile 4 wsX8_compile RX8 (some .int) D cA ad dsM.length) {kh62 : Int32 → Int32 → Mem → Option (Int32 × Mem)} {r : Int32} {M' : Mem} (hk62 : ∀ (x1 : Int32) (x2 : Int32) (M : Mem) (H : Heap) (locs : List Loc) (ls : Array Slot), kh62 x1 x2 M = some (r, M') → wd_P D cA ad dsM M H → va_S (wd_A ad dsM.length) s.heap H locs → lv_has ls 4 [(0, .ref (ad 0)), (1, .int x1), (2, .int x2)] → W p l e (headSpec wsX8_compile rm_X8_compile).room s m args below meth c H locs 0 0 (MQ below (wm_Qi D cA ad dsM r M') args s 0 0 (wd_A ad dsM.length)) (F0 m 62 ls [])) (x1 : Int32) (x2 : Int32) (M : Mem) (H : Heap) (locs : List Loc) (ls : Array Slot) (hF : B_X8_compile_62 kh62 x1 x2 M = some (r, M')) (hP : wd_P D cA ad dsM M H) (hS : va_S (wd_A ad dsM.length) s.heap H locs) (hl : lv_has ls 4 [(0, .ref (ad 0)), (1, .int x1), (2, .int x2)]) : W p l e (headSpec wsX8_compile rm_X8_compile).room s m args below meth c H locs 0 0 (MQ below (wm_Qi D cA ad dsM r M') args s 0 0 (wd_A ad dsM.length)) (F0 m 62 ls []) := by
  have hx := X.1.1
  have hb := X.1.2.1
  have hts := X.1.2.2.2.2
  unfold B_X8_compile_62 at hF
  refine lv_iload_n hx hb dX8_compile_62 rfl (lv_at hl 2 rfl) ?_
  refine lv_aload_n hx hb dX8_compile_63 rfl (lv_at hl 0 rfl) ?_
  refine wd_geti X hP 0 dM_0 rfl in_X8_compile_X8 27 rfl (by decide) (by decide +kernel) dX8_compile_64 ?_
  refine lv_icmp_ge (tgt := 133) hx hb dX8_compile_67 (by decide) (fun c_2 => ?_) (fun c_2 => ?_)
  · have hF := if_t c_2 hF
    exact wb_X8_compile_133 X    x1 M _ _ _ hF hP hS (lv_sub hl [0, 1] rfl)
  · have hF := if_e c_2 hF
    refine lv_iload_n hx hb dX8_compile_70 rfl (lv_at hl 1 rfl) ?_
    refine lv_if_lt (tgt := 133) hx hb dX8_compile_71 (by decide) (fun c_1 => ?_) (fun c_1 => ?_)
    · have hF := if_t c_1 hF
      exact wb_X8_compile_133 X    x1 M _ _ _ hF hP hS (lv_sub hl [0, 1] rfl)
    · have hF := if_e c_1 hF
      refine lv_iconst (v := (0 : Int32)) hx hb dX8_compile_74 (by decide) ?_
      refine lv_istore_n (lv' := [(3, .int (0 : Int32)), (0, .ref (ad 0)), (1, .int x1), (2, .int x2)]) hx hb dX8_compile_75 rfl hl (by decide) rfl (fun ls hl => ?_)
      exact wh_X8_compile_76 X  hk62  100 x1 x2 (0 : Int32) M _ _ _ hF hP hS (lv_sub hl [1, 2, 3, 0] rfl)
set_option maxHeartbeats 4000000 in
set_option maxRecDepth 100000 in
theorem wh_X8_compile_62 {p : Program} {l : Launch} {e : Env} {s : State} {m : MethodId} {args : Array Value} {below : List Frame} {meth : Method} {c : Code} {D : va_G} {cA : Nat → ClassId} {ad : Nat → Nat} (X : wd_X p s m args meth c cX8_compile 4 wsX8_compile RX8 (some .int) D cA ad dsM.length) {r : Int32} {M' : Mem}  : ∀ (n : Nat) (x1 : Int32) (x2 : Int32) (M : Mem) (H : Heap) (locs : List Loc) (ls : Array Slot), H_X8_compile_62  n x1 x2 M = some (r, M') → wd_P D cA ad dsM M H → va_S (wd_A ad dsM.length) s.heap H locs → lv_has ls 4 [(0, .ref (ad 0)), (1, .int x1), (2, .int x2)] → W p l e (headSpec wsX8_compile rm_X8_compile).room s m args below meth c H locs 0 0 (MQ below (wm_Qi D cA ad dsM r M') args s 0 0 (wd_A ad dsM.length)) (F0 m 62 ls []) := by
  intro n
  induction n with
  | zero => intro x1 x2 M H locs ls hF; cases hF
  | succ n ih => intro x1 x2 M H locs ls hF hP hS hl; exact wb_X8_compile_62 X (kh62 := H_X8_compile_62  n) ih x1 x2 M H locs ls hF hP hS hl
set_option maxHeartbeats 4000000 in
set_option maxRecDepth 100000 in
theorem wb_X8_compile_17 {p : Program} {l : Launch} {e : Env} {s : State} {m : MethodId} {args : Array Value} {below : List Frame} {meth : Method} {c : Code} {D : va_G} {cA : Nat → ClassId} {ad : Nat → Nat} (X : wd_X p s m args meth c cX8_compile 4 wsX8_compile RX8 (some .int) D cA ad dsM.length) {kh17 : Int32 → Mem → Option (Int32 × Mem)} {r : Int32} {M' : Mem} (hk17 : ∀ (x1 : Int32) (M : Mem) (H : Heap) (locs : List Loc) (ls : Array Slot), kh17 x1 M = some (r, M') → wd_P D cA ad dsM M H → va_S (wd_A ad dsM.length) s.heap H locs → lv_has ls 4 [(0, .ref (ad 0)), (1, .int x1)] → W p l e (headSpec wsX8_compile rm_X8_compile).room s m args below meth c H locs 0 0 (MQ below (wm_Qi D cA ad dsM r M') args s 0 0 (wd_A ad dsM.length)) (F0 m 17 ls [])) (x1 : Int32) (M : Mem) (H : Heap) (locs : List Loc) (ls : Array Slot) (hF : B_X8_compile_17 kh17 x1 M = some (r, M')) (hP : wd_P D cA ad dsM M H) (hS : va_S (wd_A ad dsM.length) s.heap H locs) (hl : lv_has ls 4 [(0, .ref (ad 0)), (1, .int x1)]) : W p l e (headSpec wsX8_compile rm_X8_compile).room s m args below meth c H locs 0 0 (MQ below (wm_Qi D cA ad dsM r M') args s 0 0 (wd_A ad dsM.length)) (F0 m 17 ls []) := by
  have hx := X.1.1
  have hb := X.1.2.1
  have hts := X.1.2.2.2.2
  unfold B_X8_compile_17 at hF
  refine lv_iload_n hx hb dX8_compile_17 rfl (lv_at hl 1 rfl) ?_
  refine lv_aload_n hx hb dX8_compile_18 rfl (lv_at hl 0 rfl) ?_
  refine wd_geti X hP 0 dM_0 rfl in_X8_compile_X8 6 rfl (by decide) (by decide +kernel) dX8_compile_19 ?_
  refine lv_icmp_ge (tgt := 42) hx hb dX8_compile_22 (by decide) (fun c_17 => ?_) (fun c_17 => ?_)
  · have hF := if_t c_17 hF
    refine lv_aload_n hx hb dX8_compile_42 rfl (lv_at hl 0 rfl) ?_
    refine lv_iconst (v := (0 : Int32)) hx hb dX8_compile_43 (by decide) ?_
    refine lv_iconst (v := (-1 : Int32)) hx hb dX8_compile_44 (by decide) ?_
    obtain ⟨M_3, hc_2, hF⟩ := bd_c hF
    refine wd_callv X hP hS [.int (0 : Int32), .int (-1 : Int32)] [] (c_X8_enter l D cA ad X.2.2.2.2   (0 : Int32) (-1 : Int32) M hc_2) (cwV 2 hts gX8_compile_X8_enter rfl rfl rfl (by decide +kernel) ⟨(by show _ ≤ _; first | exact Nat.le_of_ble_eq_true rfl | (simp [headSpec, rm_X8_compile]; omega) | omega), (by show _ ≤ _; first | exact Nat.le_of_ble_eq_true rfl | (simp [headSpec, rm_X8_compile]; omega) | omega)⟩) dM_0 rfl rfl hl.1 rfl (Nat.le_of_ble_eq_true rfl) dX8_compile_45 (fun H locs hP hS => ?_)
    refine lv_aload_n hx hb dX8_compile_48 rfl (lv_at hl 0 rfl) ?_
    refine lv_sipush (v := (180 : Int32)) hx hb dX8_compile_49 (by decide) ?_
    obtain ⟨M_6, hc_5, hF⟩ := bd_c hF
    refine wd_callv X hP hS [.int (180 : Int32)] [] (c_X8_keep l D cA ad X.2.2.2.2   (180 : Int32) M_3 hc_5) (cwV 1 hts gX8_compile_X8_keep rfl rfl rfl (by decide +kernel) ⟨(by show _ ≤ _; first | exact Nat.le_of_ble_eq_true rfl | (simp [headSpec, rm_X8_compile]; omega) | omega), (by show _ ≤ _; first | exact Nat.le_of_ble_eq_true rfl | (simp [headSpec, rm_X8_compile]; omega) | omega)⟩) dM_0 rfl rfl hl.1 rfl (Nat.le_of_ble_eq_true rfl) dX8_compile_52 (fun H locs hP hS => ?_)
    refine lv_aload_n hx hb dX8_compile_55 rfl (lv_at hl 0 rfl) ?_
    obtain ⟨r_7, M_9, hc_8, hF⟩ := bd2_c hF
    refine wd_calli X hP hS [] [] (c_X8_configuration l D cA ad X.2.2.2.2    M_6 hc_8) (cwV 0 hts gX8_compile_X8_configuration rfl rfl rfl (by decide +kernel) ⟨(by show _ ≤ _; first | exact Nat.le_of_ble_eq_true rfl | (simp [headSpec, rm_X8_compile]; omega) | omega), (by show _ ≤ _; first | exact Nat.le_of_ble_eq_true rfl | (simp [headSpec, rm_X8_compile]; omega) | omega)⟩) dM_0 rfl rfl hl.1 rfl (Nat.le_of_ble_eq_true rfl) dX8_compile_56 (fun H locs hP hS => ?_)
    refine lv_istore_n (lv' := [(1, .int r_7), (0, .ref (ad 0))]) hx hb dX8_compile_59 rfl hl (by decide) rfl (fun ls hl => ?_)
    refine lv_iconst (v := (0 : Int32)) hx hb dX8_compile_60 (by decide) ?_
    refine lv_istore_n (lv' := [(2, .int (0 : Int32)), (1, .int r_7), (0, .ref (ad 0))]) hx hb dX8_compile_61 rfl hl (by decide) rfl (fun ls hl => ?_)
    exact wh_X8_compile_62 X    100 r_7 (0 : Int32) M_9 _ _ _ hF hP hS (lv_sub hl [2, 1, 0] rfl)
  · have hF := if_e c_17 hF
    refine lv_aload_n hx hb dX8_compile_25 rfl (lv_at hl 0 rfl) ?_
    refine wd_getr (q := 19) X hP 0 dM_0 rfl in_X8_compile_X8 24 rfl (by decide) (by decide +kernel) dX8_compile_26 ?_
    refine lv_iload_n hx hb dX8_compile_29 rfl (lv_at hl 1 rfl) ?_
    refine lv_aload_n hx hb dX8_compile_30 rfl (lv_at hl 0 rfl) ?_
    refine lv_iload_n hx hb dX8_compile_31 rfl (lv_at hl 1 rfl) ?_
    obtain ⟨r_10, hc_11, hF⟩ := bd_c hF
    refine wd_calli X hP hS [.int x1] [.int x1, .ref (ad 19)] (c_X8_firstOf l D cA ad X.2.2.2.2   x1 M hc_11) (cwV 1 hts gX8_compile_X8_firstOf rfl rfl rfl (by decide +kernel) ⟨(by show _ ≤ _; first | exact Nat.le_of_ble_eq_true rfl | (simp [headSpec, rm_X8_compile]; omega) | omega), (by show _ ≤ _; first | exact Nat.le_of_ble_eq_true rfl | (simp [headSpec, rm_X8_compile]; omega) | omega)⟩) dM_0 rfl rfl hl.1 rfl (Nat.le_of_ble_eq_true rfl) dX8_compile_32 (fun H locs hP hS => ?_)
    obtain ⟨h_12, hF⟩ := gi_c hF
    obtain ⟨M_13, e_14, hF⟩ := wr_c hF
    refine wd_ist X hP hS 19 dM_19 h_12 dX8_compile_35 (fun H locs hP hS => ?_)
    rw [← e_14] at hP
    obtain ⟨x1_15, e_16, hF⟩ := nm_c hF
    refine lv_iinc (v := x1_15) (lv' := [(1, .int x1_15), (0, .ref (ad 0))]) hx hb dX8_compile_36 hl (k := 1) rfl (by rw [e_16]; rfl) (by decide) rfl (fun ls hl => ?_)
    refine lv_goto (tgt := 17) hx hb dX8_compile_39 (by decide) ?_
    exact hk17 x1_15 M_13 _ _ _ hF hP hS (lv_sub hl [1, 0] rfl)
set_option maxHeartbeats 4000000 in
set_option maxRecDepth 100000 in
theorem wh_X8_compile_17 {p : Program} {l : Launch} {e : Env} {s : State} {m : MethodId} {args : Array Value} {below : List Frame} {meth : Method} {c : Code} {D : va_G} {cA : Nat → ClassId} {ad : Nat → Nat} (X : wd_X p s m args meth c cX8_compile 4 wsX8_compile RX8 (some .int) D cA ad dsM.length) {r : Int32} {M' : Mem}  : ∀ (n : Nat) (x1 : Int32) (M : Mem) (H : Heap) (locs : List Loc) (ls : Array Slot), H_X8_compile_17  n x1 M = some (r, M') → wd_P D cA ad dsM M H → va_S (wd_A ad dsM.length) s.heap H locs → lv_has ls 4 [(0, .ref (ad 0)), (1, .int x1)] → W p l e (headSpec wsX8_compile rm_X8_compile).room s m args below meth c H locs 0 0 (MQ below (wm_Qi D cA ad dsM r M') args s 0 0 (wd_A ad dsM.length)) (F0 m 17 ls []) := by
  intro n
  induction n with
  | zero => intro x1 M H locs ls hF; cases hF
  | succ n ih => intro x1 M H locs ls hF hP hS hl; exact wb_X8_compile_17 X (kh17 := H_X8_compile_17  n) ih x1 M H locs ls hF hP hS hl
set_option maxHeartbeats 4000000 in
set_option maxRecDepth 100000 in
theorem c_X8_compile (l : Launch) (D : va_G) (cA : Nat → ClassId) (ad : Nat → Nat) (hj : wd_inj ad dsM.length)    (M : Mem) {r : Int32} {M' : Mem} (hF : F_X8_compile M = some (r, M')) : wm_i l yX8_compile wsX8_compile rm_X8_compile D cA ad dsM M [.ref (ad 0)] r M' := by
  refine Met.ofW (cc := cX8_compile) (maxL := 4) (ret := (some .int)) (by decide) rfl ?_
  intro p e s m args below meth c s₁ B hml hv
  obtain ⟨rfl, hP, hK⟩ := hv
  have X : wd_X p s m _ meth c cX8_compile 4 wsX8_compile RX8 (some .int) D cA ad dsM.length := ⟨⟨B.exec, B.bytes, hml, findClass_of_methodNamed B.named, atoms_spec (ws := wsX8_compile) B.pre⟩, hK, B.notSynchronized, B.returns, hj⟩
  have hl := lv_entry ([.ref (ad 0)]) (n := 4) (Nat.le_of_ble_eq_true rfl)
  rw [lg_entry_eq]
  generalize (lg_sl ([.ref (ad 0)]) ++ List.replicate (4 - (lg_sl ([.ref (ad 0)])).length) Slot.unset).toArray = ls at hl ⊢
  have hl : lv_has ls 4 [(0, .ref (ad 0))] := hl
  have hS : va_S (wd_A ad dsM.length) s.heap s.heap [] := va_S.rf
  have hx := X.1.1
  have hb := X.1.2.1
  have hts := X.1.2.2.2.2
  unfold F_X8_compile at hF
  refine lv_aload_n hx hb dX8_compile_0 rfl (lv_at hl 0 rfl) ?_
  refine lv_iconst (v := (0 : Int32)) hx hb dX8_compile_1 (by decide) ?_
  obtain ⟨M_1, e_2, hF⟩ := wr_c hF
  refine wd_puti X hP hS 0 dM_0 rfl in_X8_compile_X8 tyX8_ok nmX8 0 rfl (by decide) rfl rfl (by decide +kernel) dX8_compile_2 (fun H locs hP hS => ?_)
  rw [← e_2] at hP
  refine lv_aload_n hx hb dX8_compile_5 rfl (lv_at hl 0 rfl) ?_
  refine lv_iconst (v := (0 : Int32)) hx hb dX8_compile_6 (by decide) ?_
  obtain ⟨M_3, e_4, hF⟩ := wr_c hF
  refine wd_puti X hP hS 0 dM_0 rfl in_X8_compile_X8 tyX8_ok nmX8 27 rfl (by decide) rfl rfl (by decide +kernel) dX8_compile_7 (fun H locs hP hS => ?_)
  rw [← e_4] at hP
  refine lv_aload_n hx hb dX8_compile_10 rfl (lv_at hl 0 rfl) ?_
  refine lv_iconst (v := (0 : Int32)) hx hb dX8_compile_11 (by decide) ?_
  obtain ⟨M_5, e_6, hF⟩ := wr_c hF
  refine wd_puti X hP hS 0 dM_0 rfl in_X8_compile_X8 tyX8_ok nmX8 26 rfl (by decide) rfl rfl (by decide +kernel) dX8_compile_12 (fun H locs hP hS => ?_)
  rw [← e_6] at hP
  refine lv_iconst (v := (0 : Int32)) hx hb dX8_compile_15 (by decide) ?_
  refine lv_istore_n (lv' := [(1, .int (0 : Int32)), (0, .ref (ad 0))]) hx hb dX8_compile_16 rfl hl (by decide) rfl (fun ls hl => ?_)
  exact wh_X8_compile_17 X    100 (0 : Int32) M_5 _ _ _ hF hP hS (lv_sub hl [1, 0] rfl)
/-! X8_configurations ()I -/
theorem in_X8_configurations_X8 : ∀ w ∈ u_ws RX8 TX8 39, w ∈ wsX8_configurations := by decide +kernel
set_option maxHeartbeats 4000000 in
set_option maxRecDepth 100000 in
theorem c_X8_configurations (l : Launch) (D : va_G) (cA : Nat → ClassId) (ad : Nat → Nat) (hj : wd_inj ad dsM.length)    (M : Mem) {r : Int32} {M' : Mem} (hF : F_X8_configurations M = some (r, M')) : wm_i l yX8_configurations wsX8_configurations rm_X8_configurations D cA ad dsM M [.ref (ad 0)] r M' := by
  refine Met.ofW (cc := cX8_configurations) (maxL := 1) (ret := (some .int)) (by decide) rfl ?_
  intro p e s m args below meth c s₁ B hml hv
  obtain ⟨rfl, hP, hK⟩ := hv
  have X : wd_X p s m _ meth c cX8_configurations 1 wsX8_configurations RX8 (some .int) D cA ad dsM.length := ⟨⟨B.exec, B.bytes, hml, findClass_of_methodNamed B.named, atoms_spec (ws := wsX8_configurations) B.pre⟩, hK, B.notSynchronized, B.returns, hj⟩
  have hl := lv_entry ([.ref (ad 0)]) (n := 1) (Nat.le_of_ble_eq_true rfl)
  rw [lg_entry_eq]
  generalize (lg_sl ([.ref (ad 0)]) ++ List.replicate (1 - (lg_sl ([.ref (ad 0)])).length) Slot.unset).toArray = ls at hl ⊢
  have hl : lv_has ls 1 [(0, .ref (ad 0))] := hl
  have hS : va_S (wd_A ad dsM.length) s.heap s.heap [] := va_S.rf
  have hx := X.1.1
  have hb := X.1.2.1
  have hts := X.1.2.2.2.2
  unfold F_X8_configurations at hF
  refine lv_aload_n hx hb dX8_configurations_0 rfl (lv_at hl 0 rfl) ?_
  refine lv_iconst (v := (0 : Int32)) hx hb dX8_configurations_1 (by decide) ?_
  obtain ⟨M_1, e_2, hF⟩ := wr_c hF
  refine wd_puti X hP hS 0 dM_0 rfl in_X8_configurations_X8 tyX8_ok nmX8 0 rfl (by decide) rfl rfl (by decide +kernel) dX8_configurations_2 (fun H locs hP hS => ?_)
  rw [← e_2] at hP
  refine lv_aload_n hx hb dX8_configurations_5 rfl (lv_at hl 0 rfl) ?_
  refine wd_geti X hP 0 dM_0 rfl in_X8_configurations_X8 27 rfl (by decide) (by decide +kernel) dX8_configurations_6 ?_
  cases hF
  exact wd_reti X hP hS rfl rfl dX8_configurations_9
/-! X8_count (I)I -/
theorem in_X8_count_X8 : ∀ w ∈ u_ws RX8 TX8 39, w ∈ wsX8_count := by decide +kernel
set_option maxHeartbeats 4000000 in
set_option maxRecDepth 100000 in
theorem c_X8_count (l : Launch) (D : va_G) (cA : Nat → ClassId) (ad : Nat → Nat) (hj : wd_inj ad dsM.length)   (x1 : Int32) (M : Mem) {r : Int32} {M' : Mem} (hF : F_X8_count x1 M = some (r, M')) : wm_i l yX8_count wsX8_count rm_X8_count D cA ad dsM M [.ref (ad 0), .int x1] r M' := by
  refine Met.ofW (cc := cX8_count) (maxL := 2) (ret := (some .int)) (by decide) rfl ?_
  intro p e s m args below meth c s₁ B hml hv
  obtain ⟨rfl, hP, hK⟩ := hv
  have X : wd_X p s m _ meth c cX8_count 2 wsX8_count RX8 (some .int) D cA ad dsM.length := ⟨⟨B.exec, B.bytes, hml, findClass_of_methodNamed B.named, atoms_spec (ws := wsX8_count) B.pre⟩, hK, B.notSynchronized, B.returns, hj⟩
  have hl := lv_entry ([.ref (ad 0), .int x1]) (n := 2) (Nat.le_of_ble_eq_true rfl)
  rw [lg_entry_eq]
  generalize (lg_sl ([.ref (ad 0), .int x1]) ++ List.replicate (2 - (lg_sl ([.ref (ad 0), .int x1])).length) Slot.unset).toArray = ls at hl ⊢
  have hl : lv_has ls 2 [(0, .ref (ad 0)), (1, .int x1)] := hl
  have hS : va_S (wd_A ad dsM.length) s.heap s.heap [] := va_S.rf
  have hx := X.1.1
  have hb := X.1.2.1
  have hts := X.1.2.2.2.2
  unfold F_X8_count at hF
  refine lv_aload_n hx hb dX8_count_0 rfl (lv_at hl 0 rfl) ?_
  refine lv_iconst (v := (0 : Int32)) hx hb dX8_count_1 (by decide) ?_
  obtain ⟨M_1, e_2, hF⟩ := wr_c hF
  refine wd_puti X hP hS 0 dM_0 rfl in_X8_count_X8 tyX8_ok nmX8 0 rfl (by decide) rfl rfl (by decide +kernel) dX8_count_2 (fun H locs hP hS => ?_)
  rw [← e_2] at hP
  refine lv_iload_n hx hb dX8_count_5 rfl (lv_at hl 1 rfl) ?_
  refine lv_iconst (v := (3 : Int32)) hx hb dX8_count_6 (by decide) ?_
  refine lv_icmp_ne (tgt := 26) hx hb dX8_count_7 (by decide) (fun c_7 => ?_) (fun c_7 => ?_)
  · have hF := if_e c_7 hF
    refine lv_iload_n hx hb dX8_count_26 rfl (lv_at hl 1 rfl) ?_
    refine lv_if_ne (tgt := 37) hx hb dX8_count_27 (by decide) (fun c_5 => ?_) (fun c_5 => ?_)
    · have hF := if_e c_5 hF
      refine lv_iload_n hx hb dX8_count_37 rfl (lv_at hl 1 rfl) ?_
      refine lv_iconst (v := (1 : Int32)) hx hb dX8_count_38 (by decide) ?_
      refine lv_icmp_ne (tgt := 49) hx hb dX8_count_39 (by decide) (fun c_4 => ?_) (fun c_4 => ?_)
      · have hF := if_e c_4 hF
        refine lv_iload_n hx hb dX8_count_49 rfl (lv_at hl 1 rfl) ?_
        refine lv_iconst (v := (2 : Int32)) hx hb dX8_count_50 (by decide) ?_
        refine lv_icmp_ne (tgt := 61) hx hb dX8_count_51 (by decide) (fun c_3 => ?_) (fun c_3 => ?_)
        · have hF := if_e c_3 hF
          refine lv_iconst (v := (-1 : Int32)) hx hb dX8_count_61 (by decide) ?_
          cases hF
          exact wd_reti X hP hS rfl rfl dX8_count_62
        · have hF := if_t c_3 hF
          refine lv_aload_n hx hb dX8_count_54 rfl (lv_at hl 0 rfl) ?_
          refine wd_geti X hP 0 dM_0 rfl in_X8_count_X8 14 rfl (by decide) (by decide +kernel) dX8_count_55 ?_
          refine lv_goto (tgt := 62) hx hb dX8_count_58 (by decide) ?_
          cases hF
          exact wd_reti X hP hS rfl rfl dX8_count_62
      · have hF := if_t c_4 hF
        refine lv_aload_n hx hb dX8_count_42 rfl (lv_at hl 0 rfl) ?_
        refine wd_geti X hP 0 dM_0 rfl in_X8_count_X8 15 rfl (by decide) (by decide +kernel) dX8_count_43 ?_
        refine lv_goto (tgt := 62) hx hb dX8_count_46 (by decide) ?_
        cases hF
        exact wd_reti X hP hS rfl rfl dX8_count_62
    · have hF := if_t c_5 hF
      refine lv_aload_n hx hb dX8_count_30 rfl (lv_at hl 0 rfl) ?_
      refine wd_geti X hP 0 dM_0 rfl in_X8_count_X8 6 rfl (by decide) (by decide +kernel) dX8_count_31 ?_
      refine lv_goto (tgt := 62) hx hb dX8_count_34 (by decide) ?_
      cases hF
      exact wd_reti X hP hS rfl rfl dX8_count_62
  · have hF := if_t c_7 hF
    refine lv_aload_n hx hb dX8_count_10 rfl (lv_at hl 0 rfl) ?_
    refine wd_geti X hP 0 dM_0 rfl in_X8_count_X8 27 rfl (by decide) (by decide +kernel) dX8_count_11 ?_
    refine lv_if_le (tgt := 24) hx hb dX8_count_14 (by decide) (fun c_6 => ?_) (fun c_6 => ?_)
    · have hF := if_t c_6 hF
      refine lv_iconst (v := (-1 : Int32)) hx hb dX8_count_24 (by decide) ?_
      cases hF
      exact wd_reti X hP hS rfl rfl dX8_count_25
    · have hF := if_e c_6 hF
      refine lv_aload_n hx hb dX8_count_17 rfl (lv_at hl 0 rfl) ?_
      refine wd_geti X hP 0 dM_0 rfl in_X8_count_X8 28 rfl (by decide) (by decide +kernel) dX8_count_18 ?_
      refine lv_goto (tgt := 25) hx hb dX8_count_21 (by decide) ?_
      cases hF
      exact wd_reti X hP hS rfl rfl dX8_count_25
/-! X8_isIn (II)Z -/
theorem in_X8_isIn_X8 : ∀ w ∈ u_ws RX8 TX8 39, w ∈ wsX8_isIn := by decide +kernel
set_option maxHeartbeats 4000000 in
set_option maxRecDepth 100000 in
theorem c_X8_isIn (l : Launch) (D : va_G) (cA : Nat → ClassId) (ad : Nat → Nat) (hj : wd_inj ad dsM.length)   (x1 : Int32) (x2 : Int32) (M : Mem) {r : Int32} (hF : F_X8_isIn x1 x2 M = some r) : wm_i l yX8_isIn wsX8_isIn rm_X8_isIn D cA ad dsM M [.ref (ad 0), .int x1, .int x2] r M := by
  refine Met.ofW (cc := cX8_isIn) (maxL := 3) (ret := (some .boolean)) (by decide) rfl ?_
  intro p e s m args below meth c s₁ B hml hv
  obtain ⟨rfl, hP, hK⟩ := hv
  have X : wd_X p s m _ meth c cX8_isIn 3 wsX8_isIn RX8 (some .boolean) D cA ad dsM.length := ⟨⟨B.exec, B.bytes, hml, findClass_of_methodNamed B.named, atoms_spec (ws := wsX8_isIn) B.pre⟩, hK, B.notSynchronized, B.returns, hj⟩
  have hl := lv_entry ([.ref (ad 0), .int x1, .int x2]) (n := 3) (Nat.le_of_ble_eq_true rfl)
  rw [lg_entry_eq]
  generalize (lg_sl ([.ref (ad 0), .int x1, .int x2]) ++ List.replicate (3 - (lg_sl ([.ref (ad 0), .int x1, .int x2])).length) Slot.unset).toArray = ls at hl ⊢
  have hl : lv_has ls 3 [(0, .ref (ad 0)), (1, .int x1), (2, .int x2)] := hl
  have hS : va_S (wd_A ad dsM.length) s.heap s.heap [] := va_S.rf
  have hx := X.1.1
  have hb := X.1.2.1
  have hts := X.1.2.2.2.2
  unfold F_X8_isIn at hF
  refine lv_iload_n hx hb dX8_isIn_0 rfl (lv_at hl 1 rfl) ?_
  refine lv_if_lt (tgt := 28) hx hb dX8_isIn_1 (by decide) (fun c_4 => ?_) (fun c_4 => ?_)
  · have hF := if_t c_4 hF
    refine lv_iconst (v := (0 : Int32)) hx hb dX8_isIn_28 (by decide) ?_
    cases hF
    exact wd_reti X hP hS rfl (by decide) dX8_isIn_29
  · have hF := if_e c_4 hF
    refine lv_iload_n hx hb dX8_isIn_4 rfl (lv_at hl 1 rfl) ?_
    refine lv_aload_n hx hb dX8_isIn_5 rfl (lv_at hl 0 rfl) ?_
    refine wd_geti X hP 0 dM_0 rfl in_X8_isIn_X8 27 rfl (by decide) (by decide +kernel) dX8_isIn_6 ?_
    refine lv_icmp_ge (tgt := 28) hx hb dX8_isIn_9 (by decide) (fun c_3 => ?_) (fun c_3 => ?_)
    · have hF := if_t c_3 hF
      refine lv_iconst (v := (0 : Int32)) hx hb dX8_isIn_28 (by decide) ?_
      cases hF
      exact wd_reti X hP hS rfl (by decide) dX8_isIn_29
    · have hF := if_e c_3 hF
      refine lv_iload_n hx hb dX8_isIn_12 rfl (lv_at hl 2 rfl) ?_
      refine lv_if_lt (tgt := 28) hx hb dX8_isIn_13 (by decide) (fun c_2 => ?_) (fun c_2 => ?_)
      · have hF := if_t c_2 hF
        refine lv_iconst (v := (0 : Int32)) hx hb dX8_isIn_28 (by decide) ?_
        cases hF
        exact wd_reti X hP hS rfl (by decide) dX8_isIn_29
      · have hF := if_e c_2 hF
        refine lv_iload_n hx hb dX8_isIn_16 rfl (lv_at hl 2 rfl) ?_
        refine lv_aload_n hx hb dX8_isIn_17 rfl (lv_at hl 0 rfl) ?_
        refine wd_geti X hP 0 dM_0 rfl in_X8_isIn_X8 14 rfl (by decide) (by decide +kernel) dX8_isIn_18 ?_
        refine lv_icmp_ge (tgt := 28) hx hb dX8_isIn_21 (by decide) (fun c_1 => ?_) (fun c_1 => ?_)
        · have hF := if_t c_1 hF
          refine lv_iconst (v := (0 : Int32)) hx hb dX8_isIn_28 (by decide) ?_
          cases hF
          exact wd_reti X hP hS rfl (by decide) dX8_isIn_29
        · have hF := if_e c_1 hF
          refine lv_iconst (v := (1 : Int32)) hx hb dX8_isIn_24 (by decide) ?_
          refine lv_goto (tgt := 29) hx hb dX8_isIn_25 (by decide) ?_
          cases hF
          exact wd_reti X hP hS rfl (by decide) dX8_isIn_29
/-! X8_next (II)I -/
theorem in_X8_next_X8 : ∀ w ∈ u_ws RX8 TX8 39, w ∈ wsX8_next := by decide +kernel
set_option maxHeartbeats 4000000 in
set_option maxRecDepth 100000 in
theorem c_X8_next (l : Launch) (D : va_G) (cA : Nat → ClassId) (ad : Nat → Nat) (hj : wd_inj ad dsM.length)   (x1 : Int32) (x2 : Int32) (M : Mem) {r : Int32} {M' : Mem} (hF : F_X8_next x1 x2 M = some (r, M')) : wm_i l yX8_next wsX8_next rm_X8_next D cA ad dsM M [.ref (ad 0), .int x1, .int x2] r M' := by
  refine Met.ofW (cc := cX8_next) (maxL := 3) (ret := (some .int)) (by decide) rfl ?_
  intro p e s m args below meth c s₁ B hml hv
  obtain ⟨rfl, hP, hK⟩ := hv
  have X : wd_X p s m _ meth c cX8_next 3 wsX8_next RX8 (some .int) D cA ad dsM.length := ⟨⟨B.exec, B.bytes, hml, findClass_of_methodNamed B.named, atoms_spec (ws := wsX8_next) B.pre⟩, hK, B.notSynchronized, B.returns, hj⟩
  have hl := lv_entry ([.ref (ad 0), .int x1, .int x2]) (n := 3) (Nat.le_of_ble_eq_true rfl)
  rw [lg_entry_eq]
  generalize (lg_sl ([.ref (ad 0), .int x1, .int x2]) ++ List.replicate (3 - (lg_sl ([.ref (ad 0), .int x1, .int x2])).length) Slot.unset).toArray = ls at hl ⊢
  have hl : lv_has ls 3 [(0, .ref (ad 0)), (1, .int x1), (2, .int x2)] := hl
  have hS : va_S (wd_A ad dsM.length) s.heap s.heap [] := va_S.rf
  have hx := X.1.1
  have hb := X.1.2.1
  have hts := X.1.2.2.2.2
  unfold F_X8_next at hF
  refine lv_aload_n hx hb dX8_next_0 rfl (lv_at hl 0 rfl) ?_
  refine lv_iconst (v := (0 : Int32)) hx hb dX8_next_1 (by decide) ?_
  obtain ⟨M_1, e_2, hF⟩ := wr_c hF
  refine wd_puti X hP hS 0 dM_0 rfl in_X8_next_X8 tyX8_ok nmX8 0 rfl (by decide) rfl rfl (by decide +kernel) dX8_next_2 (fun H locs hP hS => ?_)
  rw [← e_2] at hP
  refine lv_aload_n hx hb dX8_next_5 rfl (lv_at hl 0 rfl) ?_
  refine lv_iload_n hx hb dX8_next_6 rfl (lv_at hl 1 rfl) ?_
  refine lv_iload_n hx hb dX8_next_7 rfl (lv_at hl 2 rfl) ?_
  obtain ⟨r_3, hc_4, hF⟩ := bd_c hF
  refine wd_calli X hP hS [.int x1, .int x2] [] (c_X8_isIn l D cA ad X.2.2.2.2   x1 x2 M_1 hc_4) (cwV 2 hts gX8_next_X8_isIn rfl rfl rfl (by decide +kernel) ⟨(by show _ ≤ _; first | exact Nat.le_of_ble_eq_true rfl | (simp [headSpec, rm_X8_next]; omega) | omega), (by show _ ≤ _; first | exact Nat.le_of_ble_eq_true rfl | (simp [headSpec, rm_X8_next]; omega) | omega)⟩) dM_0 rfl rfl hl.1 rfl (Nat.le_of_ble_eq_true rfl) dX8_next_8 (fun H locs hP hS => ?_)
  refine lv_if_eq (tgt := 28) hx hb dX8_next_11 (by decide) (fun c_9 => ?_) (fun c_9 => ?_)
  · have hF := if_t c_9 hF
    refine lv_aload_n hx hb dX8_next_28 rfl (lv_at hl 0 rfl) ?_
    refine lv_iconst (v := (1 : Int32)) hx hb dX8_next_29 (by decide) ?_
    obtain ⟨r_5, M_7, hc_6, hF⟩ := bd2_c hF
    refine wd_calli X hP hS [.int (1 : Int32)] [] (c_X8_fails l D cA ad X.2.2.2.2   (1 : Int32) M_1 hc_6) (cwV 1 hts gX8_next_X8_fails rfl rfl rfl (by decide +kernel) ⟨(by show _ ≤ _; first | exact Nat.le_of_ble_eq_true rfl | (simp [headSpec, rm_X8_next]; omega) | omega), (by show _ ≤ _; first | exact Nat.le_of_ble_eq_true rfl | (simp [headSpec, rm_X8_next]; omega) | omega)⟩) dM_0 rfl rfl hl.1 rfl (Nat.le_of_ble_eq_true rfl) dX8_next_30 (fun H locs hP hS => ?_)
    cases hF
    exact wd_reti X hP hS rfl rfl dX8_next_33
  · have hF := if_e c_9 hF
    refine lv_aload_n hx hb dX8_next_14 rfl (lv_at hl 0 rfl) ?_
    refine wd_getr (q := 22) X hP 0 dM_0 rfl in_X8_next_X8 31 rfl (by decide) (by decide +kernel) dX8_next_15 ?_
    refine lv_bipush (v := (6 : Int32)) hx hb dX8_next_18 (by decide) ?_
    refine lv_iload_n hx hb dX8_next_20 rfl (lv_at hl 1 rfl) ?_
    refine lv_imul hx hb dX8_next_21 ?_
    refine lv_iload_n hx hb dX8_next_22 rfl (lv_at hl 2 rfl) ?_
    refine lv_iadd hx hb dX8_next_23 ?_
    obtain ⟨h_8, hF⟩ := gi_c hF
    refine wd_ild X hP 22 dM_22 h_8 dX8_next_24 ?_
    refine lv_goto (tgt := 33) hx hb dX8_next_25 (by decide) ?_
    cases hF
    exact wd_reti X hP hS rfl rfl dX8_next_33
/-! X8_trace (III)I -/
theorem in_X8_trace_X8 : ∀ w ∈ u_ws RX8 TX8 39, w ∈ wsX8_trace := by decide +kernel
set_option maxHeartbeats 4000000 in
set_option maxRecDepth 100000 in
theorem wb_X8_trace_61 {p : Program} {l : Launch} {e : Env} {s : State} {m : MethodId} {args : Array Value} {below : List Frame} {meth : Method} {c : Code} {D : va_G} {cA : Nat → ClassId} {ad : Nat → Nat} (X : wd_X p s m args meth c cX8_trace 6 wsX8_trace RX8 (some .int) D cA ad dsM.length) {r : Int32} {M' : Mem}  (x3 : Int32) (t0 : Int32) (M : Mem) (H : Heap) (locs : List Loc) (ls : Array Slot) (hF : B_X8_trace_61  x3 t0 M = some (r, M')) (hP : wd_P D cA ad dsM M H) (hS : va_S (wd_A ad dsM.length) s.heap H locs) (hl : lv_has ls 6 [(0, .ref (ad 0)), (3, .int x3)]) : W p l e (headSpec wsX8_trace rm_X8_trace).room s m args below meth c H locs 0 0 (MQ below (wm_Qi D cA ad dsM r M') args s 0 0 (wd_A ad dsM.length)) (F0 m 61 ls [.int t0]) := by
  have hx := X.1.1
  have hb := X.1.2.1
  have hts := X.1.2.2.2.2
  unfold B_X8_trace_61 at hF
  refine lv_istore (lv' := [(5, .int t0), (0, .ref (ad 0)), (3, .int x3)]) hx hb dX8_trace_61 hl (by decide) rfl (fun ls hl => ?_)
  refine lv_iload_n hx hb dX8_trace_63 rfl (lv_at hl 2 rfl) ?_
  refine lv_if_lt (tgt := 93) hx hb dX8_trace_64 (by decide) (fun c_4 => ?_) (fun c_4 => ?_)
  · have hF := if_t c_4 hF
    refine lv_iconst (v := (-1 : Int32)) hx hb dX8_trace_93 (by decide) ?_
    cases hF
    exact wd_reti X hP hS rfl rfl dX8_trace_94
  · have hF := if_e c_4 hF
    refine lv_iload_n hx hb dX8_trace_67 rfl (lv_at hl 2 rfl) ?_
    refine lv_aload_n hx hb dX8_trace_68 rfl (lv_at hl 1 rfl) ?_
    refine wd_getr (q := 23) X hP 0 dM_0 rfl in_X8_trace_X8 32 rfl (by decide) (by decide +kernel) dX8_trace_69 ?_
    refine lv_iload hx hb dX8_trace_72 (lv_at hl 0 rfl) ?_
    obtain ⟨h_1, hF⟩ := gi_c hF
    refine wd_ild X hP 23 dM_23 h_1 dX8_trace_74 ?_
    refine lv_icmp_ge (tgt := 93) hx hb dX8_trace_75 (by decide) (fun c_3 => ?_) (fun c_3 => ?_)
    · have hF := if_t c_3 hF
      refine lv_iconst (v := (-1 : Int32)) hx hb dX8_trace_93 (by decide) ?_
      cases hF
      exact wd_reti X hP hS rfl rfl dX8_trace_94
    · have hF := if_e c_3 hF
      refine lv_aload_n hx hb dX8_trace_78 rfl (lv_at hl 1 rfl) ?_
      refine wd_getr (q := 24) X hP 0 dM_0 rfl in_X8_trace_X8 33 rfl (by decide) (by decide +kernel) dX8_trace_79 ?_
      refine lv_bipush (v := (40 : Int32)) hx hb dX8_trace_82 (by decide) ?_
      refine lv_iload hx hb dX8_trace_84 (lv_at hl 0 rfl) ?_
      refine lv_imul hx hb dX8_trace_86 ?_
      refine lv_iload_n hx hb dX8_trace_87 rfl (lv_at hl 2 rfl) ?_
      refine lv_iadd hx hb dX8_trace_88 ?_
      obtain ⟨h_2, hF⟩ := gi_c hF
      refine wd_cld X hP 24 dM_24 h_2 dX8_trace_89 ?_
      refine lv_goto (tgt := 94) hx hb dX8_trace_90 (by decide) ?_
      cases hF
      exact wd_reti X hP hS rfl rfl dX8_trace_94
set_option maxHeartbeats 4000000 in
set_option maxRecDepth 100000 in
theorem wb_X8_trace_44 {p : Program} {l : Launch} {e : Env} {s : State} {m : MethodId} {args : Array Value} {below : List Frame} {meth : Method} {c : Code} {D : va_G} {cA : Nat → ClassId} {ad : Nat → Nat} (X : wd_X p s m args meth c cX8_trace 6 wsX8_trace RX8 (some .int) D cA ad dsM.length) {r : Int32} {M' : Mem}  (x1 : Int32) (x2 : Int32) (x3 : Int32) (x4 : Int32) (M : Mem) (H : Heap) (locs : List Loc) (ls : Array Slot) (hF : B_X8_trace_44  x1 x2 x3 x4 M = some (r, M')) (hP : wd_P D cA ad dsM M H) (hS : va_S (wd_A ad dsM.length) s.heap H locs) (hl : lv_has ls 6 [(0, .ref (ad 0)), (1, .int x1), (2, .int x2), (3, .int x3), (4, .int x4)]) : W p l e (headSpec wsX8_trace rm_X8_trace).room s m args below meth c H locs 0 0 (MQ below (wm_Qi D cA ad dsM r M') args s 0 0 (wd_A ad dsM.length)) (F0 m 44 ls []) := by
  have hx := X.1.1
  have hb := X.1.2.1
  have hts := X.1.2.2.2.2
  unfold B_X8_trace_44 at hF
  refine lv_iload hx hb dX8_trace_44 (lv_at hl 4 rfl) ?_
  refine lv_if_eq (tgt := 55) hx hb dX8_trace_46 (by decide) (fun c_1 => ?_) (fun c_1 => ?_)
  · have hF := if_t c_1 hF
    refine lv_bipush (v := (6 : Int32)) hx hb dX8_trace_55 (by decide) ?_
    refine lv_iload_n hx hb dX8_trace_57 rfl (lv_at hl 1 rfl) ?_
    refine lv_imul hx hb dX8_trace_58 ?_
    refine lv_iload_n hx hb dX8_trace_59 rfl (lv_at hl 2 rfl) ?_
    refine lv_iadd hx hb dX8_trace_60 ?_
    exact wb_X8_trace_61 X    x3 (((6 : Int32) * x1) + x2) M _ _ _ hF hP hS (lv_sub hl [0, 3] rfl)
  · have hF := if_e c_1 hF
    refine lv_sipush (v := (180 : Int32)) hx hb dX8_trace_49 (by decide) ?_
    refine lv_goto (tgt := 61) hx hb dX8_trace_52 (by decide) ?_
    exact wb_X8_trace_61 X    x3 (180 : Int32) M _ _ _ hF hP hS (lv_sub hl [0, 3] rfl)
set_option maxHeartbeats 4000000 in
set_option maxRecDepth 100000 in
theorem wb_X8_trace_26 {p : Program} {l : Launch} {e : Env} {s : State} {m : MethodId} {args : Array Value} {below : List Frame} {meth : Method} {c : Code} {D : va_G} {cA : Nat → ClassId} {ad : Nat → Nat} (X : wd_X p s m args meth c cX8_trace 6 wsX8_trace RX8 (some .int) D cA ad dsM.length) {r : Int32} {M' : Mem}  (x1 : Int32) (x2 : Int32) (x3 : Int32) (t0 : Int32) (M : Mem) (H : Heap) (locs : List Loc) (ls : Array Slot) (hF : B_X8_trace_26  x1 x2 x3 t0 M = some (r, M')) (hP : wd_P D cA ad dsM M H) (hS : va_S (wd_A ad dsM.length) s.heap H locs) (hl : lv_has ls 6 [(0, .ref (ad 0)), (1, .int x1), (2, .int x2), (3, .int x3)]) : W p l e (headSpec wsX8_trace rm_X8_trace).room s m args below meth c H locs 0 0 (MQ below (wm_Qi D cA ad dsM r M') args s 0 0 (wd_A ad dsM.length)) (F0 m 26 ls [.int t0]) := by
  have hx := X.1.1
  have hb := X.1.2.1
  have hts := X.1.2.2.2.2
  unfold B_X8_trace_26 at hF
  refine lv_istore (lv' := [(4, .int t0), (0, .ref (ad 0)), (1, .int x1), (2, .int x2), (3, .int x3)]) hx hb dX8_trace_26 hl (by decide) rfl (fun ls hl => ?_)
  refine lv_iload hx hb dX8_trace_28 (lv_at hl 0 rfl) ?_
  refine lv_if_ne (tgt := 44) hx hb dX8_trace_30 (by decide) (fun c_4 => ?_) (fun c_4 => ?_)
  · have hF := if_e c_4 hF
    exact wb_X8_trace_44 X    x1 x2 x3 t0 M _ _ _ hF hP hS (lv_sub hl [1, 2, 3, 4, 0] rfl)
  · have hF := if_t c_4 hF
    refine lv_aload_n hx hb dX8_trace_33 rfl (lv_at hl 1 rfl) ?_
    refine lv_iload_n hx hb dX8_trace_34 rfl (lv_at hl 2 rfl) ?_
    refine lv_iload_n hx hb dX8_trace_35 rfl (lv_at hl 3 rfl) ?_
    obtain ⟨r_1, hc_2, hF⟩ := bd_c hF
    refine wd_calli X hP hS [.int x1, .int x2] [] (c_X8_isIn l D cA ad X.2.2.2.2   x1 x2 M hc_2) (cwV 2 hts gX8_trace_X8_isIn rfl rfl rfl (by decide +kernel) ⟨(by show _ ≤ _; first | exact Nat.le_of_ble_eq_true rfl | (simp [headSpec, rm_X8_trace]; omega) | omega), (by show _ ≤ _; first | exact Nat.le_of_ble_eq_true rfl | (simp [headSpec, rm_X8_trace]; omega) | omega)⟩) dM_0 rfl rfl hl.1 rfl (Nat.le_of_ble_eq_true rfl) dX8_trace_36 (fun H locs hP hS => ?_)
    refine lv_if_ne (tgt := 44) hx hb dX8_trace_39 (by decide) (fun c_3 => ?_) (fun c_3 => ?_)
    · have hF := if_e c_3 hF
      exact wb_X8_trace_44 X    x1 x2 x3 t0 M _ _ _ hF hP hS (lv_sub hl [1, 2, 3, 4, 0] rfl)
    · have hF := if_t c_3 hF
      refine lv_iconst (v := (-1 : Int32)) hx hb dX8_trace_42 (by decide) ?_
      cases hF
      exact wd_reti X hP hS rfl rfl dX8_trace_43
set_option maxHeartbeats 4000000 in
set_option maxRecDepth 100000 in
theorem wb_X8_trace_25 {p : Program} {l : Launch} {e : Env} {s : State} {m : MethodId} {args : Array Value} {below : List Frame} {meth : Method} {c : Code} {D : va_G} {cA : Nat → ClassId} {ad : Nat → Nat} (X : wd_X p s m args meth c cX8_trace 6 wsX8_trace RX8 (some .int) D cA ad dsM.length) {r : Int32} {M' : Mem}  (x1 : Int32) (x2 : Int32) (x3 : Int32) (M : Mem) (H : Heap) (locs : List Loc) (ls : Array Slot) (hF : B_X8_trace_25  x1 x2 x3 M = some (r, M')) (hP : wd_P D cA ad dsM M H) (hS : va_S (wd_A ad dsM.length) s.heap H locs) (hl : lv_has ls 6 [(0, .ref (ad 0)), (1, .int x1), (2, .int x2), (3, .int x3)]) : W p l e (headSpec wsX8_trace rm_X8_trace).room s m args below meth c H locs 0 0 (MQ below (wm_Qi D cA ad dsM r M') args s 0 0 (wd_A ad dsM.length)) (F0 m 25 ls []) := by
  have hx := X.1.1
  have hb := X.1.2.1
  have hts := X.1.2.2.2.2
  unfold B_X8_trace_25 at hF
  refine lv_iconst (v := (0 : Int32)) hx hb dX8_trace_25 (by decide) ?_
  exact wb_X8_trace_26 X    x1 x2 x3 (0 : Int32) M _ _ _ hF hP hS (lv_sub hl [0, 1, 2, 3] rfl)
set_option maxHeartbeats 4000000 in
set_option maxRecDepth 100000 in
theorem c_X8_trace (l : Launch) (D : va_G) (cA : Nat → ClassId) (ad : Nat → Nat) (hj : wd_inj ad dsM.length)   (x1 : Int32) (x2 : Int32) (x3 : Int32) (M : Mem) {r : Int32} {M' : Mem} (hF : F_X8_trace x1 x2 x3 M = some (r, M')) : wm_i l yX8_trace wsX8_trace rm_X8_trace D cA ad dsM M [.ref (ad 0), .int x1, .int x2, .int x3] r M' := by
  refine Met.ofW (cc := cX8_trace) (maxL := 6) (ret := (some .int)) (by decide) rfl ?_
  intro p e s m args below meth c s₁ B hml hv
  obtain ⟨rfl, hP, hK⟩ := hv
  have X : wd_X p s m _ meth c cX8_trace 6 wsX8_trace RX8 (some .int) D cA ad dsM.length := ⟨⟨B.exec, B.bytes, hml, findClass_of_methodNamed B.named, atoms_spec (ws := wsX8_trace) B.pre⟩, hK, B.notSynchronized, B.returns, hj⟩
  have hl := lv_entry ([.ref (ad 0), .int x1, .int x2, .int x3]) (n := 6) (Nat.le_of_ble_eq_true rfl)
  rw [lg_entry_eq]
  generalize (lg_sl ([.ref (ad 0), .int x1, .int x2, .int x3]) ++ List.replicate (6 - (lg_sl ([.ref (ad 0), .int x1, .int x2, .int x3])).length) Slot.unset).toArray = ls at hl ⊢
  have hl : lv_has ls 6 [(0, .ref (ad 0)), (1, .int x1), (2, .int x2), (3, .int x3)] := hl
  have hS : va_S (wd_A ad dsM.length) s.heap s.heap [] := va_S.rf
  have hx := X.1.1
  have hb := X.1.2.1
  have hts := X.1.2.2.2.2
  unfold F_X8_trace at hF
  refine lv_aload_n hx hb dX8_trace_0 rfl (lv_at hl 0 rfl) ?_
  refine lv_iconst (v := (0 : Int32)) hx hb dX8_trace_1 (by decide) ?_
  obtain ⟨M_1, e_2, hF⟩ := wr_c hF
  refine wd_puti X hP hS 0 dM_0 rfl in_X8_trace_X8 tyX8_ok nmX8 0 rfl (by decide) rfl rfl (by decide +kernel) dX8_trace_2 (fun H locs hP hS => ?_)
  rw [← e_2] at hP
  refine lv_aload_n hx hb dX8_trace_5 rfl (lv_at hl 0 rfl) ?_
  refine wd_geti X hP 0 dM_0 rfl in_X8_trace_X8 27 rfl (by decide) (by decide +kernel) dX8_trace_6 ?_
  refine lv_if_le (tgt := 25) hx hb dX8_trace_9 (by decide) (fun c_5 => ?_) (fun c_5 => ?_)
  · have hF := if_t c_5 hF
    exact wb_X8_trace_25 X    x1 x2 x3 M_1 _ _ _ hF hP hS (lv_sub hl [0, 1, 2, 3] rfl)
  · have hF := if_e c_5 hF
    refine lv_iload_n hx hb dX8_trace_12 rfl (lv_at hl 1 rfl) ?_
    refine lv_if_ne (tgt := 25) hx hb dX8_trace_13 (by decide) (fun c_4 => ?_) (fun c_4 => ?_)
    · have hF := if_e c_4 hF
      exact wb_X8_trace_25 X    x1 x2 x3 M_1 _ _ _ hF hP hS (lv_sub hl [0, 1, 2, 3] rfl)
    · have hF := if_t c_4 hF
      refine lv_iload_n hx hb dX8_trace_16 rfl (lv_at hl 2 rfl) ?_
      refine lv_iconst (v := (-1 : Int32)) hx hb dX8_trace_17 (by decide) ?_
      refine lv_icmp_ne (tgt := 25) hx hb dX8_trace_18 (by decide) (fun c_3 => ?_) (fun c_3 => ?_)
      · have hF := if_e c_3 hF
        exact wb_X8_trace_25 X    x1 x2 x3 M_1 _ _ _ hF hP hS (lv_sub hl [0, 1, 2, 3] rfl)
      · have hF := if_t c_3 hF
        refine lv_iconst (v := (1 : Int32)) hx hb dX8_trace_21 (by decide) ?_
        refine lv_goto (tgt := 26) hx hb dX8_trace_22 (by decide) ?_
        exact wb_X8_trace_26 X    x1 x2 x3 (1 : Int32) M_1 _ _ _ hF hP hS (lv_sub hl [0, 1, 2, 3] rfl)
/-! X8_active (II)Z -/
theorem in_X8_active_X8 : ∀ w ∈ u_ws RX8 TX8 39, w ∈ wsX8_active := by decide +kernel
set_option maxHeartbeats 4000000 in
set_option maxRecDepth 100000 in
theorem wb_X8_active_33 {p : Program} {l : Launch} {e : Env} {s : State} {m : MethodId} {args : Array Value} {below : List Frame} {meth : Method} {c : Code} {D : va_G} {cA : Nat → ClassId} {ad : Nat → Nat} (X : wd_X p s m args meth c cX8_active 4 wsX8_active RX8 (some .boolean) D cA ad dsM.length) {kh33 : Int32 → Int32 → Int32 → Mem → Option (Int32 × Mem)} {r : Int32} {M' : Mem} (hk33 : ∀ (x1 : Int32) (x2 : Int32) (x3 : Int32) (M : Mem) (H : Heap) (locs : List Loc) (ls : Array Slot), kh33 x1 x2 x3 M = some (r, M') → wd_P D cA ad dsM M H → va_S (wd_A ad dsM.length) s.heap H locs → lv_has ls 4 [(0, .ref (ad 0)), (1, .int x1), (2, .int x2), (3, .int x3)] → W p l e (headSpec wsX8_active rm_X8_active).room s m args below meth c H locs 0 0 (MQ below (wm_Qi D cA ad dsM r M') args s 0 0 (wd_A ad dsM.length)) (F0 m 33 ls [])) (x1 : Int32) (x2 : Int32) (x3 : Int32) (M : Mem) (H : Heap) (locs : List Loc) (ls : Array Slot) (hF : B_X8_active_33 kh33 x1 x2 x3 M = some (r, M')) (hP : wd_P D cA ad dsM M H) (hS : va_S (wd_A ad dsM.length) s.heap H locs) (hl : lv_has ls 4 [(0, .ref (ad 0)), (1, .int x1), (2, .int x2), (3, .int x3)]) : W p l e (headSpec wsX8_active rm_X8_active).room s m args below meth c H locs 0 0 (MQ below (wm_Qi D cA ad dsM r M') args s 0 0 (wd_A ad dsM.length)) (F0 m 33 ls []) := by
  have hx := X.1.1
  have hb := X.1.2.1
  have hts := X.1.2.2.2.2
  unfold B_X8_active_33 at hF
  refine lv_iload_n hx hb dX8_active_33 rfl (lv_at hl 3 rfl) ?_
  refine lv_aload_n hx hb dX8_active_34 rfl (lv_at hl 0 rfl) ?_
  refine wd_geti X hP 0 dM_0 rfl in_X8_active_X8 6 rfl (by decide) (by decide +kernel) dX8_active_35 ?_
  refine lv_icmp_ge (tgt := 64) hx hb dX8_active_38 (by decide) (fun c_10 => ?_) (fun c_10 => ?_)
  · have hF := if_t c_10 hF
    refine lv_aload_n hx hb dX8_active_64 rfl (lv_at hl 0 rfl) ?_
    refine lv_iload_n hx hb dX8_active_65 rfl (lv_at hl 2 rfl) ?_
    obtain ⟨r_1, hc_2, hF⟩ := bd_c hF
    refine wd_calli X hP hS [.int x2] [] (c_X8_isActive l D cA ad X.2.2.2.2   x2 M hc_2) (cwV 1 hts gX8_active_X8_isActive rfl rfl rfl (by decide +kernel) ⟨(by show _ ≤ _; first | exact Nat.le_of_ble_eq_true rfl | (simp [headSpec, rm_X8_active]; omega) | omega), (by show _ ≤ _; first | exact Nat.le_of_ble_eq_true rfl | (simp [headSpec, rm_X8_active]; omega) | omega)⟩) dM_0 rfl rfl hl.1 rfl (Nat.le_of_ble_eq_true rfl) dX8_active_66 (fun H locs hP hS => ?_)
    obtain ⟨h_3, hF⟩ := gz_c hF
    cases hF
    exact wd_reti X hP hS rfl h_3 dX8_active_69
  · have hF := if_e c_10 hF
    refine lv_aload_n hx hb dX8_active_41 rfl (lv_at hl 0 rfl) ?_
    refine wd_getr (q := 19) X hP 0 dM_0 rfl in_X8_active_X8 24 rfl (by decide) (by decide +kernel) dX8_active_42 ?_
    refine lv_iload_n hx hb dX8_active_45 rfl (lv_at hl 3 rfl) ?_
    refine lv_aload_n hx hb dX8_active_46 rfl (lv_at hl 0 rfl) ?_
    refine wd_getr (q := 21) X hP 0 dM_0 rfl in_X8_active_X8 30 rfl (by decide) (by decide +kernel) dX8_active_47 ?_
    refine lv_bipush (v := (14 : Int32)) hx hb dX8_active_50 (by decide) ?_
    refine lv_iload_n hx hb dX8_active_52 rfl (lv_at hl 1 rfl) ?_
    refine lv_imul hx hb dX8_active_53 ?_
    refine lv_iload_n hx hb dX8_active_54 rfl (lv_at hl 3 rfl) ?_
    refine lv_iadd hx hb dX8_active_55 ?_
    obtain ⟨h_4, hF⟩ := gi_c hF
    refine wd_ild X hP 21 dM_21 h_4 dX8_active_56 ?_
    obtain ⟨h_5, hF⟩ := gi_c hF
    obtain ⟨M_6, e_7, hF⟩ := wr_c hF
    refine wd_ist X hP hS 19 dM_19 h_5 dX8_active_57 (fun H locs hP hS => ?_)
    rw [← e_7] at hP
    obtain ⟨x3_8, e_9, hF⟩ := nm_c hF
    refine lv_iinc (v := x3_8) (lv' := [(3, .int x3_8), (0, .ref (ad 0)), (1, .int x1), (2, .int x2)]) hx hb dX8_active_58 hl (k := 3) rfl (by rw [e_9]; rfl) (by decide) rfl (fun ls hl => ?_)
    refine lv_goto (tgt := 33) hx hb dX8_active_61 (by decide) ?_
    exact hk33 x1 x2 x3_8 M_6 _ _ _ hF hP hS (lv_sub hl [1, 2, 3, 0] rfl)
set_option maxHeartbeats 4000000 in
set_option maxRecDepth 100000 in
theorem wh_X8_active_33 {p : Program} {l : Launch} {e : Env} {s : State} {m : MethodId} {args : Array Value} {below : List Frame} {meth : Method} {c : Code} {D : va_G} {cA : Nat → ClassId} {ad : Nat → Nat} (X : wd_X p s m args meth c cX8_active 4 wsX8_active RX8 (some .boolean) D cA ad dsM.length) {r : Int32} {M' : Mem}  : ∀ (n : Nat) (x1 : Int32) (x2 : Int32) (x3 : Int32) (M : Mem) (H : Heap) (locs : List Loc) (ls : Array Slot), H_X8_active_33  n x1 x2 x3 M = some (r, M') → wd_P D cA ad dsM M H → va_S (wd_A ad dsM.length) s.heap H locs → lv_has ls 4 [(0, .ref (ad 0)), (1, .int x1), (2, .int x2), (3, .int x3)] → W p l e (headSpec wsX8_active rm_X8_active).room s m args below meth c H locs 0 0 (MQ below (wm_Qi D cA ad dsM r M') args s 0 0 (wd_A ad dsM.length)) (F0 m 33 ls []) := by
  intro n
  induction n with
  | zero => intro x1 x2 x3 M H locs ls hF; cases hF
  | succ n ih => intro x1 x2 x3 M H locs ls hF hP hS hl; exact wb_X8_active_33 X (kh33 := H_X8_active_33  n) ih x1 x2 x3 M H locs ls hF hP hS hl
set_option maxHeartbeats 4000000 in
set_option maxRecDepth 100000 in
theorem c_X8_active (l : Launch) (D : va_G) (cA : Nat → ClassId) (ad : Nat → Nat) (hj : wd_inj ad dsM.length)   (x1 : Int32) (x2 : Int32) (M : Mem) {r : Int32} {M' : Mem} (hF : F_X8_active x1 x2 M = some (r, M')) : wm_i l yX8_active wsX8_active rm_X8_active D cA ad dsM M [.ref (ad 0), .int x1, .int x2] r M' := by
  refine Met.ofW (cc := cX8_active) (maxL := 4) (ret := (some .boolean)) (by decide) rfl ?_
  intro p e s m args below meth c s₁ B hml hv
  obtain ⟨rfl, hP, hK⟩ := hv
  have X : wd_X p s m _ meth c cX8_active 4 wsX8_active RX8 (some .boolean) D cA ad dsM.length := ⟨⟨B.exec, B.bytes, hml, findClass_of_methodNamed B.named, atoms_spec (ws := wsX8_active) B.pre⟩, hK, B.notSynchronized, B.returns, hj⟩
  have hl := lv_entry ([.ref (ad 0), .int x1, .int x2]) (n := 4) (Nat.le_of_ble_eq_true rfl)
  rw [lg_entry_eq]
  generalize (lg_sl ([.ref (ad 0), .int x1, .int x2]) ++ List.replicate (4 - (lg_sl ([.ref (ad 0), .int x1, .int x2])).length) Slot.unset).toArray = ls at hl ⊢
  have hl : lv_has ls 4 [(0, .ref (ad 0)), (1, .int x1), (2, .int x2)] := hl
  have hS : va_S (wd_A ad dsM.length) s.heap s.heap [] := va_S.rf
  have hx := X.1.1
  have hb := X.1.2.1
  have hts := X.1.2.2.2.2
  unfold F_X8_active at hF
  refine lv_aload_n hx hb dX8_active_0 rfl (lv_at hl 0 rfl) ?_
  refine lv_iconst (v := (0 : Int32)) hx hb dX8_active_1 (by decide) ?_
  obtain ⟨M_1, e_2, hF⟩ := wr_c hF
  refine wd_puti X hP hS 0 dM_0 rfl in_X8_active_X8 tyX8_ok nmX8 0 rfl (by decide) rfl rfl (by decide +kernel) dX8_active_2 (fun H locs hP hS => ?_)
  rw [← e_2] at hP
  refine lv_iload_n hx hb dX8_active_5 rfl (lv_at hl 1 rfl) ?_
  refine lv_if_lt (tgt := 29) hx hb dX8_active_6 (by decide) (fun c_6 => ?_) (fun c_6 => ?_)
  · have hF := if_t c_6 hF
    refine lv_iconst (v := (0 : Int32)) hx hb dX8_active_29 (by decide) ?_
    cases hF
    exact wd_reti X hP hS rfl (by decide) dX8_active_30
  · have hF := if_e c_6 hF
    refine lv_iload_n hx hb dX8_active_9 rfl (lv_at hl 1 rfl) ?_
    refine lv_aload_n hx hb dX8_active_10 rfl (lv_at hl 0 rfl) ?_
    refine wd_geti X hP 0 dM_0 rfl in_X8_active_X8 27 rfl (by decide) (by decide +kernel) dX8_active_11 ?_
    refine lv_icmp_ge (tgt := 29) hx hb dX8_active_14 (by decide) (fun c_5 => ?_) (fun c_5 => ?_)
    · have hF := if_t c_5 hF
      refine lv_iconst (v := (0 : Int32)) hx hb dX8_active_29 (by decide) ?_
      cases hF
      exact wd_reti X hP hS rfl (by decide) dX8_active_30
    · have hF := if_e c_5 hF
      refine lv_iload_n hx hb dX8_active_17 rfl (lv_at hl 2 rfl) ?_
      refine lv_if_lt (tgt := 29) hx hb dX8_active_18 (by decide) (fun c_4 => ?_) (fun c_4 => ?_)
      · have hF := if_t c_4 hF
        refine lv_iconst (v := (0 : Int32)) hx hb dX8_active_29 (by decide) ?_
        cases hF
        exact wd_reti X hP hS rfl (by decide) dX8_active_30
      · have hF := if_e c_4 hF
        refine lv_iload_n hx hb dX8_active_21 rfl (lv_at hl 2 rfl) ?_
        refine lv_aload_n hx hb dX8_active_22 rfl (lv_at hl 0 rfl) ?_
        refine wd_geti X hP 0 dM_0 rfl in_X8_active_X8 6 rfl (by decide) (by decide +kernel) dX8_active_23 ?_
        refine lv_icmp_lt (tgt := 31) hx hb dX8_active_26 (by decide) (fun c_3 => ?_) (fun c_3 => ?_)
        · have hF := if_t c_3 hF
          refine lv_iconst (v := (0 : Int32)) hx hb dX8_active_31 (by decide) ?_
          refine lv_istore_n (lv' := [(3, .int (0 : Int32)), (0, .ref (ad 0)), (1, .int x1), (2, .int x2)]) hx hb dX8_active_32 rfl hl (by decide) rfl (fun ls hl => ?_)
          exact wh_X8_active_33 X    100 x1 x2 (0 : Int32) M_1 _ _ _ hF hP hS (lv_sub hl [1, 2, 3, 0] rfl)
        · have hF := if_e c_3 hF
          refine lv_iconst (v := (0 : Int32)) hx hb dX8_active_29 (by decide) ?_
          cases hF
          exact wd_reti X hP hS rfl (by decide) dX8_active_30
