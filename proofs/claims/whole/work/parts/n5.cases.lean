/-! The twelve calls of the law. -/
section CASES
variable {p : Program} {e : Env} {s : State} {m : MethodId} {below : List Frame} {meth : Method} {c : Code} {H : Heap} {locs : List Loc} {cells slots : Nat} {Q : State → Prop}
variable {ls : Array Slot} {D : va_G} {cA : Nat → ClassId} {ad bd : Nat → Nat} {M N : Mem} {adK adV adT : Nat → Nat} {cL : ClassId} {o b L i : Nat} {f : Nat → Int64} {xs : Nat → Int32}
def LVs (b : Nat) (ad bd : Nat → Nat) (o i : Nat) : List (Nat × Value) := [(0, .ref b), (1, .ref (ad 0)), (2, .ref (bd 0)), (3, .ref o), (4, .int (nI i))]
set_option maxHeartbeats 4000000 in
theorem k_write (l : Launch) (hlt : l.stackTraces = false) (S : CallFix p m c cL_law 7 s #[Value.ref b] wsN_law RL) (F : LFx s D cA cL ad bd o adK adV adT) (hX : va_X b L xs s s.heap) (hbl : b < s.heap.size) (hL : L ≤ 2048) (hi : i + 3 < L) (hRel : Rel M N) (h : LT s D cA cL ad bd o M N f H locs) (hl : lv_has ls 7 (LVs b ad bd o i)) (hR : cells + 1 ≤ 601024 ∧ slots + 6 ≤ 7293034)
    (kk : ∀ (M1 N1 : Mem) (f1 : Nat → Int64) (H1 : Heap) (locs1 : List Loc) (ls1 : Array Slot), Rel M1 N1 → LT s D cA cL ad bd o M1 N1 f1 H1 locs1 → lv_has ls1 7 (LVs b ad bd o i) → W p l e room_1 s m #[Value.ref b] below meth c H1 locs1 (cells + 1) (slots + 6) Q (F0 m 557 ls1 [])) : W p l e room_1 s m #[Value.ref b] below meth c H locs cells slots Q (F0 m 100 ls []) := by
  obtain ⟨hx, hb, -, hown, hts⟩ := id S
  have hl : lv_has ls 7 [(0, .ref b), (1, .ref (ad 0)), (2, .ref (bd 0)), (3, .ref o), (4, .int (nI i))] := hl
  have hR0 : cells ≤ room_1.cells ∧ slots ≤ room_1.slots := ⟨by show cells ≤ 601024; omega, by show slots ≤ 7293034; omega⟩
  have hR1 : cells + 1 ≤ room_1.cells ∧ slots + 6 ≤ room_1.slots := hR
  have jC := F.2.2.2.2.1.1
  have jM := F.2.2.2.2.1.2
  have nA := F.2.2.2.2.2.1.2.1
  obtain ⟨r, M1, N1, h1, h2, h3⟩ := p_write (((xs (i + 1)).toUInt32 % 65536).toInt32) hRel
  refine lv_aload_n hx hb dL_law_100 rfl (lv_at hl 1 rfl) ?_
  refine lk_arg hx hb hX hbl h hL (lv_at hl 0 rfl) (lv_at hl 4 rfl) 1 (by omega) (by decide) dL_law_101 dL_law_102 dL_law_104 dL_law_105 dL_law_106 ?_
  refine lv_i2c hx hb dL_law_107 rfl ?_
  refine lc_i S F h [.int ((xs (i + 1)).toUInt32 % 65536).toInt32] [] (c_X7_write l D cA ad jC (((xs (i + 1)).toUInt32 % 65536).toInt32) M h1) (cwV 1 hts gL_law_X7_write rfl rfl rfl (by decide +kernel) ⟨(by show _ ≤ _; first | exact Nat.le_of_ble_eq_true rfl | omega), (by show _ ≤ _; first | exact Nat.le_of_ble_eq_true rfl | omega)⟩) rfl hl.1 rfl (Nat.le_of_ble_eq_true rfl) dL_law_108 hR0 (fun H locs h => ?_)
  refine lv_aload_n hx hb dL_law_111 rfl (lv_at hl 2 rfl) ?_
  refine lk_arg hx hb hX hbl h hL (lv_at hl 0 rfl) (lv_at hl 4 rfl) 1 (by omega) (by decide) dL_law_112 dL_law_113 dL_law_115 dL_law_116 dL_law_117 ?_
  refine lv_i2c hx hb dL_law_118 rfl ?_
  refine lc_m S F h [.int ((xs (i + 1)).toUInt32 % 65536).toInt32] [.int r] (c_X8_write l D cA bd jM (((xs (i + 1)).toUInt32 % 65536).toInt32) N h2) (cwV 1 hts gL_law_X8_write rfl rfl rfl (by decide +kernel) ⟨(by show _ ≤ _; first | exact Nat.le_of_ble_eq_true rfl | omega), (by show _ ≤ _; first | exact Nat.le_of_ble_eq_true rfl | omega)⟩) rfl hl.1 rfl (Nat.le_of_ble_eq_true rfl) dL_law_119 hR0 (fun H locs h => ?_)
  refine lv_icmp_eq (tgt := 557) hx hb dL_law_122 (by decide) (fun _ => ?_) (fun c9 => absurd rfl c9)
  refine W.widen (k := cells + 1) (n := slots + 6) (by omega) (by omega) ?_
  exact kk _ _ _ _ _ _ h3 h hl
set_option maxHeartbeats 4000000 in
theorem k_line (l : Launch) (hlt : l.stackTraces = false) (S : CallFix p m c cL_law 7 s #[Value.ref b] wsN_law RL) (F : LFx s D cA cL ad bd o adK adV adT) (hX : va_X b L xs s s.heap) (hbl : b < s.heap.size) (hL : L ≤ 2048) (hi : i + 3 < L) (hRel : Rel M N) (h : LT s D cA cL ad bd o M N f H locs) (hl : lv_has ls 7 (LVs b ad bd o i)) (hR : cells + 1 ≤ 601024 ∧ slots + 6 ≤ 7293034)
    (kk : ∀ (M1 N1 : Mem) (f1 : Nat → Int64) (H1 : Heap) (locs1 : List Loc) (ls1 : Array Slot), Rel M1 N1 → LT s D cA cL ad bd o M1 N1 f1 H1 locs1 → lv_has ls1 7 (LVs b ad bd o i) → W p l e room_1 s m #[Value.ref b] below meth c H1 locs1 (cells + 1) (slots + 6) Q (F0 m 557 ls1 [])) : W p l e room_1 s m #[Value.ref b] below meth c H locs cells slots Q (F0 m 127 ls []) := by
  obtain ⟨hx, hb, -, hown, hts⟩ := id S
  have hl : lv_has ls 7 [(0, .ref b), (1, .ref (ad 0)), (2, .ref (bd 0)), (3, .ref o), (4, .int (nI i))] := hl
  have hR0 : cells ≤ room_1.cells ∧ slots ≤ room_1.slots := ⟨by show cells ≤ 601024; omega, by show slots ≤ 7293034; omega⟩
  have hR1 : cells + 1 ≤ room_1.cells ∧ slots + 6 ≤ room_1.slots := hR
  have jC := F.2.2.2.2.1.1
  have jM := F.2.2.2.2.1.2
  have nA := F.2.2.2.2.2.1.2.1
  obtain ⟨r, M1, b9, N1, h1, h2, h3, h4⟩ := s_line l hlt D cA ad jC cL o nA adK adV adT  f hRel
  refine lv_aload_n hx hb dL_law_127 rfl (lv_at hl 1 rfl) ?_
  refine lv_aload_n hx hb dL_law_128 rfl (lv_at hl 3 rfl) ?_
  refine lc_l S F h [.ref (ad 0), .ref o] [] h1 (vx_cwSW 2 hts gL_law_L_line rfl rfl rfl (by decide +kernel) ⟨(by show _ ≤ _; first | exact Nat.le_of_ble_eq_true rfl | omega), (by show _ ≤ _; first | exact Nat.le_of_ble_eq_true rfl | omega)⟩) rfl hl.1 rfl (Nat.le_of_ble_eq_true rfl) dL_law_129 hR1 (fun f1 H locs hf h => ?_)
  refine lv_istore (lv' := [(5, .int r), (0, .ref b), (1, .ref (ad 0)), (2, .ref (bd 0)), (3, .ref o), (4, .int (nI i))]) hx hb dL_law_132 hl (by decide) rfl (fun ls hl => ?_)
  refine lv_aload_n hx hb dL_law_134 rfl (lv_at hl 3 rfl) ?_
  refine lc_m S F h [] [] (c_X8_line l D cA bd jM  N h2) (cwV 0 hts gL_law_X8_line rfl rfl rfl (by decide +kernel) ⟨(by show _ ≤ _; first | exact Nat.le_of_ble_eq_true rfl | omega), (by show _ ≤ _; first | exact Nat.le_of_ble_eq_true rfl | omega)⟩) rfl hl.1 rfl (Nat.le_of_ble_eq_true rfl) dL_law_135 hR1 (fun H locs h => ?_)
  refine lv_istore (lv' := [(6, .int b9), (5, .int r), (0, .ref b), (1, .ref (ad 0)), (2, .ref (bd 0)), (3, .ref o), (4, .int (nI i))]) hx hb dL_law_138 hl (by decide) rfl (fun ls hl => ?_)
  refine lv_aload_n hx hb dL_law_140 rfl (lv_at hl 4 rfl) ?_
  refine lc_m S F h [] [] (c_X8_thrown l D cA bd jM N1 (r := N1 0 0) rfl) (cwV 0 hts gL_law_X8_thrown rfl rfl rfl (by decide +kernel) ⟨(by show _ ≤ _; first | exact Nat.le_of_ble_eq_true rfl | omega), (by show _ ≤ _; first | exact Nat.le_of_ble_eq_true rfl | omega)⟩) rfl hl.1 rfl (Nat.le_of_ble_eq_true rfl) dL_law_141 hR1 (fun H locs h => ?_)
  refine lv_iload hx hb dL_law_144 (lv_at hl 1 rfl) ?_
  refine lv_icmp_eq (tgt := 151) hx hb dL_law_146 (by decide) (fun _ => ?_) (fun c9 => absurd h3 c9)
  refine lv_iload hx hb dL_law_151 (lv_at hl 1 rfl) ?_
  refine lv_if_ne (tgt := 168) hx hb dL_law_153 (by decide) (fun c8 => ?_) (fun c8 => ?_)
  · refine lv_goto (tgt := 557) hx hb dL_law_168 (by decide) ?_
    exact kk _ _ _ _ _ _ h4 h (lv_sub hl [2, 3, 4, 5, 6] rfl)
  · refine lv_aload_n hx hb dL_law_156 rfl (lv_at hl 5 rfl) ?_
    refine lv_iconst (v := (0 : Int32)) hx hb dL_law_157 (by decide) ?_
    refine ld_load hx hb F.2.1 h.2.2.1 dL_law_158 ?_
    refine lv_iload hx hb dL_law_159 (lv_at hl 0 rfl) ?_
    refine lv_i2l hx hb dL_law_161 rfl ?_
    refine W.lcmp hx hb dL_law_162 ?_
    refine lv_if_eq (tgt := 168) hx hb dL_law_163 (by decide) (fun _ => ?_) (fun c9 => absurd ((lg_cmp_eq _ _).mpr (hf c8)) c9)
    refine lv_goto (tgt := 557) hx hb dL_law_168 (by decide) ?_
    exact kk _ _ _ _ _ _ h4 h (lv_sub hl [2, 3, 4, 5, 6] rfl)
set_option maxHeartbeats 4000000 in
theorem k_compile (l : Launch) (hlt : l.stackTraces = false) (S : CallFix p m c cL_law 7 s #[Value.ref b] wsN_law RL) (F : LFx s D cA cL ad bd o adK adV adT) (hX : va_X b L xs s s.heap) (hbl : b < s.heap.size) (hL : L ≤ 2048) (hi : i + 3 < L) (hRel : Rel M N) (h : LT s D cA cL ad bd o M N f H locs) (hl : lv_has ls 7 (LVs b ad bd o i)) (hR : cells + 1 ≤ 601024 ∧ slots + 6 ≤ 7293034)
    (kk : ∀ (M1 N1 : Mem) (f1 : Nat → Int64) (H1 : Heap) (locs1 : List Loc) (ls1 : Array Slot), Rel M1 N1 → LT s D cA cL ad bd o M1 N1 f1 H1 locs1 → lv_has ls1 7 (LVs b ad bd o i) → W p l e room_1 s m #[Value.ref b] below meth c H1 locs1 (cells + 1) (slots + 6) Q (F0 m 557 ls1 [])) : W p l e room_1 s m #[Value.ref b] below meth c H locs cells slots Q (F0 m 171 ls []) := by
  obtain ⟨hx, hb, -, hown, hts⟩ := id S
  have hl : lv_has ls 7 [(0, .ref b), (1, .ref (ad 0)), (2, .ref (bd 0)), (3, .ref o), (4, .int (nI i))] := hl
  have hR0 : cells ≤ room_1.cells ∧ slots ≤ room_1.slots := ⟨by show cells ≤ 601024; omega, by show slots ≤ 7293034; omega⟩
  have hR1 : cells + 1 ≤ room_1.cells ∧ slots + 6 ≤ room_1.slots := hR
  have jC := F.2.2.2.2.1.1
  have jM := F.2.2.2.2.1.2
  have nA := F.2.2.2.2.2.1.2.1
  obtain ⟨r, M1, b9, N1, h1, h2, h3, h4⟩ := s_compile l hlt D cA ad jC cL o nA adK adV adT  f hRel
  refine lv_aload_n hx hb dL_law_171 rfl (lv_at hl 1 rfl) ?_
  refine lv_aload_n hx hb dL_law_172 rfl (lv_at hl 3 rfl) ?_
  refine lc_l S F h [.ref (ad 0), .ref o] [] h1 (vx_cwSW 2 hts gL_law_L_compile rfl rfl rfl (by decide +kernel) ⟨(by show _ ≤ _; first | exact Nat.le_of_ble_eq_true rfl | omega), (by show _ ≤ _; first | exact Nat.le_of_ble_eq_true rfl | omega)⟩) rfl hl.1 rfl (Nat.le_of_ble_eq_true rfl) dL_law_173 hR1 (fun f1 H locs hf h => ?_)
  refine lv_istore (lv' := [(5, .int r), (0, .ref b), (1, .ref (ad 0)), (2, .ref (bd 0)), (3, .ref o), (4, .int (nI i))]) hx hb dL_law_176 hl (by decide) rfl (fun ls hl => ?_)
  refine lv_aload_n hx hb dL_law_178 rfl (lv_at hl 3 rfl) ?_
  refine lc_m S F h [] [] (c_X8_compile l D cA bd jM  N h2) (cwV 0 hts gL_law_X8_compile rfl rfl rfl (by decide +kernel) ⟨(by show _ ≤ _; first | exact Nat.le_of_ble_eq_true rfl | omega), (by show _ ≤ _; first | exact Nat.le_of_ble_eq_true rfl | omega)⟩) rfl hl.1 rfl (Nat.le_of_ble_eq_true rfl) dL_law_179 hR1 (fun H locs h => ?_)
  refine lv_istore (lv' := [(6, .int b9), (5, .int r), (0, .ref b), (1, .ref (ad 0)), (2, .ref (bd 0)), (3, .ref o), (4, .int (nI i))]) hx hb dL_law_182 hl (by decide) rfl (fun ls hl => ?_)
  refine lv_aload_n hx hb dL_law_184 rfl (lv_at hl 4 rfl) ?_
  refine lc_m S F h [] [] (c_X8_thrown l D cA bd jM N1 (r := N1 0 0) rfl) (cwV 0 hts gL_law_X8_thrown rfl rfl rfl (by decide +kernel) ⟨(by show _ ≤ _; first | exact Nat.le_of_ble_eq_true rfl | omega), (by show _ ≤ _; first | exact Nat.le_of_ble_eq_true rfl | omega)⟩) rfl hl.1 rfl (Nat.le_of_ble_eq_true rfl) dL_law_185 hR1 (fun H locs h => ?_)
  refine lv_iload hx hb dL_law_188 (lv_at hl 1 rfl) ?_
  refine lv_icmp_eq (tgt := 195) hx hb dL_law_190 (by decide) (fun _ => ?_) (fun c9 => absurd h3 c9)
  refine lv_iload hx hb dL_law_195 (lv_at hl 1 rfl) ?_
  refine lv_if_ne (tgt := 212) hx hb dL_law_197 (by decide) (fun c8 => ?_) (fun c8 => ?_)
  · refine lv_goto (tgt := 557) hx hb dL_law_212 (by decide) ?_
    exact kk _ _ _ _ _ _ h4 h (lv_sub hl [2, 3, 4, 5, 6] rfl)
  · refine lv_aload_n hx hb dL_law_200 rfl (lv_at hl 5 rfl) ?_
    refine lv_iconst (v := (0 : Int32)) hx hb dL_law_201 (by decide) ?_
    refine ld_load hx hb F.2.1 h.2.2.1 dL_law_202 ?_
    refine lv_iload hx hb dL_law_203 (lv_at hl 0 rfl) ?_
    refine lv_i2l hx hb dL_law_205 rfl ?_
    refine W.lcmp hx hb dL_law_206 ?_
    refine lv_if_eq (tgt := 212) hx hb dL_law_207 (by decide) (fun _ => ?_) (fun c9 => absurd ((lg_cmp_eq _ _).mpr (hf c8)) c9)
    refine lv_goto (tgt := 557) hx hb dL_law_212 (by decide) ?_
    exact kk _ _ _ _ _ _ h4 h (lv_sub hl [2, 3, 4, 5, 6] rfl)
set_option maxHeartbeats 4000000 in
theorem k_configurations (l : Launch) (hlt : l.stackTraces = false) (S : CallFix p m c cL_law 7 s #[Value.ref b] wsN_law RL) (F : LFx s D cA cL ad bd o adK adV adT) (hX : va_X b L xs s s.heap) (hbl : b < s.heap.size) (hL : L ≤ 2048) (hi : i + 3 < L) (hRel : Rel M N) (h : LT s D cA cL ad bd o M N f H locs) (hl : lv_has ls 7 (LVs b ad bd o i)) (hR : cells + 1 ≤ 601024 ∧ slots + 6 ≤ 7293034)
    (kk : ∀ (M1 N1 : Mem) (f1 : Nat → Int64) (H1 : Heap) (locs1 : List Loc) (ls1 : Array Slot), Rel M1 N1 → LT s D cA cL ad bd o M1 N1 f1 H1 locs1 → lv_has ls1 7 (LVs b ad bd o i) → W p l e room_1 s m #[Value.ref b] below meth c H1 locs1 (cells + 1) (slots + 6) Q (F0 m 557 ls1 [])) : W p l e room_1 s m #[Value.ref b] below meth c H locs cells slots Q (F0 m 215 ls []) := by
  obtain ⟨hx, hb, -, hown, hts⟩ := id S
  have hl : lv_has ls 7 [(0, .ref b), (1, .ref (ad 0)), (2, .ref (bd 0)), (3, .ref o), (4, .int (nI i))] := hl
  have hR0 : cells ≤ room_1.cells ∧ slots ≤ room_1.slots := ⟨by show cells ≤ 601024; omega, by show slots ≤ 7293034; omega⟩
  have hR1 : cells + 1 ≤ room_1.cells ∧ slots + 6 ≤ room_1.slots := hR
  have jC := F.2.2.2.2.1.1
  have jM := F.2.2.2.2.1.2
  have nA := F.2.2.2.2.2.1.2.1
  obtain ⟨r, N1, h1, h2, h3⟩ := p_configurations  hRel
  refine lv_aload_n hx hb dL_law_215 rfl (lv_at hl 1 rfl) ?_
  refine lc_i S F h [] [] (c_X7_configurations l D cA ad jC  M h1) (cwV 0 hts gL_law_X7_configurations rfl rfl rfl (by decide +kernel) ⟨(by show _ ≤ _; first | exact Nat.le_of_ble_eq_true rfl | omega), (by show _ ≤ _; first | exact Nat.le_of_ble_eq_true rfl | omega)⟩) rfl hl.1 rfl (Nat.le_of_ble_eq_true rfl) dL_law_216 hR0 (fun H locs h => ?_)
  refine lv_aload_n hx hb dL_law_219 rfl (lv_at hl 2 rfl) ?_
  refine lc_m S F h [] [.int r] (c_X8_configurations l D cA bd jM  N h2) (cwV 0 hts gL_law_X8_configurations rfl rfl rfl (by decide +kernel) ⟨(by show _ ≤ _; first | exact Nat.le_of_ble_eq_true rfl | omega), (by show _ ≤ _; first | exact Nat.le_of_ble_eq_true rfl | omega)⟩) rfl hl.1 rfl (Nat.le_of_ble_eq_true rfl) dL_law_220 hR0 (fun H locs h => ?_)
  refine lv_icmp_eq (tgt := 557) hx hb dL_law_223 (by decide) (fun _ => ?_) (fun c9 => absurd rfl c9)
  refine W.widen (k := cells + 1) (n := slots + 6) (by omega) (by omega) ?_
  exact kk _ _ _ _ _ _ h3 h hl
set_option maxHeartbeats 4000000 in
theorem k_count (l : Launch) (hlt : l.stackTraces = false) (S : CallFix p m c cL_law 7 s #[Value.ref b] wsN_law RL) (F : LFx s D cA cL ad bd o adK adV adT) (hX : va_X b L xs s s.heap) (hbl : b < s.heap.size) (hL : L ≤ 2048) (hi : i + 3 < L) (hRel : Rel M N) (h : LT s D cA cL ad bd o M N f H locs) (hl : lv_has ls 7 (LVs b ad bd o i)) (hR : cells + 1 ≤ 601024 ∧ slots + 6 ≤ 7293034)
    (kk : ∀ (M1 N1 : Mem) (f1 : Nat → Int64) (H1 : Heap) (locs1 : List Loc) (ls1 : Array Slot), Rel M1 N1 → LT s D cA cL ad bd o M1 N1 f1 H1 locs1 → lv_has ls1 7 (LVs b ad bd o i) → W p l e room_1 s m #[Value.ref b] below meth c H1 locs1 (cells + 1) (slots + 6) Q (F0 m 557 ls1 [])) : W p l e room_1 s m #[Value.ref b] below meth c H locs cells slots Q (F0 m 228 ls []) := by
  obtain ⟨hx, hb, -, hown, hts⟩ := id S
  have hl : lv_has ls 7 [(0, .ref b), (1, .ref (ad 0)), (2, .ref (bd 0)), (3, .ref o), (4, .int (nI i))] := hl
  have hR0 : cells ≤ room_1.cells ∧ slots ≤ room_1.slots := ⟨by show cells ≤ 601024; omega, by show slots ≤ 7293034; omega⟩
  have hR1 : cells + 1 ≤ room_1.cells ∧ slots + 6 ≤ room_1.slots := hR
  have jC := F.2.2.2.2.1.1
  have jM := F.2.2.2.2.1.2
  have nA := F.2.2.2.2.2.1.2.1
  obtain ⟨r, N1, h1, h2, h3⟩ := p_count (xs (i + 1)) hRel
  refine lv_aload_n hx hb dL_law_228 rfl (lv_at hl 1 rfl) ?_
  refine lk_arg hx hb hX hbl h hL (lv_at hl 0 rfl) (lv_at hl 4 rfl) 1 (by omega) (by decide) dL_law_229 dL_law_230 dL_law_232 dL_law_233 dL_law_234 ?_
  refine lc_i S F h [.int (xs (i + 1))] [] (c_X7_count l D cA ad jC (xs (i + 1)) M h1) (cwV 1 hts gL_law_X7_count rfl rfl rfl (by decide +kernel) ⟨(by show _ ≤ _; first | exact Nat.le_of_ble_eq_true rfl | omega), (by show _ ≤ _; first | exact Nat.le_of_ble_eq_true rfl | omega)⟩) rfl hl.1 rfl (Nat.le_of_ble_eq_true rfl) dL_law_235 hR0 (fun H locs h => ?_)
  refine lv_aload_n hx hb dL_law_238 rfl (lv_at hl 2 rfl) ?_
  refine lk_arg hx hb hX hbl h hL (lv_at hl 0 rfl) (lv_at hl 4 rfl) 1 (by omega) (by decide) dL_law_239 dL_law_240 dL_law_242 dL_law_243 dL_law_244 ?_
  refine lc_m S F h [.int (xs (i + 1))] [.int r] (c_X8_count l D cA bd jM (xs (i + 1)) N h2) (cwV 1 hts gL_law_X8_count rfl rfl rfl (by decide +kernel) ⟨(by show _ ≤ _; first | exact Nat.le_of_ble_eq_true rfl | omega), (by show _ ≤ _; first | exact Nat.le_of_ble_eq_true rfl | omega)⟩) rfl hl.1 rfl (Nat.le_of_ble_eq_true rfl) dL_law_245 hR0 (fun H locs h => ?_)
  refine lv_icmp_eq (tgt := 557) hx hb dL_law_248 (by decide) (fun _ => ?_) (fun c9 => absurd rfl c9)
  refine W.widen (k := cells + 1) (n := slots + 6) (by omega) (by omega) ?_
  exact kk _ _ _ _ _ _ h3 h hl
set_option maxHeartbeats 4000000 in
theorem k_named (l : Launch) (hlt : l.stackTraces = false) (S : CallFix p m c cL_law 7 s #[Value.ref b] wsN_law RL) (F : LFx s D cA cL ad bd o adK adV adT) (hX : va_X b L xs s s.heap) (hbl : b < s.heap.size) (hL : L ≤ 2048) (hi : i + 3 < L) (hRel : Rel M N) (h : LT s D cA cL ad bd o M N f H locs) (hl : lv_has ls 7 (LVs b ad bd o i)) (hR : cells + 1 ≤ 601024 ∧ slots + 6 ≤ 7293034)
    (kk : ∀ (M1 N1 : Mem) (f1 : Nat → Int64) (H1 : Heap) (locs1 : List Loc) (ls1 : Array Slot), Rel M1 N1 → LT s D cA cL ad bd o M1 N1 f1 H1 locs1 → lv_has ls1 7 (LVs b ad bd o i) → W p l e room_1 s m #[Value.ref b] below meth c H1 locs1 (cells + 1) (slots + 6) Q (F0 m 557 ls1 [])) : W p l e room_1 s m #[Value.ref b] below meth c H locs cells slots Q (F0 m 253 ls []) := by
  obtain ⟨hx, hb, -, hown, hts⟩ := id S
  have hl : lv_has ls 7 [(0, .ref b), (1, .ref (ad 0)), (2, .ref (bd 0)), (3, .ref o), (4, .int (nI i))] := hl
  have hR0 : cells ≤ room_1.cells ∧ slots ≤ room_1.slots := ⟨by show cells ≤ 601024; omega, by show slots ≤ 7293034; omega⟩
  have hR1 : cells + 1 ≤ room_1.cells ∧ slots + 6 ≤ room_1.slots := hR
  have jC := F.2.2.2.2.1.1
  have jM := F.2.2.2.2.1.2
  have nA := F.2.2.2.2.2.1.2.1
  obtain ⟨r, M1, b9, N1, h1, h2, h3, h4⟩ := s_named l hlt D cA ad jC cL o nA adK adV adT  f hRel
  refine lv_aload_n hx hb dL_law_253 rfl (lv_at hl 1 rfl) ?_
  refine lv_aload_n hx hb dL_law_254 rfl (lv_at hl 3 rfl) ?_
  refine lc_l S F h [.ref (ad 0), .ref o] [] h1 (vx_cwSW 2 hts gL_law_L_named rfl rfl rfl (by decide +kernel) ⟨(by show _ ≤ _; first | exact Nat.le_of_ble_eq_true rfl | omega), (by show _ ≤ _; first | exact Nat.le_of_ble_eq_true rfl | omega)⟩) rfl hl.1 rfl (Nat.le_of_ble_eq_true rfl) dL_law_255 hR1 (fun f1 H locs hf h => ?_)
  refine lv_istore (lv' := [(5, .int r), (0, .ref b), (1, .ref (ad 0)), (2, .ref (bd 0)), (3, .ref o), (4, .int (nI i))]) hx hb dL_law_258 hl (by decide) rfl (fun ls hl => ?_)
  refine lv_aload_n hx hb dL_law_260 rfl (lv_at hl 3 rfl) ?_
  refine lc_m S F h [] [] (c_X8_named l D cA bd jM  N h2) (cwV 0 hts gL_law_X8_named rfl rfl rfl (by decide +kernel) ⟨(by show _ ≤ _; first | exact Nat.le_of_ble_eq_true rfl | omega), (by show _ ≤ _; first | exact Nat.le_of_ble_eq_true rfl | omega)⟩) rfl hl.1 rfl (Nat.le_of_ble_eq_true rfl) dL_law_261 hR1 (fun H locs h => ?_)
  refine lv_istore (lv' := [(6, .int b9), (5, .int r), (0, .ref b), (1, .ref (ad 0)), (2, .ref (bd 0)), (3, .ref o), (4, .int (nI i))]) hx hb dL_law_264 hl (by decide) rfl (fun ls hl => ?_)
  refine lv_aload_n hx hb dL_law_266 rfl (lv_at hl 4 rfl) ?_
  refine lc_m S F h [] [] (c_X8_thrown l D cA bd jM N1 (r := N1 0 0) rfl) (cwV 0 hts gL_law_X8_thrown rfl rfl rfl (by decide +kernel) ⟨(by show _ ≤ _; first | exact Nat.le_of_ble_eq_true rfl | omega), (by show _ ≤ _; first | exact Nat.le_of_ble_eq_true rfl | omega)⟩) rfl hl.1 rfl (Nat.le_of_ble_eq_true rfl) dL_law_267 hR1 (fun H locs h => ?_)
  refine lv_iload hx hb dL_law_270 (lv_at hl 1 rfl) ?_
  refine lv_icmp_eq (tgt := 277) hx hb dL_law_272 (by decide) (fun _ => ?_) (fun c9 => absurd h3 c9)
  refine lv_iload hx hb dL_law_277 (lv_at hl 1 rfl) ?_
  refine lv_if_ne (tgt := 294) hx hb dL_law_279 (by decide) (fun c8 => ?_) (fun c8 => ?_)
  · refine lv_goto (tgt := 557) hx hb dL_law_294 (by decide) ?_
    exact kk _ _ _ _ _ _ h4 h (lv_sub hl [2, 3, 4, 5, 6] rfl)
  · refine lv_aload_n hx hb dL_law_282 rfl (lv_at hl 5 rfl) ?_
    refine lv_iconst (v := (0 : Int32)) hx hb dL_law_283 (by decide) ?_
    refine ld_load hx hb F.2.1 h.2.2.1 dL_law_284 ?_
    refine lv_iload hx hb dL_law_285 (lv_at hl 0 rfl) ?_
    refine lv_i2l hx hb dL_law_287 rfl ?_
    refine W.lcmp hx hb dL_law_288 ?_
    refine lv_if_eq (tgt := 294) hx hb dL_law_289 (by decide) (fun _ => ?_) (fun c9 => absurd ((lg_cmp_eq _ _).mpr (hf c8)) c9)
    refine lv_goto (tgt := 557) hx hb dL_law_294 (by decide) ?_
    exact kk _ _ _ _ _ _ h4 h (lv_sub hl [2, 3, 4, 5, 6] rfl)
set_option maxHeartbeats 4000000 in
theorem k_next (l : Launch) (hlt : l.stackTraces = false) (S : CallFix p m c cL_law 7 s #[Value.ref b] wsN_law RL) (F : LFx s D cA cL ad bd o adK adV adT) (hX : va_X b L xs s s.heap) (hbl : b < s.heap.size) (hL : L ≤ 2048) (hi : i + 3 < L) (hRel : Rel M N) (h : LT s D cA cL ad bd o M N f H locs) (hl : lv_has ls 7 (LVs b ad bd o i)) (hR : cells + 1 ≤ 601024 ∧ slots + 6 ≤ 7293034)
    (kk : ∀ (M1 N1 : Mem) (f1 : Nat → Int64) (H1 : Heap) (locs1 : List Loc) (ls1 : Array Slot), Rel M1 N1 → LT s D cA cL ad bd o M1 N1 f1 H1 locs1 → lv_has ls1 7 (LVs b ad bd o i) → W p l e room_1 s m #[Value.ref b] below meth c H1 locs1 (cells + 1) (slots + 6) Q (F0 m 557 ls1 [])) : W p l e room_1 s m #[Value.ref b] below meth c H locs cells slots Q (F0 m 297 ls []) := by
  obtain ⟨hx, hb, -, hown, hts⟩ := id S
  have hl : lv_has ls 7 [(0, .ref b), (1, .ref (ad 0)), (2, .ref (bd 0)), (3, .ref o), (4, .int (nI i))] := hl
  have hR0 : cells ≤ room_1.cells ∧ slots ≤ room_1.slots := ⟨by show cells ≤ 601024; omega, by show slots ≤ 7293034; omega⟩
  have hR1 : cells + 1 ≤ room_1.cells ∧ slots + 6 ≤ room_1.slots := hR
  have jC := F.2.2.2.2.1.1
  have jM := F.2.2.2.2.1.2
  have nA := F.2.2.2.2.2.1.2.1
  obtain ⟨r, M1, b9, N1, h1, h2, h3, h4⟩ := s_next l hlt D cA ad jC cL o nA adK adV adT (xs (i + 1)) (xs (i + 2)) f hRel
  refine lv_aload_n hx hb dL_law_297 rfl (lv_at hl 1 rfl) ?_
  refine lk_arg hx hb hX hbl h hL (lv_at hl 0 rfl) (lv_at hl 4 rfl) 1 (by omega) (by decide) dL_law_298 dL_law_299 dL_law_301 dL_law_302 dL_law_303 ?_
  refine lk_arg hx hb hX hbl h hL (lv_at hl 0 rfl) (lv_at hl 4 rfl) 2 (by omega) (by decide) dL_law_304 dL_law_305 dL_law_307 dL_law_308 dL_law_309 ?_
  refine lv_aload_n hx hb dL_law_310 rfl (lv_at hl 3 rfl) ?_
  refine lc_l S F h [.ref (ad 0), .int (xs (i + 1)), .int (xs (i + 2)), .ref o] [] h1 (vx_cwSW 4 hts gL_law_L_next rfl rfl rfl (by decide +kernel) ⟨(by show _ ≤ _; first | exact Nat.le_of_ble_eq_true rfl | omega), (by show _ ≤ _; first | exact Nat.le_of_ble_eq_true rfl | omega)⟩) rfl hl.1 rfl (Nat.le_of_ble_eq_true rfl) dL_law_311 hR1 (fun f1 H locs hf h => ?_)
  refine lv_istore (lv' := [(5, .int r), (0, .ref b), (1, .ref (ad 0)), (2, .ref (bd 0)), (3, .ref o), (4, .int (nI i))]) hx hb dL_law_314 hl (by decide) rfl (fun ls hl => ?_)
  refine lv_aload_n hx hb dL_law_316 rfl (lv_at hl 3 rfl) ?_
  refine lk_arg hx hb hX hbl h hL (lv_at hl 1 rfl) (lv_at hl 5 rfl) 1 (by omega) (by decide) dL_law_317 dL_law_318 dL_law_320 dL_law_321 dL_law_322 ?_
  refine lk_arg hx hb hX hbl h hL (lv_at hl 1 rfl) (lv_at hl 5 rfl) 2 (by omega) (by decide) dL_law_323 dL_law_324 dL_law_326 dL_law_327 dL_law_328 ?_
  refine lc_m S F h [.int (xs (i + 1)), .int (xs (i + 2))] [] (c_X8_next l D cA bd jM (xs (i + 1)) (xs (i + 2)) N h2) (cwV 2 hts gL_law_X8_next rfl rfl rfl (by decide +kernel) ⟨(by show _ ≤ _; first | exact Nat.le_of_ble_eq_true rfl | omega), (by show _ ≤ _; first | exact Nat.le_of_ble_eq_true rfl | omega)⟩) rfl hl.1 rfl (Nat.le_of_ble_eq_true rfl) dL_law_329 hR1 (fun H locs h => ?_)
  refine lv_istore (lv' := [(6, .int b9), (5, .int r), (0, .ref b), (1, .ref (ad 0)), (2, .ref (bd 0)), (3, .ref o), (4, .int (nI i))]) hx hb dL_law_332 hl (by decide) rfl (fun ls hl => ?_)
  refine lv_aload_n hx hb dL_law_334 rfl (lv_at hl 4 rfl) ?_
  refine lc_m S F h [] [] (c_X8_thrown l D cA bd jM N1 (r := N1 0 0) rfl) (cwV 0 hts gL_law_X8_thrown rfl rfl rfl (by decide +kernel) ⟨(by show _ ≤ _; first | exact Nat.le_of_ble_eq_true rfl | omega), (by show _ ≤ _; first | exact Nat.le_of_ble_eq_true rfl | omega)⟩) rfl hl.1 rfl (Nat.le_of_ble_eq_true rfl) dL_law_335 hR1 (fun H locs h => ?_)
  refine lv_iload hx hb dL_law_338 (lv_at hl 1 rfl) ?_
  refine lv_icmp_eq (tgt := 345) hx hb dL_law_340 (by decide) (fun _ => ?_) (fun c9 => absurd h3 c9)
  refine lv_iload hx hb dL_law_345 (lv_at hl 1 rfl) ?_
  refine lv_if_ne (tgt := 362) hx hb dL_law_347 (by decide) (fun c8 => ?_) (fun c8 => ?_)
  · refine lv_goto (tgt := 557) hx hb dL_law_362 (by decide) ?_
    exact kk _ _ _ _ _ _ h4 h (lv_sub hl [2, 3, 4, 5, 6] rfl)
  · refine lv_aload_n hx hb dL_law_350 rfl (lv_at hl 5 rfl) ?_
    refine lv_iconst (v := (0 : Int32)) hx hb dL_law_351 (by decide) ?_
    refine ld_load hx hb F.2.1 h.2.2.1 dL_law_352 ?_
    refine lv_iload hx hb dL_law_353 (lv_at hl 0 rfl) ?_
    refine lv_i2l hx hb dL_law_355 rfl ?_
    refine W.lcmp hx hb dL_law_356 ?_
    refine lv_if_eq (tgt := 362) hx hb dL_law_357 (by decide) (fun _ => ?_) (fun c9 => absurd ((lg_cmp_eq _ _).mpr (hf c8)) c9)
    refine lv_goto (tgt := 557) hx hb dL_law_362 (by decide) ?_
    exact kk _ _ _ _ _ _ h4 h (lv_sub hl [2, 3, 4, 5, 6] rfl)
set_option maxHeartbeats 4000000 in
theorem k_trace (l : Launch) (hlt : l.stackTraces = false) (S : CallFix p m c cL_law 7 s #[Value.ref b] wsN_law RL) (F : LFx s D cA cL ad bd o adK adV adT) (hX : va_X b L xs s s.heap) (hbl : b < s.heap.size) (hL : L ≤ 2048) (hi : i + 3 < L) (hRel : Rel M N) (h : LT s D cA cL ad bd o M N f H locs) (hl : lv_has ls 7 (LVs b ad bd o i)) (hR : cells + 1 ≤ 601024 ∧ slots + 6 ≤ 7293034)
    (kk : ∀ (M1 N1 : Mem) (f1 : Nat → Int64) (H1 : Heap) (locs1 : List Loc) (ls1 : Array Slot), Rel M1 N1 → LT s D cA cL ad bd o M1 N1 f1 H1 locs1 → lv_has ls1 7 (LVs b ad bd o i) → W p l e room_1 s m #[Value.ref b] below meth c H1 locs1 (cells + 1) (slots + 6) Q (F0 m 557 ls1 [])) : W p l e room_1 s m #[Value.ref b] below meth c H locs cells slots Q (F0 m 365 ls []) := by
  obtain ⟨hx, hb, -, hown, hts⟩ := id S
  have hl : lv_has ls 7 [(0, .ref b), (1, .ref (ad 0)), (2, .ref (bd 0)), (3, .ref o), (4, .int (nI i))] := hl
  have hR0 : cells ≤ room_1.cells ∧ slots ≤ room_1.slots := ⟨by show cells ≤ 601024; omega, by show slots ≤ 7293034; omega⟩
  have hR1 : cells + 1 ≤ room_1.cells ∧ slots + 6 ≤ room_1.slots := hR
  have jC := F.2.2.2.2.1.1
  have jM := F.2.2.2.2.1.2
  have nA := F.2.2.2.2.2.1.2.1
  obtain ⟨r, N1, h1, h2, h3⟩ := p_trace (xs (i + 1)) (xs (i + 2)) (xs (i + 3)) hRel
  refine lv_aload_n hx hb dL_law_365 rfl (lv_at hl 1 rfl) ?_
  refine lk_arg hx hb hX hbl h hL (lv_at hl 0 rfl) (lv_at hl 4 rfl) 1 (by omega) (by decide) dL_law_366 dL_law_367 dL_law_369 dL_law_370 dL_law_371 ?_
  refine lk_arg hx hb hX hbl h hL (lv_at hl 0 rfl) (lv_at hl 4 rfl) 2 (by omega) (by decide) dL_law_372 dL_law_373 dL_law_375 dL_law_376 dL_law_377 ?_
  refine lk_arg hx hb hX hbl h hL (lv_at hl 0 rfl) (lv_at hl 4 rfl) 3 (by omega) (by decide) dL_law_378 dL_law_379 dL_law_381 dL_law_382 dL_law_383 ?_
  refine lc_i S F h [.int (xs (i + 1)), .int (xs (i + 2)), .int (xs (i + 3))] [] (c_X7_trace l D cA ad jC (xs (i + 1)) (xs (i + 2)) (xs (i + 3)) M h1) (cwV 3 hts gL_law_X7_trace rfl rfl rfl (by decide +kernel) ⟨(by show _ ≤ _; first | exact Nat.le_of_ble_eq_true rfl | omega), (by show _ ≤ _; first | exact Nat.le_of_ble_eq_true rfl | omega)⟩) rfl hl.1 rfl (Nat.le_of_ble_eq_true rfl) dL_law_384 hR0 (fun H locs h => ?_)
  refine lv_aload_n hx hb dL_law_387 rfl (lv_at hl 2 rfl) ?_
  refine lk_arg hx hb hX hbl h hL (lv_at hl 0 rfl) (lv_at hl 4 rfl) 1 (by omega) (by decide) dL_law_388 dL_law_389 dL_law_391 dL_law_392 dL_law_393 ?_
  refine lk_arg hx hb hX hbl h hL (lv_at hl 0 rfl) (lv_at hl 4 rfl) 2 (by omega) (by decide) dL_law_394 dL_law_395 dL_law_397 dL_law_398 dL_law_399 ?_
  refine lk_arg hx hb hX hbl h hL (lv_at hl 0 rfl) (lv_at hl 4 rfl) 3 (by omega) (by decide) dL_law_400 dL_law_401 dL_law_403 dL_law_404 dL_law_405 ?_
  refine lc_m S F h [.int (xs (i + 1)), .int (xs (i + 2)), .int (xs (i + 3))] [.int r] (c_X8_trace l D cA bd jM (xs (i + 1)) (xs (i + 2)) (xs (i + 3)) N h2) (cwV 3 hts gL_law_X8_trace rfl rfl rfl (by decide +kernel) ⟨(by show _ ≤ _; first | exact Nat.le_of_ble_eq_true rfl | omega), (by show _ ≤ _; first | exact Nat.le_of_ble_eq_true rfl | omega)⟩) rfl hl.1 rfl (Nat.le_of_ble_eq_true rfl) dL_law_406 hR0 (fun H locs h => ?_)
  refine lv_icmp_eq (tgt := 557) hx hb dL_law_409 (by decide) (fun _ => ?_) (fun c9 => absurd rfl c9)
  refine W.widen (k := cells + 1) (n := slots + 6) (by omega) (by omega) ?_
  exact kk _ _ _ _ _ _ h3 h hl
set_option maxHeartbeats 4000000 in
theorem k_active (l : Launch) (hlt : l.stackTraces = false) (S : CallFix p m c cL_law 7 s #[Value.ref b] wsN_law RL) (F : LFx s D cA cL ad bd o adK adV adT) (hX : va_X b L xs s s.heap) (hbl : b < s.heap.size) (hL : L ≤ 2048) (hi : i + 3 < L) (hRel : Rel M N) (h : LT s D cA cL ad bd o M N f H locs) (hl : lv_has ls 7 (LVs b ad bd o i)) (hR : cells + 1 ≤ 601024 ∧ slots + 6 ≤ 7293034)
    (kk : ∀ (M1 N1 : Mem) (f1 : Nat → Int64) (H1 : Heap) (locs1 : List Loc) (ls1 : Array Slot), Rel M1 N1 → LT s D cA cL ad bd o M1 N1 f1 H1 locs1 → lv_has ls1 7 (LVs b ad bd o i) → W p l e room_1 s m #[Value.ref b] below meth c H1 locs1 (cells + 1) (slots + 6) Q (F0 m 557 ls1 [])) : W p l e room_1 s m #[Value.ref b] below meth c H locs cells slots Q (F0 m 414 ls []) := by
  obtain ⟨hx, hb, -, hown, hts⟩ := id S
  have hl : lv_has ls 7 [(0, .ref b), (1, .ref (ad 0)), (2, .ref (bd 0)), (3, .ref o), (4, .int (nI i))] := hl
  have hR0 : cells ≤ room_1.cells ∧ slots ≤ room_1.slots := ⟨by show cells ≤ 601024; omega, by show slots ≤ 7293034; omega⟩
  have hR1 : cells + 1 ≤ room_1.cells ∧ slots + 6 ≤ room_1.slots := hR
  have jC := F.2.2.2.2.1.1
  have jM := F.2.2.2.2.1.2
  have nA := F.2.2.2.2.2.1.2.1
  obtain ⟨r, M1, N1, h1, h2, h3⟩ := p_active (xs (i + 1)) (xs (i + 2)) hRel
  refine lv_aload_n hx hb dL_law_414 rfl (lv_at hl 1 rfl) ?_
  refine lk_arg hx hb hX hbl h hL (lv_at hl 0 rfl) (lv_at hl 4 rfl) 1 (by omega) (by decide) dL_law_415 dL_law_416 dL_law_418 dL_law_419 dL_law_420 ?_
  refine lk_arg hx hb hX hbl h hL (lv_at hl 0 rfl) (lv_at hl 4 rfl) 2 (by omega) (by decide) dL_law_421 dL_law_422 dL_law_424 dL_law_425 dL_law_426 ?_
  refine lc_i S F h [.int (xs (i + 1)), .int (xs (i + 2))] [] (c_X7_active l D cA ad jC (xs (i + 1)) (xs (i + 2)) M h1) (cwV 2 hts gL_law_X7_active rfl rfl rfl (by decide +kernel) ⟨(by show _ ≤ _; first | exact Nat.le_of_ble_eq_true rfl | omega), (by show _ ≤ _; first | exact Nat.le_of_ble_eq_true rfl | omega)⟩) rfl hl.1 rfl (Nat.le_of_ble_eq_true rfl) dL_law_427 hR0 (fun H locs h => ?_)
  refine lv_aload_n hx hb dL_law_430 rfl (lv_at hl 2 rfl) ?_
  refine lk_arg hx hb hX hbl h hL (lv_at hl 0 rfl) (lv_at hl 4 rfl) 1 (by omega) (by decide) dL_law_431 dL_law_432 dL_law_434 dL_law_435 dL_law_436 ?_
  refine lk_arg hx hb hX hbl h hL (lv_at hl 0 rfl) (lv_at hl 4 rfl) 2 (by omega) (by decide) dL_law_437 dL_law_438 dL_law_440 dL_law_441 dL_law_442 ?_
  refine lc_m S F h [.int (xs (i + 1)), .int (xs (i + 2))] [.int r] (c_X8_active l D cA bd jM (xs (i + 1)) (xs (i + 2)) N h2) (cwV 2 hts gL_law_X8_active rfl rfl rfl (by decide +kernel) ⟨(by show _ ≤ _; first | exact Nat.le_of_ble_eq_true rfl | omega), (by show _ ≤ _; first | exact Nat.le_of_ble_eq_true rfl | omega)⟩) rfl hl.1 rfl (Nat.le_of_ble_eq_true rfl) dL_law_443 hR0 (fun H locs h => ?_)
  refine lv_icmp_eq (tgt := 557) hx hb dL_law_446 (by decide) (fun _ => ?_) (fun c9 => absurd rfl c9)
  refine W.widen (k := cells + 1) (n := slots + 6) (by omega) (by omega) ?_
  exact kk _ _ _ _ _ _ h3 h hl
set_option maxHeartbeats 4000000 in
theorem k_current (l : Launch) (hlt : l.stackTraces = false) (S : CallFix p m c cL_law 7 s #[Value.ref b] wsN_law RL) (F : LFx s D cA cL ad bd o adK adV adT) (hX : va_X b L xs s s.heap) (hbl : b < s.heap.size) (hL : L ≤ 2048) (hi : i + 3 < L) (hRel : Rel M N) (h : LT s D cA cL ad bd o M N f H locs) (hl : lv_has ls 7 (LVs b ad bd o i)) (hR : cells + 1 ≤ 601024 ∧ slots + 6 ≤ 7293034)
    (kk : ∀ (M1 N1 : Mem) (f1 : Nat → Int64) (H1 : Heap) (locs1 : List Loc) (ls1 : Array Slot), Rel M1 N1 → LT s D cA cL ad bd o M1 N1 f1 H1 locs1 → lv_has ls1 7 (LVs b ad bd o i) → W p l e room_1 s m #[Value.ref b] below meth c H1 locs1 (cells + 1) (slots + 6) Q (F0 m 557 ls1 [])) : W p l e room_1 s m #[Value.ref b] below meth c H locs cells slots Q (F0 m 451 ls []) := by
  obtain ⟨hx, hb, -, hown, hts⟩ := id S
  have hl : lv_has ls 7 [(0, .ref b), (1, .ref (ad 0)), (2, .ref (bd 0)), (3, .ref o), (4, .int (nI i))] := hl
  have hR0 : cells ≤ room_1.cells ∧ slots ≤ room_1.slots := ⟨by show cells ≤ 601024; omega, by show slots ≤ 7293034; omega⟩
  have hR1 : cells + 1 ≤ room_1.cells ∧ slots + 6 ≤ room_1.slots := hR
  have jC := F.2.2.2.2.1.1
  have jM := F.2.2.2.2.1.2
  have nA := F.2.2.2.2.2.1.2.1
  obtain ⟨r, N1, h1, h2, h3⟩ := p_current (xs (i + 1)) (xs (i + 2)) hRel
  refine lv_aload_n hx hb dL_law_451 rfl (lv_at hl 1 rfl) ?_
  refine lk_arg hx hb hX hbl h hL (lv_at hl 0 rfl) (lv_at hl 4 rfl) 1 (by omega) (by decide) dL_law_452 dL_law_453 dL_law_455 dL_law_456 dL_law_457 ?_
  refine lk_arg hx hb hX hbl h hL (lv_at hl 0 rfl) (lv_at hl 4 rfl) 2 (by omega) (by decide) dL_law_458 dL_law_459 dL_law_461 dL_law_462 dL_law_463 ?_
  refine lc_i S F h [.int (xs (i + 1)), .int (xs (i + 2))] [] (c_X7_current l D cA ad jC (xs (i + 1)) (xs (i + 2)) M h1) (cwV 2 hts gL_law_X7_current rfl rfl rfl (by decide +kernel) ⟨(by show _ ≤ _; first | exact Nat.le_of_ble_eq_true rfl | omega), (by show _ ≤ _; first | exact Nat.le_of_ble_eq_true rfl | omega)⟩) rfl hl.1 rfl (Nat.le_of_ble_eq_true rfl) dL_law_464 hR0 (fun H locs h => ?_)
  refine lv_aload_n hx hb dL_law_467 rfl (lv_at hl 2 rfl) ?_
  refine lk_arg hx hb hX hbl h hL (lv_at hl 0 rfl) (lv_at hl 4 rfl) 1 (by omega) (by decide) dL_law_468 dL_law_469 dL_law_471 dL_law_472 dL_law_473 ?_
  refine lk_arg hx hb hX hbl h hL (lv_at hl 0 rfl) (lv_at hl 4 rfl) 2 (by omega) (by decide) dL_law_474 dL_law_475 dL_law_477 dL_law_478 dL_law_479 ?_
  refine lc_m S F h [.int (xs (i + 1)), .int (xs (i + 2))] [.int r] (c_X8_current l D cA bd jM (xs (i + 1)) (xs (i + 2)) N h2) (cwV 2 hts gL_law_X8_current rfl rfl rfl (by decide +kernel) ⟨(by show _ ≤ _; first | exact Nat.le_of_ble_eq_true rfl | omega), (by show _ ≤ _; first | exact Nat.le_of_ble_eq_true rfl | omega)⟩) rfl hl.1 rfl (Nat.le_of_ble_eq_true rfl) dL_law_480 hR0 (fun H locs h => ?_)
  refine lv_icmp_eq (tgt := 557) hx hb dL_law_483 (by decide) (fun _ => ?_) (fun c9 => absurd rfl c9)
  refine W.widen (k := cells + 1) (n := slots + 6) (by omega) (by omega) ?_
  exact kk _ _ _ _ _ _ h3 h hl
set_option maxHeartbeats 4000000 in
theorem k_event (l : Launch) (hlt : l.stackTraces = false) (S : CallFix p m c cL_law 7 s #[Value.ref b] wsN_law RL) (F : LFx s D cA cL ad bd o adK adV adT) (hX : va_X b L xs s s.heap) (hbl : b < s.heap.size) (hL : L ≤ 2048) (hi : i + 3 < L) (hRel : Rel M N) (h : LT s D cA cL ad bd o M N f H locs) (hl : lv_has ls 7 (LVs b ad bd o i)) (hR : cells + 1 ≤ 601024 ∧ slots + 6 ≤ 7293034)
    (kk : ∀ (M1 N1 : Mem) (f1 : Nat → Int64) (H1 : Heap) (locs1 : List Loc) (ls1 : Array Slot), Rel M1 N1 → LT s D cA cL ad bd o M1 N1 f1 H1 locs1 → lv_has ls1 7 (LVs b ad bd o i) → W p l e room_1 s m #[Value.ref b] below meth c H1 locs1 (cells + 1) (slots + 6) Q (F0 m 557 ls1 [])) : W p l e room_1 s m #[Value.ref b] below meth c H locs cells slots Q (F0 m 488 ls []) := by
  obtain ⟨hx, hb, -, hown, hts⟩ := id S
  have hl : lv_has ls 7 [(0, .ref b), (1, .ref (ad 0)), (2, .ref (bd 0)), (3, .ref o), (4, .int (nI i))] := hl
  have hR0 : cells ≤ room_1.cells ∧ slots ≤ room_1.slots := ⟨by show cells ≤ 601024; omega, by show slots ≤ 7293034; omega⟩
  have hR1 : cells + 1 ≤ room_1.cells ∧ slots + 6 ≤ room_1.slots := hR
  have jC := F.2.2.2.2.1.1
  have jM := F.2.2.2.2.1.2
  have nA := F.2.2.2.2.2.1.2.1
  obtain ⟨r, M1, b9, N1, h1, h2, h3, h4⟩ := s_event l hlt D cA ad jC cL o nA adK adV adT (xs (i + 1)) f hRel
  refine lv_aload_n hx hb dL_law_488 rfl (lv_at hl 1 rfl) ?_
  refine lk_arg hx hb hX hbl h hL (lv_at hl 0 rfl) (lv_at hl 4 rfl) 1 (by omega) (by decide) dL_law_489 dL_law_490 dL_law_492 dL_law_493 dL_law_494 ?_
  refine lv_aload_n hx hb dL_law_495 rfl (lv_at hl 3 rfl) ?_
  refine lc_l S F h [.ref (ad 0), .int (xs (i + 1)), .ref o] [] h1 (vx_cwSW 3 hts gL_law_L_event rfl rfl rfl (by decide +kernel) ⟨(by show _ ≤ _; first | exact Nat.le_of_ble_eq_true rfl | omega), (by show _ ≤ _; first | exact Nat.le_of_ble_eq_true rfl | omega)⟩) rfl hl.1 rfl (Nat.le_of_ble_eq_true rfl) dL_law_496 hR1 (fun f1 H locs hf h => ?_)
  refine lv_istore (lv' := [(5, .int r), (0, .ref b), (1, .ref (ad 0)), (2, .ref (bd 0)), (3, .ref o), (4, .int (nI i))]) hx hb dL_law_499 hl (by decide) rfl (fun ls hl => ?_)
  refine lv_aload_n hx hb dL_law_501 rfl (lv_at hl 3 rfl) ?_
  refine lk_arg hx hb hX hbl h hL (lv_at hl 1 rfl) (lv_at hl 5 rfl) 1 (by omega) (by decide) dL_law_502 dL_law_503 dL_law_505 dL_law_506 dL_law_507 ?_
  refine lc_m S F h [.int (xs (i + 1))] [] (c_X8_event l D cA bd jM (xs (i + 1)) N h2) (cwV 1 hts gL_law_X8_event rfl rfl rfl (by decide +kernel) ⟨(by show _ ≤ _; first | exact Nat.le_of_ble_eq_true rfl | omega), (by show _ ≤ _; first | exact Nat.le_of_ble_eq_true rfl | omega)⟩) rfl hl.1 rfl (Nat.le_of_ble_eq_true rfl) dL_law_508 hR1 (fun H locs h => ?_)
  refine lv_istore (lv' := [(6, .int b9), (5, .int r), (0, .ref b), (1, .ref (ad 0)), (2, .ref (bd 0)), (3, .ref o), (4, .int (nI i))]) hx hb dL_law_511 hl (by decide) rfl (fun ls hl => ?_)
  refine lv_aload_n hx hb dL_law_513 rfl (lv_at hl 4 rfl) ?_
  refine lc_m S F h [] [] (c_X8_thrown l D cA bd jM N1 (r := N1 0 0) rfl) (cwV 0 hts gL_law_X8_thrown rfl rfl rfl (by decide +kernel) ⟨(by show _ ≤ _; first | exact Nat.le_of_ble_eq_true rfl | omega), (by show _ ≤ _; first | exact Nat.le_of_ble_eq_true rfl | omega)⟩) rfl hl.1 rfl (Nat.le_of_ble_eq_true rfl) dL_law_514 hR1 (fun H locs h => ?_)
  refine lv_iload hx hb dL_law_517 (lv_at hl 1 rfl) ?_
  refine lv_icmp_eq (tgt := 524) hx hb dL_law_519 (by decide) (fun _ => ?_) (fun c9 => absurd h3 c9)
  refine lv_iload hx hb dL_law_524 (lv_at hl 1 rfl) ?_
  refine lv_if_ne (tgt := 541) hx hb dL_law_526 (by decide) (fun c8 => ?_) (fun c8 => ?_)
  · refine lv_goto (tgt := 557) hx hb dL_law_541 (by decide) ?_
    exact kk _ _ _ _ _ _ h4 h (lv_sub hl [2, 3, 4, 5, 6] rfl)
  · refine lv_aload_n hx hb dL_law_529 rfl (lv_at hl 5 rfl) ?_
    refine lv_iconst (v := (0 : Int32)) hx hb dL_law_530 (by decide) ?_
    refine ld_load hx hb F.2.1 h.2.2.1 dL_law_531 ?_
    refine lv_iload hx hb dL_law_532 (lv_at hl 0 rfl) ?_
    refine lv_i2l hx hb dL_law_534 rfl ?_
    refine W.lcmp hx hb dL_law_535 ?_
    refine lv_if_eq (tgt := 541) hx hb dL_law_536 (by decide) (fun _ => ?_) (fun c9 => absurd ((lg_cmp_eq _ _).mpr (hf c8)) c9)
    refine lv_goto (tgt := 557) hx hb dL_law_541 (by decide) ?_
    exact kk _ _ _ _ _ _ h4 h (lv_sub hl [2, 3, 4, 5, 6] rfl)
set_option maxHeartbeats 4000000 in
theorem k_noted (l : Launch) (hlt : l.stackTraces = false) (S : CallFix p m c cL_law 7 s #[Value.ref b] wsN_law RL) (F : LFx s D cA cL ad bd o adK adV adT) (hX : va_X b L xs s s.heap) (hbl : b < s.heap.size) (hL : L ≤ 2048) (hi : i + 3 < L) (hRel : Rel M N) (h : LT s D cA cL ad bd o M N f H locs) (hl : lv_has ls 7 (LVs b ad bd o i)) (hR : cells + 1 ≤ 601024 ∧ slots + 6 ≤ 7293034)
    (kk : ∀ (M1 N1 : Mem) (f1 : Nat → Int64) (H1 : Heap) (locs1 : List Loc) (ls1 : Array Slot), Rel M1 N1 → LT s D cA cL ad bd o M1 N1 f1 H1 locs1 → lv_has ls1 7 (LVs b ad bd o i) → W p l e room_1 s m #[Value.ref b] below meth c H1 locs1 (cells + 1) (slots + 6) Q (F0 m 557 ls1 [])) : W p l e room_1 s m #[Value.ref b] below meth c H locs cells slots Q (F0 m 544 ls []) := by
  obtain ⟨hx, hb, -, hown, hts⟩ := id S
  have hl : lv_has ls 7 [(0, .ref b), (1, .ref (ad 0)), (2, .ref (bd 0)), (3, .ref o), (4, .int (nI i))] := hl
  have hR0 : cells ≤ room_1.cells ∧ slots ≤ room_1.slots := ⟨by show cells ≤ 601024; omega, by show slots ≤ 7293034; omega⟩
  have hR1 : cells + 1 ≤ room_1.cells ∧ slots + 6 ≤ room_1.slots := hR
  have jC := F.2.2.2.2.1.1
  have jM := F.2.2.2.2.1.2
  have nA := F.2.2.2.2.2.1.2.1
  obtain ⟨r, N1, h1, h2, h3⟩ := p_noted  hRel
  refine lv_aload_n hx hb dL_law_544 rfl (lv_at hl 1 rfl) ?_
  refine lc_i S F h [] [] (c_X7_noted l D cA ad jC  M h1) (cwV 0 hts gL_law_X7_noted rfl rfl rfl (by decide +kernel) ⟨(by show _ ≤ _; first | exact Nat.le_of_ble_eq_true rfl | omega), (by show _ ≤ _; first | exact Nat.le_of_ble_eq_true rfl | omega)⟩) rfl hl.1 rfl (Nat.le_of_ble_eq_true rfl) dL_law_545 hR0 (fun H locs h => ?_)
  refine lv_aload_n hx hb dL_law_548 rfl (lv_at hl 2 rfl) ?_
  refine lc_m S F h [] [.int r] (c_X8_noted l D cA bd jM  N h2) (cwV 0 hts gL_law_X8_noted rfl rfl rfl (by decide +kernel) ⟨(by show _ ≤ _; first | exact Nat.le_of_ble_eq_true rfl | omega), (by show _ ≤ _; first | exact Nat.le_of_ble_eq_true rfl | omega)⟩) rfl hl.1 rfl (Nat.le_of_ble_eq_true rfl) dL_law_549 hR0 (fun H locs h => ?_)
  refine lv_icmp_eq (tgt := 557) hx hb dL_law_552 (by decide) (fun _ => ?_) (fun c9 => absurd rfl c9)
  refine W.widen (k := cells + 1) (n := slots + 6) (by omega) (by omega) ?_
  exact kk _ _ _ _ _ _ h3 h hl
end CASES
