/-! The String constants in the heap, and the JDK's methods over them. -/
def SW (adK adV : Nat → Nat) (A : Nat → Prop) (s : State) (H : Heap) : Prop :=
  vk_S 12 lenS bytS adK adV A s H ∧ (∀ i : Nat, i < 12 → vk_R "ChartTable$Reader" (ixS.getD i 0) (txS.getD i "") (adK i) s) ∧ va_Z "java/lang/String" "COMPACT_STRINGS" "Z" (.int 1) A s H ∧ va_Zq "jdk/internal/util/Preconditions" "SIOOBE_FORMATTER" "Ljava/util/function/BiFunction;" A s H
theorem SW.warm {adK adV : Nat → Nat} {A : Nat → Prop} {s U : State} {H : Heap} (hW : s.WarmedH U.vm) (h : SW adK adV A s H) : SW adK adV A U H := ⟨vk_S.moved hW.alike h.1, fun i hi => vk_R.warm hW (h.2.1 i hi), va_Z.moved hW.alike h.2.2.1, va_Zq.moved hW.alike h.2.2.2⟩
theorem SW.kept {adK adV : Nat → Nat} {A : Nat → Prop} {s : State} {H H1 : Heap} (h : SW adK adV A s H) (hq : ∀ a : Nat, a < H.size → ¬ A a → H1[a]? = H[a]?) : SW adK adV A s H1 := ⟨h.1.kept hq, h.2.1, h.2.2.1.kept hq, h.2.2.2.kept hq⟩
theorem SW.call {adK adV : Nat → Nat} {A : Nat → Prop} {U : State} {g : JFrame} {mk : MethodId} {a : Array Value} (h : SW adK adV A U U.heap) : SW adK adV A (U.calling g mk a) (U.calling g mk a).heap := by
  have e : (U.calling g mk a).heap = U.heap := rfl
  rw [e]
  exact ⟨vk_S.moved (u := U) (Vm.Alike.refl U.vm) h.1, fun i hi => vk_R.same (u := U) rfl (h.2.1 i hi), va_Z.moved (u := U) (Vm.Alike.refl U.vm) h.2.2.1, va_Zq.moved (u := U) (Vm.Alike.refl U.vm) h.2.2.2⟩
theorem SW.narrow {adK adV : Nat → Nat} {A B : Nat → Prop} {s : State} {H : Heap} (h : SW adK adV A s H) (hAB : ∀ q, B q → A q) : SW adK adV B s H := ⟨h.1.narrow hAB, h.2.1, h.2.2.1.narrow hAB, h.2.2.2.narrow hAB⟩
theorem vaS_no {A : Nat → Prop} {H0 H : Heap} {locs : List Loc} (h : va_S (fun _ => False) H0 H locs) : va_S A H0 H locs := ⟨h.1, fun q h1 _ => h.2.1 q h1 (fun z => z), fun q hq => (h.2.2 q hq).elim⟩
def jm_Pc (adK adV : Nat → Nat) (A : Nat → Prop) (av : List Value) : Array Value → State → Prop := va_Pc av (fun U => SW adK adV A U U.heap)
def jm_Qi (r : Int32) : Array Value → State → Outcome → State → Prop := va_Qi (fun (x : Int32) (_ : Unit) => x = r) (fun _ _ => True) (fun _ => False)
def jm_Qv : Array Value → State → Outcome → State → Prop := va_Qv (fun (_ : Unit) => True) (fun _ _ => True) (fun _ => False)
def jm_i (l : Launch) (y : MethodName) (ws : List Cond) (rm : Room) (adK adV : Nat → Nat) (A : Nat → Prop) (av : List Value) (r : Int32) : Prop := Met l y ws rm (jm_Pc adK adV A av) (jm_Qi r) 0 0 (fun _ => False)
def jm_v (l : Launch) (y : MethodName) (ws : List Cond) (rm : Room) (adK adV : Nat → Nat) (A : Nat → Prop) (av : List Value) : Prop := Met l y ws rm (jm_Pc adK adV A av) jm_Qv 0 0 (fun _ => False)
theorem jm_blind {adK adV : Nat → Nat} {A : Nat → Prop} (av : List Value) : FrameBlind (jm_Pc adK adV A av) := fun a U g mk q => ⟨q.1, SW.call q.2⟩
theorem jm_pre {adK adV : Nat → Nat} {A : Nat → Prop} {s : State} {H : Heap} {locs : List Loc} (hW : SW adK adV A s s.heap) (hS : va_S A s.heap H locs) (As : List Value) : PreS s H (jm_Pc adK adV A As) As := ⟨jm_blind As, fun U hU hw => ⟨rfl, by
  have h := SW.warm hw (hW.kept hS.2.1)
  show SW adK adV A U U.heap
  rw [hU]; exact h⟩⟩
theorem jm_preV {adK adV : Nat → Nat} {A : Nat → Prop} {s : State} {H : Heap} {locs : List Loc} (hW : SW adK adV A s s.heap) (hS : va_S A s.heap H locs) {i : Nat} (hi : i < 12) (As : List Value) : PreV s H RJ0 (adK i) (jm_Pc adK adV A (.ref (adK i) :: As)) As := ⟨jm_blind _, vk_recv hW.1 hi hS, (jm_pre hW hS (.ref (adK i) :: As)).2⟩
theorem len_S : ∀ i, i < 12 → lenS.getD i 0 = (bytS.getD i []).length ∧ (bytS.getD i []).length < 50 := by decide +kernel
theorem byt_S : ∀ i, i < 12 → ∀ k, k < (bytS.getD i []).length → ((((bytS.getD i []).getD k 0) &&& 255).toUInt32 % 65536).toInt32 = (bytS.getD i []).getD k 0 ∧ vp_nar .char ((bytS.getD i []).getD k 0) = (bytS.getD i []).getD k 0 := by decide +kernel
def rmJ3 : Room := { frames := 0, cells := 0, slots := 0, locals := 0 }
def rmJ0c : Room := { frames := 1, cells := 0, slots := 0, locals := 22 }
def rmJ1 : Room := { frames := 2, cells := 0, slots := 0, locals := 43 }
def rmJch : Room := { frames := 3, cells := 0, slots := 0, locals := 64 }
def rmJco : Room := { frames := 0, cells := 0, slots := 0, locals := 0 }
def rmJln : Room := { frames := 1, cells := 0, slots := 0, locals := 20 }
set_option maxHeartbeats 4000000 in
theorem c_J3 (l : Launch) (adK adV : Nat → Nat) (A : Nat → Prop) (i n : Int32) (v : Value) (hv0 : v = .null ∨ ∃ t : Nat, v = .ref t) (h0 : ¬ i < 0) (h1 : i < n) : jm_i l yJ3_checkIndex_8e157 wsJ3_checkIndex_8e157 rmJ3 adK adV A [.int i, .int n, v] i := by
  rcases hv0 with rfl | ⟨t, rfl⟩
  all_goals refine Met.ofW (cc := cJ3_checkIndex_8e157) (maxL := 3) (ret := some .int) (by decide) rfl ?_
  all_goals intro p e s m args below meth c s₁ B hml hv
  all_goals obtain ⟨rfl, hW⟩ := hv
  · have F : CallFix p m c cJ3_checkIndex_8e157 3 s _ wsJ3_checkIndex_8e157 RJ3 := ⟨B.exec, B.bytes, hml, findClass_of_methodNamed B.named, atoms_spec (ws := wsJ3_checkIndex_8e157) B.pre⟩
    have hl := lv_entry ([.int i, .int n, .null]) (n := 3) (Nat.le_of_ble_eq_true rfl)
    rw [lg_entry_eq]
    generalize (lg_sl ([.int i, .int n, .null]) ++ List.replicate (3 - (lg_sl ([.int i, .int n, .null])).length) Slot.unset).toArray = ls at hl ⊢
    have hl : lv_has ls 3 [(0, .int i), (1, .int n), (2, .null)] := hl
    have hS : va_S (fun _ => False) s.heap s.heap [] := va_S.rf
    have hx := F.1
    have hb := F.2.1
    refine lv_iload_n hx hb dJ3_checkIndex_8e157_0 rfl (lv_at hl 0 rfl) ?_
    refine lv_if_lt (tgt := 9) hx hb dJ3_checkIndex_8e157_1 (by decide) (fun q => absurd q h0) (fun _ => ?_)
    refine lv_iload_n hx hb dJ3_checkIndex_8e157_4 rfl (lv_at hl 0 rfl) ?_
    refine lv_iload_n hx hb dJ3_checkIndex_8e157_5 rfl (lv_at hl 1 rfl) ?_
    refine lv_icmp_lt (tgt := 16) hx hb dJ3_checkIndex_8e157_6 (by decide) (fun _ => ?_) (fun q => absurd h1 q)
    refine lv_iload_n hx hb dJ3_checkIndex_8e157_16 rfl (lv_at hl 0 rfl) ?_
    exact W.zret hx hb B.returns rfl (fun t ht hW => ⟨⟨i, (), rfl, rfl, trivial⟩, hS.F ht⟩) hS.2.2 dJ3_checkIndex_8e157_17 B.notSynchronized
  · have F : CallFix p m c cJ3_checkIndex_8e157 3 s _ wsJ3_checkIndex_8e157 RJ3 := ⟨B.exec, B.bytes, hml, findClass_of_methodNamed B.named, atoms_spec (ws := wsJ3_checkIndex_8e157) B.pre⟩
    have hl := lv_entry ([.int i, .int n, .ref t]) (n := 3) (Nat.le_of_ble_eq_true rfl)
    rw [lg_entry_eq]
    generalize (lg_sl ([.int i, .int n, .ref t]) ++ List.replicate (3 - (lg_sl ([.int i, .int n, .ref t])).length) Slot.unset).toArray = ls at hl ⊢
    have hl : lv_has ls 3 [(0, .int i), (1, .int n), (2, .ref t)] := hl
    have hS : va_S (fun _ => False) s.heap s.heap [] := va_S.rf
    have hx := F.1
    have hb := F.2.1
    refine lv_iload_n hx hb dJ3_checkIndex_8e157_0 rfl (lv_at hl 0 rfl) ?_
    refine lv_if_lt (tgt := 9) hx hb dJ3_checkIndex_8e157_1 (by decide) (fun q => absurd q h0) (fun _ => ?_)
    refine lv_iload_n hx hb dJ3_checkIndex_8e157_4 rfl (lv_at hl 0 rfl) ?_
    refine lv_iload_n hx hb dJ3_checkIndex_8e157_5 rfl (lv_at hl 1 rfl) ?_
    refine lv_icmp_lt (tgt := 16) hx hb dJ3_checkIndex_8e157_6 (by decide) (fun _ => ?_) (fun q => absurd h1 q)
    refine lv_iload_n hx hb dJ3_checkIndex_8e157_16 rfl (lv_at hl 0 rfl) ?_
    exact W.zret hx hb B.returns rfl (fun t ht hW => ⟨⟨i, (), rfl, rfl, trivial⟩, hS.F ht⟩) hS.2.2 dJ3_checkIndex_8e157_17 B.notSynchronized
set_option maxHeartbeats 4000000 in
theorem c_J0c (l : Launch) (adK adV : Nat → Nat) (A : Nat → Prop) (i n : Int32) (h0 : ¬ i < 0) (h1 : i < n) : jm_v l yJ0_checkIndex_df160 wsJ0_checkIndex_df160 rmJ0c adK adV A [.int i, .int n] := by
  refine Met.ofW (cc := cJ0_checkIndex_df160) (maxL := 2) (ret := none) (by decide) rfl ?_
  intro p e s m args below meth c s₁ B hml hv
  obtain ⟨rfl, hW⟩ := hv
  have F : CallFix p m c cJ0_checkIndex_df160 2 s _ wsJ0_checkIndex_df160 RJ0 := ⟨B.exec, B.bytes, hml, findClass_of_methodNamed B.named, atoms_spec (ws := wsJ0_checkIndex_df160) B.pre⟩
  have hl := lv_entry ([.int i, .int n]) (n := 2) (Nat.le_of_ble_eq_true rfl)
  rw [lg_entry_eq]
  generalize (lg_sl ([.int i, .int n]) ++ List.replicate (2 - (lg_sl ([.int i, .int n])).length) Slot.unset).toArray = ls at hl ⊢
  have hl : lv_has ls 2 [(0, .int i), (1, .int n)] := hl
  have hS : va_S (fun _ => False) s.heap s.heap [] := va_S.rf
  have hx := F.1
  have hb := F.2.1
  have hown := F.2.2.2.1
  have hts := F.2.2.2.2
  refine lv_iload_n hx hb dJ0_checkIndex_df160_0 rfl (lv_at hl 0 rfl) ?_
  refine lv_iload_n hx hb dJ0_checkIndex_df160_1 rfl (lv_at hl 1 rfl) ?_
  have key : ∀ v : Value, (v = .null ∨ ∃ t : Nat, v = .ref t) → va_Z "jdk/internal/util/Preconditions" "SIOOBE_FORMATTER" "Ljava/util/function/BiFunction;" v A s s.heap → W p l e (headSpec wsJ0_checkIndex_df160 rmJ0c).room s m ([.int i, .int n] : List Value).toArray below meth c s.heap [] 0 0 (MQ below jm_Qv ([.int i, .int n] : List Value).toArray s 0 0 (fun _ => False)) (F0 m 2 ls [.int n, .int i]) := by
    intro v hv hZ
    refine va_gets hx hb hZ (vaS_no hS) hown (hts _ (by decide +kernel)) (fun _ h => h) dJ0_checkIndex_df160_2 ?_
    refine va_calli (va_runS (As := [.int i, .int n, v]) (rest := []) F (c_J3 l adK adV A i n v hv h0 h1) (va_cwS 3 hts gJ0_checkIndex_df160_J3_checkIndex_8e157 rfl rfl rfl (by decide +kernel) ⟨Nat.le_of_ble_eq_true rfl, Nat.le_of_ble_eq_true rfl⟩) (jm_pre hW (vaS_no hS) _) rfl rfl hl.1 rfl (Nat.le_of_ble_eq_true rfl) dJ0_checkIndex_df160_5 ⟨Nat.zero_le _, Nat.zero_le _⟩) hS (fun q _ h => h) (fun q h => h) (fun r1 u t H1 locs1 ht hvm hp hB _ _ hS1 => ?_)
    refine lv_pop hx hb dJ0_checkIndex_df160_8 rfl ?_
    exact W.vret hx hb B.returns (fun t ht hW => ⟨⟨(), rfl, trivial, trivial⟩, hS1.F ht⟩) hS1.2.2 dJ0_checkIndex_df160_9 B.notSynchronized
  rcases hW.2.2.2 with h | ⟨t, h⟩
  · exact key .null (Or.inl rfl) h
  · exact key (.ref t) (Or.inr ⟨t, rfl⟩) h
set_option maxHeartbeats 4000000 in
theorem c_J1 (l : Launch) (adK adV : Nat → Nat) (A : Nat → Prop) (si : Nat) (hi : si < 12) (i : Int32) (h : vp_in i (bytS.getD si []).length) : jm_i l yJ1_charAt_3b067 wsJ1_charAt_3b067 rmJ1 adK adV A [.ref (adV si), .int i] ((bytS.getD si []).getD i.toNatClampNeg 0) := by
  have h0 : ¬ i < 0 := fun q => h (Or.inl q)
  have hk : i.toNatClampNeg < (bytS.getD si []).length := Nat.not_le.mp fun q => h (Or.inr q)
  obtain ⟨e1, e2⟩ := len_S si hi
  obtain ⟨b1, b2⟩ := byt_S si hi _ hk
  have h1 : i < nI (bytS.getD si []).length := by
    obtain ⟨j, hj, e⟩ := nI_of h0
    subst e
    rw [nI_clamp hj] at hk
    exact nI_lt hk (by omega)
  refine Met.ofW (cc := cJ1_charAt_3b067) (maxL := 2) (ret := some .char) (by decide) rfl ?_
  intro p e s m args below meth c s₁ B hml hv
  obtain ⟨rfl, hW⟩ := hv
  have F : CallFix p m c cJ1_charAt_3b067 2 s _ wsJ1_charAt_3b067 RJ1 := ⟨B.exec, B.bytes, hml, findClass_of_methodNamed B.named, atoms_spec (ws := wsJ1_charAt_3b067) B.pre⟩
  have hl := lv_entry ([.ref (adV si), .int i]) (n := 2) (Nat.le_of_ble_eq_true rfl)
  rw [lg_entry_eq]
  generalize (lg_sl ([.ref (adV si), .int i]) ++ List.replicate (2 - (lg_sl ([.ref (adV si), .int i])).length) Slot.unset).toArray = ls at hl ⊢
  have hl : lv_has ls 2 [(0, .ref (adV si)), (1, .int i)] := hl
  have hS : va_S (fun _ => False) s.heap s.heap [] := va_S.rf
  have hx := F.1
  have hb := F.2.1
  have hts := F.2.2.2.2
  have hT := (hW.1.1 si hi).2.2.2
  rw [e1] at hT
  refine lv_iload_n hx hb dJ1_charAt_3b067_0 rfl (lv_at hl 1 rfl) ?_
  refine lv_aload_n hx hb dJ1_charAt_3b067_1 rfl (lv_at hl 0 rfl) ?_
  refine va_tlen (v := nI (bytS.getD si []).length) hx hb hT (vaS_no hS) rfl dJ1_charAt_3b067_2 ?_
  refine va_callv (va_runS (As := [.int i, .int (nI (bytS.getD si []).length)]) (rest := []) F (c_J0c l adK adV A i _ h0 h1) (va_cwS 2 hts gJ1_charAt_3b067_J0_checkIndex_df160 rfl rfl rfl (by decide +kernel) ⟨Nat.le_of_ble_eq_true rfl, Nat.le_of_ble_eq_true rfl⟩) (jm_pre hW (vaS_no hS) _) rfl rfl hl.1 rfl (Nat.le_of_ble_eq_true rfl) dJ1_charAt_3b067_3 ⟨Nat.zero_le _, Nat.zero_le _⟩) hS (fun q _ h => h) (fun q h => h) (fun u t H1 locs1 ht hvm hp hB _ _ hS1 => ?_)
  refine lv_aload_n hx hb dJ1_charAt_3b067_6 rfl (lv_at hl 0 rfl) ?_
  refine lv_iload_n hx hb dJ1_charAt_3b067_7 rfl (lv_at hl 1 rfl) ?_
  refine va_tb (v := .int ((bytS.getD si []).getD i.toNatClampNeg 0)) hx hb hT (vaS_no hS1) h rfl dJ1_charAt_3b067_8 ?_
  refine lv_sipush (v := 255) hx hb dJ1_charAt_3b067_9 (by decide) ?_
  refine lv_iand hx hb dJ1_charAt_3b067_12 ?_
  refine lv_i2c (v := (bytS.getD si []).getD i.toNatClampNeg 0) hx hb dJ1_charAt_3b067_13 b1 ?_
  exact W.zret hx hb B.returns (congrArg Value.int b2) (fun t ht hW => ⟨⟨_, (), rfl, rfl, trivial⟩, hS1.F ht⟩) hS1.2.2 dJ1_charAt_3b067_14 B.notSynchronized
set_option maxHeartbeats 4000000 in
theorem c_Jco (l : Launch) (adK adV : Nat → Nat) (A : Nat → Prop) (si : Nat) (hi : si < 12) : jm_i l yJ0_coder_7d493 wsJ0_coder_7d493 rmJco adK adV A [.ref (adK si)] 0 := by
  refine Met.ofW (cc := cJ0_coder_7d493) (maxL := 1) (ret := some .byte) (by decide) rfl ?_
  intro p e s m args below meth c s₁ B hml hv
  obtain ⟨rfl, hW⟩ := hv
  have F : CallFix p m c cJ0_coder_7d493 1 s _ wsJ0_coder_7d493 RJ0 := ⟨B.exec, B.bytes, hml, findClass_of_methodNamed B.named, atoms_spec (ws := wsJ0_coder_7d493) B.pre⟩
  have hl := lv_entry ([.ref (adK si)]) (n := 1) (Nat.le_of_ble_eq_true rfl)
  rw [lg_entry_eq]
  generalize (lg_sl ([.ref (adK si)]) ++ List.replicate (1 - (lg_sl ([.ref (adK si)])).length) Slot.unset).toArray = ls at hl ⊢
  have hl : lv_has ls 1 [(0, .ref (adK si))] := hl
  have hS : va_S (fun _ => False) s.heap s.heap [] := va_S.rf
  have hx := F.1
  have hb := F.2.1
  have hown := F.2.2.2.1
  have hts := F.2.2.2.2
  refine va_gets hx hb hW.2.2.1 (vaS_no hS) hown (hts _ (by decide +kernel)) (fun _ h => h) dJ0_coder_7d493_0 ?_
  refine lv_if_eq (tgt := 13) hx hb dJ0_coder_7d493_3 (by decide) (fun q => absurd q (by decide)) (fun _ => ?_)
  refine lv_aload_n hx hb dJ0_coder_7d493_6 rfl (lv_at hl 0 rfl) ?_
  refine vk_getf hx hb (hW.1.1 si hi).2.1 (vaS_no hS) hown (hts _ (by decide +kernel)) (fun _ h => h) dJ0_coder_7d493_7 ?_
  refine lv_goto (tgt := 14) hx hb dJ0_coder_7d493_10 (by decide) ?_
  exact W.zret hx hb B.returns rfl (fun t ht hW => ⟨⟨0, (), rfl, rfl, trivial⟩, hS.F ht⟩) hS.2.2 dJ0_coder_7d493_14 B.notSynchronized
set_option maxHeartbeats 4000000 in
theorem c_Jla (l : Launch) (adK adV : Nat → Nat) (A : Nat → Prop) (si : Nat) (hi : si < 12) : jm_i l yJ0_isLatin1_aae02 wsJ0_isLatin1_aae02 rmJco adK adV A [.ref (adK si)] 1 := by
  refine Met.ofW (cc := cJ0_isLatin1_aae02) (maxL := 1) (ret := some .boolean) (by decide) rfl ?_
  intro p e s m args below meth c s₁ B hml hv
  obtain ⟨rfl, hW⟩ := hv
  have F : CallFix p m c cJ0_isLatin1_aae02 1 s _ wsJ0_isLatin1_aae02 RJ0 := ⟨B.exec, B.bytes, hml, findClass_of_methodNamed B.named, atoms_spec (ws := wsJ0_isLatin1_aae02) B.pre⟩
  have hl := lv_entry ([.ref (adK si)]) (n := 1) (Nat.le_of_ble_eq_true rfl)
  rw [lg_entry_eq]
  generalize (lg_sl ([.ref (adK si)]) ++ List.replicate (1 - (lg_sl ([.ref (adK si)])).length) Slot.unset).toArray = ls at hl ⊢
  have hl : lv_has ls 1 [(0, .ref (adK si))] := hl
  have hS : va_S (fun _ => False) s.heap s.heap [] := va_S.rf
  have hx := F.1
  have hb := F.2.1
  have hown := F.2.2.2.1
  have hts := F.2.2.2.2
  refine va_gets hx hb hW.2.2.1 (vaS_no hS) hown (hts _ (by decide +kernel)) (fun _ h => h) dJ0_isLatin1_aae02_0 ?_
  refine lv_if_eq (tgt := 17) hx hb dJ0_isLatin1_aae02_3 (by decide) (fun q => absurd q (by decide)) (fun _ => ?_)
  refine lv_aload_n hx hb dJ0_isLatin1_aae02_6 rfl (lv_at hl 0 rfl) ?_
  refine vk_getf hx hb (hW.1.1 si hi).2.1 (vaS_no hS) hown (hts _ (by decide +kernel)) (fun _ h => h) dJ0_isLatin1_aae02_7 ?_
  refine lv_if_ne (tgt := 17) hx hb dJ0_isLatin1_aae02_10 (by decide) (fun q => absurd rfl q) (fun _ => ?_)
  refine lv_iconst (v := 1) hx hb dJ0_isLatin1_aae02_13 (by decide) ?_
  refine lv_goto (tgt := 18) hx hb dJ0_isLatin1_aae02_14 (by decide) ?_
  exact W.zret hx hb B.returns rfl (fun t ht hW => ⟨⟨1, (), rfl, rfl, trivial⟩, hS.F ht⟩) hS.2.2 dJ0_isLatin1_aae02_18 B.notSynchronized
theorem shr0 {n : Nat} : nI n >>> ((0 : Int32) &&& 31) = nI n := by
  rw [show (0 : Int32) &&& 31 = 0 by decide]
  exact Int32.shiftRight_zero
set_option maxHeartbeats 4000000 in
theorem c_Jln (l : Launch) (adK adV : Nat → Nat) (A : Nat → Prop) (si : Nat) (hi : si < 12) : jm_i l yJ0_length_8abf5 wsJ0_length_8abf5 rmJln adK adV A [.ref (adK si)] (nI (bytS.getD si []).length) := by
  obtain ⟨e1, e2⟩ := len_S si hi
  refine Met.ofW (cc := cJ0_length_8abf5) (maxL := 1) (ret := some .int) (by decide) rfl ?_
  intro p e s m args below meth c s₁ B hml hv
  obtain ⟨rfl, hW⟩ := hv
  have F : CallFix p m c cJ0_length_8abf5 1 s _ wsJ0_length_8abf5 RJ0 := ⟨B.exec, B.bytes, hml, findClass_of_methodNamed B.named, atoms_spec (ws := wsJ0_length_8abf5) B.pre⟩
  have hl := lv_entry ([.ref (adK si)]) (n := 1) (Nat.le_of_ble_eq_true rfl)
  rw [lg_entry_eq]
  generalize (lg_sl ([.ref (adK si)]) ++ List.replicate (1 - (lg_sl ([.ref (adK si)])).length) Slot.unset).toArray = ls at hl ⊢
  have hl : lv_has ls 1 [(0, .ref (adK si))] := hl
  have hS : va_S (fun _ => False) s.heap s.heap [] := va_S.rf
  have hx := F.1
  have hb := F.2.1
  have hown := F.2.2.2.1
  have hts := F.2.2.2.2
  have hT := (hW.1.1 si hi).2.2.2
  rw [e1] at hT
  refine lv_aload_n hx hb dJ0_length_8abf5_0 rfl (lv_at hl 0 rfl) ?_
  refine vk_getf hx hb (hW.1.1 si hi).2.2.1 (vaS_no hS) hown (hts _ (by decide +kernel)) (fun _ h => h) dJ0_length_8abf5_1 ?_
  refine va_tlen (v := nI (bytS.getD si []).length) hx hb hT (vaS_no hS) rfl dJ0_length_8abf5_4 ?_
  refine lv_aload_n hx hb dJ0_length_8abf5_5 rfl (lv_at hl 0 rfl) ?_
  refine va_calli (va_runV (As := []) (rest := [.int (nI (bytS.getD si []).length)]) F (c_Jco l adK adV A si hi) (cwV 0 hts gJ0_length_8abf5_J0_coder_7d493 rfl rfl rfl (by decide +kernel) ⟨Nat.le_of_ble_eq_true rfl, Nat.le_of_ble_eq_true rfl⟩) (jm_preV hW (vaS_no hS) hi []) rfl rfl hl.1 rfl (lv_room (Nat.le_of_ble_eq_true rfl)) dJ0_length_8abf5_6 ⟨Nat.zero_le _, Nat.zero_le _⟩) hS (fun q _ h => h) (fun q h => h) (fun r1 u t H1 locs1 ht hvm hp hB _ _ hS1 => ?_)
  obtain rfl := hp
  refine lv_ishr hx hb dJ0_length_8abf5_9 ?_
  rw [shr0]
  exact W.zret hx hb B.returns rfl (fun t ht hW => ⟨⟨_, (), rfl, rfl, trivial⟩, hS1.F ht⟩) hS1.2.2 dJ0_length_8abf5_10 B.notSynchronized
set_option maxHeartbeats 4000000 in
theorem c_Jch (l : Launch) (adK adV : Nat → Nat) (A : Nat → Prop) (si : Nat) (hi : si < 12) (i : Int32) (h : vp_in i (bytS.getD si []).length) : jm_i l yJ0_charAt_5068e wsJ0_charAt_5068e rmJch adK adV A [.ref (adK si), .int i] ((bytS.getD si []).getD i.toNatClampNeg 0) := by
  have hk : i.toNatClampNeg < (bytS.getD si []).length := Nat.not_le.mp fun q => h (Or.inr q)
  obtain ⟨b1, b2⟩ := byt_S si hi _ hk
  refine Met.ofW (cc := cJ0_charAt_5068e) (maxL := 2) (ret := some .char) (by decide) rfl ?_
  intro p e s m args below meth c s₁ B hml hv
  obtain ⟨rfl, hW⟩ := hv
  have F : CallFix p m c cJ0_charAt_5068e 2 s _ wsJ0_charAt_5068e RJ0 := ⟨B.exec, B.bytes, hml, findClass_of_methodNamed B.named, atoms_spec (ws := wsJ0_charAt_5068e) B.pre⟩
  have hl := lv_entry ([.ref (adK si), .int i]) (n := 2) (Nat.le_of_ble_eq_true rfl)
  rw [lg_entry_eq]
  generalize (lg_sl ([.ref (adK si), .int i]) ++ List.replicate (2 - (lg_sl ([.ref (adK si), .int i])).length) Slot.unset).toArray = ls at hl ⊢
  have hl : lv_has ls 2 [(0, .ref (adK si)), (1, .int i)] := hl
  have hS : va_S (fun _ => False) s.heap s.heap [] := va_S.rf
  have hx := F.1
  have hb := F.2.1
  have hown := F.2.2.2.1
  have hts := F.2.2.2.2
  refine lv_aload_n hx hb dJ0_charAt_5068e_0 rfl (lv_at hl 0 rfl) ?_
  refine va_calli (va_runV (As := []) (rest := []) F (c_Jla l adK adV A si hi) (cwV 0 hts gJ0_charAt_5068e_J0_isLatin1_aae02 rfl rfl rfl (by decide +kernel) ⟨Nat.le_of_ble_eq_true rfl, Nat.le_of_ble_eq_true rfl⟩) (jm_preV hW (vaS_no hS) hi []) rfl rfl hl.1 rfl (lv_room (Nat.le_of_ble_eq_true rfl)) dJ0_charAt_5068e_1 ⟨Nat.zero_le _, Nat.zero_le _⟩) hS (fun q _ h => h) (fun q h => h) (fun r1 u t H1 locs1 ht hvm hp hB _ _ hS1 => ?_)
  obtain rfl := hp
  refine lv_if_eq (tgt := 16) hx hb dJ0_charAt_5068e_4 (by decide) (fun q => absurd q (by decide)) (fun _ => ?_)
  refine lv_aload_n hx hb dJ0_charAt_5068e_7 rfl (lv_at hl 0 rfl) ?_
  refine vk_getf hx hb (hW.1.1 si hi).2.2.1 (vaS_no hS1) hown (hts _ (by decide +kernel)) (fun _ h => h) dJ0_charAt_5068e_8 ?_
  refine lv_iload_n hx hb dJ0_charAt_5068e_11 rfl (lv_at hl 1 rfl) ?_
  refine va_calli (va_runS (As := [.ref (adV si), .int i]) (rest := []) F (c_J1 l adK adV A si hi i h) (va_cwS 2 hts gJ0_charAt_5068e_J1_charAt_3b067 rfl rfl rfl (by decide +kernel) ⟨Nat.le_of_ble_eq_true rfl, Nat.le_of_ble_eq_true rfl⟩) (jm_pre hW (vaS_no hS1) _) rfl rfl hl.1 rfl (Nat.le_of_ble_eq_true rfl) dJ0_charAt_5068e_12 ⟨Nat.zero_le _, Nat.zero_le _⟩) hS1 (fun q _ h => h) (fun q h => h) (fun r2 u2 t2 H2 locs2 ht2 hvm2 hp2 hB2 _ _ hS2 => ?_)
  obtain rfl := hp2
  exact W.zret hx hb B.returns (congrArg Value.int b2) (fun t ht hW => ⟨⟨_, (), rfl, rfl, trivial⟩, hS2.F ht⟩) hS2.2.2 dJ0_charAt_5068e_15 B.notSynchronized
/-- the system's methods that use the constants -/
def wms_Pc (adK adV : Nat → Nat) (D : va_G) (cA : Nat → ClassId) (ad : Nat → Nat) (ds : List wd_D) (M : Mem) (av : List Value) : Array Value → State → Prop := va_Pc av (fun U => wd_P D cA ad ds M U.heap ∧ wd_K D cA U ∧ SW adK adV (wd_A ad ds.length) U U.heap)
def wms_i (adK adV : Nat → Nat) (l : Launch) (y : MethodName) (ws : List Cond) (rm : Room) (D : va_G) (cA : Nat → ClassId) (ad : Nat → Nat) (ds : List wd_D) (M : Mem) (av : List Value) (r : Int32) (M' : Mem) : Prop := Met l y ws rm (wms_Pc adK adV D cA ad ds M av) (wm_Qi D cA ad ds r M') 0 0 (wd_A ad ds.length)
section WDS
variable {p : Program} {l : Launch} {e : Env} {R : Room} {s : State} {m : MethodId} {args : Array Value} {below : List Frame} {meth : Method} {c : Code} {H : Heap} {locs : List Loc} {cells slots : Nat} {Q : State → Prop}
variable {cc : ByteArray} {nL : Nat} {pc : Nat} {ls : Array Slot} {rest : List Value} {D : va_G} {cA : Nat → ClassId} {ad : Nat → Nat} {ds : List wd_D} {M : Mem} {H0 : Heap} {Ts : List Cond} {own : String} {rt : Option FieldType} {A : Nat → Prop}
variable {y : MethodName} {bytes : ByteArray} {maxL n index : Nat} {ret : Option FieldType} {ws : List Cond} {rm : Room} {C : String} {As st0 : List Value} {M' : Mem} {adK adV : Nat → Nat}
theorem wds_blind (M : Mem) (av : List Value) : FrameBlind (wms_Pc adK adV D cA ad ds M av) := fun a U g mk q => by
  obtain ⟨q0, qP, qK, qW⟩ := q
  exact ⟨q0, qP, va_K.moved (u := U) (U := U.calling g mk a) (Vm.Alike.refl U.vm) qK, SW.call qW⟩
theorem wds_preV (X : wd_X p s m args meth c cc nL Ts own rt D cA ad ds.length) (hP : wd_P D cA ad ds M H) (hS : va_S (wd_A ad ds.length) s.heap H locs) (hW : SW adK adV (wd_A ad ds.length) s s.heap) {T : u_T} {N ci : Nat} {fs : List (Option Nat)} {o : Nat} (hd : ds[o]? = some (.inr (ci, fs))) (hc : vwCl[ci]? = some (C, T, N)) : PreV s H C (ad o) (wms_Pc adK adV D cA ad ds M (.ref (ad o) :: As)) As := by
  obtain ⟨⟨hx, hb, -, -, -⟩, hK, -, -, -⟩ := X
  refine ⟨wds_blind M _, va_recv (q := (C, T, N)) hK hP hc (wd_cell hd), fun U hU hw => ⟨rfl, ?_, va_K.moved hw.alike hK, ?_⟩⟩
  · show wd_P D cA ad ds M U.heap
    rw [hU]; exact hP
  · show SW adK adV (wd_A ad ds.length) U U.heap
    rw [hU]; exact SW.warm hw (hW.kept hS.2.1)
theorem wd_callis (X : wd_X p s m args meth c cc nL Ts own rt D cA ad ds.length) (hP : wd_P D cA ad ds M H) (hS : va_S (wd_A ad ds.length) s.heap H locs) (hW : SW adK adV (wd_A ad ds.length) s s.heap) (As : List Value) (rest : List Value) {r : Int32} {o : Nat} (hM : wms_i adK adV l y ws rm D cA ad ds M (.ref (ad o) :: As) r M') (cw : CallW R s args own C index y bytes maxL ret ws rm 0 0 n) {T : u_T} {N ci : Nat} {fs : List (Option Nat)} (hd : ds[o]? = some (.inr (ci, fs))) (hc : vwCl[ci]? = some (C, T, N)) (hn : As.length = n) (hsz : ls.size = nL) (hst : st0 = As.reverse ++ .ref (ad o) :: rest) (hWd : (rest.map fun v => v.category).sum ≤ 8) (hdg : decode cc pc = .ok (.invokevirtual index, 3))
    (kk : ∀ (H1 : Heap) (locs1 : List Loc), wd_P D cA ad ds M' H1 → va_S (wd_A ad ds.length) s.heap H1 locs1 → W p l e R s m args below meth c H1 locs1 0 0 Q (F0 m (pc + 3) ls (.int r :: rest))) : W p l e R s m args below meth c H locs 0 0 Q (F0 m pc ls st0) := by
  refine va_calli (va_runV (As := As) (rest := rest) X.1 hM cw (wds_preV X hP hS hW hd hc) rfl hn hsz hst (lv_room hWd) hdg ⟨Nat.zero_le _, Nat.zero_le _⟩) hS (fun q _ h => h) (fun q h => h) (fun r1 u t H1 locs1 ht hvm hp hB _ _ hS1 => ?_)
  obtain ⟨rfl, rfl⟩ := hp
  refine kk H1 locs1 ?_ hS1
  rw [← ht]; exact hB.1
theorem wd_slen (X : wd_X p s m args meth c cc nL Ts own rt D cA ad ds.length) (hP : wd_P D cA ad ds M H) (hS : va_S (wd_A ad ds.length) s.heap H locs) (hW : SW adK adV (wd_A ad ds.length) s s.heap) {si : Nat} (hi : si < 12) (rest : List Value) (cw : CallW R s args own RJ0 index yJ0_length_8abf5 bytes maxL ret wsJ0_length_8abf5 rmJln 0 0 0) (hsz : ls.size = nL) (hWd : (rest.map fun v => v.category).sum ≤ 8) (hdg : decode cc pc = .ok (.invokevirtual index, 3))
    (kk : ∀ (H1 : Heap) (locs1 : List Loc), wd_P D cA ad ds M H1 → va_S (wd_A ad ds.length) s.heap H1 locs1 → W p l e R s m args below meth c H1 locs1 0 0 Q (F0 m (pc + 3) ls (.int (nI (bytS.getD si []).length) :: rest))) : W p l e R s m args below meth c H locs 0 0 Q (F0 m pc ls (.ref (adK si) :: rest)) := by
  refine va_calli (va_runV (As := []) (rest := rest) X.1 (c_Jln l adK adV (wd_A ad ds.length) si hi) cw (jm_preV hW hS hi []) rfl rfl hsz rfl (lv_room hWd) hdg ⟨Nat.zero_le _, Nat.zero_le _⟩) hS (fun q _ h => h.elim) (fun q h => h.elim) (fun r1 u t H1 locs1 ht hvm hp hB _ hk hS1 => ?_)
  obtain rfl := hp
  exact kk H1 locs1 (fun k q hq => (hP k q hq).kept (hk q.1 (hP k q hq).lt (fun z => z))) hS1
theorem wd_schar (X : wd_X p s m args meth c cc nL Ts own rt D cA ad ds.length) (hP : wd_P D cA ad ds M H) (hS : va_S (wd_A ad ds.length) s.heap H locs) (hW : SW adK adV (wd_A ad ds.length) s s.heap) {si : Nat} (hi : si < 12) {i : Int32} (h : vp_in i (bytS.getD si []).length) (rest : List Value) (cw : CallW R s args own RJ0 index yJ0_charAt_5068e bytes maxL ret wsJ0_charAt_5068e rmJch 0 0 1) (hsz : ls.size = nL) (hWd : (rest.map fun v => v.category).sum ≤ 8) (hdg : decode cc pc = .ok (.invokevirtual index, 3))
    (kk : ∀ (H1 : Heap) (locs1 : List Loc), wd_P D cA ad ds M H1 → va_S (wd_A ad ds.length) s.heap H1 locs1 → W p l e R s m args below meth c H1 locs1 0 0 Q (F0 m (pc + 3) ls (.int ((bytS.getD si []).getD i.toNatClampNeg 0) :: rest))) : W p l e R s m args below meth c H locs 0 0 Q (F0 m pc ls (.int i :: .ref (adK si) :: rest)) := by
  refine va_calli (va_runV (As := [.int i]) (rest := rest) X.1 (c_Jch l adK adV (wd_A ad ds.length) si hi i h) cw (jm_preV hW hS hi [.int i]) rfl rfl hsz rfl (lv_room hWd) hdg ⟨Nat.zero_le _, Nat.zero_le _⟩) hS (fun q _ h => h.elim) (fun q h => h.elim) (fun r1 u t H1 locs1 ht hvm hp hB _ hk hS1 => ?_)
  obtain rfl := hp
  exact kk H1 locs1 (fun k q hq => (hP k q hq).kept (hk q.1 (hP k q hq).lt (fun z => z))) hS1
end WDS
