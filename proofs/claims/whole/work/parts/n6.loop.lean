/-! The law's loop. -/
section LOOP
variable {p : Program} {e : Env} {s : State} {m : MethodId} {below : List Frame} {meth : Method} {c : Code} {H : Heap} {locs : List Loc} {cells slots : Nat} {Q : State → Prop}
variable {ls : Array Slot} {D : va_G} {cA : Nat → ClassId} {ad bd : Nat → Nat} {M N : Mem} {adK adV adT : Nat → Nat} {cL : ClassId} {o b L i : Nat} {f : Nat → Int64} {xs : Nat → Int32}
theorem nI_add4 (i : Nat) : nI i + Int32.ofInt 4 = nI (i + 4) := nI_add i 4
set_option maxHeartbeats 4000000 in
theorem law_loop (l : Launch) (hlt : l.stackTraces = false) (S : CallFix p m c cL_law 7 s #[Value.ref b] wsN_law RL) (hr : meth.sig.returnType = ret) (hlocks : meth.locks = false) (F : LFx s D cA cL ad bd o adK adV adT) (hX : va_X b L xs s s.heap) (hbl : b < s.heap.size) (hL : L ≤ 2048) :
    ∀ (n k : Nat) (M N : Mem) (f : Nat → Int64) (H : Heap) (locs : List Loc) (ls : Array Slot), L + 4 ≤ 4 * k + n → 4 * k ≤ L + 3 → Rel M N → LT s D cA cL ad bd o M N f H locs → lv_has ls 7 (LVs b ad bd o (4 * k)) → W p l e room_1 s m #[Value.ref b] below meth c H locs (200 + k) (20000 + 6 * k) (lw_Z below #[Value.ref b] s) (F0 m 23 ls []) := by
  obtain ⟨hx, hb, -, hown, hts⟩ := id S
  have hbA : ¬ cnA s.heap.size b := Nat.not_le.mpr hbl
  intro n
  induction n using Nat.strongRecOn with
  | _ n ih =>
  intro k M N f H locs ls hn hk hRel h hl0
  have hl : lv_has ls 7 [(0, .ref b), (1, .ref (ad 0)), (2, .ref (bd 0)), (3, .ref o), (4, .int (nI (4 * k)))] := hl0
  refine lv_iload hx hb dL_law_23 (lv_at hl 4 rfl) ?_
  refine lv_aload_n hx hb dL_law_25 rfl (lv_at hl 0 rfl) ?_
  refine va_slen hx hb hX hbl hbA h.2.2.2 dL_law_26 ?_
  refine lv_iconst (v := (4 : Int32)) hx hb dL_law_27 (by decide) ?_
  refine lv_isub hx hb dL_law_28 ?_
  have sub4 : (Int32.ofNat L - 4).toInt = (L : Int) - 4 := by
    have e4 : (4 : Int32).toInt = 4 := by decide
    have eL : (Int32.ofNat L).toInt = (L : Int) := nI_toInt (by omega)
    rw [Int32.toInt_sub, eL, e4]
    exact Int.bmod_eq_of_le (by omega) (by omega)
  have eK : (nI (4 * k)).toInt = ((4 * k : Nat) : Int) := nI_toInt (by omega)
  refine lv_icmp_gt (tgt := 563) hx hb dL_law_29 (by decide) (fun c1 => ?_) (fun c1 => ?_)
  · refine lv_iconst (v := (1 : Int32)) hx hb dL_law_563 (by decide) ?_
    refine va_forget (fun q hq => h.2.2.2.2.2 q hq) ?_
    refine W.widen (k := 601024) (n := 7293034) (by omega) (by omega) ?_
    exact lw_ret hx hb hr hlocks dL_law_564
  · rw [Int32.lt_iff_toInt_lt, sub4, eK] at c1
    have hi : 4 * k + 3 < L := by omega
    have nxt : ∀ (M1 N1 : Mem) (f1 : Nat → Int64) (H1 : Heap) (locs1 : List Loc) (ls1 : Array Slot), Rel M1 N1 → LT s D cA cL ad bd o M1 N1 f1 H1 locs1 → lv_has ls1 7 (LVs b ad bd o (4 * k)) → W p l e room_1 s m #[Value.ref b] below meth c H1 locs1 (200 + k + 1) (20000 + 6 * k + 6) (lw_Z below #[Value.ref b] s) (F0 m 557 ls1 []) := fun M1 N1 f1 H1 locs1 ls1 g1 g2 g3 => by
      have g3 : lv_has ls1 7 [(0, .ref b), (1, .ref (ad 0)), (2, .ref (bd 0)), (3, .ref o), (4, .int (nI (4 * k)))] := g3
      refine lv_iinc (v := nI (4 * k + 4)) (lv' := [(4, .int (nI (4 * k + 4))), (0, .ref b), (1, .ref (ad 0)), (2, .ref (bd 0)), (3, .ref o)]) hx hb dL_law_557 g3 (k := 4) rfl (nI_add4 _) (by decide) rfl (fun ls g3 => ?_)
      refine lv_goto (tgt := 23) hx hb dL_law_560 (by decide) ?_
      exact ih (n - 4) (by omega) (k + 1) M1 N1 f1 H1 locs1 ls (by omega) (by omega) g1 g2 (lv_sub g3 [1, 2, 3, 4, 0] rfl)
    have hR : 200 + k + 1 ≤ 601024 ∧ 20000 + 6 * k + 6 ≤ 7293034 := ⟨by omega, by omega⟩
    refine lv_aload_n hx hb dL_law_32 rfl (lv_at hl 0 rfl) ?_
    refine lv_iload hx hb dL_law_33 (lv_at hl 4 rfl) ?_
    refine va_sld hx hb hX hbl hbA h.2.2.2 (vp_in_nI (by omega) (by omega)) dL_law_35 ?_
    refine lv_bipush (v := (15 : Int32)) hx hb dL_law_36 (by decide) ?_
    refine lv_iand hx hb dL_law_38 ?_
    obtain ⟨j, hj, ej⟩ := pk_andE (xs (nI (4 * k)).toNatClampNeg) (m := 15) 4 (by decide)
    rw [ej]
    have ejI : (nI j).toInt = (j : Int) := nI_toInt (by omega)
    by_cases h12 : 12 ≤ j
    · refine lv_tableOut (tgt := 557) hx hb dL_law_39 (Or.inr (by rw [ejI]; omega)) (by decide) ?_
      refine W.widen (k := 200 + k + 1) (n := 20000 + 6 * k + 6) (by omega) (by omega) ?_
      exact nxt _ _ _ _ _ _ hRel h hl0
    by_cases e0 : j = 0
    · subst e0
      refine lv_tableIn (tgt := 100) hx hb dL_law_39 (by rw [ejI]; decide) (by rw [ejI]; decide) (by rw [ejI]; rfl) (by decide) ?_
      exact k_write l hlt S F hX hbl hL hi hRel h hl0 hR nxt
    by_cases e1 : j = 1
    · subst e1
      refine lv_tableIn (tgt := 127) hx hb dL_law_39 (by rw [ejI]; decide) (by rw [ejI]; decide) (by rw [ejI]; rfl) (by decide) ?_
      exact k_line l hlt S F hX hbl hL hi hRel h hl0 hR nxt
    by_cases e2 : j = 2
    · subst e2
      refine lv_tableIn (tgt := 171) hx hb dL_law_39 (by rw [ejI]; decide) (by rw [ejI]; decide) (by rw [ejI]; rfl) (by decide) ?_
      exact k_compile l hlt S F hX hbl hL hi hRel h hl0 hR nxt
    by_cases e3 : j = 3
    · subst e3
      refine lv_tableIn (tgt := 215) hx hb dL_law_39 (by rw [ejI]; decide) (by rw [ejI]; decide) (by rw [ejI]; rfl) (by decide) ?_
      exact k_configurations l hlt S F hX hbl hL hi hRel h hl0 hR nxt
    by_cases e4 : j = 4
    · subst e4
      refine lv_tableIn (tgt := 228) hx hb dL_law_39 (by rw [ejI]; decide) (by rw [ejI]; decide) (by rw [ejI]; rfl) (by decide) ?_
      exact k_count l hlt S F hX hbl hL hi hRel h hl0 hR nxt
    by_cases e5 : j = 5
    · subst e5
      refine lv_tableIn (tgt := 253) hx hb dL_law_39 (by rw [ejI]; decide) (by rw [ejI]; decide) (by rw [ejI]; rfl) (by decide) ?_
      exact k_named l hlt S F hX hbl hL hi hRel h hl0 hR nxt
    by_cases e6 : j = 6
    · subst e6
      refine lv_tableIn (tgt := 297) hx hb dL_law_39 (by rw [ejI]; decide) (by rw [ejI]; decide) (by rw [ejI]; rfl) (by decide) ?_
      exact k_next l hlt S F hX hbl hL hi hRel h hl0 hR nxt
    by_cases e7 : j = 7
    · subst e7
      refine lv_tableIn (tgt := 365) hx hb dL_law_39 (by rw [ejI]; decide) (by rw [ejI]; decide) (by rw [ejI]; rfl) (by decide) ?_
      exact k_trace l hlt S F hX hbl hL hi hRel h hl0 hR nxt
    by_cases e8 : j = 8
    · subst e8
      refine lv_tableIn (tgt := 414) hx hb dL_law_39 (by rw [ejI]; decide) (by rw [ejI]; decide) (by rw [ejI]; rfl) (by decide) ?_
      exact k_active l hlt S F hX hbl hL hi hRel h hl0 hR nxt
    by_cases e9 : j = 9
    · subst e9
      refine lv_tableIn (tgt := 451) hx hb dL_law_39 (by rw [ejI]; decide) (by rw [ejI]; decide) (by rw [ejI]; rfl) (by decide) ?_
      exact k_current l hlt S F hX hbl hL hi hRel h hl0 hR nxt
    by_cases e10 : j = 10
    · subst e10
      refine lv_tableIn (tgt := 488) hx hb dL_law_39 (by rw [ejI]; decide) (by rw [ejI]; decide) (by rw [ejI]; rfl) (by decide) ?_
      exact k_event l hlt S F hX hbl hL hi hRel h hl0 hR nxt
    by_cases e11 : j = 11
    · subst e11
      refine lv_tableIn (tgt := 544) hx hb dL_law_39 (by rw [ejI]; decide) (by rw [ejI]; decide) (by rw [ejI]; rfl) (by decide) ?_
      exact k_noted l hlt S F hX hbl hL hi hRel h hl0 hR nxt
    omega
end LOOP
