/-! The law, from its entry; the claim. -/
theorem tb_nest : Cond.methodLinkNest RX7 11 yX0_init "ChartTable" ∈ lw_tbl ∧ Cond.methodLinkNest RX7 25 yX3_init "ChartTable" ∈ lw_tbl := by decide +kernel
theorem tb_start : (Cond.classLink RL 8 RX7 ∈ lw_tbl ∧ Cond.classLink RL 34 RX8 ∈ lw_tbl ∧ Cond.instantiable RX7 5 ∈ lw_tbl ∧ Cond.instantiable RX8 39 ∈ lw_tbl ∧ Cond.initialized RX7 ∈ lw_tbl ∧ Cond.initialized RX8 ∈ lw_tbl ∧ Cond.methodLink RL 33 yX7_init ∈ lw_tbl ∧ Cond.methodLink RL 36 yX8_init ∈ lw_tbl ∧ Cond.instanceMethod yX7_init ∈ lw_tbl ∧ Cond.instanceMethod yX8_init ∈ lw_tbl) ∧ (Cond.arrayClass .long ∈ lw_tbl ∧ Cond.arrayClass .int ∈ lw_tbl ∧ Cond.arrayClass .char ∈ lw_tbl ∧ Cond.arrayClass .boolean ∈ lw_tbl) ∧ (Cond.instantiable RX0 5 ∈ lw_tbl ∧ Cond.instantiable RX1 4 ∈ lw_tbl ∧ Cond.instantiable RX2 3 ∈ lw_tbl ∧ Cond.instantiable RX3 10 ∈ lw_tbl ∧ Cond.instantiable RX4 9 ∈ lw_tbl ∧ Cond.instantiable RX5 9 ∈ lw_tbl ∧ Cond.instantiable RX6 5 ∈ lw_tbl) := by decide +kernel
theorem st_blind (base : Nat) (D : va_G) (cA : Nat → ClassId) (w : va_W) (av : List Value) : FrameBlind (va_Pc av (fun U => base ≤ U.heap.size ∧ va_P D vwCl w U.heap ∧ wd_K D cA U ∧ va_D (cnA base) w ∧ va_Nw (.methodLinkNest RX7 11 yX0_init "ChartTable") U ∧ va_Nw (.methodLinkNest RX7 25 yX3_init "ChartTable") U)) := fun a U g mk q => by
  obtain ⟨q0, qb, qP, qK, qD, qn, qm⟩ := q
  exact ⟨q0, qb, qP, va_K.moved (u := U) (U := U.calling g mk a) (Vm.Alike.refl U.vm) qK, qD, va_Nw.same (u := U) rfl rfl qn, va_Nw.same (u := U) rfl rfl qm⟩
set_option maxHeartbeats 4000000 in
set_option maxRecDepth 100000 in
theorem whole_start {p : Program} {e : Env} {s : State} {m : MethodId} {below : List Frame} {meth : Method} {c : Code} (l : Launch) (hlt : l.stackTraces = false) {b L : Nat} {xs : Nat → Int32} (hL : L ≤ 2048) (C0 : lw_At p s m meth c b L xs) : W p l e room_1 s m #[Value.ref b] below meth c s.heap [] 0 0 (lw_Z below #[Value.ref b] s) (entryFrame m ([Value.ref b] : List Value).toArray 7) := by
  obtain ⟨hx, hb, hr, hml, hown, hts, hX, hbl, hlocks, hgv⟩ := id C0
  have hgn : narrow_1.before #[Value.ref b] s = true := n_r hgv
  obtain ⟨adK, adV, hSW⟩ := sw_start hgn hts
  obtain ⟨adT, hXW⟩ := xw_start hgn hts
  obtain ⟨⟨b1, b2, b3, b4, b5, b6, b7, b8, b9, b10⟩, ⟨t0, t1, t2, t3⟩, i0, i1, i2, i3, i4, i5, i6⟩ := tb_start
  have S : CallFix p m c cL_law 7 s #[Value.ref b] wsN_law RL := ⟨hx, hb, hml, hown, fun w hw => hts w (wsN_law_in w hw)⟩
  have htl := S.2.2.2.2
  have hownL : s.vm.findClass RL = some m.cls := hown
  obtain ⟨c0, iS0, k0⟩ := u_known (C := RX0) (T := TX0) (N := 5) (n := 5) hts li_35 (hts _ i0)
  obtain ⟨c1, iS1, k1⟩ := u_known (C := RX1) (T := TX1) (N := 4) (n := 4) hts li_40 (hts _ i1)
  obtain ⟨c2, iS2, k2⟩ := u_known (C := RX2) (T := TX2) (N := 3) (n := 3) hts li_38 (hts _ i2)
  obtain ⟨c3, iS3, k3⟩ := u_known (C := RX3) (T := TX3) (N := 10) (n := 10) hts li_37 (hts _ i3)
  obtain ⟨c4, iS4, k4⟩ := u_known (C := RX4) (T := TX4) (N := 9) (n := 9) hts li_36 (hts _ i4)
  obtain ⟨c5, iS5, k5⟩ := u_known (C := RX5) (T := TX5) (N := 9) (n := 9) hts li_39 (hts _ i5)
  obtain ⟨c6, iS6, k6⟩ := u_known (C := RX6) (T := TX6) (N := 5) (n := 5) hts li_41 (hts _ i6)
  obtain ⟨c7, iS7, k7⟩ := u_known (C := RX7) (T := TX7) (N := 5) (n := 5) hts li_33 (hts _ b3)
  obtain ⟨c8, iS8, k8⟩ := u_known (C := RX8) (T := TX8) (N := 39) (n := 39) hts li_34 (hts _ b4)
  obtain ⟨D, hKc⟩ : ∃ D : va_G, ∀ (k : Nat) (q : vw_C), vwCl[k]? = some q → u_Kn s q.1 q.2.1 q.2.2 (D.1 k) (D.2 k) := by
    refine ⟨(fun k => [c0, c1, c2, c3, c4, c5, c6, c7, c8].getD k c0, fun k => [iS0, iS1, iS2, iS3, iS4, iS5, iS6, iS7, iS8].getD k iS0), ?_⟩
    intro k q hq
    match k, hq with
    | 0, hq => cases hq; exact k0
    | 1, hq => cases hq; exact k1
    | 2, hq => cases hq; exact k2
    | 3, hq => cases hq; exact k3
    | 4, hq => cases hq; exact k4
    | 5, hq => cases hq; exact k5
    | 6, hq => cases hq; exact k6
    | 7, hq => cases hq; exact k7
    | 8, hq => cases hq; exact k8
    | k + 9, hq => simp at hq
  obtain ⟨x0, y0, z0⟩ := arr_of (hts _ t1)
  obtain ⟨x1, y1, z1⟩ := arr_of (hts _ t2)
  obtain ⟨x2, y2, z2⟩ := arr_of (hts _ t3)
  obtain ⟨cA, hcA⟩ : ∃ cA : Nat → ClassId, ∀ (k : Nat) (q : ClassId × FieldType), (wd_t cA)[k]? = some q → ArrOfT s q.1 q.2 ∧ va_RA s q.1 q.2 := by
    refine ⟨fun k => [x0, x1, x2].getD k x0, ?_⟩
    intro k q hq
    match k, hq with
    | 0, hq => cases hq; exact ⟨y0, z0⟩
    | 1, hq => cases hq; exact ⟨y1, z1⟩
    | 2, hq => cases hq; exact ⟨y2, z2⟩
    | k + 3, hq => simp at hq
  have hK : wd_K D cA s := ⟨hKc, hcA⟩
  have hA : ∀ q : Nat, s.heap.size ≤ q → cnA s.heap.size q := fun _ h => h
  have hS : va_S (cnA s.heap.size) s.heap s.heap [] := va_S.rf
  have hP : va_P D vwCl [] s.heap := fun k q h => by simp at h
  have hD : va_D (cnA s.heap.size) [] := ⟨fun i j p q h => by simp at h, fun k q h => by simp at h⟩
  have hl := lv_entry ([.ref b]) (n := 7) (Nat.le_of_ble_eq_true rfl)
  rw [lg_entry_eq]
  generalize (lg_sl ([.ref b]) ++ List.replicate (7 - (lg_sl ([.ref b])).length) Slot.unset).toArray = ls at hl ⊢
  have hl : lv_has ls 7 [(0, .ref b)] := hl
  refine va_new (ci := 7) (fs := [.null, .null, .null, .null, .null]) (C := RX7) (T := TX7) (N := 5) hx hb hts li_33 tyX7 tyX7_ok hownL (hts _ b1) (hts _ b3) (hts _ b5) hK hP hD hS hA rfl (fun j hj => match j, hj with | 0, _ => rfl | 1, _ => rfl | 2, _ => rfl | 3, _ => rfl | 4, _ => rfl | j + 5, h => absurd h (by omega)) (by show _ ≤ _; first | exact Nat.le_of_ble_eq_true rfl | omega) (by show _ ≤ _; first | exact Nat.le_of_ble_eq_true rfl | omega) dL_law_0 (fun a H hP hD hS => ?_)
  have hP : va_P D vwCl ([] ++ [(a, .inr (7, [.null, .null, .null, .null, .null]))]) H := hP
  have hD : va_D (cnA s.heap.size) ([] ++ [(a, .inr (7, [.null, .null, .null, .null, .null]))]) := hD
  refine lv_dup hx hb dL_law_3 rfl ?_
  refine va_callv (va_runI (As := []) (rest := [.ref a]) S (c_X7_init l D cA s.heap.size [] a) (cwI 0 htl gL_law_X7_init rfl rfl rfl (hts _ b5) (hts _ b7) (hts _ b9) rfl (by decide +kernel) ⟨(by show _ ≤ _; first | exact Nat.le_of_ble_eq_true rfl | omega), (by show _ ≤ _; first | exact Nat.le_of_ble_eq_true rfl | omega)⟩) ⟨st_blind _ D cA _ _, fun U hU hW => ⟨rfl, by rw [hU]; exact hS.1, by rw [hU]; exact hP, va_K.moved hW.alike hK, hD, va_Nw.warmM hW (va_Nw.of rfl (hts _ tb_nest.1)), va_Nw.warmM hW (va_Nw.of rfl (hts _ tb_nest.2))⟩⟩ rfl rfl hl.1 rfl (lv_room (Nat.le_of_ble_eq_true rfl)) dL_law_4 ⟨(by show _ ≤ _; first | exact Nat.le_of_ble_eq_true rfl | omega), (by show _ ≤ _; first | exact Nat.le_of_ble_eq_true rfl | omega)⟩) hS (fun q _ h => h) (fun q h => h) (fun u t H1 locs ht hvm hp hB _ _ hS => ?_)
  obtain ⟨q1, q2, q3, q4, q5, q6, q7, q8, q9, q10, q11, q12, q13, q14, q15, q16, q17, q18, q19, q20, q21, q22, q23, q24, q25, q26, q27, q28, q29, q30, q31, q32, q33, q34, q35, q36, q37, rfl⟩ := hp
  obtain ⟨hP, -, hD⟩ := hB
  rw [ht] at hP
  rw [List.nil_append] at hP hD
  refine lv_astore_n (lv' := [(1, .ref a), (0, .ref b)]) hx hb dL_law_7 rfl hl (by decide) rfl (fun ls hl => ?_)
  refine va_new (ci := 8) (fs := [.int 0, .null, .int 0, .int 0, .null, .null, .int 0, .null, .null, .null, .null, .null, .null, .null, .int 0, .int 0, .null, .null, .null, .null, .null, .null, .null, .null, .null, .null, .int 0, .int 0, .int 0, .int 0, .null, .null, .null, .null, .null, .null, .null, .null, .null]) (C := RX8) (T := TX8) (N := 39) hx hb hts li_34 tyX8 tyX8_ok hownL (hts _ b2) (hts _ b4) (hts _ b6) hK hP hD hS hA rfl (fun j hj => match j, hj with | 0, _ => rfl | 1, _ => rfl | 2, _ => rfl | 3, _ => rfl | 4, _ => rfl | 5, _ => rfl | 6, _ => rfl | 7, _ => rfl | 8, _ => rfl | 9, _ => rfl | 10, _ => rfl | 11, _ => rfl | 12, _ => rfl | 13, _ => rfl | 14, _ => rfl | 15, _ => rfl | 16, _ => rfl | 17, _ => rfl | 18, _ => rfl | 19, _ => rfl | 20, _ => rfl | 21, _ => rfl | 22, _ => rfl | 23, _ => rfl | 24, _ => rfl | 25, _ => rfl | 26, _ => rfl | 27, _ => rfl | 28, _ => rfl | 29, _ => rfl | 30, _ => rfl | 31, _ => rfl | 32, _ => rfl | 33, _ => rfl | 34, _ => rfl | 35, _ => rfl | 36, _ => rfl | 37, _ => rfl | 38, _ => rfl | j + 39, h => absurd h (by omega)) (by show _ ≤ _; first | exact Nat.le_of_ble_eq_true rfl | omega) (by show _ ≤ _; first | exact Nat.le_of_ble_eq_true rfl | omega) dL_law_8 (fun b0 H hP hD hS => ?_)
  refine lv_dup hx hb dL_law_11 rfl ?_
  refine va_callv (va_runI (As := []) (rest := [.ref b0]) S (c_X8_init l D cA s.heap.size _ b0) (cwI 0 htl gL_law_X8_init rfl rfl rfl (hts _ b6) (hts _ b8) (hts _ b10) rfl (by decide +kernel) ⟨(by show _ ≤ _; first | exact Nat.le_of_ble_eq_true rfl | omega), (by show _ ≤ _; first | exact Nat.le_of_ble_eq_true rfl | omega)⟩) ⟨cn_blind _ D cA _ _, fun U hU hW => ⟨rfl, by rw [hU]; exact hS.1, by rw [hU]; exact hP, va_K.moved hW.alike hK, hD⟩⟩ rfl rfl hl.1 rfl (lv_room (Nat.le_of_ble_eq_true rfl)) dL_law_12 ⟨(by show _ ≤ _; first | exact Nat.le_of_ble_eq_true rfl | omega), (by show _ ≤ _; first | exact Nat.le_of_ble_eq_true rfl | omega)⟩) hS (fun q _ h => h) (fun q h => h) (fun u t H1 locs ht hvm hp hB _ _ hS => ?_)
  obtain ⟨r1, r2, r3, r4, r5, r6, r7, r8, r9, r10, r11, r12, r13, r14, r15, r16, r17, r18, r19, r20, r21, r22, r23, r24, r25, r26, r27, r28, r29, rfl⟩ := hp
  obtain ⟨hP, -, hD⟩ := hB
  rw [ht] at hP
  refine lv_astore_n (lv' := [(2, .ref b0), (1, .ref a), (0, .ref b)]) hx hb dL_law_15 rfl hl (by decide) rfl (fun ls hl => ?_)
  refine lv_iconst (v := (1 : Int32)) hx hb dL_law_16 (by decide) ?_
  refine va_newa (atype := .long) (ty := .long) (a0 := (1, .inr (.inl (fun _ => 0)))) (N' := 1) hx hb (hts _ t0) rfl hK hP hD hS hA (fun _ => rfl) (by decide) (by decide) (by show 1 * 8 ≤ 536870912; decide) (by show _ ≤ _; first | exact Nat.le_of_ble_eq_true rfl | omega) (by show _ ≤ _; first | exact Nat.le_of_ble_eq_true rfl | omega) dL_law_17 (fun o cL H hK1 hP hD hS => ?_)
  obtain ⟨ad, bd, ea, eb, hP, hD⟩ := st_world hP hD
  obtain ⟨⟨w1, w2, w3⟩, jj, nn, bA, bB, bo⟩ := st_split hP hD
  have F : LFx s D cA cL ad bd o adK adV adT := ⟨hK, (hK1.2 3 _ rfl).1, hSW, hXW, jj, nn, bA, bB, bo⟩
  refine lv_astore_n (lv' := [(3, .ref o), (2, .ref b0), (1, .ref a), (0, .ref b)]) hx hb dL_law_19 rfl hl (by decide) rfl (fun ls hl => ?_)
  refine lv_iconst (v := (0 : Int32)) hx hb dL_law_20 (by decide) ?_
  refine lv_istore (lv' := [(4, .int 0), (3, .ref o), (2, .ref b0), (1, .ref a), (0, .ref b)]) hx hb dL_law_21 hl (by decide) rfl (fun ls hl => ?_)
  subst ea
  subst eb
  refine W.widen (k := 200) (n := 20000) (by show _ ≤ _; first | exact Nat.le_of_ble_eq_true rfl | omega) (by show _ ≤ _; first | exact Nat.le_of_ble_eq_true rfl | omega) ?_
  exact law_loop l hlt S hr hlocks F hX hbl hL (L + 4) 0 M00 N00 (fun _ => 0) _ _ ls (by omega) (by omega) rel_start ⟨w1, w2, w3, hS⟩ (lv_sub hl [4, 3, 2, 1, 0] rfl)
set_option maxHeartbeats 4000000 in
theorem lw_walk (l : Launch) (hlt : l.stackTraces = false) (b : Addr) (xs : List Int32) : MetFree l x (headSpec (Jvm.Cond.code x code maxLocals ret :: tables_1) room_1) (lw_P b xs) (fun _ _ _ _ _ => True) lw_Q := by
  refine MetFree.of_bodyS (code := code) (maxLocals := maxLocals) (ret := ret) (by decide) ?_ ?_
  · intro args s m h hn
    obtain ⟨meth, c, h1, h2, h3, h4, h5, h6, -, -⟩ := Cond.code_spec hn (atoms_spec (ws := Jvm.Cond.code x code maxLocals ret :: tables_1) h _ List.mem_cons_self)
    exact ⟨meth, c, h1, h2, h3, h4, h5, h6⟩
  · intro p e s m args below meth c s₁ B hml0 hP _
    obtain ⟨rfl, hx, hbd, hgv⟩ := hP
    obtain ⟨scr, harrAt, hlist, hof, hsmall⟩ := hx
    obtain ⟨hcb, hkn, -, -⟩ := State.arrayAt?_spec harrAt
    have hown : s.vm.findClass R_law = some m.cls := findClass_of_methodNamed B.named
    have hts0 : ∀ c ∈ (Jvm.Cond.code x code maxLocals ret :: tables_1), c.before #[Value.ref b] s = true := atoms_spec (ws := Jvm.Cond.code x code maxLocals ret :: tables_1) B.pre
    have hts : ∀ w ∈ lw_tbl, w.before #[Value.ref b] s = true := k2_hts_sels lw_privs (fun w hw => hts0 w (List.mem_cons_of_mem _ hw)) lw_privs_ok
    have hml : c.maxLocals = 7 := B.maxLocals_eq (hts0 _ List.mem_cons_self)
    have X₀ : Stand p l e room_1 s m #[Value.ref b] below meth c s₁ [] 0 0 := Stand.of_body B
    have hh0 : s₁.heap = s.heap := by rw [B.state]; rfl
    have hsz : scr.slots.size = xs.length := by rw [← Array.length_toList, hlist, List.length_map]
    have hval : ∀ j : Nat, j < xs.length → scr.slots[j]? = some (.int (xs.getD j 0)) := fun j hj => by
      rw [← Array.getElem?_toList, hlist]
      simp [hj]
    have hbl : b < s.heap.size := (Array.getElem?_eq_some_iff.mp hcb).1
    have hX : va_X b xs.length (fun j => xs.getD j 0) s s.heap := ⟨scr, hcb, hof, hkn, hsz, hval⟩
    have K : W p l e room_1 s m #[Value.ref b] below meth c s₁.heap [] 0 0 (lw_Z below #[Value.ref b] s) (entryFrame m ([Value.ref b] : List Value).toArray 7) := by
      rw [hh0]
      exact whole_start l hlt hbd ⟨B.exec, B.bytes, B.returns, hml, hown, hts, hX, hbl, B.notSynchronized, hgv⟩
    obtain ⟨t, a1, o, b1, b2, b3⟩ := K s₁ rfl X₀
    exact ⟨t, o, a1, b1, b2, b3⟩
theorem lw_pre_spec {args : Array Value} {s : State} (h : (Jvm.Cond.and given_1 narrow_1).before args s = true) (hr : rest_1_c.before args s = true) : ∃ (b : Addr) (xs : List Int32), lw_P b xs args s := by
  have hs := flat_of_before _ h
  have hq := flat_of_before _ hr
  have hc : (Cond.count 1).before args s = true := hs _ (by decide +kernel)
  have harr : (Cond.arrayOf (.arg 0) .int).before args s = true := hs _ (by decide +kernel)
  have hle : (Cond.le (.length (.arg 0)) (.int 2048)).before args s = true := hs _ (by decide +kernel)
  have hlen : (Cond.isInt (.length (.arg 0))).before args s = true := hq _ (by decide +kernel)
  have hall : (Cond.all (.arg 0) (.isInt (.elem (.arg 0) (.index 0)))).before args s = true := hq _ (by decide +kernel)
  obtain ⟨b, xs, hb, hx⟩ := State.ints_of_pre rfl harr hlen hall
  have hsm : xs.length < 2 ^ 31 := hx.choose_spec.2.2.2
  have hev : (Term.length (.arg 0)).eval args s none [] s = some (.int xs.length.toInt32) := hx.length_eval hb
  have hv := Cond.le_ints hev (show (Term.int 2048).eval args s none [] s = some (.int 2048) from rfl)
  have hd : xs.length.toInt32 ≤ 2048 := by
    simpa [Cond.before, Cond.holds, hv] using hle
  have hN : xs.length ≤ 2048 := (Int32.ofNat_le_ofNat hsm (by decide)).mp (show Int32.ofNat xs.length ≤ Int32.ofNat 2048 from hd)
  exact ⟨b, xs, Cond.one_arg hc (show args[0]? = some (.ref b) from hb), hx, hN, h⟩
theorem lw_comes (l : Launch) (hlt : l.stackTraces = false) : Comes l x (Jvm.Cond.code x code maxLocals ret :: tables_1) room_1 (fun tb e args s => Calls_1 tb e args s ∧ rest_1 tb e args s ∧ Pre_1 tb e args s)
    (fun _ _ args s o t => lw_Q args s o t) := by
  intro p e ha hc hk s m args below hf hfit hheap happ hpre
  obtain ⟨b, xs, hP⟩ := lw_pre_spec hpre.2.2 hpre.2.1
  obtain ⟨k, o, h1, h2, h3, hQ⟩ := lw_walk l hlt b xs p e ha hc hk s m args below hf ((Spec.applies_iff_loose hf).mp happ).1 hP trivial
  exact ⟨k, o, h1, h2, h3, hQ⟩
theorem lw_frame {s t : State} {o : Outcome} {args : Array Value} (h : Framed s o t [] 601024 7293034) :
    Framed s o t (fieldLocs frame_1_writes args s ++ arrayLocs frame_1_arrays args s ++ staticLocs frame_1_statics s) 601024 7293034 := h
theorem lw_limb (L : Cond) (hL : ∀ (args : Array Value) (s t : State), L.after args s (.returned (some (.int 1))) t = true) :
    ArmFor flags0 classFile x code maxLocals ret World_1 tables_1 room_1 Calls_1 rest_1 Pre_1
      (fun tb e a s o t => postC L tb e a s o t ∧ Framed s o t (fieldLocs frame_1_writes a s ++ arrayLocs frame_1_arrays a s ++ staticLocs frame_1_statics s) 601024 7293034) := by
  intro l hfl _ _ p e ha hc hk s m args below hf hfit hheap happ hpre
  obtain ⟨k, o, h1, h2, h3, rfl, hF⟩ := lw_comes l (by unfold Launch.stackTraces; rw [hfl]; decide) p e ha hc hk s m args below hf hfit hheap happ hpre
  exact ⟨k, _, h1, h2, h3, hL args s _, lw_frame hF⟩
theorem i_vc : Claimed_1_1 ∧ Claimed_1_2 := ⟨lw_limb limb_1_1 (fun args s t => by simp [limb_1_1, Cond.after, Cond.holds, Cond.value]), lw_limb limb_1_2 (fun args s t => Cond.after_iff.mpr (by
  first | (rw [show limb_1_2 = Cond.eq .result (.int 1) from rfl, Cond.eq_ints (x := 1) (y := 1) rfl rfl]; simp; done) | (simp [limb_1_2, Cond.value, Term.eval]; done)))⟩
