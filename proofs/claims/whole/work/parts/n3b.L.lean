/-! The law's helpers: a call that may throw, caught. -/
theorem mx_ofWH {l : Launch} {y : MethodName} {ws ws' : List Cond} {rm : Room} {Pc : Array Value → State → Prop} {Qc : Array Value → State → Outcome → State → Prop} {mc ms : Nat} {free : Addr → Prop} {cc : ByteArray} {maxL : Nat} {ret : Option FieldType} {hh : List (Nat × Nat × Nat × Nat)}
    (hy : plainName y.cls = true) (hw : ws = Cond.codeWith y cc maxL ret hh :: ws')
    (body : ∀ p e s m args below meth c s₁, BodyLoose p l y (headSpec ws rm) cc maxL ret e s m args below meth c s₁ → c.maxLocals = maxL → c.exceptionTable.toList = tableOf hh → Pc args s →
      W p l e (headSpec ws rm).room s m args below meth c s.heap [] 0 0 (MQ below Qc args s mc ms free) (entryFrame m args maxL)) : Met l y ws rm Pc Qc mc ms free := by
  refine MetFree.of_bodyS (code := cc) (maxLocals := maxL) (ret := ret) hy ?_ ?_
  · intro args s m h hn
    obtain ⟨m9, meth, c, hn9, h1, h2, h3, h4, -, h5, h6, -⟩ := Cond.codeWith_spec (atoms_spec (ws := ws) h _ (by rw [hw]; exact List.mem_cons_self))
    cases hn.symm.trans hn9
    exact ⟨meth, c, h1, h2, h3, h4, h5, h6⟩
  · intro p e s m args below meth c s₁ B hml hP _
    have hh0 : s₁.heap = s.heap := by rw [B.state]; rfl
    have ht : c.exceptionTable.toList = tableOf hh := vx_table (x := y) B (atoms_spec (ws := ws) B.pre _ (by rw [hw]; exact List.mem_cons_self))
    obtain ⟨t, a1, o, b1, b2, b3⟩ := body p e s m args below meth c s₁ B hml ht hP s₁ hh0 (Stand.of_body B)
    exact ⟨t, o, a1, b1, b2, b3⟩
def lA (ad : Nat → Nat) (o : Nat) : Nat → Prop := fun q => wd_A ad dsC.length q ∨ q = o
def lm_B (D : va_G) (cA : Nat → ClassId) (ad : Nat → Nat) (cL : ClassId) (o : Nat) : Mem × (Nat → Int64) → State → Prop := fun u t => wd_P D cA ad dsC u.1 t.heap ∧ wd_K D cA t ∧ t.heap[o]? = some (vp_cell cL (1, .inr (.inl u.2)))
def lm_Pc (adK adV adT : Nat → Nat) (D : va_G) (cA : Nat → ClassId) (ad : Nat → Nat) (cL : ClassId) (o : Nat) (M : Mem) (f : Nat → Int64) (av : List Value) : Array Value → State → Prop := va_Pc av (fun U => lm_B D cA ad cL o (M, f) U ∧ ArrOfT U cL .long ∧ SW adK adV (lA ad o) U U.heap ∧ XW adT (lA ad o) U U.heap)
def lm_Q (D : va_G) (cA : Nat → ClassId) (ad : Nat → Nat) (cL : ClassId) (o : Nat) (r : Int32) (M' : Mem) (v : Int64) : Array Value → State → Outcome → State → Prop := va_Qi (fun (x : Int32) (u : Mem × (Nat → Int64)) => x = r ∧ u.1 = M' ∧ (r = 0 → u.2 0 = v)) (lm_B D cA ad cL o) (lA ad o)
def lm (l : Launch) (y : MethodName) (ws : List Cond) (rm : Room) (adK adV adT : Nat → Nat) (D : va_G) (cA : Nat → ClassId) (ad : Nat → Nat) (cL : ClassId) (o : Nat) (M : Mem) (f : Nat → Int64) (av : List Value) (r : Int32) (M' : Mem) (v : Int64) : Prop := Met l y ws rm (lm_Pc adK adV adT D cA ad cL o M f av) (lm_Q D cA ad cL o r M' v) 1 6 (lA ad o)
section LD
variable {p : Program} {l : Launch} {e : Env} {R : Room} {s : State} {m : MethodId} {args : Array Value} {below : List Frame} {meth : Method} {c : Code} {H : Heap} {locs : List Loc} {cells slots : Nat} {Q : State → Prop}
variable {cc : ByteArray} {nL : Nat} {pc : Nat} {ls : Array Slot} {rest : List Value} {D : va_G} {cA : Nat → ClassId} {ad : Nat → Nat} {M M' : Mem} {Ts : List Cond} {adK adV adT : Nat → Nat} {cL : ClassId} {o : Nat} {f : Nat → Int64}
theorem ld_store (hx : p.tables.exec = Jvm.exec) (hb : c.code = cc) (hA : ArrOfT s cL .long) (ho : H[o]? = some (vp_cell cL (1, .inr (.inl f)))) {x : Int64} (hdg : decode cc pc = .ok (.lastore, 1))
    (kk : ∀ H1 : Heap, H1[o]? = some (vp_cell cL (1, .inr (.inl (vp_updL f 0 x)))) → H1.size = H.size → (∀ q : Nat, q ≠ o → H1[q]? = H[q]?) → W p l e R s m args below meth c H1 (locs ++ [⟨o, 0⟩]) cells slots Q (F0 m (pc + 1) ls rest)) : W p l e R s m args below meth c H locs cells slots Q (F0 m pc ls (.long x :: .int 0 :: .ref o :: rest)) := by
  refine W.last hx hb ho (hA 1 (fun j => .long (f j))) (fun q => by cases q) (by show ¬ ((0 : Int32) < 0 ∨ (arrV _ _ _).slots.size ≤ _); rw [arrV_size]; exact (show ¬ ((0 : Int32) < 0 ∨ 1 ≤ (0 : Int32).toNatClampNeg) by decide)) rfl rfl hdg fun H1 e z oq => kk H1 ?_ z oq
  rw [e]
  rw [vp_cell_l, vp_cell_l, arrV_store]
  congr 2
  funext q
  by_cases hq : q = (0 : Int32).toNatClampNeg
  · subst hq
    simp [updV, vp_updL]
  · have hq0 : q ≠ 0 := hq
    simp [updV, vp_updL, hq0]
theorem ld_load (hx : p.tables.exec = Jvm.exec) (hb : c.code = cc) (hA : ArrOfT s cL .long) (ho : H[o]? = some (vp_cell cL (1, .inr (.inl f)))) (hdg : decode cc pc = .ok (.laload, 1))
    (kk : W p l e R s m args below meth c H locs cells slots Q (F0 m (pc + 1) ls (.long (f 0) :: rest))) : W p l e R s m args below meth c H locs cells slots Q (F0 m pc ls (.int 0 :: .ref o :: rest)) :=
  W.lald (v := .long (f 0)) hx hb ho (hA 1 (fun j => .long (f j))) (fun q => by cases q) (by show ¬ ((0 : Int32) < 0 ∨ (arrV _ _ _).slots.size ≤ _); rw [arrV_size]; exact (show ¬ ((0 : Int32) < 0 ∨ 1 ≤ (0 : Int32).toNatClampNeg) by decide)) (by show (arrV _ _ _).slots[(0 : Int32).toNatClampNeg]? = _; rw [arrV_read _ _ (show (0 : Int32).toNatClampNeg < 1 by decide)]; rfl) rfl rfl hdg kk
theorem xd_blind (M : Mem) (av : List Value) : FrameBlind (xm_Pc adK adV adT D cA ad M av) := fun a U g mk q => by
  obtain ⟨q0, qP, qK, qS, qX⟩ := q
  exact ⟨q0, qP, va_K.moved (u := U) (U := U.calling g mk a) (Vm.Alike.refl U.vm) qK, SW.call qS, XW.call qX⟩
theorem ld_blind (M : Mem) (av : List Value) : FrameBlind (lm_Pc adK adV adT D cA ad cL o M f av) := fun a U g mk q => by
  obtain ⟨q0, ⟨qP, qK, qo⟩, qA, qS, qX⟩ := q
  exact ⟨q0, ⟨qP, va_K.moved (u := U) (U := U.calling g mk a) (Vm.Alike.refl U.vm) qK, qo⟩, arrOfT_moved (u := U) (Vm.Alike.refl U.vm) qA, SW.call qS, XW.call qX⟩
variable {y : MethodName} {bytes : ByteArray} {maxL n index : Nat} {ret : Option FieldType} {ws : List Cond} {rm : Room} {st0 : List Value} {res : Int32 ⊕ String}
theorem ld_call (S : CallFix p m c cc nL s args Ts RL) (hK : wd_K D cA s) (hP : wd_P D cA ad dsC M s.heap) (ho : s.heap[o]? = some (vp_cell cL (1, .inr (.inl f)))) (hno : ∀ k, k < dsC.length → o ≠ ad k) (hSW : SW adK adV (lA ad o) s s.heap) (hXW : XW adT (lA ad o) s s.heap) (As rest : List Value) (hM : xm l y ws rm adK adV adT D cA ad M (.ref (ad 0) :: As) res M') (cw : CallW R s args RL RX7 index y bytes maxL ret ws rm 1 6 n) (hn : As.length = n) (hsz : ls.size = nL) (hst : st0 = As.reverse ++ .ref (ad 0) :: rest) (hWd : (rest.map fun v => v.category).sum ≤ 8) (hdg : decode cc pc = .ok (.invokevirtual index, 3)) (hR : 1 ≤ R.cells ∧ 6 ≤ R.slots)
    (kx : ∀ (E : String) (ce : Cell) (q9 : Addr) (H1 : Heap) (locs1 : List Loc), res = .inr E → wd_P D cA ad dsC M' H1 → H1[o]? = some (vp_cell cL (1, .inr (.inl f))) → va_S (lA ad o) s.heap H1 locs1 → H1[q9]? = some ce → ce.vm = .none → s.vm.findClass E = some ce.cls → vx_W p l e R s m args below meth c H1 locs1 1 6 Q (F0 m pc ls rest) q9)
    (kk : ∀ (r : Int32) (H1 : Heap) (locs1 : List Loc), res = .inl r → wd_P D cA ad dsC M' H1 → H1[o]? = some (vp_cell cL (1, .inr (.inl f))) → va_S (lA ad o) s.heap H1 locs1 → W p l e R s m args below meth c H1 locs1 1 6 Q (F0 m (pc + 3) ls (.int r :: rest))) : W p l e R s m args below meth c s.heap [] 0 0 Q (F0 m pc ls st0) := by
  have hol : o < s.heap.size := (Array.getElem?_eq_some_iff.mp ho).1
  have hnA : ¬ wd_A ad dsC.length o := fun ⟨k, hk, e⟩ => hno k hk e
  have hpre : PreV s s.heap RX7 (ad 0) (xm_Pc adK adV adT D cA ad M (.ref (ad 0) :: As)) As := ⟨xd_blind M _, va_recv (q := (RX7, TX7, 5)) hK hP rfl (wd_cell dC_0), fun U hU hW => ⟨rfl, by show wd_P D cA ad dsC M U.heap; rw [hU]; exact hP, va_K.moved hW.alike hK, by rw [hU]; exact (SW.warm hW hSW).narrow (fun _ h => Or.inl h), by rw [hU]; exact (XW.warm hW hXW).narrow (fun _ h => Or.inl h)⟩⟩
  refine vx_calli (A0 := lA ad o) (H0 := s.heap) (vx_runV (As := As) (rest := rest) S hM cw hpre rfl hn hsz hst (lv_room hWd) hdg ⟨by omega, by omega⟩) va_S.rf (fun q _ h => Or.inl h) (fun q h => Or.inl h) (fun q _ h => Or.inl h) (fun E ce q9 u t H1 locs1 ht hvm hp hB _ hk hS1 hce hcv hcl => ?_) (fun r u t H1 locs1 ht hvm hp hB _ hk hS1 => ?_)
  · obtain rfl := hp
    refine kx E ce q9 H1 locs1 hB.1 ?_ ((hk o hol hnA).trans ho) hS1 hce hcv hcl
    rw [← ht]; exact hB.2.1
  · obtain ⟨hres, rfl⟩ := hp
    refine kk r H1 locs1 hres ?_ ((hk o hol hnA).trans ho) hS1
    rw [← ht]; exact hB.1
theorem ld_ret (hx : p.tables.exec = Jvm.exec) (hb : c.code = cc) (hrt : meth.sig.returnType = some .int) (hlk : meth.locks = false) (hK : wd_K D cA s) (hP : wd_P D cA ad dsC M' H) (ho : H[o]? = some (vp_cell cL (1, .inr (.inl f)))) (hS : va_S (lA ad o) s.heap H locs) {r : Int32} {v : Int64} (hv : r = 0 → f 0 = v) (hdg : decode cc pc = .ok (.ireturn, 1)) :
    W p l e R s m args below meth c H locs 1 6 (MQ below (lm_Q D cA ad cL o r M' v) args s 1 6 (lA ad o)) (F0 m pc ls [.int r]) :=
  W.zret hx hb hrt rfl (fun t ht hW => ⟨⟨r, (M', f), rfl, ⟨rfl, rfl, hv⟩, by show wd_P D cA ad dsC M' t.heap; rw [ht]; exact hP, va_K.moved hW.alike hK, by rw [ht]; exact ho⟩, hS.F ht⟩) hS.2.2 hdg hlk
end LD
def rm_L_line : Room := { frames := 9, cells := 1, slots := 6, locals := 197 }
set_option maxHeartbeats 4000000 in
set_option maxRecDepth 100000 in
theorem c_L_line (l : Launch) (D : va_G) (cA : Nat → ClassId) (ad : Nat → Nat) (cL : ClassId) (o : Nat) (hno : ∀ k, k < dsC.length → o ≠ ad k) (adK adV adT : Nat → Nat) (M : Mem) (f : Nat → Int64) {res : Int32 ⊕ String} {M' : Mem} {r : Int32} {v : Int64} (hM : xm l yX7_line wsX7_line rm_X7_line adK adV adT D cA ad M [.ref (ad 0)] res M') (hr : ∀ z, res = .inl z → r = 0 ∧ z.toInt64 = v) (hE : ∀ E, res = .inr E → E = nIA ∨ E = nIS) (h0 : res = .inr nIA → r = 1) (h1 : res = .inr nIS → r = 2) : lm l yL_line wsL_line rm_L_line adK adV adT D cA ad cL o M f [.ref (ad 0), .ref o] r M' v := by
  refine mx_ofWH (cc := cL_line) (maxL := 3) (ret := some .int) (hh := [(0, 8, 11, 13), (0, 8, 14, 15)]) (by decide) rfl ?_
  intro p e s m args below meth c s₁ B hml ht hv
  obtain ⟨rfl, ⟨hP, hK, ho⟩, hAr, hSW, hXW⟩ := hv
  have S : CallFix p m c cL_line 3 s _ wsL_line RL := ⟨B.exec, B.bytes, hml, findClass_of_methodNamed B.named, atoms_spec (ws := wsL_line) B.pre⟩
  have hl := lv_entry ([.ref (ad 0), .ref o]) (n := 3) (Nat.le_of_ble_eq_true rfl)
  rw [lg_entry_eq]
  generalize (lg_sl ([.ref (ad 0), .ref o]) ++ List.replicate (3 - (lg_sl ([.ref (ad 0), .ref o])).length) Slot.unset).toArray = ls at hl ⊢
  have hl : lv_has ls 3 [(0, .ref (ad 0)), (1, .ref o)] := hl
  obtain ⟨hx, hb, -, hown, hts⟩ := id S
  refine lv_aload_n hx hb dL_line_0 rfl (lv_at hl 1 rfl) ?_
  refine lv_iconst (v := (0 : Int32)) hx hb dL_line_1 (by decide) ?_
  refine lv_aload_n hx hb dL_line_2 rfl (lv_at hl 0 rfl) ?_
  refine ld_call S hK hP ho hno hSW hXW [] [.int 0, .ref o] hM (cwV 0 hts gL_line_X7_line rfl rfl rfl (by decide +kernel) ⟨(by show _ ≤ _; first | exact Nat.le_of_ble_eq_true rfl | (simp [headSpec, rm_L_line]; omega) | omega), (by show _ ≤ _; first | exact Nat.le_of_ble_eq_true rfl | (simp [headSpec, rm_L_line]; omega) | omega)⟩) rfl hl.1 rfl (Nat.le_of_ble_eq_true rfl) dL_line_3 ⟨by decide, by decide⟩ (fun E ce q9 H locs hres hP ho hS hce hcv hcl => ?_) (fun z H locs hres hP ho hS => ?_)
  · rcases hE E hres with rfl | rfl
    · refine vx_catch (E := nIA) (name := nIA) hown [] (⟨0, 8, 11, 13⟩ : ExceptionTableEntry) [(⟨0, 8, 14, 15⟩ : ExceptionTableEntry)] (ht.trans rfl) (fun z hz => absurd hz List.not_mem_nil) (by decide) (by decide) (hts _ (by decide +kernel)) (va_Nw.use rfl hXW.2.2.2.2.1.1) hce hcv hcl ?_
      refine lv_astore_n (lv' := [(2, .ref q9), (0, .ref (ad 0)), (1, .ref o)]) hx hb dL_line_11 rfl hl (by decide) rfl (fun ls hl => ?_)
      have hr1 : r = 1 := h0 hres
      subst hr1
      refine lv_iconst (v := (1 : Int32)) hx hb dL_line_12 (by decide) ?_
      exact ld_ret hx hb B.returns B.notSynchronized hK hP ho hS (fun q => absurd q (by decide)) dL_line_13
    · refine vx_catch (E := nIS) (name := nIS) hown [(⟨0, 8, 11, 13⟩ : ExceptionTableEntry)] (⟨0, 8, 14, 15⟩ : ExceptionTableEntry) [] (ht.trans rfl) (fun z hz => by rcases List.mem_singleton.mp hz with rfl; exact Or.inr ⟨by decide, nIA, hts _ (by decide +kernel), hXW.2.2.2.2.2.1⟩) (by decide) (by decide) (hts _ (by decide +kernel)) (va_Nw.use rfl hXW.2.2.2.2.1.2.1) hce hcv hcl ?_
      refine lv_astore_n (lv' := [(2, .ref q9), (0, .ref (ad 0)), (1, .ref o)]) hx hb dL_line_14 rfl hl (by decide) rfl (fun ls hl => ?_)
      have hr1 : r = 2 := h1 hres
      subst hr1
      refine lv_iconst (v := (2 : Int32)) hx hb dL_line_15 (by decide) ?_
      exact ld_ret hx hb B.returns B.notSynchronized hK hP ho hS (fun q => absurd q (by decide)) dL_line_16
  · obtain ⟨rfl, hzv⟩ := hr z hres
    refine lv_i2l hx hb dL_line_6 hzv ?_
    refine ld_store hx hb hAr ho dL_line_7 (fun H1 ho1 hz1 hq1 => ?_)
    refine lv_goto (tgt := 17) hx hb dL_line_8 (by decide) ?_
    refine lv_iconst (v := (0 : Int32)) hx hb dL_line_17 (by decide) ?_
    exact ld_ret hx hb B.returns B.notSynchronized hK (hP.kept (fun k q hk => hq1 _ (fun e9 => hno k (wd_at hk).1 (by rw [← e9]; exact (wd_at hk).2)))) ho1 (hS.put hz1 hq1 (Or.inr rfl)) (fun _ => by simp [vp_updL]) dL_line_18
def rm_L_compile : Room := { frames := 28, cells := 1, slots := 6, locals := 685 }
set_option maxHeartbeats 4000000 in
set_option maxRecDepth 100000 in
theorem c_L_compile (l : Launch) (D : va_G) (cA : Nat → ClassId) (ad : Nat → Nat) (cL : ClassId) (o : Nat) (hno : ∀ k, k < dsC.length → o ≠ ad k) (adK adV adT : Nat → Nat) (M : Mem) (f : Nat → Int64) {res : Int32 ⊕ String} {M' : Mem} {r : Int32} {v : Int64} (hM : xm l yX7_compile wsX7_compile rm_X7_compile adK adV adT D cA ad M [.ref (ad 0)] res M') (hr : ∀ z, res = .inl z → r = 0 ∧ z.toInt64 = v) (hE : ∀ E, res = .inr E → E = nIS) (h0 : res = .inr nIS → r = 1) : lm l yL_compile wsL_compile rm_L_compile adK adV adT D cA ad cL o M f [.ref (ad 0), .ref o] r M' v := by
  refine mx_ofWH (cc := cL_compile) (maxL := 3) (ret := some .int) (hh := [(0, 8, 11, 15)]) (by decide) rfl ?_
  intro p e s m args below meth c s₁ B hml ht hv
  obtain ⟨rfl, ⟨hP, hK, ho⟩, hAr, hSW, hXW⟩ := hv
  have S : CallFix p m c cL_compile 3 s _ wsL_compile RL := ⟨B.exec, B.bytes, hml, findClass_of_methodNamed B.named, atoms_spec (ws := wsL_compile) B.pre⟩
  have hl := lv_entry ([.ref (ad 0), .ref o]) (n := 3) (Nat.le_of_ble_eq_true rfl)
  rw [lg_entry_eq]
  generalize (lg_sl ([.ref (ad 0), .ref o]) ++ List.replicate (3 - (lg_sl ([.ref (ad 0), .ref o])).length) Slot.unset).toArray = ls at hl ⊢
  have hl : lv_has ls 3 [(0, .ref (ad 0)), (1, .ref o)] := hl
  obtain ⟨hx, hb, -, hown, hts⟩ := id S
  refine lv_aload_n hx hb dL_compile_0 rfl (lv_at hl 1 rfl) ?_
  refine lv_iconst (v := (0 : Int32)) hx hb dL_compile_1 (by decide) ?_
  refine lv_aload_n hx hb dL_compile_2 rfl (lv_at hl 0 rfl) ?_
  refine ld_call S hK hP ho hno hSW hXW [] [.int 0, .ref o] hM (cwV 0 hts gL_compile_X7_compile rfl rfl rfl (by decide +kernel) ⟨(by show _ ≤ _; first | exact Nat.le_of_ble_eq_true rfl | (simp [headSpec, rm_L_compile]; omega) | omega), (by show _ ≤ _; first | exact Nat.le_of_ble_eq_true rfl | (simp [headSpec, rm_L_compile]; omega) | omega)⟩) rfl hl.1 rfl (Nat.le_of_ble_eq_true rfl) dL_compile_3 ⟨by decide, by decide⟩ (fun E ce q9 H locs hres hP ho hS hce hcv hcl => ?_) (fun z H locs hres hP ho hS => ?_)
  · obtain rfl := hE E hres
    refine vx_catch (E := nIS) (name := nIS) hown [] (⟨0, 8, 11, 15⟩ : ExceptionTableEntry) [] (ht.trans rfl) (fun z hz => absurd hz List.not_mem_nil) (by decide) (by decide) (hts _ (by decide +kernel)) (va_Nw.use rfl hXW.2.2.2.2.1.2.1) hce hcv hcl ?_
    refine lv_astore_n (lv' := [(2, .ref q9), (0, .ref (ad 0)), (1, .ref o)]) hx hb dL_compile_11 rfl hl (by decide) rfl (fun ls hl => ?_)
    have hr1 : r = 1 := h0 hres
    subst hr1
    refine lv_iconst (v := (1 : Int32)) hx hb dL_compile_12 (by decide) ?_
    exact ld_ret hx hb B.returns B.notSynchronized hK hP ho hS (fun q => absurd q (by decide)) dL_compile_13
  · obtain ⟨rfl, hzv⟩ := hr z hres
    refine lv_i2l hx hb dL_compile_6 hzv ?_
    refine ld_store hx hb hAr ho dL_compile_7 (fun H1 ho1 hz1 hq1 => ?_)
    refine lv_goto (tgt := 14) hx hb dL_compile_8 (by decide) ?_
    refine lv_iconst (v := (0 : Int32)) hx hb dL_compile_14 (by decide) ?_
    exact ld_ret hx hb B.returns B.notSynchronized hK (hP.kept (fun k q hk => hq1 _ (fun e9 => hno k (wd_at hk).1 (by rw [← e9]; exact (wd_at hk).2)))) ho1 (hS.put hz1 hq1 (Or.inr rfl)) (fun _ => by simp [vp_updL]) dL_compile_15
def rm_L_named : Room := { frames := 7, cells := 1, slots := 6, locals := 113 }
set_option maxHeartbeats 4000000 in
set_option maxRecDepth 100000 in
theorem c_L_named (l : Launch) (D : va_G) (cA : Nat → ClassId) (ad : Nat → Nat) (cL : ClassId) (o : Nat) (hno : ∀ k, k < dsC.length → o ≠ ad k) (adK adV adT : Nat → Nat) (M : Mem) (f : Nat → Int64) {res : Int32 ⊕ String} {M' : Mem} {r : Int32} {v : Int64} (hM : xm l yX7_named wsN_named rm_X7_named adK adV adT D cA ad M [.ref (ad 0)] res M') (hr : ∀ z, res = .inl z → r = 0 ∧ z.toInt64 = v) (hE : ∀ E, res = .inr E → E = nNS) (h0 : res = .inr nNS → r = 1) : lm l yL_named wsN_Lnamed rm_L_named adK adV adT D cA ad cL o M f [.ref (ad 0), .ref o] r M' v := by
  refine mx_ofWH (cc := cL_named) (maxL := 3) (ret := some .int) (hh := [(0, 8, 11, 23)]) (by decide) rfl ?_
  intro p e s m args below meth c s₁ B hml ht hv
  obtain ⟨rfl, ⟨hP, hK, ho⟩, hAr, hSW, hXW⟩ := hv
  have S : CallFix p m c cL_named 3 s _ wsN_Lnamed RL := ⟨B.exec, B.bytes, hml, findClass_of_methodNamed B.named, atoms_spec (ws := wsN_Lnamed) B.pre⟩
  have hl := lv_entry ([.ref (ad 0), .ref o]) (n := 3) (Nat.le_of_ble_eq_true rfl)
  rw [lg_entry_eq]
  generalize (lg_sl ([.ref (ad 0), .ref o]) ++ List.replicate (3 - (lg_sl ([.ref (ad 0), .ref o])).length) Slot.unset).toArray = ls at hl ⊢
  have hl : lv_has ls 3 [(0, .ref (ad 0)), (1, .ref o)] := hl
  obtain ⟨hx, hb, -, hown, hts⟩ := id S
  refine lv_aload_n hx hb dL_named_0 rfl (lv_at hl 1 rfl) ?_
  refine lv_iconst (v := (0 : Int32)) hx hb dL_named_1 (by decide) ?_
  refine lv_aload_n hx hb dL_named_2 rfl (lv_at hl 0 rfl) ?_
  refine ld_call S hK hP ho hno hSW hXW [] [.int 0, .ref o] hM (cwV 0 hts gL_named_X7_named rfl rfl rfl (by decide +kernel) ⟨(by show _ ≤ _; first | exact Nat.le_of_ble_eq_true rfl | (simp [headSpec, rm_L_named]; omega) | omega), (by show _ ≤ _; first | exact Nat.le_of_ble_eq_true rfl | (simp [headSpec, rm_L_named]; omega) | omega)⟩) rfl hl.1 rfl (Nat.le_of_ble_eq_true rfl) dL_named_3 ⟨by decide, by decide⟩ (fun E ce q9 H locs hres hP ho hS hce hcv hcl => ?_) (fun z H locs hres hP ho hS => ?_)
  · obtain rfl := hE E hres
    refine vx_catch (E := nNS) (name := nNS) hown [] (⟨0, 8, 11, 23⟩ : ExceptionTableEntry) [] (ht.trans rfl) (fun z hz => absurd hz List.not_mem_nil) (by decide) (by decide) (hts _ (by decide +kernel)) (va_Nw.use rfl hXW.2.2.2.2.1.2.2) hce hcv hcl ?_
    refine lv_astore_n (lv' := [(2, .ref q9), (0, .ref (ad 0)), (1, .ref o)]) hx hb dL_named_11 rfl hl (by decide) rfl (fun ls hl => ?_)
    have hr1 : r = 1 := h0 hres
    subst hr1
    refine lv_iconst (v := (1 : Int32)) hx hb dL_named_12 (by decide) ?_
    exact ld_ret hx hb B.returns B.notSynchronized hK hP ho hS (fun q => absurd q (by decide)) dL_named_13
  · obtain ⟨rfl, hzv⟩ := hr z hres
    refine lv_i2l hx hb dL_named_6 hzv ?_
    refine ld_store hx hb hAr ho dL_named_7 (fun H1 ho1 hz1 hq1 => ?_)
    refine lv_goto (tgt := 14) hx hb dL_named_8 (by decide) ?_
    refine lv_iconst (v := (0 : Int32)) hx hb dL_named_14 (by decide) ?_
    exact ld_ret hx hb B.returns B.notSynchronized hK (hP.kept (fun k q hk => hq1 _ (fun e9 => hno k (wd_at hk).1 (by rw [← e9]; exact (wd_at hk).2)))) ho1 (hS.put hz1 hq1 (Or.inr rfl)) (fun _ => by simp [vp_updL]) dL_named_15
def rm_L_next : Room := { frames := 7, cells := 1, slots := 6, locals := 113 }
set_option maxHeartbeats 4000000 in
set_option maxRecDepth 100000 in
theorem c_L_next (l : Launch) (D : va_G) (cA : Nat → ClassId) (ad : Nat → Nat) (cL : ClassId) (o : Nat) (hno : ∀ k, k < dsC.length → o ≠ ad k) (adK adV adT : Nat → Nat) (x y : Int32) (M : Mem) (f : Nat → Int64) {res : Int32 ⊕ String} {M' : Mem} {r : Int32} {v : Int64} (hM : xm l yX7_next wsN_next rm_X7_next adK adV adT D cA ad M [.ref (ad 0), .int x, .int y] res M') (hr : ∀ z, res = .inl z → r = 0 ∧ z.toInt64 = v) (hE : ∀ E, res = .inr E → E = nNS) (h0 : res = .inr nNS → r = 1) : lm l yL_next wsN_Lnext rm_L_next adK adV adT D cA ad cL o M f [.ref (ad 0), .int x, .int y, .ref o] r M' v := by
  refine mx_ofWH (cc := cL_next) (maxL := 5) (ret := some .int) (hh := [(0, 10, 13, 23)]) (by decide) rfl ?_
  intro p e s m args below meth c s₁ B hml ht hv
  obtain ⟨rfl, ⟨hP, hK, ho⟩, hAr, hSW, hXW⟩ := hv
  have S : CallFix p m c cL_next 5 s _ wsN_Lnext RL := ⟨B.exec, B.bytes, hml, findClass_of_methodNamed B.named, atoms_spec (ws := wsN_Lnext) B.pre⟩
  have hl := lv_entry ([.ref (ad 0), .int x, .int y, .ref o]) (n := 5) (Nat.le_of_ble_eq_true rfl)
  rw [lg_entry_eq]
  generalize (lg_sl ([.ref (ad 0), .int x, .int y, .ref o]) ++ List.replicate (5 - (lg_sl ([.ref (ad 0), .int x, .int y, .ref o])).length) Slot.unset).toArray = ls at hl ⊢
  have hl : lv_has ls 5 [(0, .ref (ad 0)), (1, .int x), (2, .int y), (3, .ref o)] := hl
  obtain ⟨hx, hb, -, hown, hts⟩ := id S
  refine lv_aload_n hx hb dL_next_0 rfl (lv_at hl 3 rfl) ?_
  refine lv_iconst (v := (0 : Int32)) hx hb dL_next_1 (by decide) ?_
  refine lv_aload_n hx hb dL_next_2 rfl (lv_at hl 0 rfl) ?_
  refine lv_iload_n hx hb dL_next_3 rfl (lv_at hl 1 rfl) ?_
  refine lv_iload_n hx hb dL_next_4 rfl (lv_at hl 2 rfl) ?_
  refine ld_call S hK hP ho hno hSW hXW [.int x, .int y] [.int 0, .ref o] hM (cwV 2 hts gL_next_X7_next rfl rfl rfl (by decide +kernel) ⟨(by show _ ≤ _; first | exact Nat.le_of_ble_eq_true rfl | (simp [headSpec, rm_L_next]; omega) | omega), (by show _ ≤ _; first | exact Nat.le_of_ble_eq_true rfl | (simp [headSpec, rm_L_next]; omega) | omega)⟩) rfl hl.1 rfl (Nat.le_of_ble_eq_true rfl) dL_next_5 ⟨by decide, by decide⟩ (fun E ce q9 H locs hres hP ho hS hce hcv hcl => ?_) (fun z H locs hres hP ho hS => ?_)
  · obtain rfl := hE E hres
    refine vx_catch (E := nNS) (name := nNS) hown [] (⟨0, 10, 13, 23⟩ : ExceptionTableEntry) [] (ht.trans rfl) (fun z hz => absurd hz List.not_mem_nil) (by decide) (by decide) (hts _ (by decide +kernel)) (va_Nw.use rfl hXW.2.2.2.2.1.2.2) hce hcv hcl ?_
    refine lv_astore (lv' := [(4, .ref q9), (0, .ref (ad 0)), (1, .int x), (2, .int y), (3, .ref o)]) hx hb dL_next_13 hl (by decide) rfl (fun ls hl => ?_)
    have hr1 : r = 1 := h0 hres
    subst hr1
    refine lv_iconst (v := (1 : Int32)) hx hb dL_next_15 (by decide) ?_
    exact ld_ret hx hb B.returns B.notSynchronized hK hP ho hS (fun q => absurd q (by decide)) dL_next_16
  · obtain ⟨rfl, hzv⟩ := hr z hres
    refine lv_i2l hx hb dL_next_8 hzv ?_
    refine ld_store hx hb hAr ho dL_next_9 (fun H1 ho1 hz1 hq1 => ?_)
    refine lv_goto (tgt := 17) hx hb dL_next_10 (by decide) ?_
    refine lv_iconst (v := (0 : Int32)) hx hb dL_next_17 (by decide) ?_
    exact ld_ret hx hb B.returns B.notSynchronized hK (hP.kept (fun k q hk => hq1 _ (fun e9 => hno k (wd_at hk).1 (by rw [← e9]; exact (wd_at hk).2)))) ho1 (hS.put hz1 hq1 (Or.inr rfl)) (fun _ => by simp [vp_updL]) dL_next_18
def rm_L_event : Room := { frames := 7, cells := 1, slots := 6, locals := 111 }
set_option maxHeartbeats 4000000 in
set_option maxRecDepth 100000 in
theorem c_L_event (l : Launch) (D : va_G) (cA : Nat → ClassId) (ad : Nat → Nat) (cL : ClassId) (o : Nat) (hno : ∀ k, k < dsC.length → o ≠ ad k) (adK adV adT : Nat → Nat) (x : Int32) (M : Mem) (f : Nat → Int64) {res : Int32 ⊕ String} {M' : Mem} {r : Int32} {v : Int64} (hM : xm l yX7_event wsX7_event rm_X7_event adK adV adT D cA ad M [.ref (ad 0), .int x] res M') (hr : ∀ z, res = .inl z → r = 0 ∧ z.toInt64 = v) (hE : ∀ E, res = .inr E → E = nIS ∨ E = nIA) (h0 : res = .inr nIS → r = 1) (h1 : res = .inr nIA → r = 2) : lm l yL_event wsL_event rm_L_event adK adV adT D cA ad cL o M f [.ref (ad 0), .int x, .ref o] r M' v := by
  refine mx_ofWH (cc := cL_event) (maxL := 4) (ret := some .int) (hh := [(0, 9, 12, 15), (0, 9, 15, 13)]) (by decide) rfl ?_
  intro p e s m args below meth c s₁ B hml ht hv
  obtain ⟨rfl, ⟨hP, hK, ho⟩, hAr, hSW, hXW⟩ := hv
  have S : CallFix p m c cL_event 4 s _ wsL_event RL := ⟨B.exec, B.bytes, hml, findClass_of_methodNamed B.named, atoms_spec (ws := wsL_event) B.pre⟩
  have hl := lv_entry ([.ref (ad 0), .int x, .ref o]) (n := 4) (Nat.le_of_ble_eq_true rfl)
  rw [lg_entry_eq]
  generalize (lg_sl ([.ref (ad 0), .int x, .ref o]) ++ List.replicate (4 - (lg_sl ([.ref (ad 0), .int x, .ref o])).length) Slot.unset).toArray = ls at hl ⊢
  have hl : lv_has ls 4 [(0, .ref (ad 0)), (1, .int x), (2, .ref o)] := hl
  obtain ⟨hx, hb, -, hown, hts⟩ := id S
  refine lv_aload_n hx hb dL_event_0 rfl (lv_at hl 2 rfl) ?_
  refine lv_iconst (v := (0 : Int32)) hx hb dL_event_1 (by decide) ?_
  refine lv_aload_n hx hb dL_event_2 rfl (lv_at hl 0 rfl) ?_
  refine lv_iload_n hx hb dL_event_3 rfl (lv_at hl 1 rfl) ?_
  refine ld_call S hK hP ho hno hSW hXW [.int x] [.int 0, .ref o] hM (cwV 1 hts gL_event_X7_event rfl rfl rfl (by decide +kernel) ⟨(by show _ ≤ _; first | exact Nat.le_of_ble_eq_true rfl | (simp [headSpec, rm_L_event]; omega) | omega), (by show _ ≤ _; first | exact Nat.le_of_ble_eq_true rfl | (simp [headSpec, rm_L_event]; omega) | omega)⟩) rfl hl.1 rfl (Nat.le_of_ble_eq_true rfl) dL_event_4 ⟨by decide, by decide⟩ (fun E ce q9 H locs hres hP ho hS hce hcv hcl => ?_) (fun z H locs hres hP ho hS => ?_)
  · rcases hE E hres with rfl | rfl
    · refine vx_catch (E := nIS) (name := nIS) hown [] (⟨0, 9, 12, 15⟩ : ExceptionTableEntry) [(⟨0, 9, 15, 13⟩ : ExceptionTableEntry)] (ht.trans rfl) (fun z hz => absurd hz List.not_mem_nil) (by decide) (by decide) (hts _ (by decide +kernel)) (va_Nw.use rfl hXW.2.2.2.2.1.2.1) hce hcv hcl ?_
      refine lv_astore_n (lv' := [(3, .ref q9), (0, .ref (ad 0)), (1, .int x), (2, .ref o)]) hx hb dL_event_12 rfl hl (by decide) rfl (fun ls hl => ?_)
      have hr1 : r = 1 := h0 hres
      subst hr1
      refine lv_iconst (v := (1 : Int32)) hx hb dL_event_13 (by decide) ?_
      exact ld_ret hx hb B.returns B.notSynchronized hK hP ho hS (fun q => absurd q (by decide)) dL_event_14
    · refine vx_catch (E := nIA) (name := nIA) hown [(⟨0, 9, 12, 15⟩ : ExceptionTableEntry)] (⟨0, 9, 15, 13⟩ : ExceptionTableEntry) [] (ht.trans rfl) (fun z hz => by rcases List.mem_singleton.mp hz with rfl; exact Or.inr ⟨by decide, nIS, hts _ (by decide +kernel), hXW.2.2.2.2.2.2⟩) (by decide) (by decide) (hts _ (by decide +kernel)) (va_Nw.use rfl hXW.2.2.2.2.1.1) hce hcv hcl ?_
      refine lv_astore_n (lv' := [(3, .ref q9), (0, .ref (ad 0)), (1, .int x), (2, .ref o)]) hx hb dL_event_15 rfl hl (by decide) rfl (fun ls hl => ?_)
      have hr1 : r = 2 := h1 hres
      subst hr1
      refine lv_iconst (v := (2 : Int32)) hx hb dL_event_16 (by decide) ?_
      exact ld_ret hx hb B.returns B.notSynchronized hK hP ho hS (fun q => absurd q (by decide)) dL_event_17
  · obtain ⟨rfl, hzv⟩ := hr z hres
    refine lv_i2l hx hb dL_event_7 hzv ?_
    refine ld_store hx hb hAr ho dL_event_8 (fun H1 ho1 hz1 hq1 => ?_)
    refine lv_goto (tgt := 18) hx hb dL_event_9 (by decide) ?_
    refine lv_iconst (v := (0 : Int32)) hx hb dL_event_18 (by decide) ?_
    exact ld_ret hx hb B.returns B.notSynchronized hK (hP.kept (fun k q hk => hq1 _ (fun e9 => hno k (wd_at hk).1 (by rw [← e9]; exact (wd_at hk).2)))) ho1 (hS.put hz1 hq1 (Or.inr rfl)) (fun _ => by simp [vp_updL]) dL_event_19
