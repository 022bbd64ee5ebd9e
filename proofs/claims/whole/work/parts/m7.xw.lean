/-! The exceptions' world, and the five methods that throw. -/
abbrev nIA : String := "java/lang/IllegalArgumentException"
abbrev nIS : String := "java/lang/IllegalStateException"
abbrev nNS : String := "java/util/NoSuchElementException"
abbrev nRT : String := "java/lang/RuntimeException"
abbrev nEX : String := "java/lang/Exception"
def ixT : List Nat := [58, 65, 75, 105, 112, 125, 131]
def txT : List String := ["this is no line", "there is no room for what the line says", "there are too many configurations", "no state is so called", "the table has no such configuration or event", "there is no table", "there is no such event"]
def rxN : ByteArray := prog_20_method_4_code
theorem rxN_0 : decode rxN 0 = .ok (.aload_n 0, 1) := by decide +kernel
theorem rxN_1 : decode rxN 1 = .ok (.aload_n 1, 1) := by decide +kernel
theorem rxN_2 : decode rxN 2 = .ok (.invokespecial 13, 3) := by decide +kernel
theorem rxN_5 : decode rxN 5 = .ok (.return_, 1) := by decide +kernel
def XW (adT : Nat → Nat) (A : Nat → Prop) (s : State) (H : Heap) : Prop :=
  vx_Zq Bundle.tN "UNASSIGNED_STACK" Bundle.steD A s H ∧ vx_Zq Bundle.tN "SUPPRESSED_SENTINEL" Bundle.listD A s H ∧ (∀ i : Nat, i < 7 → vk_R RX7 (ixT.getD i 0) (txT.getD i "") (adT i) s) ∧ (va_Nw (.declares (Bundle.initS nRT)) s ∧ va_Nw (.declares (Bundle.initS nEX)) s ∧ va_Nw (.declares (Bundle.initS Bundle.tN)) s) ∧ (va_Nw (.castable nIA nIA) s ∧ va_Nw (.castable nIS nIS) s ∧ va_Nw (.castable nNS nNS) s) ∧ va_Nc nIS nIA s ∧ va_Nc nIA nIS s
theorem XW.warm {adT : Nat → Nat} {A : Nat → Prop} {s U : State} {H : Heap} (hW : s.WarmedH U.vm) (h : XW adT A s H) : XW adT A U H := by
  obtain ⟨h1, h2, h3, ⟨h4, h5, h6⟩, ⟨h7, h8, h9⟩, ha, hb⟩ := h
  exact ⟨vx_Zq.moved hW.alike h1, vx_Zq.moved hW.alike h2, fun i hi => vk_R.warm hW (h3 i hi), ⟨va_Nw.warmD hW h4, va_Nw.warmD hW h5, va_Nw.warmD hW h6⟩, ⟨va_Nw.warmC hW h7, va_Nw.warmC hW h8, va_Nw.warmC hW h9⟩, va_Nc.moved hW.alike ha, va_Nc.moved hW.alike hb⟩
theorem XW.kept {adT : Nat → Nat} {A : Nat → Prop} {s : State} {H H1 : Heap} (h : XW adT A s H) (hq : ∀ a : Nat, a < H.size → ¬ A a → H1[a]? = H[a]?) : XW adT A s H1 := ⟨h.1.kept hq, h.2.1.kept hq, h.2.2⟩
theorem XW.narrow {adT : Nat → Nat} {A B : Nat → Prop} {s : State} {H : Heap} (h : XW adT A s H) (hAB : ∀ q, B q → A q) : XW adT B s H := ⟨h.1.narrow hAB, h.2.1.narrow hAB, h.2.2⟩
theorem XW.call {adT : Nat → Nat} {A : Nat → Prop} {U : State} {g : JFrame} {mk : MethodId} {a : Array Value} (h : XW adT A U U.heap) : XW adT A (U.calling g mk a) (U.calling g mk a).heap := by
  have e : (U.calling g mk a).heap = U.heap := rfl
  rw [e]
  obtain ⟨h1, h2, h3, ⟨h4, h5, h6⟩, ⟨h7, h8, h9⟩, ha, hb⟩ := h
  exact ⟨vx_Zq.moved (u := U) (Vm.Alike.refl U.vm) h1, vx_Zq.moved (u := U) (Vm.Alike.refl U.vm) h2, fun i hi => vk_R.same (u := U) rfl (h3 i hi), ⟨va_Nw.same (u := U) rfl rfl h4, va_Nw.same (u := U) rfl rfl h5, va_Nw.same (u := U) rfl rfl h6⟩, ⟨va_Nw.same (u := U) rfl rfl h7, va_Nw.same (u := U) rfl rfl h8, va_Nw.same (u := U) rfl rfl h9⟩, va_Nc.moved (u := U) (Vm.Alike.refl U.vm) ha, va_Nc.moved (u := U) (Vm.Alike.refl U.vm) hb⟩
/-- contracts of what may throw -/
def xm_Pc (adK adV adT : Nat → Nat) (D : va_G) (cA : Nat → ClassId) (ad : Nat → Nat) (M : Mem) (av : List Value) : Array Value → State → Prop := va_Pc av (fun U => wd_P D cA ad dsC M U.heap ∧ wd_K D cA U ∧ SW adK adV (wd_A ad dsC.length) U U.heap ∧ XW adT (wd_A ad dsC.length) U U.heap)
def xm_Q (D : va_G) (cA : Nat → ClassId) (ad : Nat → Nat) (res : Int32 ⊕ String) (M' : Mem) : Array Value → State → Outcome → State → Prop := va_Qi (fun (x : Int32) (u : Mem) => res = .inl x ∧ u = M') (wm_B D cA ad dsC) (wd_A ad dsC.length)
def xm_X (D : va_G) (cA : Nat → ClassId) (ad : Nat → Nat) (res : Int32 ⊕ String) (M' : Mem) : String → State → State → Prop := vx_X (fun u : Mem => u = M') (fun E u t => res = .inr E ∧ wm_B D cA ad dsC u t) (wd_A ad dsC.length)
def xm (l : Launch) (y : MethodName) (ws : List Cond) (rm : Room) (adK adV adT : Nat → Nat) (D : va_G) (cA : Nat → ClassId) (ad : Nat → Nat) (M : Mem) (av : List Value) (res : Int32 ⊕ String) (M' : Mem) : Prop := vx_Met l y ws rm (xm_Pc adK adV adT D cA ad M av) (xm_Q D cA ad res M') (xm_X D cA ad res M') 1 6 (wd_A ad dsC.length)
section XD
variable {p : Program} {l : Launch} {e : Env} {R : Room} {s : State} {m : MethodId} {args : Array Value} {below : List Frame} {meth : Method} {c : Code} {H : Heap} {locs : List Loc} {cells slots : Nat} {Q : State → Prop}
variable {cc : ByteArray} {nL : Nat} {pc : Nat} {ls : Array Slot} {rest : List Value} {D : va_G} {cA : Nat → ClassId} {ad : Nat → Nat} {M : Mem} {Ts : List Cond} {own : String} {adK adV adT : Nat → Nat}
theorem xd_reti (X : wd_X p s m args meth c cc nL Ts own (some .int) D cA ad dsC.length) (hP : wd_P D cA ad dsC M H) (hS : va_S (wd_A ad dsC.length) s.heap H locs) {v : Int32} {XC : String → State → State → Prop} (hdg : decode cc pc = .ok (.ireturn, 1)) :
    W p l e R s m args below meth c H locs 0 0 (vx_MQ below (xm_Q D cA ad (.inl v) M) XC args s 1 6 (wd_A ad dsC.length)) (F0 m pc ls [.int v]) := by
  obtain ⟨⟨hx, hb, -, -, -⟩, hK, hlk, hrt, -⟩ := X
  refine vx_ret ?_
  refine W.widen (k := 1) (n := 6) (by decide) (by decide) ?_
  exact W.zret hx hb hrt rfl (fun t ht hW => ⟨⟨v, M, rfl, ⟨rfl, rfl⟩, by show wd_P D cA ad dsC M t.heap; rw [ht]; exact hP, va_K.moved hW.alike hK⟩, hS.F ht⟩) hS.2.2 hdg hlk
theorem xd_thrown (X : wd_X p s m args meth c cc nL Ts own (some .int) D cA ad dsC.length) (hP : wd_P D cA ad dsC M H) (hS : va_S (wd_A ad dsC.length) s.heap H locs) {E : String} (t : State) (ha : s.vm.Alike t.vm) (hz : H.size ≤ t.heap.size) (hq : ∀ q : Nat, q < H.size → t.heap[q]? = H[q]?) : xm_X D cA ad (.inr E) M E s t := by
  obtain ⟨-, hK, -, -, -⟩ := X
  refine ⟨M, rfl, ⟨rfl, hP.kept (fun k q hk => hq _ (vx_lt hP hk)), va_K.moved ha hK⟩, Nat.le_trans hS.1 hz, fun q h1 h2 => ?_⟩
  rw [hq q (Nat.lt_of_lt_of_le h1 hS.1)]
  exact hS.2.1 q h1 h2
theorem xd_throw (X : wd_X p s m args meth c cc nL Ts RX7 (some .int) D cA ad dsC.length) (hl : l.stackTraces = false) (ht : ∀ x ∈ c.exceptionTable.toList, False) (hP : wd_P D cA ad dsC M H) (hS : va_S (wd_A ad dsC.length) s.heap H locs) (hW : XW adT (wd_A ad dsC.length) s s.heap)
    {cls text : String} {ik is ic sa : Nat} {Qc : Array Value → State → Outcome → State → Prop} (hcls : Bundle.fit cls = true) (hcast : va_Nw (.castable cls cls) s) (hv : ∀ w ∈ (vx_atS RX7 ic cls [nRT, nEX]).filter goodWord, w ∈ Ts) (hk : Cond.classLink RX7 ik cls ∈ Ts) (hini : Cond.initialized cls ∈ Ts) (hstr : vk_R RX7 is text sa s)
    (hbad : ∀ w ∈ (vx_atS RX7 ic cls [nRT, nEX]).filter (fun w => !goodWord w), w ∈ [Cond.declares (Bundle.initS nRT), .declares (Bundle.initS nEX), .declares (Bundle.initS Bundle.tN), .castable cls cls])
    (hgood : ∀ w ∈ Cond.classLink RX7 ik cls :: Cond.initialized cls :: vx_atS RX7 ic cls [nRT, nEX], vx_ot w = true) (hsz : ls.size = nL)
    (d0 : decode cc pc = .ok (.new ik, 3)) (d3 : decode cc (pc + 3) = .ok (.dup, 1)) (d4 : decode cc (pc + 4) = .ok (.ldc is, 2)) (d6 : decode cc (pc + 6) = .ok (.invokespecial ic, 3)) (d9 : decode cc (pc + 9) = .ok (.athrow, 1))
    (hR : 6 ≤ R.frames ∧ 1 ≤ R.cells ∧ 6 ≤ R.slots ∧ 82 ≤ R.locals) :
    W p l e R s m args below meth c H locs 0 0 (vx_MQ below Qc (xm_X D cA ad (.inr cls) M) args s 1 6 (wd_A ad dsC.length)) (F0 m pc ls []) := by
  have X0 := X
  obtain ⟨⟨hx, hb, hml, hown, hts⟩, hK, hlk, hrt, -⟩ := X
  obtain ⟨h1, h2, h3, ⟨h4, h5, h6⟩, -, -, -⟩ := hW
  exact vx_throwS (own := RX7) (cls := cls) (text := text) (names := [nRT, nEX]) (ik := ik) (is := is) (ic := ic) (sa := sa) hx hb hl hown hcls (by decide +kernel) (hts _ hk) (hts _ hini) hstr
    (vx_hat (fun w hw => hts w (hv w hw)) hbad (vx_c (va_Nw.use rfl h4) (vx_c (va_Nw.use rfl h5) (vx_c (va_Nw.use rfl h6) (vx_c (va_Nw.use rfl hcast) vx_n))))) hgood h1 h2 hS (hsz.trans hml.symm) d0 d3 d4 d6 d9 (fun x hx => (ht x hx).elim)
    (by show 5 < R.frames; omega) (by show 0 + 82 ≤ R.locals; omega) (by omega) (by omega) hlk (fun t a1 a2 a3 => xd_thrown X0 hP hS t a1 a2 a3) hS.2.2 (by decide) (by decide)
theorem xd_throwN (X : wd_X p s m args meth c cc nL Ts RX7 (some .int) D cA ad dsC.length) (hl : l.stackTraces = false) (ht : ∀ x ∈ c.exceptionTable.toList, False) (hP : wd_P D cA ad dsC M H) (hS : va_S (wd_A ad dsC.length) s.heap H locs) (hW : XW adT (wd_A ad dsC.length) s s.heap)
    {text : String} {is sa : Nat} {Qc : Array Value → State → Outcome → State → Prop} (hv : ∀ w ∈ (mx_atS RX7 107 nNS nRT 13 rxN [nEX]).filter goodWord, w ∈ Ts) (hk : Cond.classLink RX7 103 nNS ∈ Ts) (hini : Cond.initialized nNS ∈ Ts) (hstr : vk_R RX7 is text sa s) (hsz : ls.size = nL)
    (d0 : decode cc pc = .ok (.new 103, 3)) (d3 : decode cc (pc + 3) = .ok (.dup, 1)) (d4 : decode cc (pc + 4) = .ok (.ldc is, 2)) (d6 : decode cc (pc + 6) = .ok (.invokespecial 107, 3)) (d9 : decode cc (pc + 9) = .ok (.athrow, 1))
    (hR : 6 ≤ R.frames ∧ 1 ≤ R.cells ∧ 6 ≤ R.slots ∧ 82 ≤ R.locals) :
    W p l e R s m args below meth c H locs 0 0 (vx_MQ below Qc (xm_X D cA ad (.inr nNS) M) args s 1 6 (wd_A ad dsC.length)) (F0 m pc ls []) := by
  have X0 := X
  obtain ⟨⟨hx, hb, hml, hown, hts⟩, hK, hlk, hrt, -⟩ := X
  obtain ⟨h1, h2, h3, ⟨h4, h5, h6⟩, ⟨-, -, h9⟩, -, -⟩ := hW
  exact mx_throwS (own := RX7) (cls := nNS) (text := text) (Y := nRT) (names := [nEX]) (ik := 103) (is := is) (ic := 107) (ix := 13) (sa := sa) (rx := rxN) hx hb hl rxN_0 rxN_1 rxN_2 rxN_5 hown (by decide +kernel) (by decide +kernel) (by decide +kernel) (hts _ hk) (hts _ hini) hstr
    (vx_hat (B := [Cond.declares (Bundle.initS nRT), .declares (Bundle.initS nEX), .declares (Bundle.initS Bundle.tN), .castable nNS nNS]) (fun w hw => hts w (hv w hw)) (by decide +kernel) (vx_c (va_Nw.use rfl h4) (vx_c (va_Nw.use rfl h5) (vx_c (va_Nw.use rfl h6) (vx_c (va_Nw.use rfl h9) vx_n))))) (by decide +kernel) h1 h2 hS (hsz.trans hml.symm) d0 d3 d4 d6 d9 (fun x hx => (ht x hx).elim)
    (by show 5 < R.frames; omega) (by show 0 + 82 ≤ R.locals; omega) (by omega) (by omega) hlk (fun t a1 a2 a3 => xd_thrown X0 hP hS t a1 a2 a3) hS.2.2 (by decide) (by decide)
end XD
theorem bad_IA : ∀ w ∈ (vx_atS RX7 60 nIA [nRT, nEX]).filter (fun w => !goodWord w), w ∈ [Cond.declares (Bundle.initS nRT), .declares (Bundle.initS nEX), .declares (Bundle.initS Bundle.tN), .castable nIA nIA] := by decide +kernel
theorem bad_IS : ∀ w ∈ (vx_atS RX7 67 nIS [nRT, nEX]).filter (fun w => !goodWord w), w ∈ [Cond.declares (Bundle.initS nRT), .declares (Bundle.initS nEX), .declares (Bundle.initS Bundle.tN), .castable nIS nIS] := by decide +kernel
theorem ot_IA : ∀ w ∈ Cond.classLink RX7 56 nIA :: Cond.initialized nIA :: vx_atS RX7 60 nIA [nRT, nEX], vx_ot w = true := by decide +kernel
theorem ot_IS : ∀ w ∈ Cond.classLink RX7 63 nIS :: Cond.initialized nIS :: vx_atS RX7 67 nIS [nRT, nEX], vx_ot w = true := by decide +kernel
def wsN_named : List Cond := .code yX7_named cX7_named 2 (some .int) :: ((wsX7_named_r1 ++ wsX7_named_r2) ++ wsX70 ++ wsX00 ++ wsX40 ++ (mx_atS RX7 107 nNS nRT 13 rxN [nEX]).filter goodWord)
def wsN_next : List Cond := .code yX7_next cX7_next 4 (some .int) :: ((wsX7_next_r1 ++ wsX7_next_r2) ++ wsX70 ++ wsX50 ++ wsX30 ++ (mx_atS RX7 107 nNS nRT 13 rxN [nEX]).filter goodWord)
set_option maxRecDepth 20000 in
theorem ggN_named_X0_split : GoodIn wsN_named wsX0_split := goodIn_r _ [9, 10, 11, 12, 13, 14, 47, 48, 49, 50, 51] (by decide +kernel) (by decide +kernel)
set_option maxRecDepth 20000 in
theorem gN_named_X0_split : GoodIn wsN_named (wsV RX7 90 RX0 yX0_split wsX0_split) := goodIn_app (goodIn_of _ (by decide +kernel)) ggN_named_X0_split
set_option maxRecDepth 20000 in
theorem ggN_named_X0_words : GoodIn wsN_named wsX0_words := goodIn_r _ [18, 10, 47, 48, 49, 50, 51] (by decide +kernel) (by decide +kernel)
set_option maxRecDepth 20000 in
theorem gN_named_X0_words : GoodIn wsN_named (wsV RX7 93 RX0 yX0_words wsX0_words) := goodIn_app (goodIn_of _ (by decide +kernel)) ggN_named_X0_words
set_option maxRecDepth 20000 in
theorem ggN_named_X0_nameAt : GoodIn wsN_named wsX0_nameAt := goodIn_r _ [22, 23, 24, 25, 8, 26, 27, 28, 29, 30, 10, 14, 13, 31, 32, 33, 34, 12, 47, 48, 49, 50, 51] (by decide +kernel) (by decide +kernel)
set_option maxRecDepth 20000 in
theorem gN_named_X0_nameAt : GoodIn wsN_named (wsV RX7 96 RX0 yX0_nameAt wsX0_nameAt) := goodIn_app (goodIn_of _ (by decide +kernel)) ggN_named_X0_nameAt
set_option maxRecDepth 20000 in
theorem ggN_named_X4_find : GoodIn wsN_named wsX4_find := goodIn_r _ [39, 40, 41, 52, 53, 54, 55, 56, 57, 58, 59, 60] (by decide +kernel) (by decide +kernel)
set_option maxRecDepth 20000 in
theorem gN_named_X4_find : GoodIn wsN_named (wsV RX7 100 RX4 yX4_find wsX4_find) := goodIn_app (goodIn_of _ (by decide +kernel)) ggN_named_X4_find
set_option maxRecDepth 20000 in
theorem ggN_next_X5_following : GoodIn wsN_next wsX5_following := goodIn_r _ [8, 9, 10, 11, 12, 7, 13, 14, 15, 16, 17, 18, 19, 20, 21, 22, 23, 24, 25, 31, 32, 33, 34, 35, 36, 37, 38, 39, 40, 41, 42, 43, 44, 45, 46, 47, 48, 49] (by decide +kernel) (by decide +kernel)
set_option maxRecDepth 20000 in
theorem gN_next_X5_following : GoodIn wsN_next (wsV RX7 108 RX5 yX5_following wsX5_following) := goodIn_app (goodIn_of _ (by decide +kernel)) ggN_next_X5_following
def rm_X7_line : Room := { frames := 8, cells := 1, slots := 6, locals := 176 }
theorem in_X7_line_X7 : ∀ w ∈ u_ws RX7 TX7 5, w ∈ wsX7_line := by decide +kernel
set_option maxHeartbeats 4000000 in
set_option maxRecDepth 100000 in
theorem c_X7_line (l : Launch) (hlt : l.stackTraces = false) (D : va_G) (cA : Nat → ClassId) (ad : Nat → Nat) (hj : wd_inj ad dsC.length) (adK adV adT : Nat → Nat)  (M : Mem) {k : Int32} {M1 : Mem} (hF : F_X2_read M = some (k, M1)) {res : Int32 ⊕ String} {M' : Mem} (hres : res = if k = -1 then .inr nIA else if k = -2 then .inr nIS else .inl k) (hM : M' = if k = -1 ∨ k = -2 ∨ k = 0 then M1 else set2 M1 30 6 0) : xm l yX7_line wsX7_line rm_X7_line adK adV adT D cA ad M [.ref (ad 0)] res M' := by
  refine vx_ofW (cc := cX7_line) (maxL := 2) (ret := some .int) (by decide) rfl ?_
  intro p e s m args below meth c s₁ B hml ht hv
  obtain ⟨rfl, hP, hK, hW, hXW⟩ := hv
  have X : wd_X p s m _ meth c cX7_line 2 wsX7_line RX7 (some .int) D cA ad dsC.length := ⟨⟨B.exec, B.bytes, hml, findClass_of_methodNamed B.named, atoms_spec (ws := wsX7_line) B.pre⟩, hK, B.notSynchronized, B.returns, hj⟩
  have hl := lv_entry ([.ref (ad 0)]) (n := 2) (Nat.le_of_ble_eq_true rfl)
  rw [lg_entry_eq]
  generalize (lg_sl ([.ref (ad 0)]) ++ List.replicate (2 - (lg_sl ([.ref (ad 0)])).length) Slot.unset).toArray = ls at hl ⊢
  have hl : lv_has ls 2 [(0, .ref (ad 0))] := hl
  have hS : va_S (wd_A ad dsC.length) s.heap s.heap [] := va_S.rf
  have hx := X.1.1
  have hb := X.1.2.1
  have hts := X.1.2.2.2.2
  refine lv_aload_n hx hb dX7_line_0 rfl (lv_at hl 0 rfl) ?_
  refine wd_getr (q := 29) X hP 0 dC_0 rfl in_X7_line_X7 3 rfl (by decide) (by decide +kernel) dX7_line_1 ?_
  refine wd_callis X hP hS hW [] [] (c_X2_read l D cA ad X.2.2.2.2 adK adV M hF) (cwV 0 hts gX7_line_X2_read rfl rfl rfl (by decide +kernel) ⟨(by show _ ≤ _; first | exact Nat.le_of_ble_eq_true rfl | (simp [headSpec, rm_X7_line]; omega) | omega), (by show _ ≤ _; first | exact Nat.le_of_ble_eq_true rfl | (simp [headSpec, rm_X7_line]; omega) | omega)⟩) dC_29 rfl rfl hl.1 rfl (Nat.le_of_ble_eq_true rfl) dX7_line_4 (fun H locs hP hS => ?_)
  refine lv_istore_n (lv' := [(1, .int k), (0, .ref (ad 0))]) hx hb dX7_line_7 rfl hl (by decide) rfl (fun ls hl => ?_)
  refine lv_iload_n hx hb dX7_line_8 rfl (lv_at hl 0 rfl) ?_
  refine lv_iconst (v := (-1 : Int32)) hx hb dX7_line_9 (by decide) ?_
  refine lv_icmp_ne (tgt := 23) hx hb dX7_line_10 (by decide) (fun c1 => ?_) (fun c1 => ?_)
  · rw [if_neg c1] at hres
    refine lv_iload_n hx hb dX7_line_23 rfl (lv_at hl 0 rfl) ?_
    refine lv_bipush (v := (-2 : Int32)) hx hb dX7_line_24 (by decide) ?_
    refine lv_icmp_ne (tgt := 39) hx hb dX7_line_26 (by decide) (fun c2 => ?_) (fun c2 => ?_)
    · rw [if_neg c2] at hres
      subst hres
      refine lv_iload_n hx hb dX7_line_39 rfl (lv_at hl 0 rfl) ?_
      refine lv_if_eq (tgt := 50) hx hb dX7_line_40 (by decide) (fun c3 => ?_) (fun c3 => ?_)
      · rw [if_pos (Or.inr (Or.inr c3))] at hM
        subst hM
        refine lv_iload_n hx hb dX7_line_50 rfl (lv_at hl 0 rfl) ?_
        exact xd_reti X hP hS dX7_line_51
      · rw [if_neg (fun q => q.elim c1 (fun q => q.elim c2 c3))] at hM
        refine lv_aload_n hx hb dX7_line_43 rfl (lv_at hl 1 rfl) ?_
        refine wd_getr (q := 30) X hP 0 dC_0 rfl in_X7_line_X7 4 rfl (by decide) (by decide +kernel) dX7_line_44 ?_
        refine wd_callv X hP hS [] [] (c_X5_drop l D cA ad X.2.2.2.2 M1 (M' := set2 M1 30 6 0) rfl) (cwV 0 hts gX7_line_X5_drop rfl rfl rfl (by decide +kernel) ⟨(by show _ ≤ _; first | exact Nat.le_of_ble_eq_true rfl | (simp [headSpec, rm_X7_line]; omega) | omega), (by show _ ≤ _; first | exact Nat.le_of_ble_eq_true rfl | (simp [headSpec, rm_X7_line]; omega) | omega)⟩) dC_30 rfl rfl hl.1 rfl (Nat.le_of_ble_eq_true rfl) dX7_line_47 (fun H locs hP hS => ?_)
        subst hM
        refine lv_iload_n hx hb dX7_line_50 rfl (lv_at hl 0 rfl) ?_
        exact xd_reti X hP hS dX7_line_51
    · rw [if_pos c2] at hres
      rw [if_pos (Or.inr (Or.inl c2))] at hM
      subst hres; subst hM
      exact xd_throw X hlt ht hP hS hXW (cls := nIS) (ik := 63) (ic := 67) (by decide +kernel) hXW.2.2.2.2.1.2.1 (fun w h => List.mem_cons_of_mem _ (List.mem_append_right _ h)) (by decide +kernel) (by decide +kernel) (hXW.2.2.1 1 (by decide)) bad_IS ot_IS hl.1 dX7_line_29 dX7_line_32 dX7_line_33 dX7_line_35 dX7_line_38 ⟨by decide, by decide, by decide, by decide⟩
  · rw [if_pos c1] at hres
    rw [if_pos (Or.inl c1)] at hM
    subst hres; subst hM
    exact xd_throw X hlt ht hP hS hXW (cls := nIA) (ik := 56) (ic := 60) (by decide +kernel) hXW.2.2.2.2.1.1 (fun w h => List.mem_cons_of_mem _ (List.mem_append_left _ (List.mem_append_right _ h))) (by decide +kernel) (by decide +kernel) (hXW.2.2.1 0 (by decide)) bad_IA ot_IA hl.1 dX7_line_13 dX7_line_16 dX7_line_17 dX7_line_19 dX7_line_22 ⟨by decide, by decide, by decide, by decide⟩
def rm_X7_compile : Room := { frames := 27, cells := 1, slots := 6, locals := 665 }
theorem in_X7_compile_X7 : ∀ w ∈ u_ws RX7 TX7 5, w ∈ wsX7_compile := by decide +kernel
set_option maxHeartbeats 4000000 in
set_option maxRecDepth 100000 in
theorem c_X7_compile (l : Launch) (hlt : l.stackTraces = false) (D : va_G) (cA : Nat → ClassId) (ad : Nat → Nat) (hj : wd_inj ad dsC.length) (adK adV adT : Nat → Nat)  (M : Mem) {k : Int32} {M' : Mem} (hF : F_X5_build M = some (k, M')) {res : Int32 ⊕ String} (hres : res = if k = 0 then .inr nIS else .inl (M' 30 6)) : xm l yX7_compile wsX7_compile rm_X7_compile adK adV adT D cA ad M [.ref (ad 0)] res M' := by
  refine vx_ofW (cc := cX7_compile) (maxL := 1) (ret := some .int) (by decide) rfl ?_
  intro p e s m args below meth c s₁ B hml ht hv
  obtain ⟨rfl, hP, hK, hW, hXW⟩ := hv
  have X : wd_X p s m _ meth c cX7_compile 1 wsX7_compile RX7 (some .int) D cA ad dsC.length := ⟨⟨B.exec, B.bytes, hml, findClass_of_methodNamed B.named, atoms_spec (ws := wsX7_compile) B.pre⟩, hK, B.notSynchronized, B.returns, hj⟩
  have hl := lv_entry ([.ref (ad 0)]) (n := 1) (Nat.le_of_ble_eq_true rfl)
  rw [lg_entry_eq]
  generalize (lg_sl ([.ref (ad 0)]) ++ List.replicate (1 - (lg_sl ([.ref (ad 0)])).length) Slot.unset).toArray = ls at hl ⊢
  have hl : lv_has ls 1 [(0, .ref (ad 0))] := hl
  have hS : va_S (wd_A ad dsC.length) s.heap s.heap [] := va_S.rf
  have hx := X.1.1
  have hb := X.1.2.1
  have hts := X.1.2.2.2.2
  refine lv_aload_n hx hb dX7_compile_0 rfl (lv_at hl 0 rfl) ?_
  refine wd_getr (q := 30) X hP 0 dC_0 rfl in_X7_compile_X7 4 rfl (by decide) (by decide +kernel) dX7_compile_1 ?_
  refine wd_calli X hP hS [] [] (c_X5_build l D cA ad X.2.2.2.2 M hF) (cwV 0 hts gX7_compile_X5_build rfl rfl rfl (by decide +kernel) ⟨(by show _ ≤ _; first | exact Nat.le_of_ble_eq_true rfl | (simp [headSpec, rm_X7_compile]; omega) | omega), (by show _ ≤ _; first | exact Nat.le_of_ble_eq_true rfl | (simp [headSpec, rm_X7_compile]; omega) | omega)⟩) dC_30 rfl rfl hl.1 rfl (Nat.le_of_ble_eq_true rfl) dX7_compile_4 (fun H locs hP hS => ?_)
  refine lv_if_ne (tgt := 20) hx hb dX7_compile_7 (by decide) (fun c1 => ?_) (fun c1 => ?_)
  · rw [if_neg c1] at hres
    subst hres
    refine lv_aload_n hx hb dX7_compile_20 rfl (lv_at hl 0 rfl) ?_
    refine wd_getr (q := 30) X hP 0 dC_0 rfl in_X7_compile_X7 4 rfl (by decide) (by decide +kernel) dX7_compile_21 ?_
    refine wd_calli X hP hS [] [] (c_X5_size l D cA ad X.2.2.2.2 M' (r := M' 30 6) rfl) (cwV 0 hts gX7_compile_X5_size rfl rfl rfl (by decide +kernel) ⟨(by show _ ≤ _; first | exact Nat.le_of_ble_eq_true rfl | (simp [headSpec, rm_X7_compile]; omega) | omega), (by show _ ≤ _; first | exact Nat.le_of_ble_eq_true rfl | (simp [headSpec, rm_X7_compile]; omega) | omega)⟩) dC_30 rfl rfl hl.1 rfl (Nat.le_of_ble_eq_true rfl) dX7_compile_24 (fun H locs hP hS => ?_)
    exact xd_reti X hP hS dX7_compile_27
  · rw [if_pos c1] at hres
    subst hres
    exact xd_throw X hlt ht hP hS hXW (cls := nIS) (ik := 63) (ic := 67) (by decide +kernel) hXW.2.2.2.2.1.2.1 (fun w h => List.mem_cons_of_mem _ (List.mem_append_right _ h)) (by decide +kernel) (by decide +kernel) (hXW.2.2.1 2 (by decide)) bad_IS ot_IS hl.1 dX7_compile_10 dX7_compile_13 dX7_compile_14 dX7_compile_16 dX7_compile_19 ⟨by decide, by decide, by decide, by decide⟩
def rm_X7_named : Room := { frames := 6, cells := 1, slots := 6, locals := 92 }
theorem inN_X7_named_X7 : ∀ w ∈ u_ws RX7 TX7 5, w ∈ wsN_named := by decide +kernel
set_option maxHeartbeats 4000000 in
set_option maxRecDepth 100000 in
theorem c_X7_named (l : Launch) (hlt : l.stackTraces = false) (D : va_G) (cA : Nat → ClassId) (ad : Nat → Nat) (hj : wd_inj ad dsC.length) (adK adV adT : Nat → Nat)  (M : Mem) {n k : Int32} {M' : Mem} (hF : F_X0_split M = some M') (hF1 : F_X0_words M' = some n) (hF2 : n = 1 → ∃ v, F_X0_nameAt 0 M' = some v ∧ F_X4_find v M' = some k) (hF3 : ¬ n = 1 → k = -1) {res : Int32 ⊕ String} (hres : res = if k = -1 then .inr nNS else .inl k) : xm l yX7_named wsN_named rm_X7_named adK adV adT D cA ad M [.ref (ad 0)] res M' := by
  refine vx_ofW (cc := cX7_named) (maxL := 2) (ret := some .int) (by decide) rfl ?_
  intro p e s m args below meth c s₁ B hml ht hv
  obtain ⟨rfl, hP, hK, hW, hXW⟩ := hv
  have X : wd_X p s m _ meth c cX7_named 2 wsN_named RX7 (some .int) D cA ad dsC.length := ⟨⟨B.exec, B.bytes, hml, findClass_of_methodNamed B.named, atoms_spec (ws := wsN_named) B.pre⟩, hK, B.notSynchronized, B.returns, hj⟩
  have hl := lv_entry ([.ref (ad 0)]) (n := 2) (Nat.le_of_ble_eq_true rfl)
  rw [lg_entry_eq]
  generalize (lg_sl ([.ref (ad 0)]) ++ List.replicate (2 - (lg_sl ([.ref (ad 0)])).length) Slot.unset).toArray = ls at hl ⊢
  have hl : lv_has ls 2 [(0, .ref (ad 0))] := hl
  have hS : va_S (wd_A ad dsC.length) s.heap s.heap [] := va_S.rf
  have hx := X.1.1
  have hb := X.1.2.1
  have hts := X.1.2.2.2.2
  refine lv_aload_n hx hb dX7_named_0 rfl (lv_at hl 0 rfl) ?_
  refine wd_getr (q := 1) X hP 0 dC_0 rfl inN_X7_named_X7 0 rfl (by decide) (by decide +kernel) dX7_named_1 ?_
  refine wd_callv X hP hS [] [] (c_X0_split l D cA ad X.2.2.2.2 M hF) (cwV 0 hts gN_named_X0_split rfl rfl rfl (by decide +kernel) ⟨(by show _ ≤ _; first | exact Nat.le_of_ble_eq_true rfl | (simp [headSpec, rm_X7_named]; omega) | omega), (by show _ ≤ _; first | exact Nat.le_of_ble_eq_true rfl | (simp [headSpec, rm_X7_named]; omega) | omega)⟩) dC_1 rfl rfl hl.1 rfl (Nat.le_of_ble_eq_true rfl) dX7_named_4 (fun H locs hP hS => ?_)
  refine lv_aload_n hx hb dX7_named_7 rfl (lv_at hl 0 rfl) ?_
  refine wd_getr (q := 1) X hP 0 dC_0 rfl inN_X7_named_X7 0 rfl (by decide) (by decide +kernel) dX7_named_8 ?_
  refine wd_calli X hP hS [] [] (c_X0_words l D cA ad X.2.2.2.2 M' hF1) (cwV 0 hts gN_named_X0_words rfl rfl rfl (by decide +kernel) ⟨(by show _ ≤ _; first | exact Nat.le_of_ble_eq_true rfl | (simp [headSpec, rm_X7_named]; omega) | omega), (by show _ ≤ _; first | exact Nat.le_of_ble_eq_true rfl | (simp [headSpec, rm_X7_named]; omega) | omega)⟩) dC_1 rfl rfl hl.1 rfl (Nat.le_of_ble_eq_true rfl) dX7_named_11 (fun H locs hP hS => ?_)
  refine lv_iconst (v := (1 : Int32)) hx hb dX7_named_14 (by decide) ?_
  refine lv_icmp_ne (tgt := 36) hx hb dX7_named_15 (by decide) (fun c0 => ?_) (fun c0 => ?_)
  · obtain rfl := hF3 c0
    refine lv_iconst (v := (-1 : Int32)) hx hb dX7_named_36 (by decide) ?_
    refine lv_istore_n (lv' := [(1, .int (-1)), (0, .ref (ad 0))]) hx hb dX7_named_37 rfl hl (by decide) rfl (fun ls hl => ?_)
    refine lv_iload_n hx hb dX7_named_38 rfl (lv_at hl 0 rfl) ?_
    refine lv_iconst (v := (-1 : Int32)) hx hb dX7_named_39 (by decide) ?_
    refine lv_icmp_ne (tgt := 53) hx hb dX7_named_40 (by decide) (fun c1 => ?_) (fun c1 => ?_)
    · rw [if_neg c1] at hres
      subst hres
      refine lv_iload_n hx hb dX7_named_53 rfl (lv_at hl 0 rfl) ?_
      exact xd_reti X hP hS dX7_named_54
    · rw [if_pos c1] at hres
      subst hres
      exact xd_throwN X hlt ht hP hS hXW (fun w h => List.mem_cons_of_mem _ (List.mem_append_right _ h)) (by decide +kernel) (by decide +kernel) (hXW.2.2.1 3 (by decide)) hl.1 dX7_named_43 dX7_named_46 dX7_named_47 dX7_named_49 dX7_named_52 ⟨by decide, by decide, by decide, by decide⟩
  · obtain ⟨v, hv1, hv2⟩ := hF2 c0
    refine lv_aload_n hx hb dX7_named_18 rfl (lv_at hl 0 rfl) ?_
    refine wd_getr (q := 5) X hP 0 dC_0 rfl inN_X7_named_X7 1 rfl (by decide) (by decide +kernel) dX7_named_19 ?_
    refine lv_aload_n hx hb dX7_named_22 rfl (lv_at hl 0 rfl) ?_
    refine wd_getr (q := 1) X hP 0 dC_0 rfl inN_X7_named_X7 0 rfl (by decide) (by decide +kernel) dX7_named_23 ?_
    refine lv_iconst (v := (0 : Int32)) hx hb dX7_named_26 (by decide) ?_
    refine wd_calli X hP hS [.int 0] [.ref (ad 5)] (c_X0_nameAt l D cA ad X.2.2.2.2 0 M' hv1) (cwV 1 hts gN_named_X0_nameAt rfl rfl rfl (by decide +kernel) ⟨(by show _ ≤ _; first | exact Nat.le_of_ble_eq_true rfl | (simp [headSpec, rm_X7_named]; omega) | omega), (by show _ ≤ _; first | exact Nat.le_of_ble_eq_true rfl | (simp [headSpec, rm_X7_named]; omega) | omega)⟩) dC_1 rfl rfl hl.1 rfl (Nat.le_of_ble_eq_true rfl) dX7_named_27 (fun H locs hP hS => ?_)
    refine wd_calli X hP hS [.int v] [] (c_X4_find l D cA ad X.2.2.2.2 v M' hv2) (cwV 1 hts gN_named_X4_find rfl rfl rfl (by decide +kernel) ⟨(by show _ ≤ _; first | exact Nat.le_of_ble_eq_true rfl | (simp [headSpec, rm_X7_named]; omega) | omega), (by show _ ≤ _; first | exact Nat.le_of_ble_eq_true rfl | (simp [headSpec, rm_X7_named]; omega) | omega)⟩) dC_5 rfl rfl hl.1 rfl (Nat.le_of_ble_eq_true rfl) dX7_named_30 (fun H locs hP hS => ?_)
    refine lv_goto (tgt := 37) hx hb dX7_named_33 (by decide) ?_
    refine lv_istore_n (lv' := [(1, .int k), (0, .ref (ad 0))]) hx hb dX7_named_37 rfl hl (by decide) rfl (fun ls hl => ?_)
    refine lv_iload_n hx hb dX7_named_38 rfl (lv_at hl 0 rfl) ?_
    refine lv_iconst (v := (-1 : Int32)) hx hb dX7_named_39 (by decide) ?_
    refine lv_icmp_ne (tgt := 53) hx hb dX7_named_40 (by decide) (fun c1 => ?_) (fun c1 => ?_)
    · rw [if_neg c1] at hres
      subst hres
      refine lv_iload_n hx hb dX7_named_53 rfl (lv_at hl 0 rfl) ?_
      exact xd_reti X hP hS dX7_named_54
    · rw [if_pos c1] at hres
      subst hres
      exact xd_throwN X hlt ht hP hS hXW (fun w h => List.mem_cons_of_mem _ (List.mem_append_right _ h)) (by decide +kernel) (by decide +kernel) (hXW.2.2.1 3 (by decide)) hl.1 dX7_named_43 dX7_named_46 dX7_named_47 dX7_named_49 dX7_named_52 ⟨by decide, by decide, by decide, by decide⟩
def rm_X7_next : Room := { frames := 6, cells := 1, slots := 6, locals := 90 }
theorem inN_X7_next_X7 : ∀ w ∈ u_ws RX7 TX7 5, w ∈ wsN_next := by decide +kernel
set_option maxHeartbeats 4000000 in
set_option maxRecDepth 100000 in
theorem c_X7_next (l : Launch) (hlt : l.stackTraces = false) (D : va_G) (cA : Nat → ClassId) (ad : Nat → Nat) (hj : wd_inj ad dsC.length) (adK adV adT : Nat → Nat) (x y : Int32) (M : Mem) {k : Int32} (hF : F_X5_following x y M = some k) {res : Int32 ⊕ String} {M' : Mem} (hM : M' = M) (hres : res = if k = -1 then .inr nNS else .inl k) : xm l yX7_next wsN_next rm_X7_next adK adV adT D cA ad M [.ref (ad 0), .int x, .int y] res M' := by
  refine vx_ofW (cc := cX7_next) (maxL := 4) (ret := some .int) (by decide) rfl ?_
  intro p e s m args below meth c s₁ B hml ht hv
  obtain ⟨rfl, hP, hK, hW, hXW⟩ := hv
  have X : wd_X p s m _ meth c cX7_next 4 wsN_next RX7 (some .int) D cA ad dsC.length := ⟨⟨B.exec, B.bytes, hml, findClass_of_methodNamed B.named, atoms_spec (ws := wsN_next) B.pre⟩, hK, B.notSynchronized, B.returns, hj⟩
  have hl := lv_entry ([.ref (ad 0), .int x, .int y]) (n := 4) (Nat.le_of_ble_eq_true rfl)
  rw [lg_entry_eq]
  generalize (lg_sl ([.ref (ad 0), .int x, .int y]) ++ List.replicate (4 - (lg_sl ([.ref (ad 0), .int x, .int y])).length) Slot.unset).toArray = ls at hl ⊢
  have hl : lv_has ls 4 [(0, .ref (ad 0)), (1, .int x), (2, .int y)] := hl
  have hS : va_S (wd_A ad dsC.length) s.heap s.heap [] := va_S.rf
  have hx := X.1.1
  have hb := X.1.2.1
  have hts := X.1.2.2.2.2
  subst hM
  refine lv_aload_n hx hb dX7_next_0 rfl (lv_at hl 0 rfl) ?_
  refine wd_getr (q := 30) X hP 0 dC_0 rfl inN_X7_next_X7 4 rfl (by decide) (by decide +kernel) dX7_next_1 ?_
  refine lv_iload_n hx hb dX7_next_4 rfl (lv_at hl 1 rfl) ?_
  refine lv_iload_n hx hb dX7_next_5 rfl (lv_at hl 2 rfl) ?_
  refine wd_calli X hP hS [.int x, .int y] [] (c_X5_following l D cA ad X.2.2.2.2 x y _ hF) (cwV 2 hts gN_next_X5_following rfl rfl rfl (by decide +kernel) ⟨(by show _ ≤ _; first | exact Nat.le_of_ble_eq_true rfl | (simp [headSpec, rm_X7_next]; omega) | omega), (by show _ ≤ _; first | exact Nat.le_of_ble_eq_true rfl | (simp [headSpec, rm_X7_next]; omega) | omega)⟩) dC_30 rfl rfl hl.1 rfl (Nat.le_of_ble_eq_true rfl) dX7_next_6 (fun H locs hP hS => ?_)
  refine lv_istore_n (lv' := [(3, .int k), (0, .ref (ad 0)), (1, .int x), (2, .int y)]) hx hb dX7_next_9 rfl hl (by decide) rfl (fun ls hl => ?_)
  refine lv_iload_n hx hb dX7_next_10 rfl (lv_at hl 0 rfl) ?_
  refine lv_iconst (v := (-1 : Int32)) hx hb dX7_next_11 (by decide) ?_
  refine lv_icmp_ne (tgt := 25) hx hb dX7_next_12 (by decide) (fun c1 => ?_) (fun c1 => ?_)
  · rw [if_neg c1] at hres
    subst hres
    refine lv_iload_n hx hb dX7_next_25 rfl (lv_at hl 0 rfl) ?_
    exact xd_reti X hP hS dX7_next_26
  · rw [if_pos c1] at hres
    subst hres
    exact xd_throwN X hlt ht hP hS hXW (fun w h => List.mem_cons_of_mem _ (List.mem_append_right _ h)) (by decide +kernel) (by decide +kernel) (hXW.2.2.1 4 (by decide)) hl.1 dX7_next_15 dX7_next_18 dX7_next_19 dX7_next_21 dX7_next_24 ⟨by decide, by decide, by decide, by decide⟩
def rm_X7_event : Room := { frames := 6, cells := 1, slots := 6, locals := 90 }
theorem in_X7_event_X7 : ∀ w ∈ u_ws RX7 TX7 5, w ∈ wsX7_event := by decide +kernel
set_option maxHeartbeats 4000000 in
set_option maxRecDepth 100000 in
theorem c_X7_event (l : Launch) (hlt : l.stackTraces = false) (D : va_G) (cA : Nat → ClassId) (ad : Nat → Nat) (hj : wd_inj ad dsC.length) (adK adV adT : Nat → Nat) (x : Int32) (M : Mem) {res : Int32 ⊕ String} {M' : Mem} (h : (M 30 6 = 0 ∧ res = .inr nIS ∧ M' = M) ∨ (¬ M 30 6 = 0 ∧ F_X3_isEvent x M = some 0 ∧ res = .inr nIA ∧ M' = M) ∨ (¬ M 30 6 = 0 ∧ F_X3_isEvent x M = some 1 ∧ ∃ b, F_X5_step x M = some (b, M') ∧ res = .inl b)) : xm l yX7_event wsX7_event rm_X7_event adK adV adT D cA ad M [.ref (ad 0), .int x] res M' := by
  refine vx_ofW (cc := cX7_event) (maxL := 2) (ret := some .int) (by decide) rfl ?_
  intro p e s m args below meth c s₁ B hml ht hv
  obtain ⟨rfl, hP, hK, hW, hXW⟩ := hv
  have X : wd_X p s m _ meth c cX7_event 2 wsX7_event RX7 (some .int) D cA ad dsC.length := ⟨⟨B.exec, B.bytes, hml, findClass_of_methodNamed B.named, atoms_spec (ws := wsX7_event) B.pre⟩, hK, B.notSynchronized, B.returns, hj⟩
  have hl := lv_entry ([.ref (ad 0), .int x]) (n := 2) (Nat.le_of_ble_eq_true rfl)
  rw [lg_entry_eq]
  generalize (lg_sl ([.ref (ad 0), .int x]) ++ List.replicate (2 - (lg_sl ([.ref (ad 0), .int x])).length) Slot.unset).toArray = ls at hl ⊢
  have hl : lv_has ls 2 [(0, .ref (ad 0)), (1, .int x)] := hl
  have hS : va_S (wd_A ad dsC.length) s.heap s.heap [] := va_S.rf
  have hx := X.1.1
  have hb := X.1.2.1
  have hts := X.1.2.2.2.2
  refine lv_aload_n hx hb dX7_event_0 rfl (lv_at hl 0 rfl) ?_
  refine wd_getr (q := 30) X hP 0 dC_0 rfl in_X7_event_X7 4 rfl (by decide) (by decide +kernel) dX7_event_1 ?_
  refine wd_calli X hP hS [] [] (c_X5_size l D cA ad X.2.2.2.2 M (r := M 30 6) rfl) (cwV 0 hts gX7_event_X5_size rfl rfl rfl (by decide +kernel) ⟨(by show _ ≤ _; first | exact Nat.le_of_ble_eq_true rfl | (simp [headSpec, rm_X7_event]; omega) | omega), (by show _ ≤ _; first | exact Nat.le_of_ble_eq_true rfl | (simp [headSpec, rm_X7_event]; omega) | omega)⟩) dC_30 rfl rfl hl.1 rfl (Nat.le_of_ble_eq_true rfl) dX7_event_4 (fun H locs hP hS => ?_)
  refine lv_if_ne (tgt := 20) hx hb dX7_event_7 (by decide) (fun c1 => ?_) (fun c1 => ?_)
  · have h := h.elim (fun q => absurd q.1 c1) id
    refine lv_aload_n hx hb dX7_event_20 rfl (lv_at hl 0 rfl) ?_
    refine wd_getr (q := 18) X hP 0 dC_0 rfl in_X7_event_X7 2 rfl (by decide) (by decide +kernel) dX7_event_21 ?_
    refine lv_iload_n hx hb dX7_event_24 rfl (lv_at hl 1 rfl) ?_
    rcases h with ⟨-, hE, hres, hM⟩ | ⟨-, hE, b, hF, hres⟩
    · subst hres; subst hM
      refine wd_calli X hP hS [.int x] [] (c_X3_isEvent l D cA ad X.2.2.2.2 x _ hE) (cwV 1 hts gX7_event_X3_isEvent rfl rfl rfl (by decide +kernel) ⟨(by show _ ≤ _; first | exact Nat.le_of_ble_eq_true rfl | (simp [headSpec, rm_X7_event]; omega) | omega), (by show _ ≤ _; first | exact Nat.le_of_ble_eq_true rfl | (simp [headSpec, rm_X7_event]; omega) | omega)⟩) dC_18 rfl rfl hl.1 rfl (Nat.le_of_ble_eq_true rfl) dX7_event_25 (fun H locs hP hS => ?_)
      refine lv_if_ne (tgt := 41) hx hb dX7_event_28 (by decide) (fun c2 => absurd rfl c2) (fun c2 => ?_)
      exact xd_throw X hlt ht hP hS hXW (cls := nIA) (ik := 56) (ic := 60) (by decide +kernel) hXW.2.2.2.2.1.1 (fun w h => List.mem_cons_of_mem _ (List.mem_append_right _ h)) (by decide +kernel) (by decide +kernel) (hXW.2.2.1 6 (by decide)) bad_IA ot_IA hl.1 dX7_event_31 dX7_event_34 dX7_event_35 dX7_event_37 dX7_event_40 ⟨by decide, by decide, by decide, by decide⟩
    · subst hres
      refine wd_calli X hP hS [.int x] [] (c_X3_isEvent l D cA ad X.2.2.2.2 x _ hE) (cwV 1 hts gX7_event_X3_isEvent rfl rfl rfl (by decide +kernel) ⟨(by show _ ≤ _; first | exact Nat.le_of_ble_eq_true rfl | (simp [headSpec, rm_X7_event]; omega) | omega), (by show _ ≤ _; first | exact Nat.le_of_ble_eq_true rfl | (simp [headSpec, rm_X7_event]; omega) | omega)⟩) dC_18 rfl rfl hl.1 rfl (Nat.le_of_ble_eq_true rfl) dX7_event_25 (fun H locs hP hS => ?_)
      refine lv_if_ne (tgt := 41) hx hb dX7_event_28 (by decide) (fun c2 => ?_) (fun c2 => absurd c2 (by decide))
      refine lv_aload_n hx hb dX7_event_41 rfl (lv_at hl 0 rfl) ?_
      refine wd_getr (q := 30) X hP 0 dC_0 rfl in_X7_event_X7 4 rfl (by decide) (by decide +kernel) dX7_event_42 ?_
      refine lv_iload_n hx hb dX7_event_45 rfl (lv_at hl 1 rfl) ?_
      refine wd_calli X hP hS [.int x] [] (c_X5_step l D cA ad X.2.2.2.2 x M hF) (cwV 1 hts gX7_event_X5_step rfl rfl rfl (by decide +kernel) ⟨(by show _ ≤ _; first | exact Nat.le_of_ble_eq_true rfl | (simp [headSpec, rm_X7_event]; omega) | omega), (by show _ ≤ _; first | exact Nat.le_of_ble_eq_true rfl | (simp [headSpec, rm_X7_event]; omega) | omega)⟩) dC_30 rfl rfl hl.1 rfl (Nat.le_of_ble_eq_true rfl) dX7_event_46 (fun H locs hP hS => ?_)
      exact xd_reti X hP hS dX7_event_49
  · rcases h with ⟨-, hres, hM⟩ | h | h
    · subst hres; subst hM
      exact xd_throw X hlt ht hP hS hXW (cls := nIS) (ik := 63) (ic := 67) (by decide +kernel) hXW.2.2.2.2.1.2.1 (fun w h => List.mem_cons_of_mem _ (List.mem_append_left _ (List.mem_append_right _ h))) (by decide +kernel) (by decide +kernel) (hXW.2.2.1 5 (by decide)) bad_IS ot_IS hl.1 dX7_event_10 dX7_event_13 dX7_event_14 dX7_event_16 dX7_event_19 ⟨by decide, by decide, by decide, by decide⟩
    · exact absurd c1 h.1
    · exact absurd c1 h.1
