/-! Constructors: a world that grows at its end. -/
abbrev cnA (base : Nat) : Nat → Prop := fun q => base ≤ q
theorem pre_get {pre l : va_W} (i : Nat) : (pre ++ l)[pre.length + i]? = l[i]? := by rw [List.getElem?_append_right (Nat.le_add_right _ _), Nat.add_sub_cancel_left]
theorem pre_set {pre l : va_W} (i : Nat) (y : Nat × va_E) : (pre ++ l).set (pre.length + i) y = pre ++ l.set i y := by rw [List.set_append_right _ _ (Nat.le_add_right _ _), Nat.add_sub_cancel_left]
def cn_Pc (base : Nat) (D : va_G) (cA : Nat → ClassId) (w : va_W) (av : List Value) : Array Value → State → Prop := va_Pc av (fun U => base ≤ U.heap.size ∧ va_P D vwCl w U.heap ∧ wd_K D cA U ∧ va_D (cnA base) w)
def cn_B (base : Nat) (D : va_G) (cA : Nat → ClassId) : va_W → State → Prop := fun w t => va_P D vwCl w t.heap ∧ wd_K D cA t ∧ va_D (cnA base) w
def cn_Qv (base : Nat) (D : va_G) (cA : Nat → ClassId) (post : va_W → Prop) : Array Value → State → Outcome → State → Prop := va_Qv post (cn_B base D cA) (cnA base)
def cn_m (l : Launch) (y : MethodName) (ws : List Cond) (rm : Room) (base : Nat) (D : va_G) (cA : Nat → ClassId) (w : va_W) (av : List Value) (post : va_W → Prop) (mc ms : Nat) : Prop := Met l y ws rm (cn_Pc base D cA w av) (cn_Qv base D cA post) mc ms (cnA base)
def cn_X (p : Program) (s : State) (m : MethodId) (args : Array Value) (meth : Method) (c : Code) (cc : ByteArray) (nL : Nat) (Ts : List Cond) (own : String) (D : va_G) (cA : Nat → ClassId) (base : Nat) : Prop :=
  CallFix p m c cc nL s args Ts own ∧ wd_K D cA s ∧ base ≤ s.heap.size ∧ meth.locks = false ∧ meth.sig.returnType = none
section CN
variable {p : Program} {l : Launch} {e : Env} {R : Room} {s : State} {m : MethodId} {args : Array Value} {below : List Frame} {meth : Method} {c : Code} {H : Heap} {locs : List Loc} {cells slots : Nat} {Q : State → Prop}
variable {cc : ByteArray} {nL : Nat} {pc : Nat} {ls : Array Slot} {rest : List Value} {D : va_G} {cA : Nat → ClassId} {Ts : List Cond} {own : String} {base : Nat} {pre : va_W} {w : va_W} {a ci : Nat} {fs : List Value}
theorem cn_get (X : cn_X p s m args meth c cc nL Ts own D cA base) (hP : va_P D vwCl (pre ++ w) H) {C : String} {T : u_T} {N index : Nat} (i : Nat) (he : w[i]? = some (a, .inr (ci, fs))) (hc : vwCl[ci]? = some (C, T, N)) (hin : ∀ x ∈ u_ws C T N, x ∈ Ts) (k : Nat) (hk : k < N) (hlink : Cond.fieldLink own index (T k).1 (T k).2.1 (T k).2.2.1 ∈ Ts) {v : Value} (hv : fs[k]? = some v) (hdg : decode cc pc = .ok (.getfield index, 3))
    (kk : W p l e R s m args below meth c H locs cells slots Q (F0 m (pc + 3) ls (v :: rest))) : W p l e R s m args below meth c H locs cells slots Q (F0 m pc ls (.ref a :: rest)) := by
  obtain ⟨⟨hx, hb, -, hown, hts⟩, hK, -, -, -⟩ := X
  exact va_get hx hb hts hin hown hK hP (pre.length + i) ((pre_get i).trans he) hc k hk (hts _ hlink) (fun _ h => h) hv hdg kk
theorem cn_putF (X : cn_X p s m args meth c cc nL Ts own D cA base) (hin2 : meth.name = "<init>") (hP : va_P D vwCl (pre ++ w) H) (hD : va_D (cnA base) (pre ++ w)) (hS : va_S (cnA base) s.heap H locs) {C : String} {T : u_T} {N index : Nat} (i : Nat) (he : w[i]? = some (a, .inr (ci, fs))) (hc : vwCl[ci]? = some (C, T, N)) (hin : ∀ x ∈ u_ws C T N, x ∈ Ts) {ty0 : Nat → FieldType} (hty : ∀ k, k < N → parseFieldDescriptor (T k).2.2.1 = some (ty0 k)) (hnm : ∀ a, a < N → ∀ b, b < N → a ≠ b → (T a).2.1 ≠ (T b).2.1) (k : Nat) (hk : k < N) (hlink : Cond.fieldLink own index (T k).1 (T k).2.1 (T k).2.2.1 ∈ Ts) (hfin : (T k).2.2.2 = true) (hdecl : (T k).1 = own) {ty : FieldType} {v : Value} (hd : parseFieldDescriptor (T k).2.2.1 = some ty) (hn : narrow ty v = v) (hfit : fits ty v = true) (hl : k < fs.length) (hdg : decode cc pc = .ok (.putfield index, 3))
    (kk : ∀ (H1 : Heap) (locs1 : List Loc), va_P D vwCl (pre ++ w.set i (a, .inr (ci, fs.set k v))) H1 → va_D (cnA base) (pre ++ w.set i (a, .inr (ci, fs.set k v))) → va_S (cnA base) s.heap H1 locs1 → W p l e R s m args below meth c H1 locs1 cells slots Q (F0 m (pc + 3) ls rest)) : W p l e R s m args below meth c H locs cells slots Q (F0 m pc ls (v :: .ref a :: rest)) := by
  obtain ⟨⟨hx, hb, -, hown, hts⟩, hK, -, -, -⟩ := X
  refine va_putF hx hb hts hin ty0 hty hnm hown hK hP hD hS (pre.length + i) ((pre_get i).trans he) hc k hk (hts _ hlink) (fun _ h => h) hfin hin2 hdecl hd hn hfit hl hdg (fun H1 locs1 hP1 hD1 hS1 => ?_)
  rw [pre_set] at hP1 hD1
  exact kk H1 locs1 hP1 hD1 hS1
theorem cn_put (X : cn_X p s m args meth c cc nL Ts own D cA base) (hP : va_P D vwCl (pre ++ w) H) (hD : va_D (cnA base) (pre ++ w)) (hS : va_S (cnA base) s.heap H locs) {C : String} {T : u_T} {N index : Nat} (i : Nat) (he : w[i]? = some (a, .inr (ci, fs))) (hc : vwCl[ci]? = some (C, T, N)) (hin : ∀ x ∈ u_ws C T N, x ∈ Ts) {ty0 : Nat → FieldType} (hty : ∀ k, k < N → parseFieldDescriptor (T k).2.2.1 = some (ty0 k)) (hnm : ∀ a, a < N → ∀ b, b < N → a ≠ b → (T a).2.1 ≠ (T b).2.1) (k : Nat) (hk : k < N) (hlink : Cond.fieldLink own index (T k).1 (T k).2.1 (T k).2.2.1 ∈ Ts) (hfin : (T k).2.2.2 = false) {ty : FieldType} {v : Value} (hd : parseFieldDescriptor (T k).2.2.1 = some ty) (hn : narrow ty v = v) (hfit : fits ty v = true) (hl : k < fs.length) (hdg : decode cc pc = .ok (.putfield index, 3))
    (kk : ∀ (H1 : Heap) (locs1 : List Loc), va_P D vwCl (pre ++ w.set i (a, .inr (ci, fs.set k v))) H1 → va_D (cnA base) (pre ++ w.set i (a, .inr (ci, fs.set k v))) → va_S (cnA base) s.heap H1 locs1 → W p l e R s m args below meth c H1 locs1 cells slots Q (F0 m (pc + 3) ls rest)) : W p l e R s m args below meth c H locs cells slots Q (F0 m pc ls (v :: .ref a :: rest)) := by
  obtain ⟨⟨hx, hb, -, hown, hts⟩, hK, -, -, -⟩ := X
  refine va_put hx hb hts hin ty0 hty hnm hown hK hP hD hS (pre.length + i) ((pre_get i).trans he) hc k hk (hts _ hlink) (fun _ h => h) hfin hd hn hfit hl hdg (fun H1 locs1 hP1 hD1 hS1 => ?_)
  rw [pre_set] at hP1 hD1
  exact kk H1 locs1 hP1 hD1 hS1
theorem cn_iast (X : cn_X p s m args meth c cc nL Ts own D cA base) (hP : va_P D vwCl (pre ++ w) H) (hD : va_D (cnA base) (pre ++ w)) (hS : va_S (cnA base) s.heap H locs) (i : Nat) {n : Nat} {f : Nat → Int32} (he : w[i]? = some (a, .inl (cA 0, n, .inl f))) {j x : Int32} (hin : vp_in j n) (hdg : decode cc pc = .ok (.iastore, 1))
    (kk : ∀ (H1 : Heap) (locs1 : List Loc), va_P D vwCl (pre ++ w.set i (a, .inl (cA 0, n, .inl (upd f j.toNatClampNeg x)))) H1 → va_D (cnA base) (pre ++ w.set i (a, .inl (cA 0, n, .inl (upd f j.toNatClampNeg x)))) → va_S (cnA base) s.heap H1 locs1 → W p l e R s m args below meth c H1 locs1 cells slots Q (F0 m (pc + 1) ls rest)) : W p l e R s m args below meth c H locs cells slots Q (F0 m pc ls (.int x :: .int j :: .ref a :: rest)) := by
  obtain ⟨⟨hx, hb, -, hown, hts⟩, hK, -, -, -⟩ := X
  refine va_iast hx hb hK hP hD hS (pre.length + i) 0 ((pre_get i).trans he) rfl hin hdg (fun H1 locs1 hP1 hD1 hS1 => ?_)
  rw [pre_set] at hP1 hD1
  exact kk H1 locs1 hP1 hD1 hS1
theorem cn_cast (X : cn_X p s m args meth c cc nL Ts own D cA base) (hP : va_P D vwCl (pre ++ w) H) (hD : va_D (cnA base) (pre ++ w)) (hS : va_S (cnA base) s.heap H locs) (i : Nat) {n : Nat} {f : Nat → Int32} (he : w[i]? = some (a, .inl (cA 1, n, .inl f))) {j x : Int32} (hin : vp_in j n) (hdg : decode cc pc = .ok (.castore, 1))
    (kk : ∀ (H1 : Heap) (locs1 : List Loc), va_P D vwCl (pre ++ w.set i (a, .inl (cA 1, n, .inl (upd f j.toNatClampNeg (vp_nar .char x))))) H1 → va_D (cnA base) (pre ++ w.set i (a, .inl (cA 1, n, .inl (upd f j.toNatClampNeg (vp_nar .char x))))) → va_S (cnA base) s.heap H1 locs1 → W p l e R s m args below meth c H1 locs1 cells slots Q (F0 m (pc + 1) ls rest)) : W p l e R s m args below meth c H locs cells slots Q (F0 m pc ls (.int x :: .int j :: .ref a :: rest)) := by
  obtain ⟨⟨hx, hb, -, hown, hts⟩, hK, -, -, -⟩ := X
  refine va_cast hx hb hK hP hD hS (pre.length + i) 1 ((pre_get i).trans he) rfl hin hdg (fun H1 locs1 hP1 hD1 hS1 => ?_)
  rw [pre_set] at hP1 hD1
  exact kk H1 locs1 hP1 hD1 hS1
/-- a new array of one of the three kinds -/
theorem cn_newa (X : cn_X p s m args meth c cc nL Ts own D cA base) (hP : va_P D vwCl (pre ++ w) H) (hD : va_D (cnA base) (pre ++ w)) (hS : va_S (cnA base) s.heap H locs) {atype : ArrayType} (t : Nat) {ty : FieldType} (hty : newarray.typeOf atype = ty) (ht : (wd_t cA)[t]? = some (cA t, ty)) (hra : ∀ x, va_RA s x ty = (s.vm.findClass ("[" ++ ty.toString) = some x)) (harr : Cond.arrayClass ty ∈ Ts) {n : Int32} (N : Nat) (ha : ∀ cx : ClassId, vp_cell cx (N, .inl (fun _ => 0)) = arrV cx N (fun _ => defaultValue ty)) (hn : ¬ n < 0) (hN : n.toNatClampNeg = N) (hbytes : N * componentBytes ty ≤ 536870912) (hcells : cells + 1 ≤ R.cells) (hslots : slots + N ≤ R.slots) (hdg : decode cc pc = .ok (.newarray atype, 2))
    (kk : ∀ (q : Nat) (H1 : Heap), va_P D vwCl (pre ++ (w ++ [(q, .inl (cA t, N, .inl (fun _ => 0)))])) H1 → va_D (cnA base) (pre ++ (w ++ [(q, .inl (cA t, N, .inl (fun _ => 0)))])) → va_S (cnA base) s.heap H1 locs → W p l e R s m args below meth c H1 locs (cells + 1) (slots + N) Q (F0 m (pc + 2) ls (.ref q :: rest))) : W p l e R s m args below meth c H locs cells slots Q (F0 m pc ls (.int n :: rest)) := by
  obtain ⟨⟨hx, hb, -, hown, hts⟩, hK, hbs, -, -⟩ := X
  refine va_newa hx hb (by rw [hty]; exact hts _ harr) hty hK hP hD hS (fun q hq => Nat.le_trans hbs hq) (a0 := (N, .inl (fun _ => 0))) ha hn hN hbytes hcells hslots hdg (fun q cx H1 hK1 hP1 hD1 hS1 => ?_)
  have e : cx = cA t := by
    have h1 := (hK1.2 3 (cx, ty) rfl).2
    have h2 := (hK.2 t (cA t, ty) ht).2
    rw [hra] at h1 h2
    exact Option.some.inj (h1.symm.trans h2)
  subst e
  rw [List.append_assoc] at hP1 hD1
  exact kk q H1 hP1 hD1 hS1
theorem cn_new (X : cn_X p s m args meth c cc nL Ts own D cA base) (hP : va_P D vwCl (pre ++ w) H) (hD : va_D (cnA base) (pre ++ w)) (hS : va_S (cnA base) s.heap H locs) {C : String} {T : u_T} {N index : Nat} (hc : vwCl[ci]? = some (C, T, N)) (hin : ∀ x ∈ u_ws C T N, x ∈ Ts) {ty0 : Nat → FieldType} (hty : ∀ k, k < N → parseFieldDescriptor (T k).2.2.1 = some (ty0 k)) (hcl : Cond.classLink own index C ∈ Ts) (hinst : Cond.instantiable C N ∈ Ts) (hini : Cond.initialized C ∈ Ts) (fs : List Value) (hfs : ∀ j, j < N → defaultValue (ty0 j) = vp_V fs j) (hcells : cells + 1 ≤ R.cells) (hslots : slots + N ≤ R.slots) (hdg : decode cc pc = .ok (.new index, 3))
    (kk : ∀ (q : Nat) (H1 : Heap), va_P D vwCl (pre ++ (w ++ [(q, .inr (ci, fs))])) H1 → va_D (cnA base) (pre ++ (w ++ [(q, .inr (ci, fs))])) → va_S (cnA base) s.heap H1 locs → W p l e R s m args below meth c H1 locs (cells + 1) (slots + N) Q (F0 m (pc + 3) ls (.ref q :: rest))) : W p l e R s m args below meth c H locs cells slots Q (F0 m pc ls rest) := by
  obtain ⟨⟨hx, hb, -, hown, hts⟩, hK, hbs, -, -⟩ := X
  refine va_new hx hb hts hin ty0 hty hown (hts _ hcl) (hts _ hinst) (hts _ hini) hK hP hD hS (fun q hq => Nat.le_trans hbs hq) hc hfs hcells hslots hdg (fun q H1 hP1 hD1 hS1 => ?_)
  rw [List.append_assoc] at hP1 hD1
  exact kk q H1 hP1 hD1 hS1
theorem cn_blind (base : Nat) (D : va_G) (cA : Nat → ClassId) (w : va_W) (av : List Value) : FrameBlind (cn_Pc base D cA w av) := fun a U g mk q => by
  obtain ⟨q0, qb, qP, qK, qD⟩ := q
  exact ⟨q0, qb, qP, va_K.moved (u := U) (U := U.calling g mk a) (Vm.Alike.refl U.vm) qK, qD⟩
theorem cn_pre (X : cn_X p s m args meth c cc nL Ts own D cA base) (hP : va_P D vwCl w H) (hD : va_D (cnA base) w) (hS : va_S (cnA base) s.heap H locs) (As : List Value) : PreS s H (cn_Pc base D cA w As) As := by
  obtain ⟨⟨hx, hb, -, hown, hts⟩, hK, hbs, -, -⟩ := X
  refine ⟨cn_blind base D cA w As, fun U hU hW => ⟨rfl, ?_, ?_, va_K.moved hW.alike hK, hD⟩⟩
  · rw [hU]; exact Nat.le_trans hbs hS.1
  · rw [hU]; exact hP
variable {y : MethodName} {bytes : ByteArray} {maxL n index mc ms : Nat} {ws : List Cond} {rm : Room} {st0 : List Value} {post : va_W → Prop} {host : String}
theorem cn_callI (X : cn_X p s m args meth c cc nL Ts own D cA base) {q : Nat} {o : va_E} (hP : va_P D vwCl (pre ++ (w ++ [(q, o)])) H) (hD : va_D (cnA base) (pre ++ (w ++ [(q, o)]))) (hS : va_S (cnA base) s.heap H locs) (As rest : List Value) (hM : cn_m l y ws rm base D cA ((pre ++ w) ++ [(q, o)]) (.ref q :: As) post mc ms) (cw : CallB R s args own index y bytes maxL none ws rm mc ms n ∧ y.name = "<init>" ∧ (Cond.instanceMethod y).before args s = true) (hn : As.length = n) (hsz : ls.size = nL) (hst : st0 = As.reverse ++ .ref q :: rest) (hW : (rest.map fun v => v.category).sum ≤ 8) (hf : cells + mc ≤ R.cells ∧ slots + ms ≤ R.slots) (hdg : decode cc pc = .ok (.invokespecial index, 3))
    (kk : ∀ (w1 : va_W) (H1 : Heap) (locs1 : List Loc), post w1 → va_P D vwCl w1 H1 → va_D (cnA base) w1 → va_S (cnA base) s.heap H1 locs1 → W p l e R s m args below meth c H1 locs1 (cells + mc) (slots + ms) Q (F0 m (pc + 3) ls rest)) : W p l e R s m args below meth c H locs cells slots Q (F0 m pc ls st0) := by
  rw [← List.append_assoc] at hP hD
  refine va_callv (va_runI (As := As) (rest := rest) X.1 hM cw (cn_pre X hP hD hS (.ref q :: As)) rfl hn hsz hst (lv_room hW) hdg hf) hS (fun q _ h => h) (fun q h => h) (fun u t H1 locs1 ht hvm hp hB _ _ hS1 => ?_)
  refine kk u H1 locs1 hp ?_ hB.2.2 hS1
  rw [← ht]; exact hB.1
theorem cn_callN (X : cn_X p s m args meth c cc nL Ts own D cA base) {q : Nat} {o : va_E} (hP : va_P D vwCl (pre ++ (w ++ [(q, o)])) H) (hD : va_D (cnA base) (pre ++ (w ++ [(q, o)]))) (hS : va_S (cnA base) s.heap H locs) (As rest : List Value) (hM : cn_m l y ws rm base D cA ((pre ++ w) ++ [(q, o)]) (.ref q :: As) post mc ms) (cw : va_CN R s args own index y host bytes maxL none ws rm mc ms n ∧ y.name = "<init>" ∧ (Cond.instanceMethod y).before args s = true) (hn : As.length = n) (hsz : ls.size = nL) (hst : st0 = As.reverse ++ .ref q :: rest) (hW : (rest.map fun v => v.category).sum ≤ 8) (hf : cells + mc ≤ R.cells ∧ slots + ms ≤ R.slots) (hdg : decode cc pc = .ok (.invokespecial index, 3))
    (kk : ∀ (w1 : va_W) (H1 : Heap) (locs1 : List Loc), post w1 → va_P D vwCl w1 H1 → va_D (cnA base) w1 → va_S (cnA base) s.heap H1 locs1 → W p l e R s m args below meth c H1 locs1 (cells + mc) (slots + ms) Q (F0 m (pc + 3) ls rest)) : W p l e R s m args below meth c H locs cells slots Q (F0 m pc ls st0) := by
  rw [← List.append_assoc] at hP hD
  refine va_callv (va_runIN (As := As) (rest := rest) X.1 hM cw (cn_pre X hP hD hS (.ref q :: As)) rfl hn hsz hst (lv_room hW) hdg hf) hS (fun q _ h => h) (fun q h => h) (fun u t H1 locs1 ht hvm hp hB _ _ hS1 => ?_)
  refine kk u H1 locs1 hp ?_ hB.2.2 hS1
  rw [← ht]; exact hB.1
theorem cn_ret (X : cn_X p s m args meth c cc nL Ts own D cA base) (hP : va_P D vwCl w H) (hD : va_D (cnA base) w) (hS : va_S (cnA base) s.heap H locs) (hp : post w) (hdg : decode cc pc = .ok (.return_, 1)) :
    W p l e R s m args below meth c H locs cells slots (MQ below (cn_Qv base D cA post) args s cells slots (cnA base)) (F0 m pc ls []) := by
  obtain ⟨⟨hx, hb, -, -, -⟩, hK, -, hlk, hrt⟩ := X
  exact W.vret hx hb hrt (fun t ht hW => ⟨⟨w, rfl, hp, by show va_P D vwCl w t.heap; rw [ht]; exact hP, va_K.moved hW.alike hK, hD⟩, hS.F ht⟩) hS.2.2 hdg hlk
end CN
