/-! A thrown object is caught by a row of the method's own table: what the search through the rows comes to, row by row, and the step behind it. -/
section MX
variable {e : Env} {f : JFrame} {a : Addr}
/-- the search over the rows t, begun in S, ends at pc with the tables v -/
def mx_F (e : Env) (f : JFrame) (a : Addr) (S : State) (t : List ExceptionTableEntry) (pc : Nat) (v : Vm) : Prop :=
  ∀ (Q : Handler → Pre) (E : CtlPost) (d : Bool) (acts : List Action), wp (findHandler.go f a t) Q E e d acts S ↔ Q (.found pc) d acts (S.setVm v)
theorem mx_skip {S : State} {x : ExceptionTableEntry} {t : List ExceptionTableEntry} {pc : Nat} {v : Vm} (hx : covers x f.pc = false) (h : mx_F e f a S t pc v) : mx_F e f a S (x :: t) pc v :=
  fun Q E d acts => (W.findHandler_go_skip hx).trans (h Q E d acts)
/-- a covering row, linked: what asking for its class does to the tables, and whether it takes the object -/
theorem mx_ask {S : State} {x : ExceptionTableEntry} {k : ClassId} {ce : Cell} (hl : S.vm.ClassLinks e.platform f.method.cls x.catchType k) (h1 : ∃ q, S.vm.classes[ce.cls]? = some q) (h2 : ∃ q, S.vm.classes[k]? = some q) :
    (∃ q, (S.vm.noted f.method.cls x.catchType (.cls k)).classes[ce.cls]? = some q) ∧ (∃ q, (S.vm.noted f.method.cls x.catchType (.cls k)).classes[k]? = some q) ∧ (S.vm.noted f.method.cls x.catchType (.cls k)).assignable ce.cls k = S.vm.assignable ce.cls k := by
  have al := (Vm.Alike.refl S.vm).noted f.method.cls x.catchType (.cls k)
  obtain ⟨q1, g1⟩ := h1
  obtain ⟨q2, g2⟩ := h2
  obtain ⟨r1, e1, -⟩ := al.2.2 _ _ g1
  obtain ⟨r2, e2, -⟩ := al.2.2 _ _ g2
  exact ⟨⟨r1, e1⟩, ⟨r2, e2⟩, al.assignable ..⟩
theorem mx_row {S : State} {x : ExceptionTableEntry} {t : List ExceptionTableEntry} {k : ClassId} {ce : Cell} (hx : covers x f.pc = true) (h0 : x.catchType ≠ 0) (hl : S.vm.ClassLinks e.platform f.method.cls x.catchType k) (hc : S.heap[a]? = some ce) (hv : ∀ q, ce.vm ≠ .statics q) (h1 : ∃ q, S.vm.classes[ce.cls]? = some q) (h2 : ∃ q, S.vm.classes[k]? = some q) :
    (S.vm.assignable ce.cls k = true → mx_F e f a S (x :: t) x.handlerPc (S.vm.noted f.method.cls x.catchType (.cls k))) ∧ (S.vm.assignable ce.cls k = false → ∀ pc v, mx_F e f a (S.setVm (S.vm.noted f.method.cls x.catchType (.cls k))) t pc v → mx_F e f a S (x :: t) pc v) := by
  obtain ⟨⟨r1, e1⟩, ⟨r2, e2⟩, e3⟩ := mx_ask (ce := ce) hl h1 h2
  obtain ⟨o1, o2⟩ := (resolveClass_links e.toSetting hl).op (op := VmOp.resolveClass f.method.cls x.catchType) rfl
  simp only [covers] at hx
  refine ⟨fun y Q E d acts => ?_, fun y pc v h Q E d acts => ?_⟩
  · simp [findHandler.go, hx, h0, o1, o2, hc, hv, e1, e2, e3, y, VmOp.dirties, VmOp.acts]
  · refine Iff.trans ?_ (h Q E d acts)
    simp [findHandler.go, hx, h0, o1, o2, hc, hv, e1, e2, e3, y, VmOp.dirties, VmOp.acts]
end MX
section MY
variable {p : Program} {l : Launch} {e : Env} {R : Room} {s : State} {m : MethodId} {args : Array Value} {below : List Frame} {meth : Method} {c : Code} {T : State} {locs : List Loc} {cells slots : Nat}
/-- past the rows pre, to the row x, from any state S whose tables have come out of s's -/
theorem mx_rows {f : JFrame} {a : Addr} {ce : Cell} (hv : ∀ q, ce.vm ≠ .statics q) (hk : ∃ q, s.vm.classes[ce.cls]? = some q) (x : ExceptionTableEntry) (suf : List ExceptionTableEntry) (hx : covers x f.pc = true) (h0 : x.catchType ≠ 0) {k : ClassId} (hl : s.vm.ClassLinks e.platform f.method.cls x.catchType k) (hfit : s.vm.assignable ce.cls k = true) :
    ∀ (pre : List ExceptionTableEntry) (S : State), s.WarmedH S.vm → S.heap[a]? = some ce → (∀ z ∈ pre, covers z f.pc = false ∨ (z.catchType ≠ 0 ∧ ∃ n, s.vm.ClassLinks e.platform f.method.cls z.catchType n ∧ s.vm.assignable ce.cls n = false)) → ∃ v, s.WarmedH v ∧ mx_F e f a S (pre ++ x :: suf) x.handlerPc v := by
  have lk : ∀ (y : ExceptionTableEntry) (n : ClassId) (S : State), s.vm.ClassLinks e.platform f.method.cls y.catchType n → s.WarmedH S.vm → S.vm.ClassLinks e.platform f.method.cls y.catchType n ∧ s.WarmedH (S.vm.noted f.method.cls y.catchType (.cls n)) ∧ (∃ q, S.vm.classes[n]? = some q) ∧ (∃ q, S.vm.classes[ce.cls]? = some q) ∧ S.vm.assignable ce.cls n = s.vm.assignable ce.cls n := by
    intro y n S hn hS
    obtain ⟨_, _, _, kt, hd, _, _, _, _, hkt, _, hopen⟩ := hn.here
    obtain ⟨q0, hq0⟩ := hk
    obtain ⟨r1, e1, -⟩ := hS.alike.2.2 _ _ hkt
    obtain ⟨r2, e2, -⟩ := hS.alike.2.2 _ _ hq0
    exact ⟨hS.classLinks hn, hS.noted hd hopen (State.rightAt_cls hn), ⟨r1, e1⟩, ⟨r2, e2⟩, hS.alike.assignable ..⟩
  intro pre
  induction pre with
  | nil =>
    intro S hS hc _
    obtain ⟨a1, a2, a3, a4, a5⟩ := lk x k S hl hS
    exact ⟨_, a2, (mx_row (t := suf) hx h0 a1 hc hv a4 a3).1 (by rw [a5]; exact hfit)⟩
  | cons z zs ih =>
    intro S hS hc hp
    rcases hp z List.mem_cons_self with hz | ⟨hz0, n, hn, hno⟩
    · obtain ⟨v, w1, w2⟩ := ih S hS hc (fun y hy => hp y (List.mem_cons_of_mem _ hy))
      exact ⟨v, w1, mx_skip hz w2⟩
    · cases hcv : covers z f.pc with
      | false =>
        obtain ⟨v, w1, w2⟩ := ih S hS hc (fun y hy => hp y (List.mem_cons_of_mem _ hy))
        exact ⟨v, w1, mx_skip hcv w2⟩
      | true =>
        obtain ⟨a1, a2, a3, a4, a5⟩ := lk z n S hn hS
        obtain ⟨v, w1, w2⟩ := ih (S.setVm (S.vm.noted f.method.cls z.catchType (.cls n))) a2 hc (fun y hy => hp y (List.mem_cons_of_mem _ hy))
        exact ⟨v, w1, (mx_row hcv hz0 a1 hc hv a4 a3).2 (by rw [a5]; exact hno) _ v w2⟩
theorem mx_step {S : State} {f : JFrame} {a : Addr} {r : List Frame} {pc : Nat} {v : Vm} (h : ∀ (Q : Handler → Pre) (E : CtlPost) (d : Bool) (acts : List Action), wp (findHandler f a) Q E e d acts S ↔ Q (.found pc) d acts (S.setVm v)) : (stepThrowing e S a (.java f :: r)).Is ((S.setVm v).setFrames (.java { f with pc := pc, stack := [.ref a] } :: r)) [] := by
  simp only [stepThrowing, searchFrame, vmDo]
  generalize hg : Sem.go _ e false [] S = res
  obtain ⟨as, rfl, hb⟩ := Sem.eq_ok_of hg (a := Handler.found pc) (s' := S.setVm v) (acts' := []) (by simp [h _ _ _ _])
  exact ⟨rfl, hb⟩
/-- from the note over the frame g into the handler of the row x -/
theorem mx_caught (X : Stand p l e R s m args below meth c T locs cells slots) (a : Addr) {g : JFrame} (hg : g.method = m) {ce : Cell} (hc : T.heap[a]? = some ce) (hv : ce.vm.isStatics = false) (hk : ∃ q, s.vm.classes[ce.cls]? = some q) (pre : List ExceptionTableEntry) (x : ExceptionTableEntry) (suf : List ExceptionTableEntry) (hsplit : c.exceptionTable.toList = pre ++ x :: suf)
    (hpass : ∀ z ∈ pre, covers z g.pc = false ∨ (z.catchType ≠ 0 ∧ ∃ n, s.vm.ClassLinks e.platform m.cls z.catchType n ∧ s.vm.assignable ce.cls n = false)) (hx : covers x g.pc = true) (h0 : x.catchType ≠ 0) {k : ClassId} (hl : s.vm.ClassLinks e.platform m.cls x.catchType k) (hfit : s.vm.assignable ce.cls k = true) :
    ∃ v, Stand p l e R s m args below meth c (T.setVm v) locs cells slots ∧ Steps p.tables e below ((T.setTop g).pushFrame (.throwing a)) ((T.setVm v).setTop { g with pc := x.handlerPc, stack := [.ref a] }) := by
  subst hg
  obtain ⟨v, w1, w2⟩ := mx_rows (s := s) (e := e) (f := g) (a := a) (ce := ce) (VmData.ne_statics_of hv) hk x suf hx h0 hl hfit pre ((T.setTop g).pushFrame (.throwing a)) X.warmed hc hpass
  have hF : ∀ (Q : Handler → Pre) (E : CtlPost) (d : Bool) (acts : List Action), wp (findHandler g a) Q E e d acts ((T.setTop g).pushFrame (.throwing a)) ↔ Q (.found x.handlerPc) d acts (((T.setTop g).pushFrame (.throwing a)).setVm v) := fun Q E d acts => by
    rw [W.findHandler_eq (s := (T.setTop g).pushFrame (.throwing a)) X.method' X.code, hsplit]
    exact w2 Q E d acts
  refine ⟨v, X.noted w1, ?_⟩
  obtain ⟨b1, b2⟩ := At.throwing X.here a
  refine Steps.head b1 b2 ?_
  rw [stepThread_throwing (frames_entered X.here.top _), (mx_step hF).1]
  obtain ⟨g0, hg0⟩ := Option.isSome_iff_exists.mp X.here.top
  obtain ⟨r, hr⟩ := State.topJava?_eq_some.mp hg0
  have q1 : (T.setVm v).frames = .java g0 :: r := hr
  have q2 : ∀ (U : State) (F G : List Frame), ((U.setFrames F).setVm v).setFrames G = (U.setVm v).setFrames G := fun U F G => by
    rw [show (U.setFrames F).setVm v = (U.setVm v).setFrames F from rfl, State.setFrames_setFrames]
  rw [State.setTop_of_frames _ q1, hr, List.tail_cons, State.pushFrame, q2, State.setTop_of_frames _ hr, q2]
  exact Steps.refl _
end MY
