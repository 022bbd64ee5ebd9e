/-! The memory of a fixed set of cells as one function: cell, place → int. A cell is an array of ints (kind, length), or an object (class, fields: none = an int, some q = the fixed reference to cell q). -/
abbrev Mem : Type := Nat → Nat → Int32
def set2 (M : Mem) (k j : Nat) (v : Int32) : Mem := fun a => if a = k then upd (M a) j v else M a
theorem set2_same (M : Mem) (k j : Nat) (v : Int32) : set2 M k j v k = upd (M k) j v := if_pos rfl
theorem set2_ne (M : Mem) {k a : Nat} (j : Nat) (v : Int32) (h : a ≠ k) : set2 M k j v a = M a := if_neg h
abbrev wd_D : Type := (Nat × Nat) ⊕ (Nat × List (Option Nat))
def wd_fs (ad : Nat → Nat) (f : Nat → Int32) : Nat → List (Option Nat) → List Value
  | _, [] => []
  | j, o :: r => (match o with | none => Value.int (f j) | some q => Value.ref (ad q)) :: wd_fs ad f (j + 1) r
def wd_c (cA : Nat → ClassId) (ad : Nat → Nat) (f : Nat → Int32) (d : wd_D) : va_E := match d with
  | .inl a => .inl (cA a.1, a.2, .inl f)
  | .inr o => .inr (o.1, wd_fs ad f 0 o.2)
def wd_l (cA : Nat → ClassId) (ad : Nat → Nat) (M : Mem) : Nat → List wd_D → va_W
  | _, [] => []
  | k, d :: r => (ad k, wd_c cA ad (M k) d) :: wd_l cA ad M (k + 1) r
theorem wd_fs_len (ad : Nat → Nat) (f : Nat → Int32) : ∀ (fs : List (Option Nat)) (j : Nat), (wd_fs ad f j fs).length = fs.length
  | [], _ => rfl
  | o :: r, j => by simp [wd_fs, wd_fs_len ad f r (j + 1)]
theorem wd_fs_i (ad : Nat → Nat) (f : Nat → Int32) : ∀ (fs : List (Option Nat)) (j k : Nat), fs[k]? = some none → (wd_fs ad f j fs)[k]? = some (.int (f (j + k)))
  | [], _, _, h => by simp at h
  | o :: r, j, 0, h => by
    simp only [List.getElem?_cons_zero, Option.some.injEq] at h
    subst h
    simp [wd_fs]
  | o :: r, j, k + 1, h => by
    simp only [List.getElem?_cons_succ] at h
    have q := wd_fs_i ad f r (j + 1) k h
    simp only [wd_fs, List.getElem?_cons_succ]
    rw [q, show j + 1 + k = j + (k + 1) by omega]
theorem wd_fs_r (ad : Nat → Nat) (f : Nat → Int32) {q : Nat} : ∀ (fs : List (Option Nat)) (j k : Nat), fs[k]? = some (some q) → (wd_fs ad f j fs)[k]? = some (.ref (ad q))
  | [], _, _, h => by simp at h
  | o :: r, j, 0, h => by
    simp only [List.getElem?_cons_zero, Option.some.injEq] at h
    subst h
    simp [wd_fs]
  | o :: r, j, k + 1, h => by
    simp only [List.getElem?_cons_succ] at h
    simp only [wd_fs, List.getElem?_cons_succ]
    exact wd_fs_r ad f r (j + 1) k h
theorem wd_fs_keep (ad : Nat → Nat) {f g : Nat → Int32} : ∀ (fs : List (Option Nat)) (j : Nat), (∀ i, j ≤ i → f i = g i) → wd_fs ad f j fs = wd_fs ad g j fs
  | [], _, _ => rfl
  | o :: r, j, h => by
    simp only [wd_fs]
    rw [wd_fs_keep ad r (j + 1) (fun i hi => h i (by omega))]
    cases o with
    | none => simp only []; rw [h j (Nat.le_refl _)]
    | some q => rfl
theorem wd_fs_set (ad : Nat → Nat) (f : Nat → Int32) (v : Int32) : ∀ (fs : List (Option Nat)) (j k : Nat), fs[k]? = some none → (wd_fs ad f j fs).set k (.int v) = wd_fs ad (upd f (j + k) v) j fs
  | [], _, _, h => by simp at h
  | o :: r, j, 0, h => by
    simp only [List.getElem?_cons_zero, Option.some.injEq] at h
    subst h
    simp only [wd_fs, List.set_cons_zero, Nat.add_zero]
    rw [wd_fs_keep ad (f := f) (g := upd f j v) r (j + 1) (fun i hi => by simp [upd, show i ≠ j by omega])]
    simp [upd]
  | o :: r, j, k + 1, h => by
    simp only [List.getElem?_cons_succ] at h
    have q := wd_fs_set ad f v r (j + 1) k h
    simp only [wd_fs, List.set_cons_succ]
    rw [q, show j + 1 + k = j + (k + 1) by omega]
    cases o with
    | none => simp [upd, show j ≠ j + (k + 1) by omega]
    | some q => rfl
theorem wd_len (cA : Nat → ClassId) (ad : Nat → Nat) (M : Mem) : ∀ (ds : List wd_D) (k : Nat), (wd_l cA ad M k ds).length = ds.length
  | [], _ => rfl
  | d :: r, k => by simp [wd_l, wd_len cA ad M r (k + 1)]
theorem wd_get (cA : Nat → ClassId) (ad : Nat → Nat) (M : Mem) {d : wd_D} : ∀ (ds : List wd_D) (k0 k : Nat), ds[k]? = some d → (wd_l cA ad M k0 ds)[k]? = some (ad (k0 + k), wd_c cA ad (M (k0 + k)) d)
  | [], _, _, h => by simp at h
  | d0 :: r, k0, 0, h => by
    simp only [List.getElem?_cons_zero, Option.some.injEq] at h
    subst h
    simp [wd_l]
  | d0 :: r, k0, k + 1, h => by
    simp only [List.getElem?_cons_succ] at h
    simp only [wd_l, List.getElem?_cons_succ]
    rw [wd_get cA ad M r (k0 + 1) k h, show k0 + 1 + k = k0 + (k + 1) by omega]
theorem wd_keep (cA : Nat → ClassId) (ad : Nat → Nat) {M M' : Mem} : ∀ (ds : List wd_D) (k0 : Nat), (∀ i, k0 ≤ i → M' i = M i) → wd_l cA ad M k0 ds = wd_l cA ad M' k0 ds
  | [], _, _ => rfl
  | d :: r, k0, h => by
    simp only [wd_l]
    rw [wd_keep cA ad r (k0 + 1) (fun i hi => h i (by omega)), h k0 (Nat.le_refl _)]
theorem wd_set (cA : Nat → ClassId) (ad : Nat → Nat) {M M' : Mem} {d : wd_D} {e : va_E} : ∀ (ds : List wd_D) (k0 k : Nat), ds[k]? = some d → e = wd_c cA ad (M' (k0 + k)) d → (∀ i, i ≠ k0 + k → M' i = M i) → (wd_l cA ad M k0 ds).set k (ad (k0 + k), e) = wd_l cA ad M' k0 ds
  | [], _, _, h, _, _ => by simp at h
  | d0 :: r, k0, 0, h, he, hk => by
    simp only [List.getElem?_cons_zero, Option.some.injEq] at h
    subst h
    simp only [wd_l, List.set_cons_zero, Nat.add_zero] at he ⊢
    rw [he, wd_keep cA ad r (k0 + 1) (fun i hi => hk i (by omega))]
  | d0 :: r, k0, k + 1, h, he, hk => by
    simp only [List.getElem?_cons_succ] at h
    simp only [wd_l, List.set_cons_succ]
    rw [show k0 + (k + 1) = k0 + 1 + k by omega] at he hk ⊢
    rw [wd_set cA ad r (k0 + 1) k h he hk, hk k0 (by omega)]
/-- which cells the system's methods write -/
def wd_A (ad : Nat → Nat) (N : Nat) : Nat → Prop := fun q => ∃ k, k < N ∧ q = ad k
def wd_inj (ad : Nat → Nat) (N : Nat) : Prop := ∀ i j, i < N → j < N → ad i = ad j → i = j
theorem wd_at {cA : Nat → ClassId} {ad : Nat → Nat} {M : Mem} {ds : List wd_D} {k : Nat} {q : Nat × va_E} (h : (wd_l cA ad M 0 ds)[k]? = some q) : k < ds.length ∧ q.1 = ad k := by
  have hl := (List.getElem?_eq_some_iff.mp h).1
  rw [wd_len] at hl
  have h2 := wd_get cA ad M ds 0 k (List.getElem?_eq_getElem hl)
  rw [h] at h2
  exact ⟨hl, by rw [Option.some.inj h2]; simp⟩
theorem wd_DA {cA : Nat → ClassId} {ad : Nat → Nat} {ds : List wd_D} (M : Mem) (hj : wd_inj ad ds.length) : va_D (wd_A ad ds.length) (wd_l cA ad M 0 ds) := by
  refine ⟨fun i j p q hi hj2 hpq => ?_, fun k q hk => ?_⟩
  · have a := wd_at hi
    have b := wd_at hj2
    exact hj i j a.1 b.1 (by rw [← a.2, ← b.2, hpq])
  · have a := wd_at hk
    exact ⟨k, a.1, a.2⟩
abbrev wd_t (cA : Nat → ClassId) : List (ClassId × FieldType) := [(cA 0, .int), (cA 1, .char), (cA 2, .boolean)]
/-- the system's cells hold M -/
abbrev wd_P (D : va_G) (cA : Nat → ClassId) (ad : Nat → Nat) (ds : List wd_D) (M : Mem) (H : Heap) : Prop := va_P D vwCl (wd_l cA ad M 0 ds) H
abbrev wd_K (D : va_G) (cA : Nat → ClassId) (s : State) : Prop := va_K D vwCl (wd_t cA) s
/-- what a walk of a method stands on -/
def wd_X (p : Program) (s : State) (m : MethodId) (args : Array Value) (meth : Method) (c : Code) (cc : ByteArray) (nL : Nat) (Ts : List Cond) (own : String) (rt : Option FieldType) (D : va_G) (cA : Nat → ClassId) (ad : Nat → Nat) (N : Nat) : Prop :=
  CallFix p m c cc nL s args Ts own ∧ wd_K D cA s ∧ meth.locks = false ∧ meth.sig.returnType = rt ∧ wd_inj ad N
def wm_Pc (D : va_G) (cA : Nat → ClassId) (ad : Nat → Nat) (ds : List wd_D) (M : Mem) (av : List Value) : Array Value → State → Prop := va_Pc av (fun U => wd_P D cA ad ds M U.heap ∧ wd_K D cA U)
def wm_B (D : va_G) (cA : Nat → ClassId) (ad : Nat → Nat) (ds : List wd_D) : Mem → State → Prop := fun u t => wd_P D cA ad ds u t.heap ∧ wd_K D cA t
def wm_Qi (D : va_G) (cA : Nat → ClassId) (ad : Nat → Nat) (ds : List wd_D) (r : Int32) (M' : Mem) : Array Value → State → Outcome → State → Prop := va_Qi (fun (x : Int32) (u : Mem) => x = r ∧ u = M') (wm_B D cA ad ds) (wd_A ad ds.length)
def wm_Qv (D : va_G) (cA : Nat → ClassId) (ad : Nat → Nat) (ds : List wd_D) (M' : Mem) : Array Value → State → Outcome → State → Prop := va_Qv (fun u : Mem => u = M') (wm_B D cA ad ds) (wd_A ad ds.length)
def wm_Qr (D : va_G) (cA : Nat → ClassId) (ad : Nat → Nat) (ds : List wd_D) (k : Nat) (M' : Mem) : Array Value → State → Outcome → State → Prop := va_Qr (fun u : Mem => u = M') (fun u a t => a = ad k ∧ wm_B D cA ad ds u t) (wd_A ad ds.length)
/-- contracts: an int, nothing, a fixed cell comes back; the memory was M and is M' -/
def wm_i (l : Launch) (y : MethodName) (ws : List Cond) (rm : Room) (D : va_G) (cA : Nat → ClassId) (ad : Nat → Nat) (ds : List wd_D) (M : Mem) (av : List Value) (r : Int32) (M' : Mem) : Prop := Met l y ws rm (wm_Pc D cA ad ds M av) (wm_Qi D cA ad ds r M') 0 0 (wd_A ad ds.length)
def wm_v (l : Launch) (y : MethodName) (ws : List Cond) (rm : Room) (D : va_G) (cA : Nat → ClassId) (ad : Nat → Nat) (ds : List wd_D) (M : Mem) (av : List Value) (M' : Mem) : Prop := Met l y ws rm (wm_Pc D cA ad ds M av) (wm_Qv D cA ad ds M') 0 0 (wd_A ad ds.length)
def wm_r (l : Launch) (y : MethodName) (ws : List Cond) (rm : Room) (D : va_G) (cA : Nat → ClassId) (ad : Nat → Nat) (ds : List wd_D) (M : Mem) (av : List Value) (k : Nat) (M' : Mem) : Prop := Met l y ws rm (wm_Pc D cA ad ds M av) (wm_Qr D cA ad ds k M') 0 0 (wd_A ad ds.length)
section WDA
variable {p : Program} {l : Launch} {e : Env} {R : Room} {s : State} {m : MethodId} {args : Array Value} {below : List Frame} {meth : Method} {c : Code} {H : Heap} {locs : List Loc} {cells slots : Nat} {Q : State → Prop}
variable {cc : ByteArray} {nL : Nat} {pc : Nat} {ls : Array Slot} {rest : List Value} {D : va_G} {cA : Nat → ClassId} {ad : Nat → Nat} {ds : List wd_D} {M : Mem} {H0 : Heap} {Ts : List Cond} {own : String} {rt : Option FieldType} {A : Nat → Prop}
theorem wd_wr {k j : Nat} {v : Int32} {d : wd_D} {e : va_E} {H1 : Heap} (hd : ds[k]? = some d) (he : e = wd_c cA ad (upd (M k) j v) d) (h : va_P D vwCl ((wd_l cA ad M 0 ds).set k (ad k, e)) H1) : wd_P D cA ad ds (set2 M k j v) H1 := by
  have q := wd_set cA ad (M := M) (M' := set2 M k j v) ds 0 k hd (e := e) (by rw [he, Nat.zero_add, set2_same]) (fun i hi => set2_ne M j v (by omega))
  rw [Nat.zero_add] at q
  rw [q] at h
  exact h
theorem wd_cell {k : Nat} {d : wd_D} (hd : ds[k]? = some d) : (wd_l cA ad M 0 ds)[k]? = some (ad k, wd_c cA ad (M k) d) := by
  have q := wd_get cA ad M ds 0 k hd
  rwa [Nat.zero_add] at q
theorem wd_geti (X : wd_X p s m args meth c cc nL Ts own rt D cA ad ds.length) (hP : wd_P D cA ad ds M H) {C : String} {T : u_T} {N ci index : Nat} {fs : List (Option Nat)} (k : Nat) (hd : ds[k]? = some (.inr (ci, fs))) (hc : vwCl[ci]? = some (C, T, N)) (hin : ∀ w ∈ u_ws C T N, w ∈ Ts) (j : Nat) (hj : fs[j]? = some none) (hN : j < N) (hlink : Cond.fieldLink own index (T j).1 (T j).2.1 (T j).2.2.1 ∈ Ts) (hdg : decode cc pc = .ok (.getfield index, 3))
    (kk : W p l e R s m args below meth c H locs cells slots Q (F0 m (pc + 3) ls (.int (M k j) :: rest))) : W p l e R s m args below meth c H locs cells slots Q (F0 m pc ls (.ref (ad k) :: rest)) := by
  obtain ⟨⟨hx, hb, -, hown, hts⟩, hK, -, -, -⟩ := X
  refine va_get (v := .int (M k j)) hx hb hts hin hown hK hP k (wd_cell hd) hc j hN (hts _ hlink) (fun _ h => h) ?_ hdg kk
  have q := wd_fs_i ad (M k) fs 0 j hj
  rwa [Nat.zero_add] at q
theorem wd_getr (X : wd_X p s m args meth c cc nL Ts own rt D cA ad ds.length) (hP : wd_P D cA ad ds M H) {C : String} {T : u_T} {N ci index q : Nat} {fs : List (Option Nat)} (k : Nat) (hd : ds[k]? = some (.inr (ci, fs))) (hc : vwCl[ci]? = some (C, T, N)) (hin : ∀ w ∈ u_ws C T N, w ∈ Ts) (j : Nat) (hj : fs[j]? = some (some q)) (hN : j < N) (hlink : Cond.fieldLink own index (T j).1 (T j).2.1 (T j).2.2.1 ∈ Ts) (hdg : decode cc pc = .ok (.getfield index, 3))
    (kk : W p l e R s m args below meth c H locs cells slots Q (F0 m (pc + 3) ls (.ref (ad q) :: rest))) : W p l e R s m args below meth c H locs cells slots Q (F0 m pc ls (.ref (ad k) :: rest)) := by
  obtain ⟨⟨hx, hb, -, hown, hts⟩, hK, -, -, -⟩ := X
  exact va_get (v := .ref (ad q)) hx hb hts hin hown hK hP k (wd_cell hd) hc j hN (hts _ hlink) (fun _ h => h) (wd_fs_r ad (M k) fs 0 j hj) hdg kk
theorem wd_puti (X : wd_X p s m args meth c cc nL Ts own rt D cA ad ds.length) (hP : wd_P D cA ad ds M H) (hS : va_S (wd_A ad ds.length) H0 H locs) {C : String} {T : u_T} {N ci index : Nat} {fs : List (Option Nat)} {v : Int32} (k : Nat) (hd : ds[k]? = some (.inr (ci, fs))) (hc : vwCl[ci]? = some (C, T, N)) (hin : ∀ w ∈ u_ws C T N, w ∈ Ts) {ty0 : Nat → FieldType} (hty : ∀ k, k < N → parseFieldDescriptor (T k).2.2.1 = some (ty0 k)) (hnm : ∀ a, a < N → ∀ b, b < N → a ≠ b → (T a).2.1 ≠ (T b).2.1) (j : Nat) (hj : fs[j]? = some none) (hN : j < N) (hfin : (T j).2.2.2 = false) (ht : parseFieldDescriptor (T j).2.2.1 = some .int) (hlink : Cond.fieldLink own index (T j).1 (T j).2.1 (T j).2.2.1 ∈ Ts) (hdg : decode cc pc = .ok (.putfield index, 3))
    (kk : ∀ (H1 : Heap) (locs1 : List Loc), wd_P D cA ad ds (set2 M k j v) H1 → va_S (wd_A ad ds.length) H0 H1 locs1 → W p l e R s m args below meth c H1 locs1 cells slots Q (F0 m (pc + 3) ls rest)) : W p l e R s m args below meth c H locs cells slots Q (F0 m pc ls (.int v :: .ref (ad k) :: rest)) := by
  obtain ⟨⟨hx, hb, -, hown, hts⟩, hK, -, -, hj2⟩ := X
  have hl : j < (wd_fs ad (M k) 0 fs).length := by rw [wd_fs_len]; exact (List.getElem?_eq_some_iff.mp hj).1
  refine va_put (v := .int v) (ty := .int) hx hb hts hin ty0 hty hnm hown hK hP (wd_DA M hj2) hS k (wd_cell hd) hc j hN (hts _ hlink) (fun _ h => h) hfin ht rfl rfl hl hdg (fun H1 locs1 hP1 _ hS1 => kk H1 locs1 (wd_wr (j := j) (v := v) hd ?_ hP1) hS1)
  have q := wd_fs_set ad (M k) v fs 0 j hj
  rw [Nat.zero_add] at q
  simp only [wd_c]
  rw [q]
theorem wd_ild (X : wd_X p s m args meth c cc nL Ts own rt D cA ad ds.length) (hP : wd_P D cA ad ds M H) {n : Nat} {i : Int32} (k : Nat) (hd : ds[k]? = some (.inl (0, n))) (hin : vp_in i n) (hdg : decode cc pc = .ok (.iaload, 1))
    (kk : W p l e R s m args below meth c H locs cells slots Q (F0 m (pc + 1) ls (.int (M k i.toNatClampNeg) :: rest))) : W p l e R s m args below meth c H locs cells slots Q (F0 m pc ls (.int i :: .ref (ad k) :: rest)) := by
  obtain ⟨⟨hx, hb, -, -, -⟩, hK, -, -, -⟩ := X
  exact va_iald hx hb hK hP k 0 (wd_cell hd) rfl hin hdg kk
theorem wd_cld (X : wd_X p s m args meth c cc nL Ts own rt D cA ad ds.length) (hP : wd_P D cA ad ds M H) {n : Nat} {i : Int32} (k : Nat) (hd : ds[k]? = some (.inl (1, n))) (hin : vp_in i n) (hdg : decode cc pc = .ok (.caload, 1))
    (kk : W p l e R s m args below meth c H locs cells slots Q (F0 m (pc + 1) ls (.int (M k i.toNatClampNeg) :: rest))) : W p l e R s m args below meth c H locs cells slots Q (F0 m pc ls (.int i :: .ref (ad k) :: rest)) := by
  obtain ⟨⟨hx, hb, -, -, -⟩, hK, -, -, -⟩ := X
  exact va_cald hx hb hK hP k 1 (wd_cell hd) rfl hin hdg kk
theorem wd_zld (X : wd_X p s m args meth c cc nL Ts own rt D cA ad ds.length) (hP : wd_P D cA ad ds M H) {n : Nat} {i : Int32} (k : Nat) (hd : ds[k]? = some (.inl (2, n))) (hin : vp_in i n) (hdg : decode cc pc = .ok (.baload, 1))
    (kk : W p l e R s m args below meth c H locs cells slots Q (F0 m (pc + 1) ls (.int (M k i.toNatClampNeg) :: rest))) : W p l e R s m args below meth c H locs cells slots Q (F0 m pc ls (.int i :: .ref (ad k) :: rest)) := by
  obtain ⟨⟨hx, hb, -, -, -⟩, hK, -, -, -⟩ := X
  exact va_zald hx hb hK hP k 2 (wd_cell hd) rfl hin hdg kk
theorem wd_ist (X : wd_X p s m args meth c cc nL Ts own rt D cA ad ds.length) (hP : wd_P D cA ad ds M H) (hS : va_S (wd_A ad ds.length) H0 H locs) {n : Nat} {i v : Int32} (k : Nat) (hd : ds[k]? = some (.inl (0, n))) (hin : vp_in i n) (hdg : decode cc pc = .ok (.iastore, 1))
    (kk : ∀ (H1 : Heap) (locs1 : List Loc), wd_P D cA ad ds (set2 M k i.toNatClampNeg v) H1 → va_S (wd_A ad ds.length) H0 H1 locs1 → W p l e R s m args below meth c H1 locs1 cells slots Q (F0 m (pc + 1) ls rest)) : W p l e R s m args below meth c H locs cells slots Q (F0 m pc ls (.int v :: .int i :: .ref (ad k) :: rest)) := by
  obtain ⟨⟨hx, hb, -, -, -⟩, hK, -, -, hj2⟩ := X
  exact va_iast hx hb hK hP (wd_DA M hj2) hS k 0 (wd_cell hd) rfl hin hdg (fun H1 locs1 hP1 _ hS1 => kk H1 locs1 (wd_wr (j := i.toNatClampNeg) (v := v) hd rfl hP1) hS1)
theorem wd_cst (X : wd_X p s m args meth c cc nL Ts own rt D cA ad ds.length) (hP : wd_P D cA ad ds M H) (hS : va_S (wd_A ad ds.length) H0 H locs) {n : Nat} {i v : Int32} (k : Nat) (hd : ds[k]? = some (.inl (1, n))) (hin : vp_in i n) (hdg : decode cc pc = .ok (.castore, 1))
    (kk : ∀ (H1 : Heap) (locs1 : List Loc), wd_P D cA ad ds (set2 M k i.toNatClampNeg (vp_nar .char v)) H1 → va_S (wd_A ad ds.length) H0 H1 locs1 → W p l e R s m args below meth c H1 locs1 cells slots Q (F0 m (pc + 1) ls rest)) : W p l e R s m args below meth c H locs cells slots Q (F0 m pc ls (.int v :: .int i :: .ref (ad k) :: rest)) := by
  obtain ⟨⟨hx, hb, -, -, -⟩, hK, -, -, hj2⟩ := X
  exact va_cast hx hb hK hP (wd_DA M hj2) hS k 1 (wd_cell hd) rfl hin hdg (fun H1 locs1 hP1 _ hS1 => kk H1 locs1 (wd_wr (j := i.toNatClampNeg) (v := vp_nar .char v) hd rfl hP1) hS1)
theorem wd_zst (X : wd_X p s m args meth c cc nL Ts own rt D cA ad ds.length) (hP : wd_P D cA ad ds M H) (hS : va_S (wd_A ad ds.length) H0 H locs) {n : Nat} {i v : Int32} (k : Nat) (hd : ds[k]? = some (.inl (2, n))) (hin : vp_in i n) (hdg : decode cc pc = .ok (.bastore, 1))
    (kk : ∀ (H1 : Heap) (locs1 : List Loc), wd_P D cA ad ds (set2 M k i.toNatClampNeg (vp_nar .boolean v)) H1 → va_S (wd_A ad ds.length) H0 H1 locs1 → W p l e R s m args below meth c H1 locs1 cells slots Q (F0 m (pc + 1) ls rest)) : W p l e R s m args below meth c H locs cells slots Q (F0 m pc ls (.int v :: .int i :: .ref (ad k) :: rest)) := by
  obtain ⟨⟨hx, hb, -, -, -⟩, hK, -, -, hj2⟩ := X
  exact va_zast hx hb hK hP (wd_DA M hj2) hS k 2 (wd_cell hd) rfl hin hdg (fun H1 locs1 hP1 _ hS1 => kk H1 locs1 (wd_wr (j := i.toNatClampNeg) (v := vp_nar .boolean v) hd rfl hP1) hS1)
/-- the ends of a walk -/
theorem wd_reti (X : wd_X p s m args meth c cc nL Ts own rt D cA ad ds.length) (hP : wd_P D cA ad ds M H) (hS : va_S (wd_A ad ds.length) s.heap H locs) {ty : FieldType} {v : Int32} (hr : rt = some ty) (hn : narrow ty (.int v) = .int v) (hdg : decode cc pc = .ok (.ireturn, 1)) :
    W p l e R s m args below meth c H locs cells slots (MQ below (wm_Qi D cA ad ds v M) args s cells slots (wd_A ad ds.length)) (F0 m pc ls [.int v]) := by
  obtain ⟨⟨hx, hb, -, -, -⟩, hK, hlk, hrt, -⟩ := X
  exact W.zret hx hb (hrt.trans hr) hn (fun t ht hW => ⟨⟨v, M, rfl, ⟨rfl, rfl⟩, by show wd_P D cA ad ds M t.heap; rw [ht]; exact hP, va_K.moved hW.alike hK⟩, hS.F ht⟩) hS.2.2 hdg hlk
theorem wd_retv (X : wd_X p s m args meth c cc nL Ts own none D cA ad ds.length) (hP : wd_P D cA ad ds M H) (hS : va_S (wd_A ad ds.length) s.heap H locs) (hdg : decode cc pc = .ok (.return_, 1)) :
    W p l e R s m args below meth c H locs cells slots (MQ below (wm_Qv D cA ad ds M) args s cells slots (wd_A ad ds.length)) (F0 m pc ls []) := by
  obtain ⟨⟨hx, hb, -, -, -⟩, hK, hlk, hrt, -⟩ := X
  exact W.vret hx hb hrt (fun t ht hW => ⟨⟨M, rfl, rfl, by show wd_P D cA ad ds M t.heap; rw [ht]; exact hP, va_K.moved hW.alike hK⟩, hS.F ht⟩) hS.2.2 hdg hlk
theorem wd_blind (M : Mem) (av : List Value) : FrameBlind (wm_Pc D cA ad ds M av) := fun a U g mk q => by
  obtain ⟨q0, qP, qK⟩ := q
  exact ⟨q0, qP, va_K.moved (u := U) (U := U.calling g mk a) (Vm.Alike.refl U.vm) qK⟩
variable {y : MethodName} {bytes : ByteArray} {maxL n index : Nat} {ret : Option FieldType} {ws : List Cond} {rm : Room} {C : String} {As st0 : List Value} {M' : Mem}
theorem wd_preV (X : wd_X p s m args meth c cc nL Ts own rt D cA ad ds.length) (hP : wd_P D cA ad ds M H) {T : u_T} {N ci : Nat} {fs : List (Option Nat)} {o : Nat} (hd : ds[o]? = some (.inr (ci, fs))) (hc : vwCl[ci]? = some (C, T, N)) : PreV s H C (ad o) (wm_Pc D cA ad ds M (.ref (ad o) :: As)) As := by
  obtain ⟨⟨hx, hb, -, -, -⟩, hK, -, -, -⟩ := X
  refine ⟨wd_blind M _, va_recv (q := (C, T, N)) hK hP hc (wd_cell hd), fun U hU hW => ⟨rfl, ?_, va_K.moved hW.alike hK⟩⟩
  show wd_P D cA ad ds M U.heap
  rw [hU]; exact hP
theorem wd_calli (X : wd_X p s m args meth c cc nL Ts own rt D cA ad ds.length) (hP : wd_P D cA ad ds M H) (hS : va_S (wd_A ad ds.length) H0 H locs) (As : List Value) (rest : List Value) {r : Int32} {o : Nat} (hM : wm_i l y ws rm D cA ad ds M (.ref (ad o) :: As) r M') (cw : CallW R s args own C index y bytes maxL ret ws rm 0 0 n) {T : u_T} {N ci : Nat} {fs : List (Option Nat)} (hd : ds[o]? = some (.inr (ci, fs))) (hc : vwCl[ci]? = some (C, T, N)) (hn : As.length = n) (hsz : ls.size = nL) (hst : st0 = As.reverse ++ .ref (ad o) :: rest) (hW : (rest.map fun v => v.category).sum ≤ 8) (hdg : decode cc pc = .ok (.invokevirtual index, 3))
    (kk : ∀ (H1 : Heap) (locs1 : List Loc), wd_P D cA ad ds M' H1 → va_S (wd_A ad ds.length) H0 H1 locs1 → W p l e R s m args below meth c H1 locs1 0 0 Q (F0 m (pc + 3) ls (.int r :: rest))) : W p l e R s m args below meth c H locs 0 0 Q (F0 m pc ls st0) := by
  refine va_calli (va_runV (As := As) (rest := rest) X.1 hM cw (wd_preV X hP hd hc) rfl hn hsz hst (lv_room hW) hdg ⟨Nat.zero_le _, Nat.zero_le _⟩) hS (fun q _ h => h) (fun q h => h) (fun r1 u t H1 locs1 ht hvm hp hB _ _ hS1 => ?_)
  obtain ⟨rfl, rfl⟩ := hp
  refine kk H1 locs1 ?_ hS1
  rw [← ht]; exact hB.1
theorem wd_callv (X : wd_X p s m args meth c cc nL Ts own rt D cA ad ds.length) (hP : wd_P D cA ad ds M H) (hS : va_S (wd_A ad ds.length) H0 H locs) (As : List Value) (rest : List Value) {o : Nat} (hM : wm_v l y ws rm D cA ad ds M (.ref (ad o) :: As) M') (cw : CallW R s args own C index y bytes maxL ret ws rm 0 0 n) {T : u_T} {N ci : Nat} {fs : List (Option Nat)} (hd : ds[o]? = some (.inr (ci, fs))) (hc : vwCl[ci]? = some (C, T, N)) (hn : As.length = n) (hsz : ls.size = nL) (hst : st0 = As.reverse ++ .ref (ad o) :: rest) (hW : (rest.map fun v => v.category).sum ≤ 8) (hdg : decode cc pc = .ok (.invokevirtual index, 3))
    (kk : ∀ (H1 : Heap) (locs1 : List Loc), wd_P D cA ad ds M' H1 → va_S (wd_A ad ds.length) H0 H1 locs1 → W p l e R s m args below meth c H1 locs1 0 0 Q (F0 m (pc + 3) ls rest)) : W p l e R s m args below meth c H locs 0 0 Q (F0 m pc ls st0) := by
  refine va_callv (va_runV (As := As) (rest := rest) X.1 hM cw (wd_preV X hP hd hc) rfl hn hsz hst (lv_room hW) hdg ⟨Nat.zero_le _, Nat.zero_le _⟩) hS (fun q _ h => h) (fun q h => h) (fun u t H1 locs1 ht hvm hp hB _ _ hS1 => ?_)
  obtain rfl := hp
  refine kk H1 locs1 ?_ hS1
  rw [← ht]; exact hB.1
theorem wd_callr (X : wd_X p s m args meth c cc nL Ts own rt D cA ad ds.length) (hP : wd_P D cA ad ds M H) (hS : va_S (wd_A ad ds.length) H0 H locs) (As : List Value) (rest : List Value) {o k : Nat} (hM : wm_r l y ws rm D cA ad ds M (.ref (ad o) :: As) k M') (cw : CallW R s args own C index y bytes maxL ret ws rm 0 0 n) {T : u_T} {N ci : Nat} {fs : List (Option Nat)} (hd : ds[o]? = some (.inr (ci, fs))) (hc : vwCl[ci]? = some (C, T, N)) (hn : As.length = n) (hsz : ls.size = nL) (hst : st0 = As.reverse ++ .ref (ad o) :: rest) (hW : (rest.map fun v => v.category).sum ≤ 8) (hdg : decode cc pc = .ok (.invokevirtual index, 3))
    (kk : ∀ (H1 : Heap) (locs1 : List Loc), wd_P D cA ad ds M' H1 → va_S (wd_A ad ds.length) H0 H1 locs1 → W p l e R s m args below meth c H1 locs1 0 0 Q (F0 m (pc + 3) ls (.ref (ad k) :: rest))) : W p l e R s m args below meth c H locs 0 0 Q (F0 m pc ls st0) := by
  refine va_callr (va_runV (As := As) (rest := rest) X.1 hM cw (wd_preV X hP hd hc) rfl hn hsz hst (lv_room hW) hdg ⟨Nat.zero_le _, Nat.zero_le _⟩) hS (fun q _ h => h) (fun q h => h) (fun u ra t H1 locs1 ht hvm hp hB _ _ hS1 => ?_)
  obtain rfl := hp
  obtain ⟨rfl, hB⟩ := hB
  refine kk H1 locs1 ?_ hS1
  rw [← ht]; exact hB.1
end WDA
/-- partial values: what a program that comes to an end has passed -/
def gd {α : Type} (c : Prop) [Decidable c] (k : Option α) : Option α := if c then k else none
theorem gd_c {α : Type} {c : Prop} [Decidable c] {k : Option α} {r : α} (h : gd c k = some r) : c ∧ k = some r := by
  unfold gd at h
  by_cases q : c
  · rw [if_pos q] at h; exact ⟨q, h⟩
  · rw [if_neg q] at h; cases h
def bd {α β : Type} (a : Option α) (k : α → Option β) : Option β := match a with | none => none | some x => k x
theorem bd_c {α β : Type} {a : Option α} {k : α → Option β} {r : β} (h : bd a k = some r) : ∃ x, a = some x ∧ k x = some r := by
  cases a with
  | none => cases h
  | some x => exact ⟨x, rfl, h⟩
def wr {α : Type} (M : Mem) (k j : Nat) (v : Int32) (K : Mem → α) : α := K (set2 M k j v)
theorem wr_c {α : Type} {M : Mem} {k j : Nat} {v : Int32} {K : Mem → Option α} {r : α} (h : wr M k j v K = some r) : ∃ M1, M1 = set2 M k j v ∧ K M1 = some r := ⟨_, rfl, h⟩
theorem if_t {α : Type} {c : Prop} [Decidable c] {a b : Option α} {r : α} (h : c) (hF : (if c then a else b) = some r) : a = some r := by rwa [if_pos h] at hF
theorem if_e {α : Type} {c : Prop} [Decidable c] {a b : Option α} {r : α} (h : ¬ c) (hF : (if c then a else b) = some r) : b = some r := by rwa [if_neg h] at hF
