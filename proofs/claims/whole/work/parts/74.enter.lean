/-! Entering and leaving, as a recursion over the chart; the class's walk does it. -/
abbrev Sg : Type := (Nat → Int32) × List Int32
def nwT (c : Ch) (t : Option Nat) (now : Nat → Int32) (s : Nat) : Nat → Int32 := match t.bind (twd c s) with | some k => upd now s (nI k) | none => now
def enA (c : Ch) (em : Nat → List Int32) (t : Option Nat) : Nat → Nat → Sg → Sg
  | 0, _, g => g
  | f + 1, s, g =>
    if cW c s = true then (kids c s).foldl (fun g k => enA c em t f k g) (g.1, g.2 ++ em s)
    else if nwT c t g.1 s s = -1 then (nwT c t g.1 s, g.2 ++ em s)
    else enA c em t f (nwT c t g.1 s s).toNatClampNeg (nwT c t g.1 s, g.2 ++ em s)
def lvA (c : Ch) (lm : Nat → List Int32) : Nat → Nat → Sg → Sg
  | 0, _, g => g
  | f + 1, s, g =>
    let g1 := if cW c s = true then (kids c s).reverse.foldl (fun g k => lvA c lm f k g) g else if g.1 s = -1 then g else lvA c lm f (g.1 s).toNatClampNeg g
    (if cR c s = true then g1.1 else upd g1.1 s (cf0 c s), g1.2 ++ lm s)
/-- each state's current child: none of a whole state or one without children, else a child -/
def nowOK (c : Ch) (now : Nat → Int32) : Prop := ∀ s, (s < cN c → (now s = -1 ∧ (cW c s = true ∨ kids c s = [])) ∨ (cW c s = false ∧ ∃ k, k ∈ kids c s ∧ now s = nI k)) ∧ (cN c ≤ s → now s = -1)
theorem nowOK.put {c : Ch} {now : Nat → Int32} (h : nowOK c now) {s k : Nat} (hw : cW c s = false) (hk : k ∈ kids c s) : nowOK c (upd now s (nI k)) := by
  intro x
  by_cases e : x = s
  · subst e
    have hm := (kf_mem _ _ _).mp hk
    exact ⟨fun _ => Or.inr ⟨hw, k, hk, pk_us⟩, fun q => by omega⟩
  · rw [show upd now s (nI k) x = now x from pk_un e]
    exact h x
theorem cf0_ok {c : Ch} {s : Nat} : (cf0 c s = -1 ∧ (cW c s = true ∨ kids c s = [])) ∨ (cW c s = false ∧ ∃ k, k ∈ kids c s ∧ cf0 c s = nI k) := by
  unfold cf0 fstI
  cases hw : cW c s
  · cases hk : kids c s with
    | nil => exact Or.inl ⟨rfl, Or.inr rfl⟩
    | cons k l => exact Or.inr ⟨rfl, k, List.mem_cons_self, rfl⟩
  · exact Or.inl ⟨rfl, Or.inl rfl⟩
theorem nowOK.reset {c : Ch} {now : Nat → Int32} (h : nowOK c now) {s : Nat} (hs : s < cN c) : nowOK c (upd now s (cf0 c s)) := by
  intro x
  by_cases e : x = s
  · subst e
    rw [show upd now x (cf0 c x) x = cf0 c x from pk_us]
    exact ⟨fun _ => cf0_ok, fun q => by omega⟩
  · rw [show upd now s (cf0 c s) x = now x from pk_un e]
    exact h x
theorem kid_facts {c : Ch} (h : wf c) {s k : Nat} (hs : s < cN c) (hk : k ∈ kids c s) : 0 < k ∧ k < cN c ∧ cP c k = s ∧ cD c k = cD c s + 1 ∧ s < k := by
  obtain ⟨a, b, d⟩ := (kids_mem h hs).mp hk
  refine ⟨a, b, d, ?_, ?_⟩
  · rw [h.dep a b, d]
  · rw [← d]; exact h.par a b
/-- what stands still while the walk goes on -/
def SC (M : Mem) (c : Ch) (em lm : Nat → List Int32) : Prop := CC M c ∧ MR M 31 181 40 ∧ MR M 12 14 6 ∧ MR M 15 14 6 ∧ MR M 26 20 3 ∧ (∀ s, s < cN c → MKs M 12 6 s (em s)) ∧ (∀ s, s < cN c → MKs M 15 6 s (lm s))
theorem MR.keep {M M' : Mem} {o r w : Nat} (h : MR M o r w) (e : M' o = M o) : MR M' o r w := by unfold MR; rw [e]; exact h
theorem MKs.keep {M M' : Mem} {o w s : Nat} {ms : List Int32} (h : MKs M o w s ms) (e1 : M' (o + 1) = M (o + 1)) (e2 : M' (o + 2) = M (o + 2)) : MKs M' o w s ms := by unfold MKs; rw [e1, e2]; exact h
theorem SC.keep {M M' : Mem} {c : Ch} {em lm : Nat → List Int32} {L : List Nat} (h : SC M c em lm) (ha : agr L M M') (hL : ∀ a, a ∈ L → 31 < a) : SC M' c em lm := by
  have e : ∀ a, a ≤ 31 → M' a = M a := fun a q => ha a (fun z => by have := hL a z; omega)
  obtain ⟨h1, h2, h3, h4, h5, h6, h7⟩ := h
  exact ⟨h1.keep ha (fun a z => by have := hL a z; omega), h2.keep (e _ (by omega)), h3.keep (e _ (by omega)), h4.keep (e _ (by omega)), h5.keep (e _ (by omega)), fun s hs => (h6 s hs).keep (e _ (by omega)) (e _ (by omega)), fun s hs => (h7 s hs).keep (e _ (by omega)) (e _ (by omega))⟩
/-- the walk: currents and the trace's row -/
def WK (M : Mem) (row : Nat) (g : Sg) : Prop := M 34 4 = nI row ∧ row < 181 ∧ (∀ i, i < 14 → M 35 i = g.1 i) ∧ TR M row g.2
def sW (row : Nat) (M M' : Mem) : Prop := agr [32, 33, 35] M M' ∧ (∀ r, r ≠ row → M' 33 r = M 33 r) ∧ ∀ q, (q < row * 40 ∨ row * 40 + 40 ≤ q) → M' 32 q = M 32 q
theorem sW.rf {row : Nat} {M : Mem} : sW row M M := ⟨agr.rf, fun _ _ => rfl, fun _ _ => rfl⟩
theorem sW.tr {row : Nat} {M M1 M2 : Mem} (h : sW row M M1) (g : sW row M1 M2) : sW row M M2 := ⟨h.1.tr g.1, fun r hr => (g.2.1 r hr).trans (h.2.1 r hr), fun q hq => (g.2.2 q hq).trans (h.2.2 q hq)⟩
theorem sT.w {row : Nat} {M M' : Mem} (h : sT row M M') : sW row M M' := ⟨h.1.mono (fun a ha => by simp only [List.mem_cons, List.not_mem_nil, or_false] at ha ⊢; omega), h.2⟩
theorem sW.set {row s : Nat} {M : Mem} {v : Int32} : sW row M (set2 M 35 s v) := ⟨agr.set (by decide), fun r _ => s2_oth _ _ _ _ (by decide), fun q _ => s2_oth _ _ _ _ (by decide)⟩
theorem SC.w {M M' : Mem} {c : Ch} {em lm : Nat → List Int32} {row : Nat} (h : SC M c em lm) (g : sW row M M') : SC M' c em lm := h.keep g.1 (fun a ha => by simp only [List.mem_cons, List.not_mem_nil, or_false] at ha; omega)
theorem WK.set {M : Mem} {row s : Nat} {now : Nat → Int32} {tr : List Int32} {v : Int32} (h : WK M row (now, tr)) : WK (set2 M 35 s v) row (upd now s v, tr) := by
  obtain ⟨h1, h2, h3, h4, h5⟩ := h
  refine ⟨by rw [s2_oth _ _ _ _ (by decide)]; exact h1, h2, fun i hi => ?_, by rw [s2_oth _ _ _ _ (by decide)]; exact h4, fun i a b => by rw [s2_oth _ _ _ _ (by decide)]; exact h5 i a b⟩
  by_cases e : i = s
  · subst e
    rw [s2_hit]; exact (pk_us).symm
  · show set2 M 35 s v 35 i = upd now s v i
    rw [s2_pl _ _ _ e, show upd now s v i = now i from pk_un e]
    exact h3 i hi
theorem WK.row {M M' : Mem} {row : Nat} {now : Nat → Int32} {tr tr' : List Int32} (h : WK M row (now, tr)) (hs : sT row M M') (ht : TR M' row tr') : WK M' row (now, tr') := by
  obtain ⟨h1, h2, h3, h4⟩ := h
  refine ⟨by rw [hs.1 34 (by decide)]; exact h1, h2, fun i hi => by rw [hs.1 35 (by decide)]; exact h3 i hi, ht⟩
theorem f_makeCurrent {M : Mem} {s : Nat} {v : Int32} (hs : s < 14) : F_X6_makeCurrent (nI s) v M = some (set2 M 35 s v) := by
  unfold F_X6_makeCurrent
  rw [if_neg (nI_lt0 (by omega)), if_neg (show ¬ (14 : Int32) ≤ nI s from nI_ge (b := 14) hs (by omega)), gi_ok hs (by decide), nI_clamp (by omega), wr_eq]
theorem f_currentChild {M : Mem} {s : Nat} (hs : s < 14) : F_X6_currentChild (nI s) M = some (M 35 s) := by
  unfold F_X6_currentChild
  rw [if_neg (nI_lt0 (by omega)), if_neg (show ¬ (14 : Int32) ≤ nI s from nI_ge (b := 14) hs (by omega)), gi_ok hs (by decide), nI_clamp (by omega)]
theorem f_enter_m1 {M : Mem} {t d : Int32} (n : Nat) : F_X6_enter (n + 1) (-1) t d M = some M := by
  show B_X6_enter_e _ _ _ _ _ = _
  unfold B_X6_enter_e
  rw [f_isState_m1, bd_some, if_pos rfl]
theorem f_addE {M : Mem} {c : Ch} {em lm : Nat → List Int32} {row s : Nat} {now : Nat → Int32} {tr : List Int32} (hS : SC M c em lm) (hw : WK M row (now, tr)) (hs : s < cN c) : ∃ M', F_X1_addRow 31 12 (M 34 4) (nI s) M = some M' ∧ WK M' row (now, tr ++ em s) ∧ sT row M M' := by
  obtain ⟨M', f1, f2, f3⟩ := f_addRow (o2 := 12) hS.2.1 hS.2.2.1 rfl rfl (by omega) (by omega) (by omega) hw.2.1 (n_lt hS.1.1 hs) hw.2.2.2 (hS.2.2.2.2.2.1 s hs)
  rw [hw.1]
  exact ⟨M', f1, hw.row f3 f2, f3⟩
theorem f_addL {M : Mem} {c : Ch} {em lm : Nat → List Int32} {row s : Nat} {now : Nat → Int32} {tr : List Int32} (hS : SC M c em lm) (hw : WK M row (now, tr)) (hs : s < cN c) : ∃ M', F_X1_addRow 31 15 (M 34 4) (nI s) M = some M' ∧ WK M' row (now, tr ++ lm s) ∧ sT row M M' := by
  obtain ⟨M', f1, f2, f3⟩ := f_addRow (o2 := 15) hS.2.1 hS.2.2.2.1 rfl rfl (by omega) (by omega) (by omega) hw.2.1 (n_lt hS.1.1 hs) hw.2.2.2 (hS.2.2.2.2.2.2 s hs)
  rw [hw.1]
  exact ⟨M', f1, hw.row f3 f2, f3⟩
theorem f_toward {M : Mem} {c : Ch} (h : CC M c) {s : Nat} {t : Option Nat} (hs : s < cN c) (ht : ∀ k, t = some k → k < cN c) : F_X4_childToward (nI s) (oI t) M = some (oI (t.bind (twd c s))) := by
  cases t with
  | none => exact f_childToward_m1 h hs
  | some k => exact f_childToward h hs (ht k rfl)
/-- entering, in the class -/
def EnOK (c : Ch) (em lm : Nat → List Int32) (t : Option Nat) (row f : Nat) : Prop := ∀ (s : Nat) (g : Sg) (M : Mem), s < cN c → 7 ≤ f + cD c s → nowOK c g.1 → WK M row g → SC M c em lm → ∃ M', F_X6_enter (f + 1) (nI s) (oI t) (nI (cD c s)) M = some M' ∧ WK M' row (enA c em t f s g) ∧ nowOK c (enA c em t f s g).1 ∧ sW row M M'
theorem h_enter {c : Ch} {em lm : Nat → List Int32} {t : Option Nat} {row f s : Nat} (hr : EnOK c em lm t row f) (hs : s < cN c) (hf : 6 ≤ f + cD c s) : ∀ (m k n : Nat) (g : Sg) (M : Mem), k + m = cN c → 0 < k → m < n → nowOK c g.1 → WK M row g → SC M c em lm → ∃ M', H_X6_enter_53 (F_X6_enter (f + 1)) n (nI s) (oI t) (nI (cD c s)) (nI k) M = some M' ∧ WK M' row ((kf c s m k).foldl (fun g k => enA c em t f k g) g) ∧ nowOK c ((kf c s m k).foldl (fun g k => enA c em t f k g) g).1 ∧ sW row M M' := by
  intro m
  induction m with
  | zero =>
    intro k n g M hk h0 hn hg hw hS
    cases n with
    | zero => omega
    | succ n =>
      refine ⟨M, ?_, hw, hg, sW.rf⟩
      show B_X6_enter_53 _ _ _ _ _ _ _ = _
      unfold B_X6_enter_53
      have := hS.1.1.n14
      rw [f_made hS.1, bd_some, if_pos (nI_le (by omega) (by omega))]
  | succ m ih =>
    intro k n g M hk h0 hn hg hw hS
    cases n with
    | zero => omega
    | succ n =>
      have h14 := hS.1.1.n14
      have hkn : k < cN c := by omega
      have step : ∀ (M1 : Mem) (g1 : Sg), nowOK c g1.1 → WK M1 row g1 → SC M1 c em lm → ∃ M', B_X6_enter_88 (F_X6_enter (f + 1)) (H_X6_enter_53 (F_X6_enter (f + 1)) n) (nI s) (oI t) (nI (cD c s)) (nI k) M1 = some M' ∧ WK M' row ((kf c s m (k + 1)).foldl (fun g k => enA c em t f k g) g1) ∧ nowOK c ((kf c s m (k + 1)).foldl (fun g k => enA c em t f k g) g1).1 ∧ sW row M1 M' := by
        intro M1 g1 a1 a2 a3
        obtain ⟨M', f1, f2⟩ := ih (k + 1) n g1 M1 (by omega) (by omega) (by omega) a1 a2 a3
        refine ⟨M', ?_, f2⟩
        unfold B_X6_enter_88
        rw [nm_eq, show nI k + 1 = nI (k + 1) from nI_1 k]
        exact f1
      by_cases q : cP c k = s
      · have hd : cD c k = cD c s + 1 := by rw [hS.1.1.dep h0 hkn, q]
        obtain ⟨M1, f1, f2, f3, f4⟩ := hr k g M hkn (by omega) hg hw hS
        obtain ⟨M', g1, g2, g3, g4⟩ := step M1 _ f3 f2 (hS.w f4)
        refine ⟨M', ?_, ?_, ?_, f4.tr g4⟩
        · show B_X6_enter_53 _ _ _ _ _ _ _ = _
          unfold B_X6_enter_53
          rw [f_made hS.1, bd_some, if_neg (nI_ge hkn (by omega)), f_parentOf hS.1 h0 hkn, bd_some, if_pos (by rw [q]), show nI (cD c s) + 1 = nI (cD c k) by rw [hd]; exact nI_1 _, f1, bd_some]
          exact g1
        · simp only [kf]; rw [if_pos q]; exact g2
        · simp only [kf]; rw [if_pos q]; exact g3
      · obtain ⟨M', g1, g2, g3, g4⟩ := step M g hg hw hS
        have hp := hS.1.1.par h0 hkn
        refine ⟨M', ?_, ?_, ?_, g4⟩
        · show B_X6_enter_53 _ _ _ _ _ _ _ = _
          unfold B_X6_enter_53
          rw [f_made hS.1, bd_some, if_neg (nI_ge hkn (by omega)), f_parentOf hS.1 h0 hkn, bd_some, if_neg (fun z => q (nI_inj (by omega) (by omega) z))]
          exact g1
        · simp only [kf]; rw [if_neg q]; exact g2
        · simp only [kf]; rw [if_neg q]; exact g3
theorem f_enter {c : Ch} {em lm : Nat → List Int32} {t : Option Nat} {row : Nat} (hc : wf c) (ht : ∀ k, t = some k → k < cN c) : ∀ f, EnOK c em lm t row f := by
  intro f
  induction f with
  | zero =>
    intro s g M hs hf hg hw hS
    have := hc.dep6 hs
    omega
  | succ f ih =>
    intro s g M hs hf hg hw hS
    obtain ⟨now, tr⟩ := g
    have h14 := hc.n14
    have hd6 := hc.dep6 hs
    obtain ⟨M1, a1, a2, a3⟩ := f_addE hS hw hs
    have hS1 : SC M1 c em lm := hS.w a3.w
    have head : ∀ R, (bd (F_X4_isWhole (nI s) M1) fun r_6 => (if r_6 = (0 : Int32) then bd (F_X4_childToward (nI s) (oI t) M1) fun r_8 => (if r_8 = (-1 : Int32) then B_X6_enter_119 (F_X6_enter (f + 1)) (nI s) (oI t) (nI (cD c s)) M1 else bd (F_X6_makeCurrent (nI s) r_8 M1) fun M_12 => B_X6_enter_119 (F_X6_enter (f + 1)) (nI s) (oI t) (nI (cD c s)) M_12) else nm (nI s + (1 : Int32)) fun x4_14 => H_X6_enter_53 (F_X6_enter (f + 1)) 100 (nI s) (oI t) (nI (cD c s)) x4_14 M1)) = R → F_X6_enter (f + 1 + 1) (nI s) (oI t) (nI (cD c s)) M = R := by
      intro R hR
      show B_X6_enter_e _ _ _ _ _ = _
      unfold B_X6_enter_e
      rw [f_isState hS.1 hs, bd_some, if_neg (by decide), if_pos (show nI (cD c s) ≤ 6 from nI_le (b := 6) hd6 (by omega)), a1, bd_some]
      exact hR
    rw [f_isWhole hS1.1 hs, bd_some] at head
    cases hwh : cW c s
    · rw [hwh, if_pos (by decide), f_toward hS1.1 hs ht, bd_some] at head
      have enq : enA c em t (f + 1) s (now, tr) = if nwT c t now s s = -1 then (nwT c t now s, tr ++ em s) else enA c em t f (nwT c t now s s).toNatClampNeg (nwT c t now s, tr ++ em s) := by
        simp only [enA]; rw [if_neg (by rw [hwh]; decide)]
      have go : ∀ (M2 : Mem) (nw : Nat → Int32), nw = nwT c t now s → nowOK c nw → WK M2 row (nw, tr ++ em s) → SC M2 c em lm → sW row M M2 → ∃ M', B_X6_enter_119 (F_X6_enter (f + 1)) (nI s) (oI t) (nI (cD c s)) M2 = some M' ∧ WK M' row (enA c em t (f + 1) s (now, tr)) ∧ nowOK c (enA c em t (f + 1) s (now, tr)).1 ∧ sW row M M' := by
        intro M2 nw en b1 b2 b3 b4
        rw [enq, ← en]
        unfold B_X6_enter_119
        rw [f_currentChild (by omega), bd_some, b2.2.2.1 s (by omega)]
        show ∃ M', (bd (F_X6_enter (f + 1) (nw s) (oI t) (nI (cD c s) + 1) M2) fun M_5 => some M_5) = some M' ∧ _
        rcases (b1 s).1 hs with ⟨e1, -⟩ | ⟨-, k, hk, e1⟩
        · rw [e1, f_enter_m1, bd_some, if_pos rfl]
          exact ⟨M2, rfl, b2, b1, b4⟩
        · obtain ⟨k0, kn, kp, kd, -⟩ := kid_facts hc hs hk
          rw [e1, if_neg (nI_ne_m1 (by omega)), nI_clamp (by omega), show nI (cD c s) + 1 = nI (cD c k) by rw [kd]; exact nI_1 _]
          obtain ⟨M', f1, f2, f3, f4⟩ := ih k (nw, tr ++ em s) M2 kn (by omega) b1 b2 b3
          rw [f1, bd_some]
          exact ⟨M', rfl, f2, f3, b4.tr f4⟩
      cases htw : t.bind (twd c s) with
      | none =>
        obtain ⟨M', f1, f2⟩ := go M1 now (by unfold nwT; rw [htw]) hg a2 hS1 a3.w
        refine ⟨M', head _ ?_, f2⟩
        rw [htw, if_pos (show oI none = -1 from rfl)]
        exact f1
      | some k =>
        obtain ⟨tk, et, ek⟩ : ∃ tk, t = some tk ∧ twd c s tk = some k := by
          cases t with
          | none => cases htw
          | some tk => exact ⟨tk, rfl, htw⟩
        obtain ⟨k0, kn, kp, -⟩ := twd_some hc tk tk k (Nat.le_refl _) (ht tk et) ek
        have hkid : k ∈ kids c s := (kids_mem hc hs).mpr ⟨k0, kn, kp⟩
        obtain ⟨M', f1, f2⟩ := go (set2 M1 35 s (nI k)) (upd now s (nI k)) (by unfold nwT; rw [htw]) (hg.put hwh hkid) a2.set (hS1.w (row := row) sW.set) (a3.w.tr sW.set)
        refine ⟨M', head _ ?_, f2⟩
        rw [htw, show oI (some k) = nI k from rfl, if_neg (nI_ne_m1 (by omega)), f_makeCurrent (by omega), bd_some]
        exact f1
    · rw [hwh, if_neg (by decide), nm_eq, show nI s + 1 = nI (s + 1) from nI_1 s] at head
      have enq : enA c em t (f + 1) s (now, tr) = (kids c s).foldl (fun g k => enA c em t f k g) (now, tr ++ em s) := by
        simp only [enA]; rw [if_pos hwh]
      rw [enq]
      obtain ⟨M', f1, f2, f3, f4⟩ := h_enter ih hs (by omega) (cN c - (s + 1)) (s + 1) 100 (now, tr ++ em s) M1 (by omega) (by omega) (by omega) hg a2 hS1
      exact ⟨M', head _ f1, f2, f3, a3.w.tr f4⟩
