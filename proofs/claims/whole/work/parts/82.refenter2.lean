/-! The reference's entering: from the stack to the recursion. -/
theorem filt_none {k : Nat} (hk : k < 2 ^ 31) : ∀ (l : List Nat), (∀ x, x ∈ l → x < 2 ^ 31 ∧ x ≠ k) → l.filter (fun j => decide (nI k = nI j)) = []
  | [], _ => rfl
  | a :: l, h => by
    have ha := h a List.mem_cons_self
    rw [List.filter_cons_of_neg (by simp only [decide_eq_true_eq]; exact fun z => ha.2 (nI_inj hk ha.1 z).symm)]
    exact filt_none hk l (fun x hx => h x (List.mem_cons_of_mem _ hx))
theorem filt_one {k : Nat} (hk : k < 2 ^ 31) : ∀ (l : List Nat), l.Pairwise (· < ·) → (∀ x, x ∈ l → x < 2 ^ 31) → k ∈ l → l.filter (fun j => decide (nI k = nI j)) = [k]
  | [], _, _, h => by cases h
  | a :: l, hp, h, hm => by
    have ha := h a List.mem_cons_self
    rw [List.pairwise_cons] at hp
    by_cases e : a = k
    · subst e
      rw [List.filter_cons_of_pos (by simp)]
      rw [filt_none hk l (fun x hx => ⟨h x (List.mem_cons_of_mem _ hx), by have := hp.1 x hx; omega⟩)]
    · rw [List.filter_cons_of_neg (by simp only [decide_eq_true_eq]; exact fun z => e (nI_inj hk ha z).symm)]
      refine filt_one hk l hp.2 (fun x hx => h x (List.mem_cons_of_mem _ hx)) ?_
      rcases List.mem_cons.mp hm with q | q
      · exact absurd q.symm e
      · exact q
theorem filt_m1 : ∀ (l : List Nat), (∀ x, x ∈ l → x < 2 ^ 31) → l.filter (fun j => decide ((-1 : Int32) = nI j)) = []
  | [], _ => rfl
  | a :: l, h => by
    rw [List.filter_cons_of_neg (by simp only [decide_eq_true_eq]; exact m1_ne_nI (h a List.mem_cons_self))]
    exact filt_m1 l (fun x hx => h x (List.mem_cons_of_mem _ hx))
theorem filt_all : ∀ (l : List Nat) (p : Nat → Bool), (∀ x, p x = true) → l.filter p = l
  | [], _, _ => rfl
  | a :: l, p, h => by rw [List.filter_cons_of_pos (h a), filt_all l p h]
def plA (c : Ch) (now : Nat → Int32) (s : Nat) : List Nat := plF c now s (cN c - (s + 1))
theorem plA_w {c : Ch} {now : Nat → Int32} {s : Nat} (h : cW c s = true) : plA c now s = (kids c s).reverse := by
  unfold plA plF kids
  rw [filt_all _ _ (fun x => by rw [h, Bool.true_or])]
theorem kids_31 {c : Ch} (hc : wf c) {s : Nat} (hs : s < cN c) : ∀ x, x ∈ kids c s → x < 2 ^ 31 := fun x hx => by
  have := (kid_facts hc hs hx).2.1
  have := hc.n14
  omega
theorem plA_0 {c : Ch} (hc : wf c) {now : Nat → Int32} {s : Nat} (hs : s < cN c) (h : cW c s = false) (e : now s = -1) : plA c now s = [] := by
  unfold plA plF
  rw [h, e]
  simp only [Bool.false_or]
  rw [show kf c s (cN c - (s + 1)) (s + 1) = kids c s from rfl, filt_m1 _ (kids_31 hc hs)]; rfl
theorem plA_1 {c : Ch} (hc : wf c) {now : Nat → Int32} {s k : Nat} (hs : s < cN c) (h : cW c s = false) (hk : k ∈ kids c s) (e : now s = nI k) : plA c now s = [k] := by
  unfold plA plF
  rw [h, e]
  simp only [Bool.false_or]
  rw [filt_one (kids_31 hc hs k hk) _ (kf_lt _ _) (kids_31 hc hs) hk]; rfl
/-- what is pushed are children, each once -/
theorem plA_kids {c : Ch} {now : Nat → Int32} {s : Nat} : (∀ x, x ∈ plA c now s → x ∈ kids c s) ∧ (plA c now s).Nodup := by
  unfold plA plF kids
  refine ⟨fun x hx => (List.mem_filter.mp (List.mem_reverse.mp hx)).1, ?_⟩
  refine List.pairwise_reverse.mpr ?_
  exact ((kf_lt (cN c - (s + 1)) (s + 1)).filter _).imp (fun h => by omega)
theorem plA_len {c : Ch} (hc : wf c) {now : Nat → Int32} {s : Nat} {rest : List Nat} (hs : s < cN c) (hi : inc c rest s) : (rest ++ plA c now s).length ≤ 14 := by
  have h1 : (rest ++ plA c now s).Nodup := List.nodup_append.mpr ⟨hi.1, plA_kids.2, fun a ha b hb e => by
    subst e
    have h1 := (hi.2 a ha).2
    rw [kid_win hc hs (plA_kids.1 a hb)] at h1
    cases h1⟩
  have h2 := nd_len (cN c) _ h1 (fun x hx => by
    rcases List.mem_append.mp hx with q | q
    · exact (hi.2 x q).1
    · exact (kid_facts hc hs (plA_kids.1 x q)).2.1)
  have := hc.n14
  omega
/-- the current child behind the first look -/
def nwR (c : Ch) (t : Option Nat) (now : Nat → Int32) (s : Nat) : Nat → Int32 := nwM c (t.bind (twd c s)) now s (cN c)
theorem nwR_w {c : Ch} {t : Option Nat} {now : Nat → Int32} {s : Nat} (h : cW c s = true) : nwR c t now s = now := by
  unfold nwR nwM
  cases t.bind (twd c s) with
  | none => rfl
  | some y => dsimp only; rw [if_neg (fun z => by rw [h] at z; cases z.1)]
theorem nwR_n {c : Ch} (hc : wf c) {t : Option Nat} {now : Nat → Int32} {s : Nat} (h : cW c s = false) (ht : ∀ k, t = some k → k < cN c) : nwR c t now s = nwT c t now s := by
  unfold nwR nwM nwT
  cases hb : t.bind (twd c s) with
  | none => rfl
  | some y =>
    dsimp only
    have : y < cN c := by
      cases t with
      | none => cases hb
      | some k => exact (twd_some hc k k y (Nat.le_refl _) (ht k rfl) hb).2.1
    rw [if_pos ⟨h, by omega⟩]
/-- one state is popped -/
theorem e_pop {c : Ch} {em lm : Nat → List Int32} {t : Option Nat} {s : Nat} {rest : List Nat} {now : Nat → Int32} {tr : List Int32} {R : Mem} (hs : s < cN c) (ht : ∀ k, t = some k → k < cN c) (hi : inc c rest s) (hS : SD R c em lm) (hw : WR R c (now, tr)) (hk : Stk R (rest ++ [s])) : ∃ R', (∀ N, H_X8_enter_9 (N + 1) (oI t) (nI (rest.length + 1)) R = H_X8_enter_9 N (oI t) (nI (rest ++ plA c (nwR c t now s) s).length) R') ∧ Stk R' (rest ++ plA c (nwR c t now s) s) ∧ WR R' c (nwR c t now s, tr ++ em s) ∧ rfr R R' ∧ ∀ a, 26 ≤ a → R' a = R a := by
  have hc := hS.1.1
  have h14 := hc.n14
  have hl := plA_len hc (now := nwR c t now s) hs hi
  have hr : rest.length ≤ 14 := by rw [List.length_append] at hl; omega
  obtain ⟨R1, f1, f2, f3, f4, f5⟩ := g_notes (c := c) (m := 2 * s) (ms := em s) (by omega) (em s).length 0 100 R now tr (by omega) (by have := (hS.2.1 s hs).1; omega) (hS.2.1 s hs) hw
  rw [List.drop_zero] at f2
  have hS1 := hS.w f3
  obtain ⟨n1, en⟩ : ∃ n1, cN c = n1 + 1 := ⟨cN c - 1, by have := hc.1; omega⟩
  have key : ∃ R', (∀ kh9 : Int32 → Int32 → Mem → Option Mem, B_X8_enter_57 kh9 (oI t) (nI rest.length) (nI s) (bI (t.bind (twd c s)).isSome) R1 = kh9 (oI t) (nI (rest ++ plA c (nwR c t now s) s).length) R') ∧ Stk R' (rest ++ plA c (nwR c t now s) s) ∧ WR R' c (nwR c t now s, tr ++ em s) ∧ rfr R R' ∧ ∀ a, 26 ≤ a → R' a = R a := by
    obtain ⟨R2, g1, g2, g3⟩ := e_now (now := now) (tr := tr ++ em s) hs rfl ht (nI rest.length) (n1 - s) 100 R1 (by omega) (by omega) hS1.1 ⟨now, f2, by
      unfold nwM
      cases hb : t.bind (twd c s) with
      | none => rfl
      | some y =>
        dsimp only
        have hy : y < cN c := by
          cases t with
          | none => cases hb
          | some k => exact (twd_some hc k k y (Nat.le_refl _) (ht k rfl) hb).2.1
        by_cases z : cW c s = false
        · rw [if_pos ⟨z, by omega⟩, if_pos ⟨z, by omega⟩]
        · rw [if_neg (fun w => z w.1), if_neg (fun w => z w.1)]⟩
    have hC2 : CD R2 c := hS1.1.keep (fun a x y => g3 a (by omega)) (by rw [g3 0 (by omega)])
    obtain ⟨R3, i1, i2, i3⟩ := e_push (t := oI t) (now := nwR c t now s) hs (n1 - s) 100 rest R2 (by omega) (by omega) hC2 (g2.1 s hs) (hk.pre.keep (by rw [g3 25 (by decide), f4 25 (by omega)])) (by
      have : plF c (nwR c t now s) s (n1 - s) = plA c (nwR c t now s) s := by unfold plA; rw [en, show n1 + 1 - (s + 1) = n1 - s by omega]
      rw [this]; omega)
    have epl : plF c (nwR c t now s) s (n1 - s) = plA c (nwR c t now s) s := by unfold plA; rw [en, show n1 + 1 - (s + 1) = n1 - s by omega]
    rw [epl] at i1 i2
    refine ⟨R3, fun kh9 => ?_, i2, WR.keep g2 (i3 19 (by decide)) (i3 20 (by decide)) (by rw [i3 0 (by decide)]), f3.tr ⟨fun a x y => (i3 a (by omega)).trans (g3 a (by omega)), fun j x => by rw [i3 0 (by decide), g3 0 (by decide)]⟩, fun a ha => by rw [i3 a (by omega), g3 a (by omega), f4 a (by omega)]⟩
    unfold B_X8_enter_57
    rw [hS1.1.2.1, en, show nI (n1 + 1) - 1 = nI n1 from nI_pred n1, nm_eq]
    rw [show s + (n1 - s) = n1 by omega] at g1 i1
    rw [g1 kh9, hC2.2.1, en, show nI (n1 + 1) - 1 = nI n1 from nI_pred n1, nm_eq]
    exact i1 kh9
  have hd : ∀ N, H_X8_enter_9 (N + 1) (oI t) (nI (rest.length + 1)) R = B_X8_enter_57 (H_X8_enter_9 N) (oI t) (nI rest.length) (nI s) (bI (t.bind (twd c s)).isSome) R1 := by
    intro N
    show B_X8_enter_9 _ _ _ _ = _
    unfold B_X8_enter_9 F_X8_notes
    rw [if_neg (nI_nle (by omega) (by omega)), nm_eq, show nI (rest.length + 1) + -1 = nI rest.length from pk_m1 _, gi_ok (show rest.length < 20 by omega) (by decide), nm_eq, nI_clamp (by omega), hk.top, show (2 : Int32) = nI 2 from rfl, pk_mul, show (0 : Int32) = nI 0 from rfl, f1, bd_some]
    cases t with
    | none => rw [if_pos (show oI none < nI 0 by decide)]; rfl
    | some k =>
      have hkn := ht k rfl
      rw [show oI (some k) = nI k from rfl, if_neg (show ¬ nI k < nI 0 from nI_lt0 (by omega))]
      by_cases q : k = s
      · rw [if_pos (by rw [q])]
        have e : (twd c s k).isSome = false := by
          cases hb : (twd c s k).isSome
          · rfl
          · exact absurd q ((twd_iff hc k k (Nat.le_refl _) hkn).mp hb).2
        show B_X8_enter_56 _ _ _ _ _ = B_X8_enter_57 _ _ _ _ (bI (twd c s k).isSome) _
        rw [e]; rfl
      · rw [if_neg (fun z => q (nI_inj (by omega) (by omega) z)), g_within hS1.1 hs hkn, bd_some]
        have e : win c k s = (twd c s k).isSome := by
          cases hb : (twd c s k).isSome
          · cases hw2 : win c k s
            · rfl
            · rw [(twd_iff hc k k (Nat.le_refl _) hkn).mpr ⟨hw2, q⟩] at hb; cases hb
          · exact ((twd_iff hc k k (Nat.le_refl _) hkn).mp hb).1
        rw [e]
        show _ = B_X8_enter_57 _ _ _ _ (bI (twd c s k).isSome) _
        cases (twd c s k).isSome
        · rw [if_pos (by decide)]; rfl
        · rw [if_neg (by decide)]; rfl
  obtain ⟨R', k1, k2⟩ := key
  exact ⟨R', fun N => by rw [hd N]; exact k1 _, k2⟩
/-- how many pops at most -/
def Kc : Nat → Nat
  | 0 => 0
  | f + 1 => 1 + 14 * Kc f
def EnR (c : Ch) (em lm : Nat → List Int32) (t : Option Nat) (f : Nat) : Prop := ∀ (s : Nat) (rest : List Nat) (g : Sg) (R : Mem), s < cN c → 7 ≤ f + cD c s → inc c rest s → nowOK c g.1 → SD R c em lm → WR R c g → Stk R (rest ++ [s]) → ∃ j R', j ≤ Kc f ∧ (∀ N, H_X8_enter_9 (N + j) (oI t) (nI (rest.length + 1)) R = H_X8_enter_9 N (oI t) (nI rest.length) R') ∧ Stk R' rest ∧ WR R' c (enA c em t f s g) ∧ nowOK c (enA c em t f s g).1 ∧ rfr R R' ∧ ∀ a, 26 ≤ a → R' a = R a
theorem e_list {c : Ch} {em lm : Nat → List Int32} {t : Option Nat} {f s : Nat} (hr : EnR c em lm t f) (hc : wf c) (hs : s < cN c) (hf : 6 ≤ f + cD c s) : ∀ (ks rest : List Nat) (g : Sg) (R : Mem), (∀ x, x ∈ ks → x ∈ kids c s) → ks.Nodup → inc c rest s → nowOK c g.1 → SD R c em lm → WR R c g → Stk R (rest ++ ks.reverse) → ∃ j R', j ≤ ks.length * Kc f ∧ (∀ N, H_X8_enter_9 (N + j) (oI t) (nI (rest ++ ks.reverse).length) R = H_X8_enter_9 N (oI t) (nI rest.length) R') ∧ Stk R' rest ∧ WR R' c (ks.foldl (fun g k => enA c em t f k g) g) ∧ nowOK c (ks.foldl (fun g k => enA c em t f k g) g).1 ∧ rfr R R' ∧ ∀ a, 26 ≤ a → R' a = R a := by
  intro ks
  induction ks with
  | nil =>
    intro rest g R hk hn hi hg hS hw hst
    rw [List.reverse_nil, List.append_nil] at hst ⊢
    exact ⟨0, R, Nat.zero_le _, fun N => rfl, hst, hw, hg, rfr.rf, fun _ _ => rfl⟩
  | cons k ks ih =>
    intro rest g R hk hn hi hg hS hw hst
    obtain ⟨k0, kn, kp, kd, -⟩ := kid_facts hc hs (hk k List.mem_cons_self)
    rw [List.reverse_cons, ← List.append_assoc] at hst ⊢
    obtain ⟨j1, R1, f0, f1, f2, f3, f4, f5, f6⟩ := hr k (rest ++ ks.reverse) g R kn (by omega) (inc.kid hc hs hi hk hn) hg hS hw hst
    obtain ⟨j2, R2, g0, g1, g2, g3, g4, g5, g6⟩ := ih rest _ R1 (fun x hx => hk x (List.mem_cons_of_mem _ hx)) (List.nodup_cons.mp hn).2 hi f4 (hS.w f5) f3 f2
    refine ⟨j2 + j1, R2, ?_, fun N => ?_, g2, g3, g4, f5.tr g5, fun a ha => (g6 a ha).trans (f6 a ha)⟩
    · rw [List.length_cons, Nat.add_mul, Nat.one_mul]; omega
    · rw [← Nat.add_assoc, List.length_append, show (rest ++ ks.reverse).length + [k].length = (rest ++ ks.reverse).length + 1 from rfl, f1 (N + j2)]
      exact g1 N
theorem g_enter {c : Ch} {em lm : Nat → List Int32} {t : Option Nat} (hc : wf c) (ht : ∀ k, t = some k → k < cN c) : ∀ f, EnR c em lm t f := by
  intro f
  induction f with
  | zero =>
    intro s rest g R hs hf
    have := hc.dep6 hs
    omega
  | succ f ih =>
    intro s rest g R hs hf hi hg hS hw hst
    obtain ⟨now, tr⟩ := g
    have h14 := hc.n14
    obtain ⟨R1, f1, f2, f3, f4, f5⟩ := e_pop hs ht hi hS hw hst
    cases hwh : cW c s
    · rw [nwR_n hc hwh ht] at f1 f2 f3
      have hn1 : nowOK c (nwT c t now s) := by
        unfold nwT
        cases hb : t.bind (twd c s) with
        | none => exact hg
        | some y =>
          have hy : y ∈ kids c s := by
            cases t with
            | none => cases hb
            | some k =>
              obtain ⟨a, b, d, -⟩ := twd_some hc k k y (Nat.le_refl _) (ht k rfl) hb
              exact (kids_mem hc hs).mpr ⟨a, b, d⟩
          exact hg.put hwh hy
      have enq : enA c em t (f + 1) s (now, tr) = if nwT c t now s s = -1 then (nwT c t now s, tr ++ em s) else enA c em t f (nwT c t now s s).toNatClampNeg (nwT c t now s, tr ++ em s) := by
        simp only [enA]; rw [if_neg (by rw [hwh]; decide)]
      rcases (hn1 s).1 hs with ⟨e1, -⟩ | ⟨-, k, hk, e1⟩
      · rw [plA_0 hc hs hwh e1, List.append_nil] at f1 f2
        rw [enq, if_pos e1]
        exact ⟨1, R1, by simp only [Kc]; omega, f1, f2, f3, hn1, f4, f5⟩
      · obtain ⟨k0, kn, kp, kd, -⟩ := kid_facts hc hs hk
        rw [plA_1 hc hs hwh hk e1] at f1 f2
        have hi2 : inc c rest k := by
          have := inc.kid (ks := []) hc hs hi (fun x hx => by rw [List.mem_singleton.mp hx]; exact hk) (List.nodup_cons.mpr ⟨List.not_mem_nil, List.nodup_nil⟩)
          rw [List.reverse_nil, List.append_nil] at this
          exact this
        obtain ⟨j, R2, g0, g1, g2, g3, g4, g5, g6⟩ := ih k rest (nwT c t now s, tr ++ em s) R1 kn (by omega) hi2 hn1 (hS.w f4) f3 f2
        rw [enq, e1, if_neg (nI_ne_m1 (by omega)), nI_clamp (by omega)]
        refine ⟨j + 1, R2, by simp only [Kc]; omega, fun N => ?_, g2, g3, g4, f4.tr g5, fun a ha => (g6 a ha).trans (f5 a ha)⟩
        rw [← Nat.add_assoc, f1 (N + j), List.length_append]
        exact g1 N
    · rw [nwR_w hwh, plA_w hwh] at f1 f2
      rw [nwR_w hwh] at f3
      have enq : enA c em t (f + 1) s (now, tr) = (kids c s).foldl (fun g k => enA c em t f k g) (now, tr ++ em s) := by
        simp only [enA]; rw [if_pos hwh]
      have hkn : (kids c s).Nodup := (kf_lt _ _).imp (fun h => by omega)
      obtain ⟨j, R2, g0, g1, g2, g3, g4, g5, g6⟩ := e_list ih hc hs (by omega) (kids c s) rest (now, tr ++ em s) R1 (fun x hx => hx) hkn hi hg (hS.w f4) f3 f2
      have hkl : (kids c s).length ≤ 14 := by
        have := nd_len (cN c) _ hkn (fun x hx => (kid_facts hc hs hx).2.1)
        omega
      rw [enq]
      refine ⟨j + 1, R2, ?_, fun N => ?_, g2, g3, g4, f4.tr g5, fun a ha => (g6 a ha).trans (f5 a ha)⟩
      · simp only [Kc]
        have := Nat.mul_le_mul_right (Kc f) hkl
        omega
      · rw [← Nat.add_assoc, f1 (N + j)]
        exact g1 N
/-- enter -/
theorem g_enterF {R : Mem} {c : Ch} {em lm : Nat → List Int32} {t : Option Nat} {s : Nat} {g : Sg} (hs : s < cN c) (ht : ∀ k, t = some k → k < cN c) (hg : nowOK c g.1) (hS : SD R c em lm) (hw : WR R c g) : ∃ R', F_X8_enter (nI s) (oI t) R = some R' ∧ WR R' c (enA c em t 9 s g) ∧ nowOK c (enA c em t 9 s g).1 ∧ rfr R R' ∧ ∀ a, 26 ≤ a → R' a = R a := by
  have hc := hS.1.1
  have e0 : rfr R (set2 R 25 0 (nI s)) := rfr.set (by omega)
  obtain ⟨j, R', g0, g1, g2, g3, g4, g5, g6⟩ := g_enter (em := em) (lm := lm) hc ht 9 s [] g (set2 R 25 0 (nI s)) hs (by omega) ⟨List.nodup_nil, fun b hb => by cases hb⟩ hg (hS.w e0) (hw.keep (set2_ne _ _ _ (by decide)) (set2_ne _ _ _ (by decide)) (s2_oth _ _ _ _ (by decide))) (Stk.push (sk := []) (fun i x h => by simp at h))
  have hj : j ≤ 9999999999 := Nat.le_trans g0 (by decide)
  refine ⟨R', ?_, g3, g4, e0.tr g5, fun a ha => by rw [g6 a ha, set2_ne _ _ _ (by omega)]⟩
  unfold F_X8_enter
  rw [show (0 : Int32) = nI 0 from rfl, gi_ok (show 0 < 20 by omega) (by decide), nI_clamp (by omega), wr_eq]
  have e1 := g1 (10000000000 - j)
  rw [show 10000000000 - j + j = 10000000000 by omega] at e1
  rw [show (1 : Int32) = nI (([] : List Nat).length + 1) from rfl, e1]
  obtain ⟨n, en⟩ : ∃ n, 10000000000 - j = n + 1 := ⟨10000000000 - j - 1, by omega⟩
  rw [en]
  show B_X8_enter_9 _ _ _ _ = _
  unfold B_X8_enter_9
  rw [if_pos (by decide)]
