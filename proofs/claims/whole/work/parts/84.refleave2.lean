/-! The reference's leaving: back from below, and the recursion. -/
def ixR (k : Nat) : Int32 := if k = 0 then -1 else nI (k - 1)
theorem ixR_succ (k : Nat) : ixR (k + 1) = nI k := by unfold ixR; rw [if_neg (by omega)]; rfl
theorem ixR_pred (k : Nat) : nI k + (-1) = ixR k := by
  cases k with
  | zero => decide
  | succ k => rw [ixR_succ]; exact pk_m1 k
theorem take_snoc {l : List Nat} {k x : Nat} (h : l[k]? = some x) : l.take (k + 1) = l.take k ++ [x] := by
  rw [List.take_succ, h]; rfl
theorem l_back {c : Ch} {em lm : Nat → List Int32} {P : List Nat} (hP : ∀ x, x ∈ P → x < cN c) (hl : P.length ≤ 14) : ∀ (k n : Nat) (g : Sg) (R : Mem), k ≤ P.length → k < n → nowOK c g.1 → SD R c em lm → WR R c g → Rw R P → ∃ R', H_X8_leave_111 n (ixR k) R = some R' ∧ WR R' c ((P.take k).reverse.foldl (fun g s => lvE c lm s g) g) ∧ nowOK c ((P.take k).reverse.foldl (fun g s => lvE c lm s g) g).1 ∧ rfr R R' ∧ ∀ a, 27 ≤ a → R' a = R a := by
  intro k
  induction k with
  | zero =>
    intro n g R hk hn hg hS hw hr
    cases n with
    | zero => omega
    | succ n =>
      refine ⟨R, ?_, hw, hg, rfr.rf, fun _ _ => rfl⟩
      show B_X8_leave_111 _ _ _ = _
      unfold B_X8_leave_111
      rw [if_pos (by decide)]
  | succ k ih =>
    intro n g R hk hn hg hS hw hr
    cases n with
    | zero => omega
    | succ n =>
      obtain ⟨now, tr⟩ := g
      have hc := hS.1.1
      have h14 := hc.n14
      obtain ⟨x, hx⟩ : ∃ x, P[k]? = some x := ⟨_, List.getElem?_eq_getElem (by omega)⟩
      have hxn : x < cN c := hP x (List.mem_of_getElem? hx)
      obtain ⟨R1, f1, f2, f3, f4, f5⟩ := g_notes (c := c) (m := 2 * x + 1) (ms := lm x) (by omega) (lm x).length 0 100 R now tr (by omega) (by have := (hS.2.2 x hxn).1; omega) (hS.2.2 x hxn) hw
      rw [List.drop_zero] at f2
      have hS1 := hS.w f3
      have hr1 : Rw R1 P := by unfold Rw; rw [f4 26 (by omega)]; exact hr
      have next : ∀ (R2 : Mem) (g2 : Sg), nowOK c g2.1 → SD R2 c em lm → WR R2 c g2 → Rw R2 P → ∃ R', B_X8_leave_169 (H_X8_leave_111 n) (nI k) R2 = some R' ∧ WR R' c ((P.take k).reverse.foldl (fun g s => lvE c lm s g) g2) ∧ nowOK c ((P.take k).reverse.foldl (fun g s => lvE c lm s g) g2).1 ∧ rfr R2 R' ∧ ∀ a, 27 ≤ a → R' a = R2 a := by
        intro R2 g2 a1 a2 a3 a4
        obtain ⟨R', g1, g2⟩ := ih n g2 R2 (by omega) (by omega) a1 a2 a3 a4
        refine ⟨R', ?_, g2⟩
        unfold B_X8_leave_169
        rw [nm_eq, ixR_pred]
        exact g1
      have ef : (P.take (k + 1)).reverse.foldl (fun g s => lvE c lm s g) (now, tr) = (P.take k).reverse.foldl (fun g s => lvE c lm s g) (lvE c lm x (now, tr)) := by
        rw [take_snoc hx, List.reverse_append]; rfl
      rw [ef, ixR_succ]
      have head : H_X8_leave_111 (n + 1) (nI k) R = if bI (cR c x) = (0 : Int32) then B_X8_leave_169 (H_X8_leave_111 n) (nI k) (set2 R1 19 x (cf0 c x)) else B_X8_leave_169 (H_X8_leave_111 n) (nI k) R1 := by
        show B_X8_leave_111 _ _ _ = _
        unfold B_X8_leave_111 F_X8_notes
        rw [if_neg (nI_lt0 (by omega)), gi_ok (show k < 20 by omega) (by decide), nI_clamp (n := k) (by omega), hr k x hx, show (2 : Int32) = nI 2 from rfl, pk_mul, show (1 : Int32) = nI 1 from rfl, nI_add, show (0 : Int32) = nI 0 from rfl, f1, bd_some, hr1 k x hx, gi_ok (show k < 20 by omega) (by decide), gi_ok (show x < 14 by omega) (by decide), nI_clamp (n := x) (by omega), hS1.1.2.2.2.2.2.2 x hxn, gi_ok (show k < 20 by omega) (by decide), gi_ok (show k < 20 by omega) (by decide), g_firstOf hS1.1 hxn, bd_some, gi_ok (show x < 14 by omega) (by decide), wr_eq]
      rw [head]
      unfold lvE
      cases hrm : cR c x
      · rw [if_pos (by decide), if_neg (by decide)]
        obtain ⟨R', g1, g2, g3, g4, g5⟩ := next (set2 R1 19 x (cf0 c x)) (upd now x (cf0 c x), tr ++ lm x) (hg.reset hxn) (hS1.w (rfr.set (by omega))) f2.set (by unfold Rw; rw [set2_ne _ _ _ (by decide)]; exact hr1)
        exact ⟨R', g1, g2, g3, f3.tr ((rfr.set (by omega)).tr g4), fun a ha => by rw [g5 a ha, set2_ne _ _ _ (by omega), f4 a (by omega)]⟩
      · rw [if_neg (by decide), if_pos rfl]
        obtain ⟨R', g1, g2, g3, g4, g5⟩ := next R1 (now, tr ++ lm x) hg hS1 f2 hr1
        exact ⟨R', g1, g2, g3, f3.tr g4, fun a ha => by rw [g5 a ha, f4 a (by omega)]⟩
/-- the recursion is: back over all that is below -/
theorem lvE_now {c : Ch} {lm : Nat → List Int32} {s x : Nat} {g : Sg} (h : x ≠ s) : (lvE c lm s g).1 x = g.1 x := by
  unfold lvE
  dsimp only
  by_cases q : cR c s = true
  · rw [if_pos q]
  · rw [if_neg q]; exact pk_un h
theorem fold_now {c : Ch} {lm : Nat → List Int32} {x : Nat} : ∀ (l : List Nat) (g : Sg), x ∉ l → (l.foldl (fun g s => lvE c lm s g) g).1 x = g.1 x
  | [], g, _ => rfl
  | a :: l, g, h => by
    rw [List.foldl_cons, fold_now l _ (fun q => h (List.mem_cons_of_mem _ q))]
    exact lvE_now (fun e => h (e ▸ List.mem_cons_self))
theorem pre_congr {c : Ch} (hc : wf c) {now now' : Nat → Int32} (hg : nowOK c now) : ∀ (f s : Nat), s < cN c → (∀ x, x < cN c → win c x s = true → now' x = now x) → pre c now' f s = pre c now f s := by
  intro f
  induction f with
  | zero => intro s hs h; rfl
  | succ f ih =>
    intro s hs h
    have hk : ∀ k, k ∈ kids c s → pre c now' f k = pre c now f k := fun k hk => ih k (kid_facts hc hs hk).2.1 (fun x hx hw => h x hx (win_trans hc x x k s (Nat.le_refl _) hx hw (kid_win hc hs hk)))
    cases hw : cW c s
    · have e := h s hs (win_self s)
      rcases (hg s).1 hs with ⟨e1, -⟩ | ⟨-, k, hk1, e1⟩
      · rw [pre_0 hw e1, pre_0 hw (e.trans e1)]
      · rw [pre_1 hw (kids_31 hc hs k hk1) e1, pre_1 hw (kids_31 hc hs k hk1) (e.trans e1), hk k hk1]
    · rw [pre_w hw, pre_w hw, List.map_congr_left hk]
theorem rev_fl (f : Nat → List Nat) : ∀ L : List Nat, ((L.map f).flatten).reverse = (L.reverse.map (fun k => (f k).reverse)).flatten
  | [] => rfl
  | a :: L => by
    rw [List.map_cons, List.flatten_cons, List.reverse_append, rev_fl f L, List.reverse_cons, List.map_append, List.flatten_append]
    simp
theorem lvA_pre {c : Ch} (hc : wf c) {lm : Nat → List Int32} : ∀ (f s : Nat) (g : Sg), s < cN c → 7 ≤ f + cD c s → nowOK c g.1 → lvA c lm f s g = (pre c g.1 f s).reverse.foldl (fun g s => lvE c lm s g) g := by
  intro f
  induction f with
  | zero =>
    intro s g hs hf
    have := hc.dep6 hs
    omega
  | succ f ih =>
    intro s g hs hf hg
    cases hw : cW c s
    · rcases (hg s).1 hs with ⟨e1, -⟩ | ⟨-, k, hk, e1⟩
      · rw [lvA_0 hw e1, pre_0 hw e1]; rfl
      · obtain ⟨k0, kn, kp, kd, -⟩ := kid_facts hc hs hk
        rw [lvA_1 hw (kids_31 hc hs k hk) e1, pre_1 hw (kids_31 hc hs k hk) e1, List.reverse_cons, List.foldl_append, ih k g kn (by omega) hg]
        rfl
    · have key : ∀ (l : List Nat) (g1 : Sg), (∀ x, x ∈ l → x ∈ kids c s) → l.Nodup → nowOK c g1.1 → (∀ x k, x < cN c → k ∈ l → win c x k = true → g1.1 x = g.1 x) → l.foldl (fun g k => lvA c lm f k g) g1 = ((l.map (fun k => (pre c g.1 f k).reverse)).flatten).foldl (fun g s => lvE c lm s g) g1 := by
        intro l
        induction l with
        | nil => intro g1 _ _ _ _; rfl
        | cons k l ihl =>
          intro g1 hk hn hg1 hag
          have hkk := hk k List.mem_cons_self
          obtain ⟨k0, kn, kp, kd, -⟩ := kid_facts hc hs hkk
          have hn2 := List.nodup_cons.mp hn
          have e1 : pre c g1.1 f k = pre c g.1 f k := pre_congr hc hg f k kn (fun x hx hw => hag x k hx List.mem_cons_self hw)
          rw [List.foldl_cons, List.map_cons, List.flatten_cons, List.foldl_append, ih k g1 kn (by omega) hg1, e1]
          have hmem : ∀ x, x ∈ (pre c g.1 f k).reverse → x < cN c ∧ win c x k = true := fun x hx => pre_win hc hg f k kn x (List.mem_reverse.mp hx)
          refine ihl _ (fun x hx => hk x (List.mem_cons_of_mem _ hx)) hn2.2 ?_ (fun x k2 hx hk2 hw2 => ?_)
          · have fo : ∀ (l : List Nat) (g : Sg), (∀ x, x ∈ l → x < cN c) → nowOK c g.1 → nowOK c (l.foldl (fun g s => lvE c lm s g) g).1 := by
              intro l
              induction l with
              | nil => intro g _ h; exact h
              | cons a l il =>
                intro g hl h
                refine il _ (fun x hx => hl x (List.mem_cons_of_mem _ hx)) ?_
                unfold lvE
                dsimp only
                by_cases q : cR c a = true
                · rw [if_pos q]; exact h
                · rw [if_neg q]; exact h.reset (hl a List.mem_cons_self)
            exact fo _ _ (fun x hx => (hmem x hx).1) hg1
          · rw [fold_now _ _ (fun q => ?_)]
            · exact hag x k2 hx (List.mem_cons_of_mem _ hk2) hw2
            · obtain ⟨j0, jn, jp, -, -⟩ := kid_facts hc hs (hk k2 (List.mem_cons_of_mem _ hk2))
              have e := kid_one hc hx k0 j0 kn jn kp jp (hmem x q).2 hw2
              subst e
              exact hn2.1 hk2
      have hkn : (kids c s).reverse.Nodup := List.pairwise_reverse.mpr ((kf_lt _ _).imp (fun h => by omega))
      rw [lvA_w hw, pre_w hw, List.reverse_cons, List.foldl_append, rev_fl, key (kids c s).reverse g (fun x hx => List.mem_reverse.mp hx) hkn hg (fun x k _ _ _ => rfl)]
      rfl
/-- leave -/
theorem g_leaveF {R : Mem} {c : Ch} {em lm : Nat → List Int32} {s : Nat} {g : Sg} (hs : s < cN c) (hg : nowOK c g.1) (hS : SD R c em lm) (hw : WR R c g) : ∃ R', F_X8_leave (nI s) R = some R' ∧ WR R' c (lvA c lm 9 s g) ∧ nowOK c (lvA c lm 9 s g).1 ∧ rfr R R' ∧ ∀ a, 27 ≤ a → R' a = R a := by
  have hc := hS.1.1
  have h14 := hc.n14
  have e0 : rfr R (set2 R 25 0 (nI s)) := rfr.set (by omega)
  obtain ⟨j, R1, f0, f1, f2, f3, f4, f5⟩ := g_leave1 hc hg 9 s [] [] (set2 R 25 0 (nI s)) hs (by omega) ⟨List.nodup_nil, fun b hb => by cases hb⟩ ⟨List.nodup_nil, fun b hb => by cases hb⟩ (hS.w e0).1 (fun i hi => by rw [s2_oth _ _ _ _ (by decide)]; exact hw.1 i hi) (Stk.push (sk := []) (fun i x h => by simp at h)) (fun i x h => by simp at h)
  rw [List.nil_append] at f1 f3 f4
  have hmem := pre_win hc hg 9 s hs
  have hpl : (pre c g.1 9 s).length ≤ 14 := by
    have := nd_len (cN c) _ f4 (fun x hx => (hmem x hx).1)
    omega
  have e1 : rfr R R1 := e0.tr ⟨fun a x y => f5 a (by omega) (by omega), fun j x => by rw [f5 0 (by decide) (by decide)]⟩
  have hw1 : WR R1 c g := hw.keep (by rw [f5 19 (by decide) (by decide), set2_ne _ _ _ (by decide)]) (by rw [f5 20 (by decide) (by decide), set2_ne _ _ _ (by decide)]) (by rw [f5 0 (by decide) (by decide), s2_oth _ _ _ _ (by decide)])
  obtain ⟨R', g1, g2, g3, g4, g5⟩ := l_back (em := em) (lm := lm) (P := pre c g.1 9 s) (fun x hx => (hmem x hx).1) hpl (pre c g.1 9 s).length 100 g R1 (Nat.le_refl _) (by omega) hg (hS.w e1) hw1 f3
  rw [List.take_length, ← lvA_pre hc 9 s g hs (by omega) hg] at g2 g3
  refine ⟨R', ?_, g2, g3, e1.tr g4, fun a ha => by rw [g5 a ha, f5 a (by omega) (by omega), set2_ne _ _ _ (by omega)]⟩
  have hj : j ≤ 9999999999 := Nat.le_trans f0 (by decide)
  unfold F_X8_leave
  rw [show (0 : Int32) = nI 0 from rfl, gi_ok (show 0 < 20 by omega) (by decide), nI_clamp (by omega), wr_eq]
  have e2 := f1 (10000000000 - j)
  rw [show 10000000000 - j + j = 10000000000 by omega] at e2
  rw [show (1 : Int32) = nI (([] : List Nat).length + 1) from rfl]
  rw [show H_X8_leave_11 10000000000 (nI 0) (nI (([] : List Nat).length + 1)) (set2 R 25 0 (nI s)) = _ from e2]
  obtain ⟨n, en⟩ : ∃ n, 10000000000 - j = n + 1 := ⟨10000000000 - j - 1, by omega⟩
  rw [en]
  show B_X8_leave_11 _ _ _ _ = _
  unfold B_X8_leave_11
  rw [if_pos (by decide), nm_eq]
  obtain ⟨p, ep⟩ : ∃ p, (pre c g.1 9 s).length = p + 1 := ⟨(pre c g.1 9 s).length - 1, by
    have : 0 < (pre c g.1 9 s).length := by simp [pre]
    omega⟩
  rw [ep, ixR_succ] at g1
  rw [ep, show nI (p + 1) - 1 = nI p from nI_pred p]
  exact g1
