/-! Leaving, in the class. -/
def lvE (c : Ch) (lm : Nat → List Int32) (s : Nat) (g : Sg) : Sg := (if cR c s = true then g.1 else upd g.1 s (cf0 c s), g.2 ++ lm s)
theorem lvA_w {c : Ch} {lm : Nat → List Int32} {f s : Nat} {g : Sg} (h : cW c s = true) : lvA c lm (f + 1) s g = lvE c lm s ((kids c s).reverse.foldl (fun g k => lvA c lm f k g) g) := by
  simp only [lvA, lvE]; rw [if_pos h]
theorem lvA_0 {c : Ch} {lm : Nat → List Int32} {f s : Nat} {g : Sg} (h : cW c s = false) (e : g.1 s = -1) : lvA c lm (f + 1) s g = lvE c lm s g := by
  simp only [lvA, lvE]; rw [if_neg (show ¬ cW c s = true by rw [h]; decide), if_pos e]
theorem lvA_1 {c : Ch} {lm : Nat → List Int32} {f s k : Nat} {g : Sg} (h : cW c s = false) (hk : k < 2 ^ 31) (e : g.1 s = nI k) : lvA c lm (f + 1) s g = lvE c lm s (lvA c lm f k g) := by
  simp only [lvA, lvE]; rw [if_neg (show ¬ cW c s = true by rw [h]; decide), e, if_neg (nI_ne_m1 hk), nI_clamp hk]
theorem kf_snoc {c : Ch} {s : Nat} : ∀ (m k : Nat), kf c s (m + 1) k = kf c s m k ++ (if cP c (k + m) = s then [k + m] else [])
  | 0, k => by
    simp only [kf, Nat.add_zero, List.nil_append]
  | m + 1, k => by
    rw [show kf c s (m + 1 + 1) k = if cP c k = s then k :: kf c s (m + 1) (k + 1) else kf c s (m + 1) (k + 1) from rfl, kf_snoc m (k + 1), show kf c s (m + 1) k = if cP c k = s then k :: kf c s m (k + 1) else kf c s m (k + 1) from rfl, show k + 1 + m = k + (m + 1) by omega]
    by_cases q : cP c k = s
    · rw [if_pos q, if_pos q]; rfl
    · rw [if_neg q, if_neg q]
theorem f_leave_m1 {M : Mem} {d : Int32} (n : Nat) : F_X6_leave (n + 1) (-1) d M = some M := by
  show B_X6_leave_e _ _ _ _ = _
  unfold B_X6_leave_e
  rw [f_isState_m1, bd_some, if_pos rfl]
theorem f_leaveE {c : Ch} {em lm : Nat → List Int32} {row s : Nat} {g : Sg} {M : Mem} (rec : Int32 → Int32 → Mem → Option Mem) (hs : s < cN c) (hg : nowOK c g.1) (hw : WK M row g) (hS : SC M c em lm) : ∃ M', B_X6_leave_85 rec (nI s) M = some M' ∧ WK M' row (lvE c lm s g) ∧ nowOK c (lvE c lm s g).1 ∧ sW row M M' := by
  obtain ⟨now, tr⟩ := g
  have h14 := hS.1.1.n14
  obtain ⟨M1, a1, a2, a3⟩ := f_addL hS hw hs
  have hS1 : SC M1 c em lm := hS.w a3.w
  unfold B_X6_leave_85
  rw [a1, bd_some, f_isRemembering hS1.1 hs, bd_some]
  unfold lvE
  cases hr : cR c s
  · rw [if_pos (by decide), f_currentAtFirst hS1.1 hs, bd_some, f_makeCurrent (by omega), bd_some]
    exact ⟨_, rfl, a2.set, hg.reset hs, a3.w.tr sW.set⟩
  · rw [if_neg (by decide)]
    exact ⟨M1, rfl, a2, hg, a3.w⟩
def LvOK (c : Ch) (em lm : Nat → List Int32) (row f : Nat) : Prop := ∀ (s : Nat) (g : Sg) (M : Mem), s < cN c → 7 ≤ f + cD c s → nowOK c g.1 → WK M row g → SC M c em lm → ∃ M', F_X6_leave (f + 1) (nI s) (nI (cD c s)) M = some M' ∧ WK M' row (lvA c lm f s g) ∧ nowOK c (lvA c lm f s g).1 ∧ sW row M M'
theorem h_leave {c : Ch} {em lm : Nat → List Int32} {row f s : Nat} (hr : LvOK c em lm row f) (hs : s < cN c) (hf : 6 ≤ f + cD c s) : ∀ (m n : Nat) (g : Sg) (M : Mem), s + m < cN c → m < n → nowOK c g.1 → WK M row g → SC M c em lm → ∃ M', H_X6_leave_39 (F_X6_leave (f + 1)) n (nI s) (nI (cD c s)) (nI (s + m)) M = some M' ∧ WK M' row (lvE c lm s ((kf c s m (s + 1)).reverse.foldl (fun g k => lvA c lm f k g) g)) ∧ nowOK c (lvE c lm s ((kf c s m (s + 1)).reverse.foldl (fun g k => lvA c lm f k g) g)).1 ∧ sW row M M' := by
  intro m
  induction m with
  | zero =>
    intro n g M hm hn hg hw hS
    cases n with
    | zero => omega
    | succ n =>
      have h14 := hS.1.1.n14
      obtain ⟨M', f1, f2⟩ := f_leaveE (F_X6_leave (f + 1)) hs hg hw hS
      refine ⟨M', ?_, f2⟩
      show B_X6_leave_39 _ _ _ _ _ _ = _
      unfold B_X6_leave_39
      rw [if_pos (nI_le (by omega) (by omega))]
      exact f1
  | succ m ih =>
    intro n g M hm hn hg hw hS
    cases n with
    | zero => omega
    | succ n =>
      have h14 := hS.1.1.n14
      have h0 : 0 < s + (m + 1) := by omega
      have step : ∀ (M1 : Mem) (g1 : Sg), nowOK c g1.1 → WK M1 row g1 → SC M1 c em lm → ∃ M', B_X6_leave_64 (F_X6_leave (f + 1)) (H_X6_leave_39 (F_X6_leave (f + 1)) n) (nI s) (nI (cD c s)) (nI (s + (m + 1))) M1 = some M' ∧ WK M' row (lvE c lm s ((kf c s m (s + 1)).reverse.foldl (fun g k => lvA c lm f k g) g1)) ∧ nowOK c (lvE c lm s ((kf c s m (s + 1)).reverse.foldl (fun g k => lvA c lm f k g) g1)).1 ∧ sW row M1 M' := by
        intro M1 g1 a1 a2 a3
        obtain ⟨M', f1, f2⟩ := ih n g1 M1 (by omega) (by omega) a1 a2 a3
        refine ⟨M', ?_, f2⟩
        unfold B_X6_leave_64
        rw [nm_eq, show nI (s + (m + 1)) + -1 = nI (s + m) from pk_m1 (s + m)]
        exact f1
      have hk : kf c s (m + 1) (s + 1) = kf c s m (s + 1) ++ (if cP c (s + (m + 1)) = s then [s + (m + 1)] else []) := by
        rw [kf_snoc, show s + 1 + m = s + (m + 1) by omega]
      by_cases q : cP c (s + (m + 1)) = s
      · have hd : cD c (s + (m + 1)) = cD c s + 1 := by rw [hS.1.1.dep h0 hm, q]
        obtain ⟨M1, f1, f2, f3, f4⟩ := hr (s + (m + 1)) g M hm (by omega) hg hw hS
        obtain ⟨M', g1, g2, g3, g4⟩ := step M1 _ f3 f2 (hS.w f4)
        have e : (kf c s (m + 1) (s + 1)).reverse.foldl (fun g k => lvA c lm f k g) g = (kf c s m (s + 1)).reverse.foldl (fun g k => lvA c lm f k g) (lvA c lm f (s + (m + 1)) g) := by
          rw [hk, if_pos q, List.reverse_append]; rfl
        rw [e]
        refine ⟨M', ?_, g2, g3, f4.tr g4⟩
        show B_X6_leave_39 _ _ _ _ _ _ = _
        unfold B_X6_leave_39
        rw [if_neg (nI_ge (by omega) (by omega)), f_parentOf hS.1 h0 hm, bd_some, if_pos (by rw [q]), show nI (cD c s) + 1 = nI (cD c (s + (m + 1))) by rw [hd]; exact nI_1 _, f1, bd_some]
        exact g1
      · obtain ⟨M', g1, g2, g3, g4⟩ := step M g hg hw hS
        have hp := hS.1.1.par h0 hm
        have e : (kf c s (m + 1) (s + 1)).reverse.foldl (fun g k => lvA c lm f k g) g = (kf c s m (s + 1)).reverse.foldl (fun g k => lvA c lm f k g) g := by
          rw [hk, if_neg q, List.append_nil]
        rw [e]
        refine ⟨M', ?_, g2, g3, g4⟩
        show B_X6_leave_39 _ _ _ _ _ _ = _
        unfold B_X6_leave_39
        rw [if_neg (nI_ge (by omega) (by omega)), f_parentOf hS.1 h0 hm, bd_some, if_neg (fun z => q (nI_inj (by omega) (by omega) z))]
        exact g1
theorem f_leave {c : Ch} {em lm : Nat → List Int32} {row : Nat} (hc : wf c) : ∀ f, LvOK c em lm row f := by
  intro f
  induction f with
  | zero =>
    intro s g M hs hf hg hw hS
    have := hc.dep6 hs
    omega
  | succ f ih =>
    intro s g M hs hf hg hw hS
    have h14 := hc.n14
    have hd6 := hc.dep6 hs
    have head : ∀ R, (bd (F_X4_isWhole (nI s) M) fun r_3 => (if r_3 = (0 : Int32) then bd (F_X6_currentChild (nI s) M) fun r_5 => bd (F_X6_leave (f + 1) r_5 (nI (cD c s) + (1 : Int32)) M) fun M_9 => B_X6_leave_85 (F_X6_leave (f + 1)) (nI s) M_9 else bd (F_X4_made M) fun r_10 => nm (r_10 - (1 : Int32)) fun x3_12 => H_X6_leave_39 (F_X6_leave (f + 1)) 100 (nI s) (nI (cD c s)) x3_12 M)) = R → F_X6_leave (f + 1 + 1) (nI s) (nI (cD c s)) M = R := by
      intro R hR
      show B_X6_leave_e _ _ _ _ = _
      unfold B_X6_leave_e
      rw [f_isState hS.1 hs, bd_some, if_neg (by decide), if_pos (show nI (cD c s) ≤ 6 from nI_le (b := 6) hd6 (by omega))]
      exact hR
    rw [f_isWhole hS.1 hs, bd_some] at head
    cases hwh : cW c s
    · rw [hwh, if_pos (by decide), f_currentChild (by omega), bd_some, hw.2.2.1 s (by omega)] at head
      rcases (hg s).1 hs with ⟨e1, -⟩ | ⟨-, k, hk, e1⟩
      · rw [e1, f_leave_m1, bd_some] at head
        obtain ⟨M', f1, f2⟩ := f_leaveE (F_X6_leave (f + 1)) hs hg hw hS
        rw [lvA_0 hwh e1]
        exact ⟨M', head _ f1, f2⟩
      · obtain ⟨k0, kn, kp, kd, -⟩ := kid_facts hc hs hk
        obtain ⟨M1, f1, f2, f3, f4⟩ := ih k g M kn (by omega) hg hw hS
        rw [e1, show nI (cD c s) + 1 = nI (cD c k) by rw [kd]; exact nI_1 _, f1, bd_some] at head
        obtain ⟨M', g1, g2, g3, g4⟩ := f_leaveE (F_X6_leave (f + 1)) hs f3 f2 (hS.w f4)
        rw [lvA_1 hwh (by omega) e1]
        exact ⟨M', head _ g1, g2, g3, f4.tr g4⟩
    · obtain ⟨n1, en⟩ : ∃ n1, cN c = n1 + 1 := ⟨cN c - 1, by have := hc.1; omega⟩
      rw [hwh, if_neg (by decide), f_made hS.1, bd_some, nm_eq, en, show nI (n1 + 1) - 1 = nI n1 from nI_pred n1] at head
      obtain ⟨M', f1, f2⟩ := h_leave ih hs (by omega) (n1 - s) 100 g M (by omega) (by omega) hg hw hS
      rw [show s + (n1 - s) = n1 by omega] at f1
      rw [lvA_w hwh, show kids c s = kf c s (n1 - s) (s + 1) by unfold kids; rw [en, show n1 + 1 - (s + 1) = n1 - s by omega]]
      exact ⟨M', head _ f1, f2⟩
