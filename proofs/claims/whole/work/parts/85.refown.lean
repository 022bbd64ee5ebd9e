/-! The reference's taking of a rule, its own rules. -/
theorem t_enter {R : Mem} {c : Ch} {em lm : Nat → List Int32} {t sc : Nat} {now : Nat → Int32} {tr : List Int32} (tn : t < cN c) (sn : sc < cN c) (sw : cW c sc = false) (hg : nowOK c now) (hS : SD R c em lm) (hw : WR R c (now, tr)) {y : Nat} : ∀ (k x n : Nat), x ≤ k → x < cN c → x < n → twd c sc x = some y → ∃ R', H_X8_take_100 n (nI t) (nI sc) (nI x) R = some (nI (cD c sc), R') ∧ WR R' c (enA c em (some t) 9 y (upd now sc (nI y), tr)) ∧ nowOK c (enA c em (some t) 9 y (upd now sc (nI y), tr)).1 ∧ rfr R R' ∧ ∀ a, 26 ≤ a → R' a = R a := by
  have hc := hS.1.1
  have h14 := hc.n14
  intro k
  induction k with
  | zero =>
    intro x n hk hx hn hy
    have e : x = 0 := by omega
    subst e
    rw [twd_0] at hy; cases hy
  | succ k ih =>
    intro x n hk hx hn hy
    cases n with
    | zero => omega
    | succ n =>
      rcases Nat.eq_zero_or_pos x with q | q
      · subst q; rw [twd_0] at hy; cases hy
      · have hp := hc.par q hx
        have head : H_X8_take_100 (n + 1) (nI t) (nI sc) (nI x) R = if cP c x = sc then bd (F_X8_enter (nI x) (nI t) (set2 R 19 sc (nI x))) fun M_7 => gi 14 (nI sc) (some ((M_7 7 sc), M_7)) else H_X8_take_100 n (nI t) (nI sc) (nI (cP c x)) R := by
          show B_X8_take_100 _ _ _ _ _ = _
          unfold B_X8_take_100
          rw [gi_ok (show x < 14 by omega) (by decide), nI_clamp (n := x) (by omega), hS.1.2.2.2.1 x q hx]
          by_cases r : cP c x = sc
          · rw [if_pos (by rw [r]), if_pos r, gi_ok (show sc < 14 by omega) (by decide), nI_clamp (n := sc) (by omega), wr_eq]
          · rw [if_neg (fun z => r (nI_inj (by omega) (by omega) z)), if_neg r, gi_ok (show x < 14 by omega) (by decide), nm_eq]
        rw [head]
        by_cases r : cP c x = sc
        · rw [twd_hit q r] at hy
          have hxy : x = y := Option.some.inj hy
          subst hxy
          have hkid : x ∈ kids c sc := (kids_mem hc sn).mpr ⟨q, hx, r⟩
          have e1 : rfr R (set2 R 19 sc (nI x)) := rfr.set (by omega)
          obtain ⟨R', f1, f2, f3, f4, f5⟩ := g_enterF (em := em) (lm := lm) (t := some t) (g := (upd now sc (nI x), tr)) hx (fun k e => by cases e; exact tn) (hg.put sw hkid) (hS.w e1) hw.set
          rw [if_pos r, show nI t = oI (some t) from rfl, f1, bd_some, gi_ok (show sc < 14 by omega) (by decide), ((hS.w e1).w f4).1.2.2.2.2.1 sc sn]
          exact ⟨R', rfl, f2, f3, e1.tr f4, fun a ha => by rw [f5 a ha, set2_ne _ _ _ (by omega)]⟩
        · rw [if_neg r]
          rw [twd_up hc q hx r] at hy
          exact ih (cP c x) n (by omega) (by omega) (by omega) hy
theorem t_marks {c : Ch} {em lm : Nat → List Int32} {u : Ru} {r t sc y : Nat} (hr : r < rN u) (tn : t < cN c) (sn : sc < cN c) (sw : cW c sc = false) (hy : twd c sc t = some y) : ∀ (j i n : Nat) (R : Mem) (now : Nat → Int32) (tr : List Int32), i + j = (rM u r).length → j < n → nowOK c now → SD R c em lm → RD R c u → WR R c (now, tr) → ∃ R', H_X8_take_65 n (nI r) (nI t) (nI sc) (nI i) R = some (nI (cD c sc), R') ∧ WR R' c (enA c em (some t) 9 y (upd now sc (nI y), tr ++ (rM u r).drop i)) ∧ nowOK c (enA c em (some t) 9 y (upd now sc (nI y), tr ++ (rM u r).drop i)).1 ∧ rfr R R' ∧ ∀ a, 26 ≤ a → R' a = R a := by
  intro j
  induction j with
  | zero =>
    intro i n R now tr hi hn hg hS hR hw
    cases n with
    | zero => omega
    | succ n =>
      have h14 := hS.1.1.n14
      have h20 := hR.1.1
      obtain ⟨-, -, -, -, a5, a6, -⟩ := hR.2.2 r hr
      rw [List.drop_eq_nil_of_le (by omega), List.append_nil]
      obtain ⟨R', f1, f2⟩ := t_enter tn sn sw hg hS hw t t 100 (Nat.le_refl _) tn (by omega) hy
      refine ⟨R', ?_, f2⟩
      show B_X8_take_65 _ _ _ _ _ _ = _
      unfold B_X8_take_65
      rw [gi_ok (show r < 20 by omega) (by decide), nI_clamp (by omega), a5, if_pos (nI_le (by omega) (by omega))]
      exact f1
  | succ j ih =>
    intro i n R now tr hi hn hg hS hR hw
    cases n with
    | zero => omega
    | succ n =>
      have h20 := hR.1.1
      obtain ⟨-, -, -, -, a5, a6, a7⟩ := hR.2.2 r hr
      have hlt : i < (rM u r).length := by omega
      obtain ⟨b1, b2⟩ := a7 i hlt
      obtain ⟨R1, f1, f2, f3, f4, f5⟩ := g_put hw b2
      obtain ⟨R', g1, g2, g3, g4, g5⟩ := ih (i + 1) n R1 now _ (by omega) (by omega) hg (hS.w f3) (hR.w f3) f2
      rw [List.append_assoc] at g2 g3
      rw [drop_getD hlt]
      refine ⟨R', ?_, g2, g3, f3.tr g4, fun a ha => (g5 a ha).trans (f4 a (by omega))⟩
      show B_X8_take_65 _ _ _ _ _ _ = _
      unfold B_X8_take_65
      rw [gi_ok (show r < 20 by omega) (by decide), nI_clamp (n := r) (by omega), a5, if_neg (nI_ge hlt (by omega)), show (3 : Int32) = nI 3 from rfl, pk_mul, nI_add, gi_ok (show 3 * r + i < 60 by omega) (by decide), nI_clamp (by omega), b1, f1, bd_some, nm_eq, show nI i + 1 = nI (i + 1) from nI_1 i]
      exact g1
theorem t_scope {R : Mem} {c : Ch} (h : CD R c) {t : Nat} {r : Int32} (t0 : 0 < t) (tn : t < cN c) : ∀ (k p n : Nat), p ≤ k → p < cN c → p < n → H_X8_take_19 n r (nI t) (nI p) R = (gi 14 (nI (sp c t p p)) (bd (F_X8_leave (R 19 (sp c t p p)) R) fun M_7 => H_X8_take_65 100 r (nI t) (nI (sp c t p p)) (0 : Int32) M_7)) := by
  have h14 := h.1.n14
  have go : ∀ (n p : Nat), p < cN c → cW c p = false → p ≠ t → win c t p = true → H_X8_take_19 (n + 1) r (nI t) (nI p) R = (gi 14 (nI p) (bd (F_X8_leave (R 19 p) R) fun M_7 => H_X8_take_65 100 r (nI t) (nI p) (0 : Int32) M_7)) := by
    intro n p hp hw ht hwin
    show B_X8_take_19 _ _ _ _ _ = _
    unfold B_X8_take_19
    rw [gi_ok (show p < 14 by omega) (by decide), nI_clamp (by omega), h.2.2.2.2.2.1 p hp, hw, if_pos (by decide), if_neg (fun z => ht (nI_inj (by omega) (by omega) z)), g_within h hp tn, bd_some, hwin, if_neg (by decide)]
  intro k
  induction k with
  | zero =>
    intro p n hk hp hn
    have e : p = 0 := by omega
    subst e
    cases n with
    | zero => omega
    | succ n =>
      rw [sp_0]
      exact go n 0 hp h.1.2.2.2.1 (by omega) (win_top h.1 t t (Nat.le_refl _) tn)
  | succ k ih =>
    intro p n hk hp hn
    rcases Nat.eq_zero_or_pos p with e | e
    · exact ih p n (by omega) hp hn
    · cases n with
      | zero => omega
      | succ n =>
        have hq := h.1.par e hp
        have up : B_X8_take_42 (H_X8_take_19 n) r (nI t) (nI p) R = (gi 14 (nI (sp c t (cP c p) (cP c p))) (bd (F_X8_leave (R 19 (sp c t (cP c p) (cP c p))) R) fun M_7 => H_X8_take_65 100 r (nI t) (nI (sp c t (cP c p) (cP c p))) (0 : Int32) M_7)) := by
          unfold B_X8_take_42
          rw [gi_ok (show p < 14 by omega) (by decide), nm_eq, nI_clamp (by omega), h.2.2.2.1 p e hp]
          exact ih (cP c p) n (by omega) (by omega) (by omega)
        rw [sp_step h.1 e hp]
        by_cases z : cW c p = false ∧ (twd c p t).isSome = true
        · rw [if_pos z]
          obtain ⟨w1, w2⟩ := (twd_iff h.1 t t (Nat.le_refl _) tn).mp z.2
          exact go n p hp z.1 (fun e => w2 e.symm) w1
        · rw [if_neg z]
          show B_X8_take_19 _ _ _ _ _ = _
          unfold B_X8_take_19
          rw [gi_ok (show p < 14 by omega) (by decide), nI_clamp (by omega), h.2.2.2.2.2.1 p hp]
          cases hw : cW c p
          · rw [if_pos (by decide)]
            by_cases ept : p = t
            · rw [if_pos (by rw [ept])]; exact up
            · rw [if_neg (fun z => ept (nI_inj (by omega) (by omega) z)), g_within h hp tn, bd_some]
              have hwin : win c t p = false := by
                cases hb : win c t p
                · rfl
                · exact absurd ⟨hw, (twd_iff h.1 t t (Nat.le_refl _) tn).mpr ⟨hb, fun e => ept e.symm⟩⟩ z
              rw [hwin, if_pos (by decide)]; exact up
          · rw [if_neg (by decide)]; exact up
theorem g_take {R : Mem} {c : Ch} {em lm : Nat → List Int32} {u : Ru} {r : Nat} {g : Sg} (hr : r < rN u) (hg : nowOK c g.1) (hw : WR R c g) (hS : SD R c em lm) (hR : RD R c u) : ∃ R', F_X8_take (nI r) R = some (nI (tkA c em lm u r g).1, R') ∧ WR R' c (tkA c em lm u r g).2 ∧ nowOK c (tkA c em lm u r g).2.1 ∧ rfr R R' ∧ ∀ a, 27 ≤ a → R' a = R a := by
  have hc := hS.1.1
  have h14 := hc.n14
  have h20 := hR.1.1
  obtain ⟨a1, a2, a3, a4, a5, a6, a7⟩ := hR.2.2 r hr
  obtain ⟨b1, b2, b3, b4, b5, b6⟩ := hR.1.2 r hr
  obtain ⟨sn, sw, st⟩ := scp_ok hc b1 b2 b3 b4
  have hpf := hc.par b1 b2
  obtain ⟨sc, esc⟩ : ∃ sc, sc = scp c (rF u r) (rT u r) := ⟨_, rfl⟩
  have etk : tkA c em lm u r g = (cD c sc, enA c em (some (rT u r)) 9 ((twd c sc (rT u r)).getD 0) (upd (lvA c lm 9 (g.1 sc).toNatClampNeg g).1 sc (oI (twd c sc (rT u r))), (lvA c lm 9 (g.1 sc).toNatClampNeg g).2 ++ rM u r)) := by rw [esc]; rfl
  rw [etk]
  rw [← esc] at sn sw st
  obtain ⟨k, hk, ek⟩ := now_kid hc hg sn sw b4 st
  obtain ⟨k0, kn, kp, kd, -⟩ := kid_facts hc sn hk
  obtain ⟨y, ey⟩ : ∃ y, twd c sc (rT u r) = some y := by
    cases e : twd c sc (rT u r) with
    | none => rw [e] at st; cases st
    | some y => exact ⟨y, rfl⟩
  obtain ⟨R1, f1, f2, f3, f4, f5⟩ := g_leaveF (em := em) (lm := lm) kn hg hS hw
  obtain ⟨R', i1, i2, i3, i4, i5⟩ := t_marks (em := em) (lm := lm) hr b4 sn sw ey (rM u r).length 0 100 R1 (lvA c lm 9 k g).1 (lvA c lm 9 k g).2 (by omega) (by omega) f3 (hS.w f4) (hR.w f4) f2
  rw [List.drop_zero] at i2 i3
  rw [ek, nI_clamp (by omega), ey]
  refine ⟨R', ?_, i2, i3, f4.tr i4, fun a ha => (i5 a (by omega)).trans (f5 a ha)⟩
  unfold F_X8_take
  rw [gi_ok (show r < 20 by omega) (by decide), nm_eq, nI_clamp (n := r) (by omega), a3, gi_ok (show r < 20 by omega) (by decide), a2, gi_ok (show rF u r < 14 by omega) (by decide), nm_eq, nI_clamp (by omega), hS.1.2.2.2.1 _ b1 b2, t_scope hS.1 b3 b4 (cP c (rF u r)) (cP c (rF u r)) 100 (Nat.le_refl _) (by omega) (by omega)]
  rw [show sp c (rT u r) (cP c (rF u r)) (cP c (rF u r)) = sc from esc.symm, gi_ok (show sc < 14 by omega) (by decide), hw.1 sc sn, ek, f1, bd_some]
  exact i1
/-- a number of taking: none is 99 -/
def tk (l : Nat) : Nat := if l = 7 then 99 else l
theorem tk_min {a b : Nat} (ha : a ≤ 7) (hb : b ≤ 7) : min (tk a) (tk b) = tk (min a b) := by
  unfold tk
  by_cases p : a = 7 <;> by_cases q : b = 7 <;> simp only [p, q, if_true, if_false] <;> split <;> omega
def oT (c : Ch) (em lm : Nat → List Int32) (u : Ru) (o : Option Nat) (g : Sg) : Nat × Sg := match o with | none => (7, g) | some r => tkA c em lm u r g
theorem g_own {R : Mem} {c : Ch} {em lm : Nat → List Int32} {u : Ru} {s ev : Nat} {g : Sg} (hs : s < cN c) (he : ev < 6) (hg : nowOK c g.1) (hw : WR R c g) (hS : SD R c em lm) (hR : RD R c u) : ∀ (m r n : Nat), r + m = rN u → m < n → ∃ R', H_X8_own_2 n (nI s) (nI ev) (nI r) R = some (nI (tk (oT c em lm u (ow c u g.1 s ev m r) g).1), R') ∧ WR R' c (oT c em lm u (ow c u g.1 s ev m r) g).2 ∧ nowOK c (oT c em lm u (ow c u g.1 s ev m r) g).2.1 ∧ rfr R R' ∧ (∀ a, 27 ≤ a → R' a = R a) ∧ (oT c em lm u (ow c u g.1 s ev m r) g).1 ≤ 7 := by
  have hc := hS.1.1
  have h14 := hc.n14
  have h20 := hR.1.1
  intro m
  induction m with
  | zero =>
    intro r n hr hn
    cases n with
    | zero => omega
    | succ n =>
      refine ⟨R, ?_, hw, hg, rfr.rf, fun _ _ => rfl, Nat.le_refl _⟩
      show B_X8_own_2 _ _ _ _ _ = _
      unfold B_X8_own_2
      rw [hR.2.1, if_pos (nI_le (by omega) (by omega))]
      rfl
  | succ m ih =>
    intro r n hr hn
    cases n with
    | zero => omega
    | succ n =>
      have hrn : r < rN u := by omega
      obtain ⟨a1, a2, a3, a4, a5, a6, a7⟩ := hR.2.2 r hrn
      obtain ⟨b1, b2, b3, b4, b5, b6⟩ := hR.1.2 r hrn
      have next : B_X8_own_85 (H_X8_own_2 n) (nI s) (nI ev) (nI r) R = H_X8_own_2 n (nI s) (nI ev) (nI (r + 1)) R := by
        unfold B_X8_own_85
        rw [nm_eq, show nI r + 1 = nI (r + 1) from nI_1 r]
      have b52 : ∀ fl : Bool, B_X8_own_52 (H_X8_own_2 n) (nI s) (nI ev) (nI r) (bI fl) R = if rE u r = ev ∧ rF u r = s ∧ fl = true then bd2 (F_X8_take (nI r) R) (fun r_3 M_5 => some (r_3, M_5)) else H_X8_own_2 n (nI s) (nI ev) (nI (r + 1)) R := by
        intro fl
        unfold B_X8_own_52
        rw [gi_ok (show r < 20 by omega) (by decide), nI_clamp (by omega), a2]
        by_cases q2 : rF u r = s
        · rw [if_pos (by rw [q2]), gi_ok (show r < 20 by omega) (by decide), a1]
          by_cases q1 : rE u r = ev
          · rw [if_pos (by rw [q1])]
            cases fl
            · rw [if_pos (by decide), next, if_neg (fun z => by cases z.2.2)]
            · rw [if_neg (by decide), if_pos ⟨q1, q2, rfl⟩]
          · rw [if_neg (fun z => q1 (nI_inj (by omega) (by omega) z)), next, if_neg (fun z => q1 z.1)]
        · rw [if_neg (fun z => q2 (nI_inj (by omega) (by omega) z)), next, if_neg (fun z => q2 z.2.1)]
      have head : H_X8_own_2 (n + 1) (nI s) (nI ev) (nI r) R = B_X8_own_52 (H_X8_own_2 n) (nI s) (nI ev) (nI r) (bI (decide (act c g.1 (rA u r) = rW u r))) R := by
        show B_X8_own_2 _ _ _ _ _ = _
        unfold B_X8_own_2
        rw [hR.2.1, if_neg (nI_ge hrn (by omega)), gi_ok (show r < 20 by omega) (by decide), nI_clamp (by omega)]
        rcases a4 with ⟨w, x, y⟩ | ⟨w, x, y⟩ | ⟨w, x, y⟩
        · rw [w, if_pos (by decide), x, y, act_0]; rfl
        · rw [w, if_neg (by decide), gi_ok (show r < 20 by omega) (by decide), x, g_active hS.1 hw.1 b5, bd_some, gi_ok (show r < 20 by omega) (by decide), if_pos (by decide), y]
          unfold B_X8_own_44
          cases act c g.1 (rA u r)
          · rw [if_neg (by decide)]; rfl
          · rw [if_pos (by decide)]; rfl
        · rw [w, if_neg (by decide), gi_ok (show r < 20 by omega) (by decide), x, g_active hS.1 hw.1 b5, bd_some, gi_ok (show r < 20 by omega) (by decide), if_neg (by decide), y]
          unfold B_X8_own_44
          cases act c g.1 (rA u r)
          · rw [if_pos (by decide)]; rfl
          · rw [if_neg (by decide)]; rfl
      rw [head, b52]
      simp only [ow]
      by_cases q : rE u r = ev ∧ rF u r = s ∧ act c g.1 (rA u r) = rW u r
      · rw [if_pos ⟨q.1, q.2.1, by simp [q.2.2]⟩, if_pos q]
        obtain ⟨R', f1, f2, f3, f4, f5⟩ := g_take hrn hg hw hS hR
        have hd := hc.dep6 (scp_ok hc b1 b2 b3 b4).1
        have e : tk (tkA c em lm u r g).1 = (tkA c em lm u r g).1 := by
          unfold tk
          rw [if_neg (show ¬ (tkA c em lm u r g).1 = 7 from fun z => by have z2 : cD c (scp c (rF u r) (rT u r)) = 7 := z; omega)]
        refine ⟨R', ?_, f2, f3, f4, f5, show cD c (scp c (rF u r) (rT u r)) ≤ 7 by omega⟩
        rw [f1, bd2_some]
        show some (nI (tkA c em lm u r g).1, R') = some (nI (tk (tkA c em lm u r g).1), R')
        rw [e]
      · rw [if_neg (fun z => q ⟨z.1, z.2.1, by simpa using z.2.2⟩), if_neg q]
        exact ih (r + 1) n (by omega) (by omega)
