/-! Taking a rule, offering an event; the class's. -/
def tkA (c : Ch) (em lm : Nat → List Int32) (u : Ru) (r : Nat) (g : Sg) : Nat × Sg :=
  (cD c (scp c (rF u r) (rT u r)), enA c em (some (rT u r)) 9 ((twd c (scp c (rF u r) (rT u r)) (rT u r)).getD 0) (upd (lvA c lm 9 (g.1 (scp c (rF u r) (rT u r))).toNatClampNeg g).1 (scp c (rF u r) (rT u r)) (oI (twd c (scp c (rF u r) (rT u r)) (rT u r))), (lvA c lm 9 (g.1 (scp c (rF u r) (rT u r))).toNatClampNeg g).2 ++ rM u r))
def ofL (rec : Nat → Sg → Nat × Sg) (d : Nat) : List Nat → Nat → Sg → Nat × Sg
  | [], l, g => (l, g)
  | k :: ks, l, g => if l ≤ d then (l, g) else ofL rec d ks (min (rec k g).1 l) (rec k g).2
/-- the state's own rules are looked at -/
def ofE (c : Ch) (em lm : Nat → List Int32) (u : Ru) (ev s : Nat) (q : Nat × Sg) : Nat × Sg := if q.1 = 7 then (match own c u q.2.1 s ev with | none => (7, q.2) | some r => tkA c em lm u r q.2) else q
def ofA (c : Ch) (em lm : Nat → List Int32) (u : Ru) (ev : Nat) : Nat → Nat → Sg → Nat × Sg
  | 0, _, g => (7, g)
  | f + 1, s, g => ofE c em lm u ev s (if cW c s = true then ofL (ofA c em lm u ev f) (cD c s) (kids c s) 7 g else if g.1 s = -1 then (7, g) else ofA c em lm u ev f (g.1 s).toNatClampNeg g)
theorem ofL_stop {rec : Nat → Sg → Nat × Sg} {d l : Nat} {g : Sg} (h : l ≤ d) : ∀ ks, ofL rec d ks l g = (l, g)
  | [] => rfl
  | k :: ks => by simp only [ofL]; rw [if_pos h]
/-- the scope's current child is a child -/
theorem now_kid {c : Ch} (h : wf c) {now : Nat → Int32} (hg : nowOK c now) {s t : Nat} (hs : s < cN c) (hw : cW c s = false) (tn : t < cN c) (ht : (twd c s t).isSome = true) : ∃ k, k ∈ kids c s ∧ now s = nI k := by
  cases e : twd c s t with
  | none => rw [e] at ht; cases ht
  | some y =>
    obtain ⟨y0, yn, yp, -⟩ := twd_some h t t y (Nat.le_refl _) tn e
    have hy : y ∈ kids c s := (kids_mem h hs).mpr ⟨y0, yn, yp⟩
    rcases (hg s).1 hs with ⟨-, q⟩ | ⟨-, k, hk, e1⟩
    · rcases q with q | q
      · rw [hw] at q; cases q
      · rw [q] at hy; cases hy
    · exact ⟨k, hk, e1⟩
theorem f_take {M : Mem} {c : Ch} {em lm : Nat → List Int32} {u : Ru} {row r : Nat} {g : Sg} (hr : r < rN u) (hg : nowOK c g.1) (hw : WK M row g) (hS : SC M c em lm) (hR : RC M c u) : ∃ M', F_X6_take (nI r) M = some (nI (tkA c em lm u r g).1, M') ∧ WK M' row (tkA c em lm u r g).2 ∧ nowOK c (tkA c em lm u r g).2.1 ∧ sW row M M' := by
  have hc := hS.1.1
  have h14 := hc.n14
  have h20 := hR.1.1
  obtain ⟨a1, a2, a3, a4, a5, a6, a7⟩ := hR.2.2 r hr
  obtain ⟨b1, b2, b3, b4, b5, b6⟩ := hR.1.2 r hr
  obtain ⟨sn, sw, st⟩ := scp_ok hc b1 b2 b3 b4
  obtain ⟨sc, esc⟩ : ∃ sc, sc = scp c (rF u r) (rT u r) := ⟨_, rfl⟩
  have etk : tkA c em lm u r g = (cD c sc, enA c em (some (rT u r)) 9 ((twd c sc (rT u r)).getD 0) (upd (lvA c lm 9 (g.1 sc).toNatClampNeg g).1 sc (oI (twd c sc (rT u r))), (lvA c lm 9 (g.1 sc).toNatClampNeg g).2 ++ rM u r)) := by rw [esc]; rfl
  rw [etk]
  rw [← esc] at a4 sn sw st
  obtain ⟨k, hk, ek⟩ := now_kid hc hg sn sw b4 st
  obtain ⟨k0, kn, kp, kd, -⟩ := kid_facts hc sn hk
  obtain ⟨y, ey⟩ : ∃ y, twd c sc (rT u r) = some y := by
    cases e : twd c sc (rT u r) with
    | none => rw [e] at st; cases st
    | some y => exact ⟨y, rfl⟩
  obtain ⟨y0, yn, yp, -⟩ := twd_some hc _ _ y (Nat.le_refl _) b4 ey
  have hy : y ∈ kids c sc := (kids_mem hc sn).mpr ⟨y0, yn, yp⟩
  have yd : cD c y = cD c sc + 1 := (kid_facts hc sn hy).2.2.2.1
  obtain ⟨M1, f1, f2, f3, f4⟩ := f_leave (row := row) hc 9 k g M kn (by omega) hg hw hS
  have hS1 := hS.w f4
  have hR1 := hR.w f4
  obtain ⟨M2, g1, g2, g3⟩ := f_addRow (o2 := 26) (s := r) hS1.2.1 hS1.2.2.2.2.1 rfl rfl (by omega) (by omega) (by omega) f2.2.1 (show r < 20 by omega) f2.2.2.2 (hR1.2.2 r hr).2.2.2.2.2.2
  have w2 : WK M2 row ((lvA c lm 9 k g).1, (lvA c lm 9 k g).2 ++ rM u r) := WK.row (tr := (lvA c lm 9 k g).2) f2 g3 g2
  have hS2 := hS1.w g3.w
  have w3 : WK (set2 M2 35 sc (nI y)) row (upd (lvA c lm 9 k g).1 sc (nI y), (lvA c lm 9 k g).2 ++ rM u r) := w2.set
  have hS3 : SC (set2 M2 35 sc (nI y)) c em lm := hS2.w (row := row) sW.set
  obtain ⟨M4, i1, i2, i3, i4⟩ := f_enter (em := em) (lm := lm) (t := some (rT u r)) (row := row) hc (fun q e => by cases e; exact b4) 9 y (upd (lvA c lm 9 k g).1 sc (nI y), (lvA c lm 9 k g).2 ++ rM u r) _ yn (by omega) (f3.put sw hy) w3 hS3
  rw [ek, nI_clamp (by omega), ey]
  refine ⟨M4, ?_, i2, i3, f4.tr (g3.w.tr (sW.set.tr i4))⟩
  unfold F_X6_take F_X3_scopeOf F_X3_targetOf
  rw [f_isRule hR hr, bd_some, if_neg (by decide), bd_some, if_neg (by decide), gi_ok (show r < 20 by omega) (by decide), nI_clamp (by omega), a4, bd_some, bd_some, if_neg (by decide), gi_ok (show r < 20 by omega) (by decide), a3, bd_some, f_depthOf hS.1 sn, bd_some, f_currentChild (by omega), bd_some, hw.2.2.1 sc (by omega), ek, show nI (cD c sc) + 1 = nI (cD c k) by rw [kd]; exact nI_1 _, f1, bd_some, f2.1, g1, bd_some, f_childToward hS2.1 sn b4, bd_some, ey, f_makeCurrent (by omega), bd_some, f_currentChild (by omega), bd_some, show oI (some y) = nI y from rfl, s2_hit, show nI (cD c k) = nI (cD c y) by rw [kd, yd]]
  rw [show nI (rT u r) = oI (some (rT u r)) from rfl, i1, bd_some]
theorem f_take_m1 {M : Mem} : F_X6_take (-1) M = some (7, M) := by
  unfold F_X6_take
  rw [f_isRule_m1, bd_some, if_pos rfl]
theorem f_offerE {M : Mem} {c : Ch} {em lm : Nat → List Int32} {u : Ru} {row s ev : Nat} {q : Nat × Sg} (rec : Int32 → Int32 → Int32 → Mem → Option (Int32 × Mem)) (hs : s < cN c) (he : ev < 6) (h7 : q.1 ≤ 7) (hg : nowOK c q.2.1) (hw : WK M row q.2) (hS : SC M c em lm) (hR : RC M c u) : ∃ M', B_X6_offer_112 rec (nI s) (nI ev) (nI q.1) M = some (nI (ofE c em lm u ev s q).1, M') ∧ WK M' row (ofE c em lm u ev s q).2 ∧ nowOK c (ofE c em lm u ev s q).2.1 ∧ sW row M M' ∧ (ofE c em lm u ev s q).1 ≤ 7 := by
  unfold B_X6_offer_112 ofE
  by_cases e : q.1 = 7
  · rw [if_pos e, if_pos (show nI q.1 = 7 by rw [e]; rfl), f_ownRule hS.1 hR hw.2.2.1 hs he, bd_some]
    cases ho : own c u q.2.1 s ev with
    | none =>
      rw [show oI none = -1 from rfl, f_take_m1, bd2_some]
      exact ⟨M, rfl, hw, hg, sW.rf, Nat.le_refl _⟩
    | some r =>
      obtain ⟨-, hr, -⟩ := ow_some _ _ _ ho
      obtain ⟨M', f1, f2, f3, f4⟩ := f_take (r := r) (by omega) hg hw hS hR
      rw [show oI (some r) = nI r from rfl, f1, bd2_some]
      refine ⟨M', rfl, f2, f3, f4, ?_⟩
      obtain ⟨b1, b2, b3, b4, -⟩ := hR.1.2 r (by omega)
      have := hS.1.1.dep6 (scp_ok hS.1.1 b1 b2 b3 b4).1
      show cD c (scp c (rF u r) (rT u r)) ≤ 7
      omega
  · rw [if_neg e, if_neg (show ¬ nI q.1 = (7 : Int32) from fun z => e (nI_inj (by omega) (by omega) (show nI q.1 = nI 7 from z)))]
    exact ⟨M, rfl, hw, hg, sW.rf, h7⟩
def OfOK (c : Ch) (em lm : Nat → List Int32) (u : Ru) (ev row f : Nat) : Prop := ∀ (s : Nat) (g : Sg) (M : Mem), s < cN c → 7 ≤ f + cD c s → nowOK c g.1 → WK M row g → SC M c em lm → RC M c u → ∃ M', F_X6_offer (f + 1) (nI s) (nI ev) (nI (cD c s)) M = some (nI (ofA c em lm u ev f s g).1, M') ∧ WK M' row (ofA c em lm u ev f s g).2 ∧ nowOK c (ofA c em lm u ev f s g).2.1 ∧ sW row M M' ∧ (ofA c em lm u ev f s g).1 ≤ 7
theorem f_offer_m1 {M : Mem} {t d : Int32} (n : Nat) : F_X6_offer (n + 1) (-1) t d M = some (7, M) := by
  show B_X6_offer_e _ _ _ _ _ = _
  unfold B_X6_offer_e
  rw [f_isState_m1, bd_some, if_pos rfl]
theorem h_offer {c : Ch} {em lm : Nat → List Int32} {u : Ru} {ev row f s : Nat} (hr : OfOK c em lm u ev row f) (he : ev < 6) (hs : s < cN c) (hf : 6 ≤ f + cD c s) : ∀ (m k n l : Nat) (g : Sg) (M : Mem), k + m = cN c → 0 < k → m < n → l ≤ 7 → nowOK c g.1 → WK M row g → SC M c em lm → RC M c u → ∃ M', H_X6_offer_40 (F_X6_offer (f + 1)) n (nI s) (nI ev) (nI (cD c s)) (nI l) (nI k) M = some (nI (ofE c em lm u ev s (ofL (ofA c em lm u ev f) (cD c s) (kf c s m k) l g)).1, M') ∧ WK M' row (ofE c em lm u ev s (ofL (ofA c em lm u ev f) (cD c s) (kf c s m k) l g)).2 ∧ nowOK c (ofE c em lm u ev s (ofL (ofA c em lm u ev f) (cD c s) (kf c s m k) l g)).2.1 ∧ sW row M M' ∧ (ofE c em lm u ev s (ofL (ofA c em lm u ev f) (cD c s) (kf c s m k) l g)).1 ≤ 7 := by
  intro m
  induction m with
  | zero =>
    intro k n l g M hk h0 hn hl hg hw hS hR
    cases n with
    | zero => omega
    | succ n =>
      have h14 := hS.1.1.n14
      obtain ⟨M', f1, f2⟩ := f_offerE (q := (l, g)) (F_X6_offer (f + 1)) hs he hl hg hw hS hR
      refine ⟨M', ?_, f2⟩
      show B_X6_offer_40 _ _ _ _ _ _ _ _ = _
      unfold B_X6_offer_40
      rw [f_made hS.1, bd_some, if_pos (nI_le (by omega) (by omega))]
      exact f1
  | succ m ih =>
    intro k n l g M hk h0 hn hl hg hw hS hR
    cases n with
    | zero => omega
    | succ n =>
      have h14 := hS.1.1.n14
      have hkn : k < cN c := by omega
      have hd6 := hS.1.1.dep6 hs
      by_cases hst : l ≤ cD c s
      · obtain ⟨M', f1, f2⟩ := f_offerE (q := (l, g)) (F_X6_offer (f + 1)) hs he hl hg hw hS hR
        rw [ofL_stop hst]
        refine ⟨M', ?_, f2⟩
        show B_X6_offer_40 _ _ _ _ _ _ _ _ = _
        unfold B_X6_offer_40
        rw [f_made hS.1, bd_some, if_neg (nI_ge hkn (by omega)), if_pos (nI_le hst (by omega))]
        exact f1
      · have step : ∀ (M1 : Mem) (l1 : Nat) (g1 : Sg), l1 ≤ 7 → nowOK c g1.1 → WK M1 row g1 → SC M1 c em lm → RC M1 c u → ∃ M', B_X6_offer_88 (F_X6_offer (f + 1)) (H_X6_offer_40 (F_X6_offer (f + 1)) n) (nI s) (nI ev) (nI (cD c s)) (nI l1) (nI k) M1 = some (nI (ofE c em lm u ev s (ofL (ofA c em lm u ev f) (cD c s) (kf c s m (k + 1)) l1 g1)).1, M') ∧ WK M' row (ofE c em lm u ev s (ofL (ofA c em lm u ev f) (cD c s) (kf c s m (k + 1)) l1 g1)).2 ∧ nowOK c (ofE c em lm u ev s (ofL (ofA c em lm u ev f) (cD c s) (kf c s m (k + 1)) l1 g1)).2.1 ∧ sW row M1 M' ∧ (ofE c em lm u ev s (ofL (ofA c em lm u ev f) (cD c s) (kf c s m (k + 1)) l1 g1)).1 ≤ 7 := by
          intro M1 l1 g1 a0 a1 a2 a3 a4
          obtain ⟨M', f1, f2⟩ := ih (k + 1) n l1 g1 M1 (by omega) (by omega) (by omega) a0 a1 a2 a3 a4
          refine ⟨M', ?_, f2⟩
          unfold B_X6_offer_88
          rw [nm_eq, show nI k + 1 = nI (k + 1) from nI_1 k]
          exact f1
        by_cases q : cP c k = s
        · have hd : cD c k = cD c s + 1 := by rw [hS.1.1.dep h0 hkn, q]
          obtain ⟨M1, f1, f2, f3, f4, f5⟩ := hr k g M hkn (by omega) hg hw hS hR
          obtain ⟨M', g1, g2, g3, g4, g5⟩ := step M1 (min (ofA c em lm u ev f k g).1 l) _ (by omega) f3 f2 (hS.w f4) (hR.w f4)
          have e : ofL (ofA c em lm u ev f) (cD c s) (kf c s (m + 1) k) l g = ofL (ofA c em lm u ev f) (cD c s) (kf c s m (k + 1)) (min (ofA c em lm u ev f k g).1 l) (ofA c em lm u ev f k g).2 := by
            simp only [kf]; rw [if_pos q]; simp only [ofL]; rw [if_neg hst]
          rw [e]
          refine ⟨M', ?_, g2, g3, f4.tr g4, g5⟩
          show B_X6_offer_40 _ _ _ _ _ _ _ _ = _
          unfold B_X6_offer_40
          rw [f_made hS.1, bd_some, if_neg (nI_ge hkn (by omega)), if_neg (nI_ge (show cD c s < l by omega) (by omega)), f_parentOf hS.1 h0 hkn, bd_some, if_pos (by rw [q]), show nI (cD c s) + 1 = nI (cD c k) by rw [hd]; exact nI_1 _, f1, bd2_some, nm_eq]
          have em : (if nI (ofA c em lm u ev f k g).1 < nI l then nI (ofA c em lm u ev f k g).1 else nI l) = nI (min (ofA c em lm u ev f k g).1 l) := by
            by_cases z : (ofA c em lm u ev f k g).1 < l
            · rw [if_pos (nI_lt z (by omega)), show min (ofA c em lm u ev f k g).1 l = (ofA c em lm u ev f k g).1 by omega]
            · rw [if_neg (nI_nlt (by omega) (by omega)), show min (ofA c em lm u ev f k g).1 l = l by omega]
          rw [em]
          exact g1
        · obtain ⟨M', g1, g2, g3, g4, g5⟩ := step M l g hl hg hw hS hR
          have hp := hS.1.1.par h0 hkn
          have e : ofL (ofA c em lm u ev f) (cD c s) (kf c s (m + 1) k) l g = ofL (ofA c em lm u ev f) (cD c s) (kf c s m (k + 1)) l g := by
            simp only [kf]; rw [if_neg q]
          rw [e]
          refine ⟨M', ?_, g2, g3, g4, g5⟩
          show B_X6_offer_40 _ _ _ _ _ _ _ _ = _
          unfold B_X6_offer_40
          rw [f_made hS.1, bd_some, if_neg (nI_ge hkn (by omega)), if_neg (nI_ge (show cD c s < l by omega) (by omega)), f_parentOf hS.1 h0 hkn, bd_some, if_neg (fun z => q (nI_inj (by omega) (by omega) z))]
          exact g1
theorem f_offer {c : Ch} {em lm : Nat → List Int32} {u : Ru} {ev row : Nat} (hc : wf c) (he : ev < 6) : ∀ f, OfOK c em lm u ev row f := by
  intro f
  induction f with
  | zero =>
    intro s g M hs hf hg hw hS hR
    have := hc.dep6 hs
    omega
  | succ f ih =>
    intro s g M hs hf hg hw hS hR
    have h14 := hc.n14
    have hd6 := hc.dep6 hs
    have head : ∀ R, (bd (F_X4_isWhole (nI s) M) fun r_3 => (if r_3 = (0 : Int32) then bd (F_X6_currentChild (nI s) M) fun r_5 => bd2 (F_X6_offer (f + 1) r_5 (nI ev) (nI (cD c s) + (1 : Int32)) M) fun r_7 M_9 => B_X6_offer_112 (F_X6_offer (f + 1)) (nI s) (nI ev) r_7 M_9 else nm (nI s + (1 : Int32)) fun x5_10 => H_X6_offer_40 (F_X6_offer (f + 1)) 100 (nI s) (nI ev) (nI (cD c s)) (7 : Int32) x5_10 M)) = R → F_X6_offer (f + 1 + 1) (nI s) (nI ev) (nI (cD c s)) M = R := by
      intro R hR
      show B_X6_offer_e _ _ _ _ _ = _
      unfold B_X6_offer_e
      rw [f_isState hS.1 hs, bd_some, if_neg (by decide), if_pos (show nI (cD c s) ≤ 6 from nI_le (b := 6) hd6 (by omega))]
      exact hR
    rw [f_isWhole hS.1 hs, bd_some] at head
    cases hwh : cW c s
    · rw [hwh, if_pos (by decide), f_currentChild (by omega), bd_some, hw.2.2.1 s (by omega)] at head
      rcases (hg s).1 hs with ⟨e1, -⟩ | ⟨-, k, hk, e1⟩
      · rw [e1, f_offer_m1, bd2_some] at head
        obtain ⟨M', f1, f2⟩ := f_offerE (q := (7, g)) (F_X6_offer (f + 1)) hs he (Nat.le_refl _) hg hw hS hR
        have e : ofA c em lm u ev (f + 1) s g = ofE c em lm u ev s (7, g) := by
          simp only [ofA]; rw [if_neg (show ¬ cW c s = true by rw [hwh]; decide), if_pos e1]
        rw [e]
        exact ⟨M', head _ f1, f2⟩
      · obtain ⟨k0, kn, kp, kd, -⟩ := kid_facts hc hs hk
        obtain ⟨M1, f1, f2, f3, f4, f5⟩ := ih k g M kn (by omega) hg hw hS hR
        rw [e1, show nI (cD c s) + 1 = nI (cD c k) by rw [kd]; exact nI_1 _, f1, bd2_some] at head
        obtain ⟨M', g1, g2, g3, g4, g5⟩ := f_offerE (q := ofA c em lm u ev f k g) (F_X6_offer (f + 1)) hs he f5 f3 f2 (hS.w f4) (hR.w f4)
        have e : ofA c em lm u ev (f + 1) s g = ofE c em lm u ev s (ofA c em lm u ev f k g) := by
          simp only [ofA]; rw [if_neg (show ¬ cW c s = true by rw [hwh]; decide), e1, if_neg (nI_ne_m1 (by omega)), nI_clamp (by omega)]
        rw [e]
        exact ⟨M', head _ g1, g2, g3, f4.tr g4, g5⟩
    · rw [hwh, if_neg (by decide), nm_eq, show nI s + 1 = nI (s + 1) from nI_1 s] at head
      obtain ⟨M', f1, f2⟩ := h_offer ih he hs (by omega) (cN c - (s + 1)) (s + 1) 100 7 g M (by omega) (by omega) (by omega) (Nat.le_refl _) hg hw hS hR
      have e : ofA c em lm u ev (f + 1) s g = ofE c em lm u ev s (ofL (ofA c em lm u ev f) (cD c s) (kids c s) 7 g) := by
        simp only [ofA]; rw [if_pos hwh]
      rw [e]
      exact ⟨M', head _ f1, f2⟩
