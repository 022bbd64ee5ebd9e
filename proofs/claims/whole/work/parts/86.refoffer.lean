/-! The reference's offering, with its stack of frames, is the recursion. -/
def Ko : Nat → Nat
  | 0 => 0
  | f + 1 => 1 + 14 * (1 + Ko f)
theorem tk_le {l d : Nat} (hd : d ≤ 6) : tk l ≤ d ↔ l ≤ d := by
  unfold tk
  by_cases q : l = 7
  · rw [if_pos q]; omega
  · rw [if_neg q]
theorem tk_31 {l : Nat} (h : l ≤ 7) : tk l ≤ 99 := by unfold tk; split <;> omega
/-- the frames below p stay, but that the last one's number may fall -/
def frF (p l1 : Nat) (R R' : Mem) : Prop := (∀ i, i < p → R' 27 i = R 27 i ∧ R' 28 i = R 28 i) ∧ (∀ i, i + 1 < p → R' 29 i = R 29 i) ∧ (0 < p → R' 29 (p - 1) = nI (tk l1))
/-- a frame is over -/
theorem o_fin {c : Ch} {em lm : Nat → List Int32} {u : Ru} {s ev p l l0 : Nat} {g : Sg} {R : Mem} (hs : s < cN c) (he : ev < 6) (hp : p ≤ 6) (hl : l ≤ 7) (h0 : l0 ≤ 7) (hg : nowOK c g.1) (hw : WR R c g) (hS : SD R c em lm) (hR : RD R c u) (ht : R 29 p = nI (tk l)) (hb : 0 < p → R 29 (p - 1) = nI (tk l0)) : ∃ R', (∀ kh24 : Int32 → Int32 → Mem → Option Mem, B_X8_offer_93 kh24 (nI ev) (nI (p + 1)) (nI s) (-1) R = kh24 (nI ev) (nI p) R') ∧ WR R' c (ofE c em lm u ev s (l, g)).2 ∧ nowOK c (ofE c em lm u ev s (l, g)).2.1 ∧ (ofE c em lm u ev s (l, g)).1 ≤ 7 ∧ rfr R R' ∧ frF p (min (ofE c em lm u ev s (l, g)).1 l0) R R' := by
  have hl9 := tk_31 hl
  have hl09 := tk_31 h0
  -- the end, for any number that is taken
  have fin : ∀ (R1 : Mem) (v : Nat), v ≤ 7 → R1 29 p = nI (tk v) → (0 < p → R1 29 (p - 1) = nI (tk l0)) → ∃ R', (∀ kh24 : Int32 → Int32 → Mem → Option Mem, B_X8_offer_166 kh24 (nI ev) (nI (p + 1)) R1 = kh24 (nI ev) (nI p) R') ∧ (∀ a, a ≠ 29 → R' a = R1 a) ∧ (∀ i, i + 1 < p → R' 29 i = R1 29 i) ∧ (0 < p → R' 29 (p - 1) = nI (tk (min v l0))) := by
    intro R1 v hv e1 e2
    have hv9 := tk_31 hv
    rcases Nat.eq_zero_or_pos p with q | q
    · subst q
      refine ⟨R1, fun kh24 => ?_, fun _ _ => rfl, fun _ _ => rfl, fun z => by omega⟩
      unfold B_X8_offer_166 B_X8_offer_204
      rw [nm_eq, show nI (0 + 1) + -1 = nI 0 from pk_m1 0, if_pos (by decide)]
    · obtain ⟨p1, ep⟩ : ∃ p1, p = p1 + 1 := ⟨p - 1, by omega⟩
      have e2' := e2 q
      rw [ep, show p1 + 1 - 1 = p1 by omega] at e2'
      have hm := tk_min hv h0
      have head : ∀ kh24 : Int32 → Int32 → Mem → Option Mem, B_X8_offer_166 kh24 (nI ev) (nI (p + 1)) R1 = if tk l0 ≤ tk v then kh24 (nI ev) (nI p) R1 else kh24 (nI ev) (nI p) (set2 R1 29 p1 (nI (tk v))) := by
        intro kh24
        unfold B_X8_offer_166 B_X8_offer_204
        rw [nm_eq, show nI (p + 1) + -1 = nI p from pk_m1 p, if_neg (nI_nle q (by omega)), gi_ok (show p < 10 by omega) (by decide), show nI p - 1 = nI p1 by rw [ep]; exact nI_pred p1, gi_ok (show p1 < 10 by omega) (by decide), nI_clamp (n := p1) (by omega), nI_clamp (n := p) (by omega), e2', e1, gi_ok (show p < 10 by omega) (by decide), gi_ok (show p1 < 10 by omega) (by decide), wr_eq]
        by_cases z : tk l0 ≤ tk v
        · rw [if_pos z, if_pos (nI_le z (by omega))]
        · rw [if_neg z, if_neg (nI_ge (by omega) (by omega))]
      rw [ep, show p1 + 1 - 1 = p1 by omega]
      rw [ep] at head
      by_cases z : tk l0 ≤ tk v
      · refine ⟨R1, fun kh24 => by rw [head kh24, if_pos z], fun _ _ => rfl, fun _ _ => rfl, fun _ => ?_⟩
        rw [e2', ← hm, show min (tk v) (tk l0) = tk l0 by omega]
      · refine ⟨set2 R1 29 p1 (nI (tk v)), fun kh24 => by rw [head kh24, if_neg z], fun a ha => set2_ne _ _ _ ha, fun i hi => s2_pl _ _ _ (by omega), fun _ => ?_⟩
        rw [s2_hit, ← hm, show min (tk v) (tk l0) = tk v by omega]
  by_cases e7 : l = 7
  · subst e7
    obtain ⟨R1, f1, f2, f3, f4, f5, f6⟩ := g_own hs he hg hw hS hR (rN u) 0 100 (by omega) (by have := hR.1.1; omega)
    have eo : ofE c em lm u ev s (7, g) = oT c em lm u (ow c u g.1 s ev (rN u) 0) g := by
      unfold ofE oT own
      rw [if_pos rfl]
      dsimp only
      cases ow c u g.1 s ev (rN u) 0 <;> rfl
    rw [eo]
    obtain ⟨R', g1, g2, g3, g4⟩ := fin (set2 R1 29 p (nI (tk (oT c em lm u (ow c u g.1 s ev (rN u) 0) g).1))) _ f6 (s2_hit _ _ _ _) (fun q => by rw [s2_pl _ _ _ (by omega), f5 29 (by omega)]; exact hb q)
    have e27 : ∀ a, a ≠ 29 → R' a = R1 a := fun a ha => by rw [g2 a ha, set2_ne _ _ _ ha]
    refine ⟨R', fun kh24 => ?_, f2.keep (e27 19 (by decide)) (e27 20 (by decide)) (by rw [e27 0 (by decide)]), f3, f6, f4.tr ⟨fun a x y => e27 a (by omega), fun j x => by rw [e27 0 (by decide)]⟩, fun i hi => ⟨by rw [e27 27 (by decide), f5 27 (by omega)], by rw [e27 28 (by decide), f5 28 (by omega)]⟩, fun i hi => by rw [g3 i hi, s2_pl _ _ _ (by omega), f5 29 (by omega)], g4⟩
    unfold B_X8_offer_93 F_X8_own
    rw [if_pos m1_lt0, show nI (p + 1) - 1 = nI p from nI_pred p, gi_ok (show p < 10 by omega) (by decide), nI_clamp (by omega), ht, if_pos (by decide), show (0 : Int32) = nI 0 from rfl, f1, bd2_some, gi_ok (show p < 10 by omega) (by decide), wr_eq]
    exact g1 kh24
  · have eo : ofE c em lm u ev s (l, g) = (l, g) := by unfold ofE; rw [if_neg e7]
    rw [eo]
    obtain ⟨R', g1, g2, g3, g4⟩ := fin R l hl ht hb
    refine ⟨R', fun kh24 => ?_, hw.keep (g2 19 (by decide)) (g2 20 (by decide)) (by rw [g2 0 (by decide)]), hg, hl, ⟨fun a x y => g2 a (by omega), fun j x => by rw [g2 0 (by decide)]⟩, fun i hi => ⟨by rw [g2 27 (by decide)], by rw [g2 28 (by decide)]⟩, g3, g4⟩
    unfold B_X8_offer_93
    rw [if_pos m1_lt0, show nI (p + 1) - 1 = nI p from nI_pred p, gi_ok (show p < 10 by omega) (by decide), nI_clamp (by omega), ht, if_neg (show ¬ nI (tk l) = (99 : Int32) from fun z => by
      have z2 := nI_inj (b := 99) (by omega) (by omega) z
      unfold tk at z2
      rw [if_neg e7] at z2
      omega)]
    exact g1 kh24
theorem g_following {R : Mem} {c : Ch} (h : CD R c) {s : Nat} (hs : s < cN c) : ∀ (m k n : Nat), k + m = cN c → 0 < k → m < n → H_X8_following_38 R n (nI s) (nI k) = some (match kf c s m k with | [] => -1 | y :: _ => nI y) := by
  have h14 := h.1.n14
  intro m
  induction m with
  | zero =>
    intro k n hk h0 hn
    cases n with
    | zero => omega
    | succ n =>
      show B_X8_following_38 _ _ _ _ = _
      unfold B_X8_following_38
      rw [h.2.1, if_pos (nI_le (by omega) (by omega))]
      rfl
  | succ m ih =>
    intro k n hk h0 hn
    cases n with
    | zero => omega
    | succ n =>
      have hkn : k < cN c := by omega
      have hp := h.1.par h0 hkn
      show B_X8_following_38 _ _ _ _ = _
      unfold B_X8_following_38
      rw [h.2.1, if_neg (nI_ge hkn (by omega)), gi_ok (show k < 14 by omega) (by decide), nI_clamp (by omega), h.2.2.2.1 k h0 hkn]
      simp only [kf]
      by_cases q : cP c k = s
      · rw [if_pos (by rw [q]), if_pos q]
      · rw [if_neg (fun z => q (nI_inj (by omega) (by omega) z)), if_neg q, nm_eq, show nI k + 1 = nI (k + 1) from nI_1 k]
        exact ih (k + 1) n (by omega) (by omega) (by omega)
theorem kf_head {c : Ch} {s y : Nat} {l : List Nat} : ∀ (m k : Nat), kf c s m k = y :: l → ∃ m', y + 1 + m' = k + m ∧ l = kf c s m' (y + 1) ∧ k ≤ y ∧ cP c y = s
  | 0, k, h => by cases h
  | m + 1, k, h => by
    simp only [kf] at h
    by_cases q : cP c k = s
    · rw [if_pos q] at h
      cases h
      exact ⟨m, by omega, rfl, Nat.le_refl _, q⟩
    · rw [if_neg q] at h
      obtain ⟨m', a, b, d, e⟩ := kf_head m (k + 1) h
      exact ⟨m', by omega, b, by omega, e⟩
/-- a child's frame is pushed -/
theorem o_push {s ev p y : Nat} {R : Mem} (hp : p ≤ 6) (hy : y < 2 ^ 31) : ∀ kh24 : Int32 → Int32 → Mem → Option Mem, B_X8_offer_93 kh24 (nI ev) (nI (p + 1)) (nI s) (nI y) R = kh24 (nI ev) (nI (p + 1 + 1)) (set2 (set2 (set2 (set2 R 28 p (nI y)) 27 (p + 1) (nI y)) 28 (p + 1) (-1)) 29 (p + 1) 99) := by
  intro kh24
  unfold B_X8_offer_93 B_X8_offer_204
  rw [if_neg (nI_lt0 hy), show nI (p + 1) - 1 = nI p from nI_pred p, gi_ok (show p < 10 by omega) (by decide), nI_clamp (n := p) (by omega), wr_eq, gi_ok (show p + 1 < 10 by omega) (by decide), nI_clamp (n := p + 1) (by omega), wr_eq, gi_ok (show p + 1 < 10 by omega) (by decide), wr_eq, gi_ok (show p + 1 < 10 by omega) (by decide), wr_eq, nm_eq, show nI (p + 1) + 1 = nI (p + 1 + 1) from nI_1 _]
/-- one look at a frame: the child that follows, or none -/
theorem o_look {R : Mem} {c : Ch} {s ev p l : Nat} {ch : Int32} (h : CD R c) (hs : s < cN c) (hp : p ≤ 6) (hl : l ≤ 7) (h27 : R 27 p = nI s) (h28 : R 28 p = ch) (h29 : R 29 p = nI (tk l)) (hch : ch = -1 ∨ ∃ k, k < cN c ∧ ch = nI k) (N : Nat) : H_X8_offer_24 (N + 1) (nI ev) (nI (p + 1)) R = if (∃ k, k < cN c ∧ ch = nI k ∧ tk l < cD c k) then B_X8_offer_93 (H_X8_offer_24 N) (nI ev) (nI (p + 1)) (nI s) (-1) R else bd (F_X8_following (nI s) ch R) fun r_1 => B_X8_offer_93 (H_X8_offer_24 N) (nI ev) (nI (p + 1)) (nI s) r_1 R := by
  have h14 := h.1.n14
  have hl9 := tk_31 hl
  show B_X8_offer_24 _ _ _ _ = _
  unfold B_X8_offer_24 B_X8_offer_74 B_X8_offer_75
  rw [if_neg (nI_nle (by omega) (by omega)), show nI (p + 1) - 1 = nI p from nI_pred p, gi_ok (show p < 10 by omega) (by decide), nm_eq, nI_clamp (n := p) (by omega), h27, gi_ok (show p < 10 by omega) (by decide), nm_eq, h28]
  rcases hch with e | ⟨k, hk, e⟩
  · rw [e, if_pos m1_lt0, if_pos rfl, if_neg (fun ⟨k, hk, e, _⟩ => m1_ne_nI (by omega) e)]
  · have hd := h.1.dep6 hk
    rw [e, if_neg (nI_lt0 (by omega)), gi_ok (show p < 10 by omega) (by decide), gi_ok (show k < 14 by omega) (by decide), nI_clamp (n := k) (by omega), h.2.2.2.2.1 k hk, h29]
    by_cases z : tk l < cD c k
    · rw [if_neg (nI_ge z (by omega)), if_neg (by decide), if_pos ⟨k, hk, rfl, z⟩]
    · rw [if_pos (nI_le (by omega) (by omega)), if_pos rfl, if_neg (fun ⟨k2, hk2, e2, z2⟩ => z (by rw [nI_inj (by omega) (by omega) e2]; exact z2))]
def OfR (c : Ch) (em lm : Nat → List Int32) (u : Ru) (ev f : Nat) : Prop := ∀ (s l0 : Nat) (g : Sg) (R : Mem), s < cN c → 7 ≤ f + cD c s → l0 ≤ 7 → nowOK c g.1 → WR R c g → SD R c em lm → RD R c u → R 27 (cD c s) = nI s → R 28 (cD c s) = -1 → R 29 (cD c s) = nI 99 → (0 < cD c s → R 29 (cD c s - 1) = nI (tk l0)) → ∃ j R', j ≤ Ko (7 - cD c s) ∧ (∀ N, H_X8_offer_24 (N + j) (nI ev) (nI (cD c s + 1)) R = H_X8_offer_24 N (nI ev) (nI (cD c s)) R') ∧ WR R' c (ofA c em lm u ev f s g).2 ∧ nowOK c (ofA c em lm u ev f s g).2.1 ∧ (ofA c em lm u ev f s g).1 ≤ 7 ∧ rfr R R' ∧ frF (cD c s) (min (ofA c em lm u ev f s g).1 l0) R R'
/-- a child is pushed and comes to its end: the frame below holds what was taken -/
theorem o_child {c : Ch} {em lm : Nat → List Int32} {u : Ru} {ev f s y l l0 : Nat} {g : Sg} {R : Mem} (hr : OfR c em lm u ev f) (hc : wf c) (hs : s < cN c) (hy : y ∈ kids c s) (hf : 6 ≤ f + cD c s) (hl : l ≤ 7) (hg : nowOK c g.1) (hw : WR R c g) (hS : SD R c em lm) (hR : RD R c u) (h27 : R 27 (cD c s) = nI s) (h29 : R 29 (cD c s) = nI (tk l)) (hb : 0 < cD c s → R 29 (cD c s - 1) = nI (tk l0)) : ∃ j R', j ≤ Ko (6 - cD c s) ∧ (∀ N, B_X8_offer_93 (H_X8_offer_24 (N + j)) (nI ev) (nI (cD c s + 1)) (nI s) (nI y) R = H_X8_offer_24 N (nI ev) (nI (cD c s + 1)) R') ∧ WR R' c (ofA c em lm u ev f y g).2 ∧ nowOK c (ofA c em lm u ev f y g).2.1 ∧ (ofA c em lm u ev f y g).1 ≤ 7 ∧ rfr R R' ∧ R' 27 (cD c s) = nI s ∧ R' 28 (cD c s) = nI y ∧ R' 29 (cD c s) = nI (tk (min (ofA c em lm u ev f y g).1 l)) ∧ (∀ i, i < cD c s → R' 27 i = R 27 i ∧ R' 28 i = R 28 i ∧ R' 29 i = R 29 i) := by
  obtain ⟨y0, yn, yp, yd, -⟩ := kid_facts hc hs hy
  have h14 := hc.n14
  have hdy := hc.dep6 yn
  obtain ⟨p, ep⟩ : ∃ p, p = cD c s := ⟨_, rfl⟩
  rw [← ep] at h27 h29 hb ⊢
  have eyd : cD c y = p + 1 := by rw [yd, ep]
  obtain ⟨R1, e1⟩ : ∃ R1, R1 = set2 (set2 (set2 (set2 R 28 p (nI y)) 27 (p + 1) (nI y)) 28 (p + 1) (-1)) 29 (p + 1) 99 := ⟨_, rfl⟩
  have k0 : ∀ a, a ≠ 27 → a ≠ 28 → a ≠ 29 → R1 a = R a := fun a a1 a2 a3 => by rw [e1, set2_ne _ _ _ a3, set2_ne _ _ _ a2, set2_ne _ _ _ a1, set2_ne _ _ _ a2]
  have k27 : ∀ i, i ≠ p + 1 → R1 27 i = R 27 i := fun i hi => by rw [e1, s2_oth _ _ _ _ (by decide), s2_oth _ _ _ _ (by decide), s2_pl _ _ _ hi, s2_oth _ _ _ _ (by decide)]
  have k28 : ∀ i, i ≠ p + 1 → i ≠ p → R1 28 i = R 28 i := fun i hi hj => by rw [e1, s2_oth _ _ _ _ (by decide), s2_pl _ _ _ hi, s2_oth _ _ _ _ (by decide), s2_pl _ _ _ hj]
  have k28p : R1 28 p = nI y := by rw [e1, s2_oth _ _ _ _ (by decide), s2_pl _ _ _ (by omega), s2_oth _ _ _ _ (by decide), s2_hit]
  have k29 : ∀ i, i ≠ p + 1 → R1 29 i = R 29 i := fun i hi => by rw [e1, s2_pl _ _ _ hi, s2_oth _ _ _ _ (by decide), s2_oth _ _ _ _ (by decide), s2_oth _ _ _ _ (by decide)]
  have er : rfr R R1 := ⟨fun a x y => k0 a (by omega) (by omega) (by omega), fun j x => by rw [k0 0 (by decide) (by decide) (by decide)]⟩
  obtain ⟨j, R', f0, f1, f2, f3, f4, f5, f6, f7, f8⟩ := hr y l g R1 yn (by omega) hl hg (hw.keep (k0 19 (by decide) (by decide) (by decide)) (k0 20 (by decide) (by decide) (by decide)) (by rw [k0 0 (by decide) (by decide) (by decide)])) (hS.w er) (hR.w er) (by rw [eyd, e1, s2_oth _ _ _ _ (by decide), s2_oth _ _ _ _ (by decide), s2_hit]) (by rw [eyd, e1, s2_oth _ _ _ _ (by decide), s2_hit]) (by rw [eyd, e1, s2_hit]; rfl) (fun _ => by rw [eyd, show p + 1 - 1 = p by omega, k29 p (by omega)]; exact h29)
  rw [eyd] at f0 f1 f6 f7 f8
  refine ⟨j, R', by rw [show 6 - p = 7 - (p + 1) by omega]; exact f0, fun N => ?_, f2, f3, f4, er.tr f5, ?_, ?_, ?_, fun i hi => ⟨?_, ?_, ?_⟩⟩
  · rw [o_push (by omega) (by omega), ← e1]
    exact f1 N
  · rw [(f6 p (by omega)).1, k27 p (by omega)]; exact h27
  · rw [(f6 p (by omega)).2]; exact k28p
  · exact f8 (by omega)
  · rw [(f6 i (by omega)).1, k27 i (by omega)]
  · rw [(f6 i (by omega)).2, k28 i (by omega) (by omega)]
  · rw [f7 i (by omega), k29 i (by omega)]
theorem o_list {c : Ch} {em lm : Nat → List Int32} {u : Ru} {ev f s l0 : Nat} (hr : OfR c em lm u ev f) (hc : wf c) (he : ev < 6) (hs : s < cN c) (hwh : cW c s = true) (hf : 6 ≤ f + cD c s) (h0 : l0 ≤ 7) : ∀ (ks : List Nat) (m k l : Nat) (ch : Int32) (g : Sg) (R : Mem), kf c s m k = ks → k + m = cN c → s < k → l ≤ 7 → ((ch = -1 ∧ k = s + 1 ∧ l = 7) ∨ ∃ x, x ∈ kids c s ∧ ch = nI x ∧ k = x + 1) → nowOK c g.1 → WR R c g → SD R c em lm → RD R c u → R 27 (cD c s) = nI s → R 28 (cD c s) = ch → R 29 (cD c s) = nI (tk l) → (0 < cD c s → R 29 (cD c s - 1) = nI (tk l0)) → ∃ j R', j ≤ ks.length * (1 + Ko (6 - cD c s)) + 1 ∧ (∀ N, H_X8_offer_24 (N + j) (nI ev) (nI (cD c s + 1)) R = H_X8_offer_24 N (nI ev) (nI (cD c s)) R') ∧ WR R' c (ofE c em lm u ev s (ofL (ofA c em lm u ev f) (cD c s) ks l g)).2 ∧ nowOK c (ofE c em lm u ev s (ofL (ofA c em lm u ev f) (cD c s) ks l g)).2.1 ∧ (ofE c em lm u ev s (ofL (ofA c em lm u ev f) (cD c s) ks l g)).1 ≤ 7 ∧ rfr R R' ∧ frF (cD c s) (min (ofE c em lm u ev s (ofL (ofA c em lm u ev f) (cD c s) ks l g)).1 l0) R R' := by
  have h14 := hc.n14
  have hd6 := hc.dep6 hs
  intro ks
  induction ks with
  | nil =>
    intro m k l ch g R hkf hk hsk hl hch hg hw hS hR h27 h28 h29 hb
    obtain ⟨R', f1, f2⟩ := o_fin hs he hd6 hl h0 hg hw hS hR h29 hb
    refine ⟨1, R', by omega, fun N => ?_, f2⟩
    have hch2 : ch = -1 ∨ ∃ k, k < cN c ∧ ch = nI k := by
      rcases hch with ⟨e, -⟩ | ⟨x, hx, e, -⟩
      · exact Or.inl e
      · exact Or.inr ⟨x, (kid_facts hc hs hx).2.1, e⟩
    rw [o_look hS.1 hs hd6 hl h27 h28 h29 hch2 N]
    by_cases z : ∃ k, k < cN c ∧ ch = nI k ∧ tk l < cD c k
    · rw [if_pos z]; exact f1 _
    · rw [if_neg z]
      have efo : F_X8_following (nI s) ch R = some (-1) := by
        unfold F_X8_following B_X8_following_37
        rw [gi_ok (show s < 14 by omega) (by decide), nI_clamp (by omega), hS.1.2.2.2.2.2.1 s hs, hwh, if_neg (by decide)]
        have e2 := g_following hS.1 hs m k 100 hk (by omega) (by omega)
        rw [hkf] at e2
        rcases hch with ⟨e, e3, -⟩ | ⟨x, hx, e, e3⟩
        · rw [e, if_neg (by decide), show nI s + 1 = nI k by rw [e3]; exact nI_1 s]; exact e2
        · have := (kid_facts hc hs hx).2.1
          rw [e, if_pos (nI_0le (by omega)), show nI x + 1 = nI k by rw [e3]; exact nI_1 x]; exact e2
      rw [efo, bd_some]; exact f1 _
  | cons y ks ih =>
    intro m k l ch g R hkf hk hsk hl hch hg hw hS hR h27 h28 h29 hb
    obtain ⟨m', e1, e2, e3, e4⟩ := kf_head m k hkf
    have hyk : y ∈ kids c s := (kids_mem hc hs).mpr ⟨by omega, by omega, e4⟩
    have hch2 : ch = -1 ∨ ∃ k, k < cN c ∧ ch = nI k := by
      rcases hch with ⟨e, -⟩ | ⟨x, hx, e, -⟩
      · exact Or.inl e
      · exact Or.inr ⟨x, (kid_facts hc hs hx).2.1, e⟩
    by_cases hst : l ≤ cD c s
    · obtain ⟨R', f1, f2⟩ := o_fin hs he hd6 hl h0 hg hw hS hR h29 hb
      rw [ofL_stop hst]
      refine ⟨1, R', by omega, fun N => ?_, f2⟩
      rw [o_look hS.1 hs hd6 hl h27 h28 h29 hch2 N]
      rcases hch with ⟨e, e3, e7⟩ | ⟨x, hx, e, e3⟩
      · omega
      · obtain ⟨x0, xn, xp, xd, -⟩ := kid_facts hc hs hx
        rw [if_pos ⟨x, xn, e, by have := (tk_le (l := l) hd6).mpr hst; omega⟩]
        exact f1 _
    · have hno : ¬ (∃ k, k < cN c ∧ ch = nI k ∧ tk l < cD c k) := by
        rintro ⟨k2, hk2, ek, hlt⟩
        rcases hch with ⟨e, -⟩ | ⟨x, hx, e, -⟩
        · rw [e] at ek; exact m1_ne_nI (by omega) ek
        · obtain ⟨x0, xn, xp, xd, -⟩ := kid_facts hc hs hx
          have exk : x = k2 := nI_inj (by omega) (by omega) (e.symm.trans ek)
          rw [← exk, xd] at hlt
          exact hst ((tk_le hd6).mp (by omega))
      have efo : F_X8_following (nI s) ch R = some (nI y) := by
        unfold F_X8_following B_X8_following_37
        rw [gi_ok (show s < 14 by omega) (by decide), nI_clamp (by omega), hS.1.2.2.2.2.2.1 s hs, hwh, if_neg (by decide)]
        have e2 := g_following hS.1 hs m k 100 hk (by omega) (by omega)
        rw [hkf] at e2
        rcases hch with ⟨e, e3, -⟩ | ⟨x, hx, e, e3⟩
        · rw [e, if_neg (by decide), show nI s + 1 = nI k by rw [e3]; exact nI_1 s]; exact e2
        · have := (kid_facts hc hs hx).2.1
          rw [e, if_pos (nI_0le (by omega)), show nI x + 1 = nI k by rw [e3]; exact nI_1 x]; exact e2
      obtain ⟨j1, R1, f0, f1, f2, f3, f4, f5, f6, f7, f8, f9⟩ := o_child (l0 := l0) hr hc hs hyk hf hl hg hw hS hR h27 h29 hb
      obtain ⟨j2, R', g0, g1, g2, g3, g4, g5, g6, g7, g8⟩ := ih m' (y + 1) (min (ofA c em lm u ev f y g).1 l) (nI y) (ofA c em lm u ev f y g).2 R1 e2.symm (by omega) (by omega) (by omega) (Or.inr ⟨y, hyk, rfl, rfl⟩) f3 f2 (hS.w f5) (hR.w f5) f6 f7 f8 (fun q => by rw [(f9 _ (by omega)).2.2]; exact hb q)
      have eL : ofL (ofA c em lm u ev f) (cD c s) (y :: ks) l g = ofL (ofA c em lm u ev f) (cD c s) ks (min (ofA c em lm u ev f y g).1 l) (ofA c em lm u ev f y g).2 := by
        simp only [ofL]; rw [if_neg hst]
      rw [eL]
      refine ⟨j2 + j1 + 1, R', ?_, fun N => ?_, g2, g3, g4, f5.tr g5, fun i hi => ⟨(g6 i hi).1.trans (f9 i hi).1, (g6 i hi).2.trans (f9 i hi).2.1⟩, fun i hi => (g7 i hi).trans (f9 i (by omega)).2.2, g8⟩
      · rw [List.length_cons, Nat.add_mul, Nat.one_mul]; omega
      · rw [← Nat.add_assoc, o_look hS.1 hs hd6 hl h27 h28 h29 hch2, if_neg hno, efo, bd_some, ← Nat.add_assoc, f1 (N + j2)]
        exact g1 N
theorem g_offer {c : Ch} {em lm : Nat → List Int32} {u : Ru} {ev : Nat} (hc : wf c) (he : ev < 6) : ∀ f, OfR c em lm u ev f := by
  intro f
  induction f with
  | zero =>
    intro s l0 g R hs hf
    have := hc.dep6 hs
    omega
  | succ f ih =>
    intro s l0 g R hs hf h0 hg hw hS hR h27 h28 h29 hb
    have h14 := hc.n14
    have hd6 := hc.dep6 hs
    have h29' : R 29 (cD c s) = nI (tk 7) := h29
    obtain ⟨d1, ed⟩ : ∃ d1, 7 - cD c s = d1 + 1 := ⟨6 - cD c s, by omega⟩
    cases hwh : cW c s
    · have efo : F_X8_following (nI s) (-1) R = some (g.1 s) := by
        unfold F_X8_following
        rw [gi_ok (show s < 14 by omega) (by decide), nI_clamp (by omega), hS.1.2.2.2.2.2.1 s hs, hwh, if_pos (by decide), if_neg (by decide), gi_ok (show s < 14 by omega) (by decide), hw.1 s hs]
      have hno : ∀ l, ¬ (∃ k, k < cN c ∧ (-1 : Int32) = nI k ∧ tk l < cD c k) := fun l ⟨k, hk, e, _⟩ => m1_ne_nI (by omega) e
      rcases (hg s).1 hs with ⟨e1, -⟩ | ⟨-, k, hk, e1⟩
      · obtain ⟨R', f1, f2⟩ := o_fin hs he hd6 (Nat.le_refl 7) h0 hg hw hS hR h29' hb
        have e : ofA c em lm u ev (f + 1) s g = ofE c em lm u ev s (7, g) := by
          simp only [ofA]; rw [if_neg (show ¬ cW c s = true by rw [hwh]; decide), if_pos e1]
        rw [e]
        refine ⟨1, R', by rw [ed]; simp only [Ko]; omega, fun N => ?_, f2⟩
        rw [o_look hS.1 hs hd6 (Nat.le_refl 7) h27 h28 h29' (Or.inl rfl) N, if_neg (hno 7), efo, bd_some, e1]
        exact f1 _
      · obtain ⟨k0, kn, kp, kd, -⟩ := kid_facts hc hs hk
        obtain ⟨j1, R1, f0, f1, f2, f3, f4, f5, f6, f7, f8, f9⟩ := o_child (l0 := l0) ih hc hs hk (by omega) (Nat.le_refl 7) hg hw hS hR h27 h29' hb
        have hm : min (ofA c em lm u ev f k g).1 7 = (ofA c em lm u ev f k g).1 := by omega
        rw [hm] at f8
        obtain ⟨R', g1, g2, g3, g4, g5, g6, g7, g8⟩ := o_fin hs he hd6 f4 h0 f3 f2 (hS.w f5) (hR.w f5) f8 (fun q => by rw [(f9 _ (by omega)).2.2]; exact hb q)
        have e : ofA c em lm u ev (f + 1) s g = ofE c em lm u ev s (ofA c em lm u ev f k g) := by
          simp only [ofA]; rw [if_neg (show ¬ cW c s = true by rw [hwh]; decide), e1, if_neg (nI_ne_m1 (by omega)), nI_clamp (by omega)]
        rw [e]
        refine ⟨1 + j1 + 1, R', ?_, fun N => ?_, g2, g3, g4, f5.tr g5, fun i hi => ⟨(g6 i hi).1.trans (f9 i hi).1, (g6 i hi).2.trans (f9 i hi).2.1⟩, fun i hi => (g7 i hi).trans (f9 i (by omega)).2.2, g8⟩
        · rw [ed]; simp only [Ko]
          rw [show 6 - cD c s = d1 by omega] at f0
          omega
        · rw [← Nat.add_assoc, o_look hS.1 hs hd6 (Nat.le_refl 7) h27 h28 h29' (Or.inl rfl), if_neg (hno 7), efo, bd_some, e1, ← Nat.add_assoc, f1 (N + 1), o_look (hS.w f5).1 hs hd6 f4 f6 f7 f8 (Or.inr ⟨k, kn, rfl⟩) N]
          have efo2 : F_X8_following (nI s) (nI k) R1 = some (-1) := by
            unfold F_X8_following
            rw [gi_ok (show s < 14 by omega) (by decide), nI_clamp (by omega), (hS.w f5).1.2.2.2.2.2.1 s hs, hwh, if_pos (by decide), if_pos (nI_0le (by omega))]
          by_cases z : ∃ x, x < cN c ∧ nI k = nI x ∧ tk (ofA c em lm u ev f k g).1 < cD c x
          · rw [if_pos z]; exact g1 _
          · rw [if_neg z, efo2, bd_some]; exact g1 _
    · obtain ⟨j, R', g0, g1⟩ := o_list ih hc he hs hwh (by omega) h0 (kids c s) (cN c - (s + 1)) (s + 1) 7 (-1) g R rfl (by omega) (by omega) (Nat.le_refl 7) (Or.inl ⟨rfl, rfl, rfl⟩) hg hw hS hR h27 h28 h29' hb
      have e : ofA c em lm u ev (f + 1) s g = ofE c em lm u ev s (ofL (ofA c em lm u ev f) (cD c s) (kids c s) 7 g) := by
        simp only [ofA]; rw [if_pos hwh]
      have hkl : (kids c s).length ≤ 14 := by
        have := nd_len (cN c) (kids c s) ((kf_lt _ _).imp (fun h => by omega)) (fun x hx => (kid_facts hc hs hx).2.1)
        omega
      rw [e]
      refine ⟨j, R', ?_, g1⟩
      rw [ed]; simp only [Ko]
      rw [show 6 - cD c s = d1 by omega] at g0
      have := Nat.mul_le_mul_right (1 + Ko d1) hkl
      omega
/-- offer -/
theorem g_offerF {R : Mem} {c : Ch} {em lm : Nat → List Int32} {u : Ru} {ev : Nat} {g : Sg} (he : ev < 6) (hg : nowOK c g.1) (hw : WR R c g) (hS : SD R c em lm) (hR : RD R c u) : ∃ R', F_X8_offer (nI ev) R = some R' ∧ WR R' c (ofA c em lm u ev 9 0 g).2 ∧ nowOK c (ofA c em lm u ev 9 0 g).2.1 ∧ rfr R R' := by
  have hc := hS.1.1
  obtain ⟨R1, e1⟩ : ∃ R1, R1 = set2 (set2 (set2 R 27 0 (nI 0)) 28 0 (-1)) 29 0 (nI 99) := ⟨_, rfl⟩
  have k0 : ∀ a, a ≠ 27 → a ≠ 28 → a ≠ 29 → R1 a = R a := fun a a1 a2 a3 => by rw [e1, set2_ne _ _ _ a3, set2_ne _ _ _ a2, set2_ne _ _ _ a1]
  have er : rfr R R1 := ⟨fun a x y => k0 a (by omega) (by omega) (by omega), fun j x => by rw [k0 0 (by decide) (by decide) (by decide)]⟩
  obtain ⟨j, R', f0, f1, f2, f3, f4, f5, -⟩ := g_offer (em := em) (lm := lm) (u := u) hc he 9 0 7 g R1 hc.1 (by omega) (Nat.le_refl 7) hg (hw.keep (k0 19 (by decide) (by decide) (by decide)) (k0 20 (by decide) (by decide) (by decide)) (by rw [k0 0 (by decide) (by decide) (by decide)])) (hS.w er) (hR.w er) (by rw [hc.2.2.1, e1, s2_oth _ _ _ _ (by decide), s2_oth _ _ _ _ (by decide), s2_hit]) (by rw [hc.2.2.1, e1, s2_oth _ _ _ _ (by decide), s2_hit]) (by rw [hc.2.2.1, e1, s2_hit]) (fun q => by rw [hc.2.2.1] at q; omega)
  rw [hc.2.2.1] at f0 f1
  have hj : j ≤ 9999999999 := Nat.le_trans f0 (by decide)
  refine ⟨R', ?_, f2, f3, er.tr f5⟩
  unfold F_X8_offer
  rw [show (0 : Int32) = nI 0 from rfl, gi_ok (show 0 < 10 by omega) (by decide), nI_clamp (by omega), wr_eq, gi_ok (show 0 < 10 by omega) (by decide), wr_eq, gi_ok (show 0 < 10 by omega) (by decide), wr_eq]
  have e2 := f1 (10000000000 - j)
  rw [show 10000000000 - j + j = 10000000000 by omega, e1] at e2
  rw [show H_X8_offer_24 10000000000 (nI ev) (1 : Int32) (set2 (set2 (set2 R 27 0 (nI 0)) 28 0 (-1)) 29 0 (99 : Int32)) = _ from e2]
  obtain ⟨n, en⟩ : ∃ n, 10000000000 - j = n + 1 := ⟨10000000000 - j - 1, by omega⟩
  rw [en]
  show B_X8_offer_24 _ _ _ _ = _
  unfold B_X8_offer_24
  rw [if_pos (by decide)]
