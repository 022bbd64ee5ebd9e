/-! The reference's chart cells hold the chart c; its small functions. -/
def CD (R : Mem) (c : Ch) : Prop := wf c ∧ R 0 6 = nI (cN c) ∧ R 6 0 = -1 ∧ (∀ s, 0 < s → s < cN c → R 6 s = nI (cP c s)) ∧ (∀ s, s < cN c → R 7 s = nI (cD c s)) ∧ (∀ s, s < cN c → R 9 s = bI (cW c s)) ∧ (∀ s, s < cN c → R 10 s = bI (cR c s))
/-- the marks in row m of the reference -/
def MKr (R : Mem) (m : Nat) (ms : List Int32) : Prop := ms.length ≤ 6 ∧ R 8 m = nI ms.length ∧ ∀ i, i < ms.length → R 5 (6 * m + i) = ms.getD i 0 ∧ vp_nar .char (ms.getD i 0) = ms.getD i 0
def SD (R : Mem) (c : Ch) (em lm : Nat → List Int32) : Prop := CD R c ∧ (∀ s, s < cN c → MKr R (2 * s) (em s)) ∧ ∀ s, s < cN c → MKr R (2 * s + 1) (lm s)
def RD (R : Mem) (c : Ch) (u : Ru) : Prop := ruOK c u ∧ R 0 15 = nI (rN u) ∧ ∀ r, r < rN u → R 13 r = nI (rE u r) ∧ R 14 r = nI (rF u r) ∧ R 15 r = nI (rT u r) ∧ ((R 16 r = nI 0 ∧ rA u r = 0 ∧ rW u r = true) ∨ (R 16 r = nI 1 ∧ R 17 r = nI (rA u r) ∧ rW u r = true) ∨ (R 16 r = nI 2 ∧ R 17 r = nI (rA u r) ∧ rW u r = false)) ∧ R 18 r = nI (rM u r).length ∧ (rM u r).length ≤ 3 ∧ ∀ i, i < (rM u r).length → R 12 (3 * r + i) = (rM u r).getD i 0 ∧ vp_nar .char ((rM u r).getD i 0) = (rM u r).getD i 0
/-- what stands still while the reference walks -/
def rfr (R R' : Mem) : Prop := (∀ a, a ≠ 0 → (a ≤ 18 ∨ (21 ≤ a ∧ a ≤ 24)) → R' a = R a) ∧ ∀ j, j ≠ 26 → R' 0 j = R 0 j
theorem rfr.rf {R : Mem} : rfr R R := ⟨fun _ _ _ => rfl, fun _ _ => rfl⟩
theorem rfr.tr {R R1 R2 : Mem} (h : rfr R R1) (g : rfr R1 R2) : rfr R R2 := ⟨fun a x y => (g.1 a x y).trans (h.1 a x y), fun j x => (g.2 j x).trans (h.2 j x)⟩
theorem rfr.set {R : Mem} {k j : Nat} {v : Int32} (h : k = 19 ∨ k = 20 ∨ (25 ≤ k ∧ k ≤ 29)) : rfr R (set2 R k j v) := ⟨fun a x y => set2_ne _ _ _ (by omega), fun j x => s2_oth _ _ _ _ (by omega)⟩
theorem rfr.set0 {R : Mem} {v : Int32} : rfr R (set2 R 0 26 v) := ⟨fun a x y => set2_ne _ _ _ x, fun j x => s2_pl _ _ _ x⟩
theorem CD.keep {R R' : Mem} {c : Ch} (h : CD R c) (e : ∀ a, a ≠ 0 → a ≤ 18 → R' a = R a) (e0 : R' 0 6 = R 0 6) : CD R' c := by
  obtain ⟨h1, h2, h3, h4, h5, h6, h7⟩ := h
  exact ⟨h1, by rw [e0]; exact h2, by rw [e 6 (by omega) (by omega)]; exact h3, by rw [e 6 (by omega) (by omega)]; exact h4, by rw [e 7 (by omega) (by omega)]; exact h5, by rw [e 9 (by omega) (by omega)]; exact h6, by rw [e 10 (by omega) (by omega)]; exact h7⟩
theorem SD.keep {R R' : Mem} {c : Ch} {em lm : Nat → List Int32} (h : SD R c em lm) (e : ∀ a, a ≠ 0 → a ≤ 18 → R' a = R a) (e0 : R' 0 6 = R 0 6) : SD R' c em lm := by
  refine ⟨h.1.keep e e0, fun s hs => ?_, fun s hs => ?_⟩
  · unfold MKr; rw [e 8 (by omega) (by omega), e 5 (by omega) (by omega)]; exact h.2.1 s hs
  · unfold MKr; rw [e 8 (by omega) (by omega), e 5 (by omega) (by omega)]; exact h.2.2 s hs
theorem RD.keep {R R' : Mem} {c : Ch} {u : Ru} (h : RD R c u) (e : ∀ a, a ≠ 0 → a ≤ 18 → R' a = R a) (e0 : R' 0 15 = R 0 15) : RD R' c u := by
  refine ⟨h.1, by rw [e0]; exact h.2.1, fun r hr => ?_⟩
  rw [e 13 (by omega) (by omega), e 14 (by omega) (by omega), e 15 (by omega) (by omega), e 16 (by omega) (by omega), e 17 (by omega) (by omega), e 18 (by omega) (by omega), e 12 (by omega) (by omega)]
  exact h.2.2 r hr
theorem SD.w {R R' : Mem} {c : Ch} {em lm : Nat → List Int32} (h : SD R c em lm) (g : rfr R R') : SD R' c em lm := h.keep (fun a x y => g.1 a x (Or.inl y)) (g.2 6 (by decide))
theorem RD.w {R R' : Mem} {c : Ch} {u : Ru} (h : RD R c u) (g : rfr R R') : RD R' c u := h.keep (fun a x y => g.1 a x (Or.inl y)) (g.2 15 (by decide))
/-- the reference's walk -/
def WR (R : Mem) (c : Ch) (g : Sg) : Prop := (∀ i, i < cN c → R 19 i = g.1 i) ∧ R 0 26 = nI (min 40 g.2.length) ∧ ∀ i, i < 40 → i < g.2.length → R 20 i = g.2.getD i 0 ∧ vp_nar .char (g.2.getD i 0) = g.2.getD i 0
theorem WR.keep {R R' : Mem} {c : Ch} {g : Sg} (h : WR R c g) (e1 : R' 19 = R 19) (e2 : R' 20 = R 20) (e3 : R' 0 26 = R 0 26) : WR R' c g := by unfold WR; rw [e1, e2, e3]; exact h
theorem WR.set {R : Mem} {c : Ch} {now : Nat → Int32} {tr : List Int32} {s : Nat} {v : Int32} (h : WR R c (now, tr)) : WR (set2 R 19 s v) c (upd now s v, tr) := by
  refine ⟨fun i hi => ?_, by rw [s2_oth _ _ _ _ (by decide)]; exact h.2.1, fun i a b => by rw [s2_oth _ _ _ _ (by decide)]; exact h.2.2 i a b⟩
  show set2 R 19 s v 19 i = upd now s v i
  by_cases e : i = s
  · subst e
    rw [s2_hit]; exact pk_us.symm
  · rw [s2_pl _ _ _ e, show upd now s v i = now i from pk_un e]
    exact h.1 i hi
theorem r_within {R : Mem} {c : Ch} (h : CD R c) {a : Nat} (ha : a < cN c) : ∀ (k x n : Nat), x ≤ k → x < cN c → x < n → H_X8_within_2 R n (nI a) (nI x) = some (bI (win c x a)) := by
  have h14 := h.1.n14
  intro k
  induction k with
  | zero =>
    intro x n hk hx hn
    cases n with
    | zero => omega
    | succ n =>
      show B_X8_within_2 _ _ _ _ = _
      unfold B_X8_within_2
      rw [if_pos (nI_le (by omega) (by omega)), win_le (by omega)]
      by_cases q : x = a
      · rw [if_pos (by rw [q]), q]; simp [bI]
      · rw [if_neg (fun z => q (nI_inj (by omega) (by omega) z))]; simp [bI, q]
  | succ k ih =>
    intro x n hk hx hn
    cases n with
    | zero => omega
    | succ n =>
      show B_X8_within_2 _ _ _ _ = _
      unfold B_X8_within_2
      by_cases z : x ≤ a
      · rw [if_pos (nI_le z (by omega)), win_le z]
        by_cases q : x = a
        · rw [if_pos (by rw [q]), q]; simp [bI]
        · rw [if_neg (fun z => q (nI_inj (by omega) (by omega) z))]; simp [bI, q]
      · have hp := h.1.par (s := x) (by omega) hx
        rw [if_neg (nI_ge (by omega) (by omega)), gi_ok (show x < 14 by omega) (by decide), nm_eq, nI_clamp (by omega), h.2.2.2.1 x (by omega) hx, win_gt h.1 hx (by omega)]
        exact ih (cP c x) n (by omega) (by omega) (by omega)
theorem g_within {R : Mem} {c : Ch} (h : CD R c) {a x : Nat} (ha : a < cN c) (hx : x < cN c) : F_X8_within (nI x) (nI a) R = some (bI (win c x a)) := by
  have h14 := h.1.n14
  exact r_within h ha x x 100 (Nat.le_refl _) hx (by omega)
theorem g_isActive {R : Mem} {c : Ch} {now : Nat → Int32} (h : CD R c) (hw : ∀ i, i < cN c → R 19 i = now i) : ∀ (k x n : Nat) (y : Bool), x ≤ k → x < cN c → x < n → H_X8_isActive_4 R n (bI y) (nI x) = some (bI (y && act c now x)) := by
  have h14 := h.1.n14
  have gzb : ∀ b : Bool, gz (bI b) (some (bI b)) = some (bI b) := by decide
  intro k
  induction k with
  | zero =>
    intro x n y hk hx hn
    have e : x = 0 := by omega
    subst e
    cases n with
    | zero => omega
    | succ n =>
      show B_X8_isActive_4 _ _ _ _ = _
      unfold B_X8_isActive_4
      rw [if_pos (by decide), act_0, Bool.and_true]
      exact gzb y
  | succ k ih =>
    intro x n y hk hx hn
    rcases Nat.eq_zero_or_pos x with e | e
    · exact ih x n y (by omega) hx hn
    · cases n with
      | zero => omega
      | succ n =>
        have hp := h.1.par e hx
        have fin : ∀ b : Bool, B_X8_isActive_46 (H_X8_isActive_4 R n) R (nI x) (bI b) = some (bI (b && act c now (cP c x))) := by
          intro b
          unfold B_X8_isActive_46
          rw [gi_ok (show x < 14 by omega) (by decide), nm_eq, nI_clamp (by omega), h.2.2.2.1 x e hx]
          exact ih (cP c x) n b (by omega) (by omega) (by omega)
        have f0 : B_X8_isActive_45 (H_X8_isActive_4 R n) R (nI x) = some (bI false) := by
          unfold B_X8_isActive_45
          rw [show (0 : Int32) = bI false from rfl, fin false, Bool.false_and]
        have f1 : B_X8_isActive_41 (H_X8_isActive_4 R n) R (nI x) = some (bI (act c now (cP c x))) := by
          unfold B_X8_isActive_41
          rw [show (1 : Int32) = bI true from rfl, fin true, Bool.true_and]
        show B_X8_isActive_4 _ _ _ _ = _
        unfold B_X8_isActive_4
        rw [if_neg (nI_nle e (by omega)), act_up h.1 e hx]
        cases y
        · rw [if_pos (by decide), f0, Bool.false_and]
        · rw [if_neg (by decide), gi_ok (show x < 14 by omega) (by decide), nI_clamp (by omega), h.2.2.2.1 x e hx, gi_ok (show cP c x < 14 by omega) (by decide), nI_clamp (by omega), h.2.2.2.2.2.1 (cP c x) (by omega), Bool.true_and]
          cases hwp : cW c (cP c x)
          · rw [if_pos (by decide), gi_ok (show x < 14 by omega) (by decide), gi_ok (show cP c x < 14 by omega) (by decide), hw (cP c x) (by omega), Bool.false_or]
            by_cases q : now (cP c x) = nI x
            · rw [if_pos q, f1]; simp [q]
            · rw [if_neg q, f0]; simp [q]
          · rw [if_neg (by decide), f1, Bool.true_or, Bool.true_and]
theorem g_active {R : Mem} {c : Ch} {now : Nat → Int32} (h : CD R c) (hw : ∀ i, i < cN c → R 19 i = now i) {x : Nat} (hx : x < cN c) : F_X8_isActive (nI x) R = some (bI (act c now x)) := by
  have h14 := h.1.n14
  have e := g_isActive h hw x x 100 true (Nat.le_refl _) hx (by omega)
  rw [Bool.true_and] at e
  exact e
theorem g_firstChild {R : Mem} {c : Ch} (h : CD R c) {s : Nat} (hs : s < cN c) : ∀ (m k n : Nat), k + m = cN c → 0 < k → m < n → H_X8_firstChild_4 R n (nI s) (nI k) = some (match kf c s m k with | [] => -1 | y :: _ => nI y) := by
  have h14 := h.1.n14
  intro m
  induction m with
  | zero =>
    intro k n hk h0 hn
    cases n with
    | zero => omega
    | succ n =>
      show B_X8_firstChild_4 _ _ _ _ = _
      unfold B_X8_firstChild_4
      rw [h.2.1, if_pos (nI_le (by omega) (by omega))]
      rfl
  | succ m ih =>
    intro k n hk h0 hn
    cases n with
    | zero => omega
    | succ n =>
      have hkn : k < cN c := by omega
      have hp := h.1.par h0 hkn
      show B_X8_firstChild_4 _ _ _ _ = _
      unfold B_X8_firstChild_4
      rw [h.2.1, if_neg (nI_ge hkn (by omega)), gi_ok (show k < 14 by omega) (by decide), nI_clamp (by omega), h.2.2.2.1 k h0 hkn]
      simp only [kf]
      by_cases q : cP c k = s
      · rw [if_pos (by rw [q]), if_pos q]
      · rw [if_neg (fun z => q (nI_inj (by omega) (by omega) z)), if_neg q, nm_eq, show nI k + 1 = nI (k + 1) from nI_1 k]
        exact ih (k + 1) n (by omega) (by omega) (by omega)
theorem g_firstOf {R : Mem} {c : Ch} (h : CD R c) {s : Nat} (hs : s < cN c) : F_X8_firstOf (nI s) R = some (cf0 c s) := by
  have h14 := h.1.n14
  unfold F_X8_firstOf F_X8_firstChild cf0
  rw [gi_ok (show s < 14 by omega) (by decide), nI_clamp (by omega), h.2.2.2.2.2.1 s hs]
  cases hw : cW c s
  · rw [if_pos (by decide), if_neg (by decide), nm_eq, show nI s + 1 = nI (s + 1) from nI_1 s, g_firstChild h hs (cN c - (s + 1)) (s + 1) 100 (by omega) (by omega) (by omega), bd_some]
    rfl
  · rw [if_neg (by decide), if_pos rfl]
/-- one mark is noted -/
theorem g_put {R : Mem} {c : Ch} {now : Nat → Int32} {tr : List Int32} {v : Int32} (hw : WR R c (now, tr)) (hv : vp_nar .char v = v) : ∃ R', F_X8_put v R = some R' ∧ WR R' c (now, tr ++ [v]) ∧ rfr R R' ∧ (∀ a, 25 ≤ a → R' a = R a) ∧ R' 19 = R 19 := by
  obtain ⟨w1, w2, w3⟩ := hw
  dsimp only at w1 w2 w3
  unfold F_X8_put B_X8_put_19 B_X8_put_40
  by_cases q : tr.length < 40
  · rw [show min 40 tr.length = tr.length by omega] at w2
    rw [w2, if_neg (show ¬ (40 : Int32) ≤ nI tr.length from nI_ge (b := 40) q (by omega)), gi_ok q (by decide), nI_clamp (by omega), hv, wr_eq, s2_oth _ _ _ _ (by decide), w2, if_neg (show ¬ (40 : Int32) ≤ nI tr.length from nI_ge (b := 40) q (by omega)), wr_eq, show nI tr.length + 1 = nI (tr.length + 1) from nI_1 _]
    refine ⟨_, rfl, ⟨fun i hi => ?_, ?_, fun i h1 h2 => ?_⟩, (rfr.set (by omega)).tr rfr.set0, fun a ha => ?_, ?_⟩
    · rw [s2_oth _ _ _ _ (by decide), s2_oth _ _ _ _ (by decide)]; exact w1 i hi
    · rw [s2_hit]; dsimp only; rw [List.length_append]; simp; rw [show min 40 (tr.length + 1) = tr.length + 1 by omega]
    · dsimp only at h2 ⊢
      rw [s2_oth _ _ _ _ (by decide)]
      rw [List.length_append] at h2
      simp only [List.length_cons, List.length_nil] at h2
      by_cases z : i = tr.length
      · subst z
        rw [s2_hit, getD_app_r (Nat.le_refl _), Nat.sub_self]; exact ⟨rfl, hv⟩
      · rw [s2_pl _ _ _ z, getD_app_l (by omega)]
        exact w3 i h1 (by omega)
    · rw [set2_ne _ _ _ (by omega), set2_ne _ _ _ (by omega)]
    · rw [set2_ne _ _ _ (by decide), set2_ne _ _ _ (by decide)]
  · rw [show min 40 tr.length = 40 by omega] at w2
    rw [w2, if_pos (show (40 : Int32) ≤ nI 40 by decide), if_pos (show (40 : Int32) ≤ nI 40 by decide), wr_eq]
    refine ⟨_, rfl, ⟨fun i hi => ?_, ?_, fun i h1 h2 => ?_⟩, rfr.set0, fun a ha => ?_, ?_⟩
    · rw [s2_oth _ _ _ _ (by decide)]; exact w1 i hi
    · rw [s2_hit]; dsimp only; rw [List.length_append]; simp; rw [show min 40 (tr.length + 1) = 40 by omega]; rfl
    · dsimp only at h2 ⊢
      rw [s2_oth _ _ _ _ (by decide), getD_app_l (by omega)]
      exact w3 i h1 (by omega)
    · rw [set2_ne _ _ _ (by omega)]
    · rw [set2_ne _ _ _ (by decide)]
theorem drop_getD {ms : List Int32} {i : Nat} (h : i < ms.length) : ms.drop i = ms.getD i 0 :: ms.drop (i + 1) := by
  rw [List.drop_eq_getElem_cons h]
  simp [List.getD_eq_getElem?_getD, List.getElem?_eq_getElem h]
theorem g_notes {c : Ch} {m : Nat} {ms : List Int32} (hm : m < 28) : ∀ (j i n : Nat) (R : Mem) (now : Nat → Int32) (tr : List Int32), i + j = ms.length → j < n → MKr R m ms → WR R c (now, tr) → ∃ R', H_X8_notes_2 n (nI m) (nI i) R = some R' ∧ WR R' c (now, tr ++ ms.drop i) ∧ rfr R R' ∧ (∀ a, 25 ≤ a → R' a = R a) ∧ R' 19 = R 19 := by
  intro j
  induction j with
  | zero =>
    intro i n R now tr hi hn hk hw
    cases n with
    | zero => omega
    | succ n =>
      have := hk.1
      refine ⟨R, ?_, by rw [List.drop_eq_nil_of_le (by omega), List.append_nil]; exact hw, rfr.rf, fun _ _ => rfl, rfl⟩
      show B_X8_notes_2 _ _ _ _ = _
      unfold B_X8_notes_2
      rw [gi_ok hm (by decide), nI_clamp (by omega), hk.2.1, if_pos (nI_le (by omega) (by omega))]
  | succ j ih =>
    intro i n R now tr hi hn hk hw
    cases n with
    | zero => omega
    | succ n =>
      have h6 := hk.1
      have hlt : i < ms.length := by omega
      obtain ⟨b1, b2⟩ := hk.2.2 i hlt
      obtain ⟨R1, f1, f2, f3, f4, f5⟩ := g_put hw b2
      have hk1 : MKr R1 m ms := by unfold MKr; rw [f3.1 8 (by omega) (by omega), f3.1 5 (by omega) (by omega)]; exact hk
      obtain ⟨R', g1, g2, g3, g4, g5⟩ := ih (i + 1) n R1 now _ (by omega) (by omega) hk1 f2
      refine ⟨R', ?_, ?_, f3.tr g3, fun a ha => (g4 a ha).trans (f4 a ha), g5.trans f5⟩
      · show B_X8_notes_2 _ _ _ _ = _
        unfold B_X8_notes_2
        rw [gi_ok hm (by decide), nI_clamp (by omega), hk.2.1, if_neg (nI_ge hlt (by omega)), show (6 : Int32) = nI 6 from rfl, pk_mul, nI_add, gi_ok (show 6 * m + i < 168 by omega) (by decide), nI_clamp (by omega), b1, f1, bd_some, nm_eq, show nI i + 1 = nI (i + 1) from nI_1 i]
        exact g1
      · rw [drop_getD hlt]
        rw [List.append_assoc] at g2
        exact g2
