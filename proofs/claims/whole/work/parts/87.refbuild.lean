/-! The reference's compile is the abstract one. -/
def stR (R R' : Mem) : Prop := (∀ a, a ≠ 0 → a ≤ 18 → R' a = R a) ∧ ∀ j, j ≠ 0 → j ≠ 26 → j ≠ 27 → j ≠ 28 → j ≠ 29 → R' 0 j = R 0 j
theorem stR.rf {R : Mem} : stR R R := ⟨fun _ _ _ => rfl, fun _ _ _ _ _ _ => rfl⟩
theorem stR.tr {R R1 R2 : Mem} (h : stR R R1) (g : stR R1 R2) : stR R R2 := ⟨fun a x y => (g.1 a x y).trans (h.1 a x y), fun j a b d e f => (g.2 j a b d e f).trans (h.2 j a b d e f)⟩
theorem rfr.st {R R' : Mem} (h : rfr R R') : stR R R' := ⟨fun a x y => h.1 a x (Or.inl y), fun j _ b _ _ _ => h.2 j b⟩
theorem stR.set {R : Mem} {k j : Nat} {v : Int32} (h : 18 < k) : stR R (set2 R k j v) := ⟨fun a x y => set2_ne _ _ _ (by omega), fun j _ _ _ _ _ => s2_oth _ _ _ _ (by omega)⟩
theorem stR.set0 {R : Mem} {j : Nat} {v : Int32} (h : j = 0 ∨ j = 26 ∨ j = 27 ∨ j = 28 ∨ j = 29) : stR R (set2 R 0 j v) := ⟨fun a x y => set2_ne _ _ _ x, fun i a b d e f => s2_pl _ _ _ (by omega)⟩
theorem SD.s {R R' : Mem} {c : Ch} {em lm : Nat → List Int32} (h : SD R c em lm) (g : stR R R') : SD R' c em lm := h.keep g.1 (g.2 6 (by decide) (by decide) (by decide) (by decide) (by decide))
theorem RD.s {R R' : Mem} {c : Ch} {u : Ru} (h : RD R c u) (g : stR R R') : RD R' c u := h.keep g.1 (g.2 15 (by decide) (by decide) (by decide) (by decide) (by decide))
/-- a trace that is kept -/
def TQ (R : Mem) (q : Nat) (tr : List Int32) : Prop := R 23 q = nI (min 40 tr.length) ∧ ∀ i, i < 40 → i < tr.length → R 24 (40 * q + i) = tr.getD i 0
theorem TQ.keep {R R' : Mem} {q : Nat} {tr : List Int32} (h : TQ R q tr) (e1 : R' 23 = R 23) (e2 : R' 24 = R 24) : TQ R' q tr := by unfold TQ; rw [e1, e2]; exact h
def TDs (R : Mem) (n : Nat) (cs : List (Nat → Int32)) : Prop := cs.length ≤ 30 ∧ R 0 27 = nI cs.length ∧ ∀ k a, cs[k]? = some a → ∀ i, i < n → R 21 (14 * k + i) = a i
theorem TDs.keep {R R' : Mem} {n : Nat} {cs : List (Nat → Int32)} (h : TDs R n cs) (e1 : R' 21 = R 21) (e2 : R' 0 27 = R 0 27) : TDs R' n cs := by unfold TDs; rw [e1, e2]; exact h
theorem h_keep {q L : Nat} {tr : List Int32} (hq : q < 181) (hL : L = min 40 tr.length) (hch : ∀ i, i < L → vp_nar .char (tr.getD i 0) = tr.getD i 0) : ∀ (j i n : Nat) (R : Mem), i + j = L → j < n → R 0 26 = nI L → (∀ i, i < L → R 20 i = tr.getD i 0) → ∃ R', H_X8_keep_12 n (nI q) (nI i) R = some R' ∧ (∀ a, a ≠ 24 → R' a = R a) ∧ (∀ x, i ≤ x → x < L → R' 24 (40 * q + x) = tr.getD x 0) ∧ ∀ x, (x < 40 * q + i ∨ 40 * q + L ≤ x) → R' 24 x = R 24 x := by
  intro j
  induction j with
  | zero =>
    intro i n R hi hn h26 h20
    cases n with
    | zero => omega
    | succ n =>
      refine ⟨R, ?_, fun _ _ => rfl, fun x a b => by omega, fun _ _ => rfl⟩
      show B_X8_keep_12 _ _ _ _ = _
      unfold B_X8_keep_12
      rw [h26, if_pos (nI_le (by omega) (by omega))]
  | succ j ih =>
    intro i n R hi hn h26 h20
    cases n with
    | zero => omega
    | succ n =>
      have hlt : i < L := by omega
      obtain ⟨R', f1, f2, f3, f4⟩ := ih (i + 1) n (set2 R 24 (40 * q + i) (tr.getD i 0)) (by omega) (by omega) (by rw [s2_oth _ _ _ _ (by decide)]; exact h26) (fun x hx => by rw [s2_oth _ _ _ _ (by decide)]; exact h20 x hx)
      refine ⟨R', ?_, fun a ha => by rw [f2 a ha, set2_ne _ _ _ ha], fun x a b => ?_, fun x hx => ?_⟩
      · show B_X8_keep_12 _ _ _ _ = _
        unfold B_X8_keep_12
        rw [h26, if_neg (nI_ge hlt (by omega)), gi_ok (show i < 40 by omega) (by decide), show (40 : Int32) = nI 40 from rfl, pk_mul, nI_add, gi_ok (show 40 * q + i < 7240 by omega) (by decide), nI_clamp (n := 40 * q + i) (by omega), nI_clamp (n := i) (by omega), h20 i hlt, hch i hlt, wr_eq, nm_eq, show nI i + 1 = nI (i + 1) from nI_1 i]
        exact f1
      · rcases Nat.eq_or_lt_of_le a with e | e
        · subst e
          rw [f4 _ (Or.inl (by omega)), s2_hit]
        · exact f3 x e b
      · rw [f4 x (by omega), s2_pl _ _ _ (by omega)]
theorem g_keep {R : Mem} {c : Ch} {g : Sg} {q : Nat} (hq : q < 181) (hw : WR R c g) : ∃ R', F_X8_keep (nI q) R = some R' ∧ TQ R' q g.2 ∧ (∀ a, a ≠ 23 → a ≠ 24 → R' a = R a) ∧ ∀ x tr, x ≠ q → TQ R x tr → TQ R' x tr := by
  obtain ⟨w1, w2, w3⟩ := hw
  obtain ⟨R', f1, f2, f3, f4⟩ := h_keep (L := min 40 g.2.length) (tr := g.2) hq rfl (fun i hi => (w3 i (by omega) (by omega)).2) (min 40 g.2.length) 0 100 (set2 R 23 q (nI (min 40 g.2.length))) (by omega) (by omega) (by rw [s2_oth _ _ _ _ (by decide)]; exact w2) (fun i hi => by rw [s2_oth _ _ _ _ (by decide)]; exact (w3 i (by omega) (by omega)).1)
  refine ⟨R', ?_, ⟨by rw [f2 23 (by decide), s2_hit], fun i a b => f3 i (by omega) (by omega)⟩, fun a h1 h2 => by rw [f2 a h2, set2_ne _ _ _ h1], fun x tr hx ht => ⟨by rw [f2 23 (by decide), s2_pl _ _ _ hx]; exact ht.1, fun i a b => ?_⟩⟩
  · unfold F_X8_keep
    rw [gi_ok hq (by decide), nI_clamp (by omega), w2, wr_eq]
    exact f1
  · rw [f4 _ (by rcases Nat.lt_or_gt_of_ne hx with z | z <;> omega), s2_oth _ _ _ _ (by decide)]
    exact ht.2 i a b
theorem k_store {c : Ch} {sz : Nat} {now : Nat → Int32} (hc : wf c) (hsz : sz < 30) : ∀ (m j n : Nat) (R : Mem), j + m = cN c → m < n → R 0 6 = nI (cN c) → R 0 27 = nI sz → (∀ i, i < cN c → R 19 i = now i) → ∃ R', H_X8_configuration_83 n (nI j) R = some (nI sz, R') ∧ (∀ a, a ≠ 0 → a ≠ 21 → R' a = R a) ∧ R' 0 27 = nI (sz + 1) ∧ (∀ x, x ≠ 27 → R' 0 x = R 0 x) ∧ (∀ i, j ≤ i → i < cN c → R' 21 (14 * sz + i) = now i) ∧ ∀ q, (q < 14 * sz + j ∨ 14 * sz + cN c ≤ q) → R' 21 q = R 21 q := by
  have h14 := hc.n14
  intro m
  induction m with
  | zero =>
    intro j n R hj hn h6 h27 hw
    cases n with
    | zero => omega
    | succ n =>
      refine ⟨set2 R 0 27 (nI (sz + 1)), ?_, fun a h1 h2 => set2_ne _ _ _ h1, s2_hit _ _ _ _, fun x hx => s2_pl _ _ _ hx, fun i h1 h2 => by omega, fun q _ => s2_oth _ _ _ _ (by decide)⟩
      show B_X8_configuration_83 _ _ _ = _
      unfold B_X8_configuration_83
      rw [h6, if_pos (nI_le (by omega) (by omega)), h27, show nI sz + 1 = nI (sz + 1) from nI_1 sz, wr_eq, s2_hit, show nI (sz + 1) - 1 = nI sz from nI_pred sz]
  | succ m ih =>
    intro j n R hj hn h6 h27 hw
    cases n with
    | zero => omega
    | succ n =>
      obtain ⟨R', f1, f2, f3, f4, f5, f6⟩ := ih (j + 1) n (set2 R 21 (14 * sz + j) (now j)) (by omega) (by omega) (by rw [s2_oth _ _ _ _ (by decide)]; exact h6) (by rw [s2_oth _ _ _ _ (by decide)]; exact h27) (fun i hi => by rw [s2_oth _ _ _ _ (by decide)]; exact hw i hi)
      refine ⟨R', ?_, fun a h1 h2 => by rw [f2 a h1 h2, set2_ne _ _ _ h2], f3, fun x hx => by rw [f4 x hx, s2_oth _ _ _ _ (by decide)], fun i h1 h2 => ?_, fun q hq => ?_⟩
      · show B_X8_configuration_83 _ _ _ = _
        unfold B_X8_configuration_83
        rw [h6, if_neg (nI_ge (by omega) (by omega)), gi_ok (show j < 14 by omega) (by decide), h27, show (14 : Int32) = nI 14 from rfl, pk_mul, nI_add, gi_ok (show 14 * sz + j < 420 by omega) (by decide), nI_clamp (n := 14 * sz + j) (by omega), nI_clamp (n := j) (by omega), hw j (by omega), wr_eq, nm_eq, show nI j + 1 = nI (j + 1) from nI_1 j]
        exact f1
      · rcases Nat.eq_or_lt_of_le h1 with e | e
        · subst e
          rw [f6 _ (Or.inl (by omega)), s2_hit]
        · exact f5 i e h2
      · rw [f6 q (by omega), s2_pl _ _ _ (by omega)]
theorem k_same {R : Mem} {c : Ch} {cs : List (Nat → Int32)} {k : Nat} {a now : Nat → Int32} (h : CD R c) (hT : TDs R (cN c) cs) (hk : cs[k]? = some a) (hw : ∀ i, i < cN c → R 19 i = now i) (kh2 : Int32 → Mem → Option (Int32 × Mem)) : ∀ (m j n : Nat) (y : Bool), j + m = cN c → m < n → ((y = true ∧ ∀ i, j ≤ i → i < cN c → a i = now i) → H_X8_configuration_14 kh2 n (nI k) (bI y) (nI j) R = some (nI k, R)) ∧ (¬ (y = true ∧ ∀ i, j ≤ i → i < cN c → a i = now i) → H_X8_configuration_14 kh2 n (nI k) (bI y) (nI j) R = kh2 (nI (k + 1)) R) := by
  have h14 := h.1.n14
  have h30 := hT.1
  have hl := (List.getElem?_eq_some_iff.mp hk).1
  intro m
  induction m with
  | zero =>
    intro j n y hj hn
    cases n with
    | zero => omega
    | succ n =>
      have head : H_X8_configuration_14 kh2 (n + 1) (nI k) (bI y) (nI j) R = if bI y = (0 : Int32) then kh2 (nI (k + 1)) R else some (nI k, R) := by
        show B_X8_configuration_14 _ _ _ _ _ _ = _
        unfold B_X8_configuration_14
        rw [h.2.1, if_pos (nI_le (by omega) (by omega)), nm_eq, show nI k + 1 = nI (k + 1) from nI_1 k]
      rw [head]
      cases y
      · exact ⟨fun q => (by cases q.1), fun _ => if_pos (by decide)⟩
      · exact ⟨fun _ => if_neg (by decide), fun q => absurd ⟨rfl, fun i a b => by omega⟩ q⟩
  | succ m ih =>
    intro j n y hj hn
    cases n with
    | zero => omega
    | succ n =>
      have e51 : ∀ b : Bool, B_X8_configuration_51 kh2 (H_X8_configuration_14 kh2 n) (nI k) (nI j) (bI b) R = H_X8_configuration_14 kh2 n (nI k) (bI b) (nI (j + 1)) R := by
        intro b
        unfold B_X8_configuration_51
        rw [nm_eq, show nI j + 1 = nI (j + 1) from nI_1 j]
      have head : H_X8_configuration_14 kh2 (n + 1) (nI k) (bI y) (nI j) R = H_X8_configuration_14 kh2 n (nI k) (bI (y && decide (a j = now j))) (nI (j + 1)) R := by
        rw [← e51]
        show B_X8_configuration_14 _ _ _ _ _ _ = _
        unfold B_X8_configuration_14
        rw [h.2.1, if_neg (nI_ge (by omega) (by omega))]
        cases y
        · rw [if_pos (by decide)]; rfl
        · rw [if_neg (by decide), show (14 : Int32) = nI 14 from rfl, pk_mul, nI_add, gi_ok (show 14 * k + j < 420 by omega) (by decide), gi_ok (show j < 14 by omega) (by decide), nI_clamp (n := 14 * k + j) (by omega), nI_clamp (n := j) (by omega), hT.2.2 k a hk j (by omega), hw j (by omega)]
          by_cases z : a j = now j
          · rw [if_pos z]; simp [z]; rfl
          · rw [if_neg z]; simp [z]; rfl
      obtain ⟨i1, i2⟩ := ih (j + 1) n (y && decide (a j = now j)) (by omega) (by omega)
      rw [head]
      refine ⟨fun q => i1 ⟨by rw [q.1]; simp [q.2 j (Nat.le_refl _) (by omega)], fun i x z => q.2 i (by omega) z⟩, fun q => i2 (fun w => q ?_)⟩
      obtain ⟨w1, w2⟩ := w
      rw [Bool.and_eq_true, decide_eq_true_eq] at w1
      refine ⟨w1.1, fun i x z => ?_⟩
      rcases Nat.eq_or_lt_of_le x with e | e
      · subst e; exact w1.2
      · exact w2 i e z
theorem k_find {R : Mem} {c : Ch} {cs : List (Nat → Int32)} {now : Nat → Int32} (h : CD R c) (hT : TDs R (cN c) cs) (hw : ∀ i, i < cN c → R 19 i = now i) : ∀ (m k n : Nat), k + m = cs.length → m < n → (∀ x, fnd (cN c) now (cs.drop k) k = some x → H_X8_configuration_2 n (nI k) R = some (nI x, R)) ∧ (fnd (cN c) now (cs.drop k) k = none → H_X8_configuration_2 n (nI k) R = if cs.length < 30 then H_X8_configuration_83 100 (nI 0) R else some (-1, R)) := by
  have h30 := hT.1
  have h14 := h.1.n14
  intro m
  induction m with
  | zero =>
    intro k n hk hn2
    cases n with
    | zero => omega
    | succ n =>
      have e : cs.drop k = [] := List.drop_eq_nil_of_le (by omega)
      rw [e]
      refine ⟨fun x q => (by cases q), fun _ => ?_⟩
      show B_X8_configuration_2 _ _ _ = _
      unfold B_X8_configuration_2
      rw [hT.2.1, if_pos (nI_le (by omega) (by omega))]
      by_cases z : cs.length < 30
      · rw [if_pos z, if_neg (show ¬ nI cs.length = (30 : Int32) from fun w => by have := nI_inj (b := 30) (by omega) (by omega) w; omega)]
        rfl
      · rw [if_neg z, if_pos (show nI cs.length = (30 : Int32) by rw [show cs.length = 30 by omega]; rfl)]
  | succ m ih =>
    intro k n hk hn2
    cases n with
    | zero => omega
    | succ n =>
      have hl : k < cs.length := by omega
      obtain ⟨a, ea⟩ : ∃ a, cs[k]? = some a := ⟨_, List.getElem?_eq_getElem hl⟩
      have hd : cs.drop k = a :: cs.drop (k + 1) := by
        rw [List.drop_eq_getElem_cons hl]
        congr 1
        exact Option.some.inj ((List.getElem?_eq_getElem hl).symm.trans ea)
      obtain ⟨i1, i2⟩ := ih (k + 1) n (by omega) (by omega)
      obtain ⟨w1, w2⟩ := k_same h hT ea hw (H_X8_configuration_2 n) (cN c) 0 100 true (by omega) (by omega)
      have head : H_X8_configuration_2 (n + 1) (nI k) R = H_X8_configuration_14 (H_X8_configuration_2 n) 100 (nI k) (bI true) (nI 0) R := by
        show B_X8_configuration_2 _ _ _ = _
        unfold B_X8_configuration_2
        rw [hT.2.1, if_neg (nI_ge hl (by omega))]
        rfl
      rw [head, hd]
      simp only [fnd]
      by_cases z : ∀ i, i < cN c → a i = now i
      · rw [if_pos z, w1 ⟨rfl, fun i _ hi => z i hi⟩]
        refine ⟨fun x q => by cases q; rfl, fun q => by cases q⟩
      · rw [if_neg z, w2 (fun y => z (fun i hi => y.2 i (by omega) hi))]
        exact ⟨i1, i2⟩
theorem g_conf {R : Mem} {c : Ch} {cs : List (Nat → Int32)} {now : Nat → Int32} (h : CD R c) (hT : TDs R (cN c) cs) (hw : ∀ i, i < cN c → R 19 i = now i) : (∀ k cs', numA (cN c) cs now = some (k, cs') → ∃ R', F_X8_configuration R = some (nI k, R') ∧ TDs R' (cN c) cs' ∧ k < cs'.length ∧ cs.length ≤ cs'.length ∧ (∀ a, a ≠ 0 → a ≠ 21 → R' a = R a) ∧ ∀ x, x ≠ 27 → R' 0 x = R 0 x) ∧ (numA (cN c) cs now = none → F_X8_configuration R = some (-1, R)) := by
  have h30 := hT.1
  have h14 := h.1.n14
  obtain ⟨a1, a2⟩ := k_find h hT hw cs.length 0 100 (by omega) (by omega)
  rw [List.drop_zero] at a1 a2
  unfold F_X8_configuration numA
  cases e : fnd (cN c) now cs 0 with
  | some x =>
    refine ⟨fun k cs' q => ?_, fun q => by cases q⟩
    cases q
    have := fnd_lt _ _ _ e
    exact ⟨R, a1 x e, hT, by omega, Nat.le_refl _, fun _ _ _ => rfl, fun _ _ => rfl⟩
  | none =>
    have b := a2 e
    by_cases z : cs.length < 30
    · rw [if_pos z] at b
      refine ⟨fun k cs' q => ?_, fun q => by dsimp only at q; rw [if_pos z] at q; cases q⟩
      dsimp only at q
      rw [if_pos z] at q
      cases q
      obtain ⟨R', f1, f2, f3, f4, f5, f6⟩ := k_store h.1 z (cN c) 0 100 R (by omega) (by omega) h.2.1 hT.2.1 hw
      refine ⟨R', b.trans f1, ⟨by rw [List.length_append]; simp; omega, by rw [f3, List.length_append]; simp, fun k a hk i hi => ?_⟩, by rw [List.length_append]; simp, by rw [List.length_append]; simp, f2, f4⟩
      rcases Nat.lt_or_ge k cs.length with y | y
      · rw [List.getElem?_append_left y] at hk
        rw [f6 _ (Or.inl (by omega))]
        exact hT.2.2 k a hk i hi
      · rw [List.getElem?_append_right y] at hk
        have hz : k - cs.length < 1 := (List.getElem?_eq_some_iff.mp hk).1
        have hk0 : k = cs.length := by omega
        subst hk0
        rw [Nat.sub_self] at hk
        cases hk
        exact f5 i (by omega) hi
    · rw [if_neg z] at b
      exact ⟨fun k cs' q => (by dsimp only at q; rw [if_neg z] at q; cases q), fun _ => b⟩
