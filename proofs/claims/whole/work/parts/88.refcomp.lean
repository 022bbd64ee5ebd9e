/-! The reference's compile: its loops. -/
def BJ (R : Mem) (c : Ch) (em lm : Nat → List Int32) (u : Ru) (nE : Nat) (D : Nat → Prop) (A : Tb) : Prop := SD R c em lm ∧ RD R c u ∧ R 0 14 = nI nE ∧ R 0 0 = 0 ∧ TDs R (cN c) A.1 ∧ (∀ a, a ∈ A.1 → nowOK c a) ∧ (∀ q, D q → R 22 q = nI (A.2.1 q) ∧ TQ R q (A.2.2 q)) ∧ TQ R 180 (A.2.2 180)
theorem j_setNow {c : Ch} {cs : List (Nat → Int32)} {k : Nat} {a : Nat → Int32} {ev : Int32} (hc : wf c) (hk : cs[k]? = some a) : ∀ (m j n : Nat) (R : Mem), j + m = cN c → m < n → R 0 6 = nI (cN c) → TDs R (cN c) cs → (∀ i, i < j → R 19 i = a i) → ∃ R', H_X8_offered_2 n (nI k) ev (nI j) R = (bd (F_X8_offer ev (set2 R' 0 26 0)) fun M_5 => some M_5) ∧ (∀ i, i < cN c → R' 19 i = a i) ∧ ∀ b, b ≠ 19 → R' b = R b := by
  have h14 := hc.n14
  have hl := (List.getElem?_eq_some_iff.mp hk).1
  intro m
  induction m with
  | zero =>
    intro j n R hj hn h6 hT hw
    cases n with
    | zero => omega
    | succ n =>
      refine ⟨R, ?_, fun i hi => hw i (by omega), fun _ _ => rfl⟩
      show B_X8_offered_2 _ _ _ _ _ = _
      unfold B_X8_offered_2
      rw [h6, if_pos (nI_le (by omega) (by omega)), wr_eq]
  | succ m ih =>
    intro j n R hj hn h6 hT hw
    cases n with
    | zero => omega
    | succ n =>
      have h30 := hT.1
      obtain ⟨R', f1, f2, f3⟩ := ih (j + 1) n (set2 R 19 j (a j)) (by omega) (by omega) (by rw [s2_oth _ _ _ _ (by decide)]; exact h6) (hT.keep (set2_ne _ _ _ (by decide)) (s2_oth _ _ _ _ (by decide))) (fun i hi => by
        by_cases z : i = j
        · subst z; exact s2_hit _ _ _ _
        · rw [s2_pl _ _ _ z]; exact hw i (by omega))
      refine ⟨R', ?_, f2, fun b hb => by rw [f3 b hb, set2_ne _ _ _ hb]⟩
      show B_X8_offered_2 _ _ _ _ _ = _
      unfold B_X8_offered_2
      rw [h6, if_neg (nI_ge (by omega) (by omega)), show (14 : Int32) = nI 14 from rfl, pk_mul, nI_add, gi_ok (show 14 * k + j < 420 by omega) (by decide), gi_ok (show j < 14 by omega) (by decide), nI_clamp (n := 14 * k + j) (by omega), nI_clamp (n := j) (by omega), hT.2.2 k a hk j (by omega), wr_eq, nm_eq, show nI j + 1 = nI (j + 1) from nI_1 j]
      exact f1
theorem g_offered {R : Mem} {c : Ch} {em lm : Nat → List Int32} {u : Ru} {cs : List (Nat → Int32)} {k ev : Nat} {a : Nat → Int32} (he : ev < 6) (hk : cs[k]? = some a) (ha : nowOK c a) (hT : TDs R (cN c) cs) (hS : SD R c em lm) (hR : RD R c u) : ∃ R', F_X8_offered (nI k) (nI ev) R = some R' ∧ WR R' c (ofA c em lm u ev 9 0 (a, [])).2 ∧ nowOK c (ofA c em lm u ev 9 0 (a, [])).2.1 ∧ rfr R R' := by
  have hc := hS.1.1
  have h14 := hc.n14
  obtain ⟨R1, f1, f2, f3⟩ := j_setNow (ev := nI ev) hc hk (cN c) 0 100 R (by omega) (by omega) hS.1.2.1 hT (fun i hi => by omega)
  have e1 : rfr R (set2 R1 0 26 0) := rfr.tr ⟨fun b x y => f3 b (by omega), fun j x => by rw [f3 0 (by decide)]⟩ rfr.set0
  have hw : WR (set2 R1 0 26 0) c (a, []) := ⟨fun i hi => by rw [s2_oth _ _ _ _ (by decide)]; exact f2 i hi, by rw [s2_hit]; rfl, fun i h1 h2 => by simp at h2⟩
  obtain ⟨R', g1, g2, g3, g4⟩ := g_offerF (em := em) (lm := lm) (u := u) he ha hw (hS.w e1) (hR.w e1)
  refine ⟨R', ?_, g2, g3, e1.tr g4⟩
  unfold F_X8_offered
  rw [show (0 : Int32) = nI 0 from rfl]
  rw [show H_X8_offered_2 100 (nI k) (nI ev) (nI 0) R = _ from f1, g1, bd_some]
/-- no table: the end -/
theorem j_bad {R : Mem} {k : Int32} (n : Nat) : ∃ R', H_X8_compile_62 (n + 1) (-1) k R = some (0, R') ∧ R' 0 27 = 0 ∧ R' 0 0 = 1 ∧ stR R R' := by
  have e : H_X8_compile_62 (n + 1) (-1) k R = B_X8_compile_146 0 R := by
    show B_X8_compile_62 _ _ _ _ = _
    unfold B_X8_compile_62 B_X8_compile_133
    rw [if_neg (show ¬ (0 : Int32) ≤ -1 by decide), if_pos m1_lt0]
    exact ite_self _
  rw [e]
  unfold B_X8_compile_146 F_X8_fails
  rw [wr_eq, wr_eq, show (180 : Int32) = nI 180 from rfl, gi_ok (show 180 < 181 by omega) (by decide), wr_eq, s2_pl _ _ _ (by decide), s2_pl _ _ _ (by decide), s2_hit, if_pos (by decide), wr_eq, bd2_some]
  refine ⟨_, rfl, ?_, s2_hit _ _ _ _, (stR.set0 (by omega)).tr ((stR.set0 (by omega)).tr ((stR.set0 (by omega)).tr (stR.set0 (by omega))))⟩
  rw [s2_pl _ _ _ (by decide), s2_pl _ _ _ (by decide), s2_pl _ _ _ (by decide), s2_hit]
theorem j_bad2 {R : Mem} {k : Nat} {e : Int32} (n m : Nat) : ∃ R', H_X8_compile_76 (H_X8_compile_62 (n + 1)) (m + 1) (-1) (nI k) e R = some (0, R') ∧ R' 0 27 = 0 ∧ R' 0 0 = 1 ∧ stR R R' := by
  have h : H_X8_compile_76 (H_X8_compile_62 (n + 1)) (m + 1) (-1) (nI k) e R = H_X8_compile_62 (n + 1) (-1) (nI k + 1) R := by
    show B_X8_compile_76 _ _ _ _ _ _ = _
    unfold B_X8_compile_76 B_X8_compile_127
    rw [if_pos m1_lt0, nm_eq]
    exact ite_self _
  rw [h]
  exact j_bad n
/-- one cell of the table -/
theorem j_step {c : Ch} {em lm : Nat → List Int32} {u : Ru} {nE k e cc : Nat} {D : Nat → Prop} {A : Tb} {R : Mem} (hE6 : nE ≤ 6) (hB : BJ R c em lm u nE D A) (hk : k < A.1.length) (he : e < nE) (hcc : cc < 2 ^ 31) (n m : Nat) : (∀ A', stA c em lm u k e A = some A' → ∃ R' c', c' < 2 ^ 31 ∧ H_X8_compile_76 (H_X8_compile_62 (n + 1)) (m + 1 + 1) (nI cc) (nI k) (nI e) R = H_X8_compile_76 (H_X8_compile_62 (n + 1)) (m + 1) (nI c') (nI k) (nI (e + 1)) R' ∧ BJ R' c em lm u nE (fun q => D q ∨ q = k * 6 + e) A' ∧ A.1.length ≤ A'.1.length ∧ stR R R') ∧ (stA c em lm u k e A = none → ∃ R', H_X8_compile_76 (H_X8_compile_62 (n + 1)) (m + 1 + 1) (nI cc) (nI k) (nI e) R = some (0, R') ∧ R' 0 27 = 0 ∧ R' 0 0 = 1 ∧ stR R R') := by
  obtain ⟨hS, hR, hE, h00, hT, hcs, hD, h180⟩ := hB
  have h30 := hT.1
  have hc := hS.1.1
  obtain ⟨a, ea⟩ : ∃ a, A.1[k]? = some a := ⟨_, List.getElem?_eq_getElem hk⟩
  have ha : nowOK c a := hcs a (List.mem_of_getElem? ea)
  obtain ⟨R1, a1, a2, a3, a4⟩ := g_offered (em := em) (lm := lm) (u := u) (ev := e) (by omega) ea ha hT hS hR
  obtain ⟨R2, b1, b2, b3, b4⟩ := g_keep (q := 6 * k + e) (by omega) a2
  have e2 : stR R R2 := a4.st.tr ⟨fun b x y => b3 b (by omega) (by omega), fun j _ _ _ _ _ => by rw [b3 0 (by decide) (by decide)]⟩
  have hT2 : TDs R2 (cN c) A.1 := hT.keep (by rw [b3 21 (by decide) (by decide), a4.1 21 (by decide) (by omega)]) (by rw [b3 0 (by decide) (by decide), a4.2 27 (by decide)])
  obtain ⟨n1, n2⟩ := g_conf (now := (ofA c em lm u e 9 0 (a, [])).2.1) (hS.s e2).1 hT2 (fun i hi => by rw [b3 19 (by decide) (by decide)]; exact a2.1 i hi)
  have head : H_X8_compile_76 (H_X8_compile_62 (n + 1)) (m + 1 + 1) (nI cc) (nI k) (nI e) R = bd2 (F_X8_configuration R2) fun r_7 M_9 => gi 180 (nI (6 * k + e)) (wr M_9 22 (nI (6 * k + e)).toNatClampNeg r_7 fun M_11 => nm (nI e + (1 : Int32)) fun x3_13 => H_X8_compile_76 (H_X8_compile_62 (n + 1)) (m + 1) r_7 (nI k) x3_13 M_11) := by
    show B_X8_compile_76 _ _ _ _ _ _ = _
    unfold B_X8_compile_76
    rw [hE, if_neg (nI_ge he (by omega)), if_neg (nI_lt0 hcc), a1, bd_some, show (6 : Int32) = nI 6 from rfl, pk_mul, nI_add, b1, bd_some]
  rw [head]
  unfold stA
  rw [ea]
  dsimp only
  cases hnum : numA (cN c) A.1 (ofA c em lm u e 9 0 (a, [])).2.1 with
  | none =>
    refine ⟨fun A' q => (by cases q), fun _ => ?_⟩
    rw [n2 hnum, bd2_some, gi_ok (show 6 * k + e < 180 by omega) (by decide), wr_eq, nm_eq]
    obtain ⟨R', f1, f2, f3, f4⟩ := j_bad2 (R := set2 R2 22 (nI (6 * k + e)).toNatClampNeg (-1)) (k := k) (e := nI e + 1) n m
    exact ⟨R', f1, f2, f3, e2.tr ((stR.set (by omega)).tr f4)⟩
  | some q =>
    refine ⟨fun A' q2 => ?_, fun q => (by cases q)⟩
    cases q2
    obtain ⟨i, cs'⟩ := q
    obtain ⟨R3, c1, c2, c4, c5, c6, c7⟩ := n1 i cs' hnum
    have hl' := c2.1
    rw [c1, bd2_some, gi_ok (show 6 * k + e < 180 by omega) (by decide), nI_clamp (by omega), wr_eq, nm_eq, show nI e + 1 = nI (e + 1) from nI_1 e]
    have e3 : stR R2 R3 := ⟨fun b x y => c6 b x (by omega), fun j _ _ x _ _ => c7 j x⟩
    have e4 : stR R (set2 R3 22 (6 * k + e) (nI i)) := e2.tr (e3.tr (stR.set (by omega)))
    have tk4 : ∀ q tr, TQ R3 q tr → TQ (set2 R3 22 (6 * k + e) (nI i)) q tr := fun q tr h => h.keep (set2_ne _ _ _ (by decide)) (set2_ne _ _ _ (by decide))
    have tk3 : ∀ q tr, TQ R2 q tr → TQ R3 q tr := fun q tr h => h.keep (c6 23 (by decide) (by decide)) (c6 24 (by decide) (by decide))
    have tk1 : ∀ q tr, q ≠ 6 * k + e → TQ R q tr → TQ R2 q tr := fun q tr hq h => b4 q tr hq (h.keep (a4.1 23 (by decide) (by omega)) (a4.1 24 (by decide) (by omega)))
    have e22 : ∀ q, q ≠ 6 * k + e → set2 R3 22 (6 * k + e) (nI i) 22 q = R 22 q := fun q hq => by rw [s2_pl _ _ _ hq, c6 22 (by decide) (by decide), b3 22 (by decide) (by decide), a4.1 22 (by decide) (by omega)]
    refine ⟨_, i, by omega, rfl, ⟨hS.s e4, hR.s e4, by rw [e4.2 14 (by decide) (by decide) (by decide) (by decide) (by decide)]; exact hE, by rw [s2_oth _ _ _ _ (by decide), c7 0 (by decide), b3 0 (by decide) (by decide), a4.2 0 (by decide)]; exact h00, c2.keep (set2_ne _ _ _ (by decide)) (s2_oth _ _ _ _ (by decide)), ?_, fun q hq => ?_, ?_⟩, c5, e4⟩
    · intro x hx
      have hx2 : x ∈ cs' := hx
      have en := hnum
      unfold numA at en
      cases ef : fnd (cN c) (ofA c em lm u e 9 0 (a, [])).2.1 A.1 0 with
      | some y => rw [ef] at en; cases en; exact hcs x hx2
      | none =>
        rw [ef] at en
        dsimp only at en
        by_cases z : A.1.length < 30
        · rw [if_pos z] at en
          cases en
          rcases List.mem_append.mp hx2 with y | y
          · exact hcs x y
          · rw [List.mem_singleton.mp y]; exact a3
        · rw [if_neg z] at en; cases en
    · by_cases z : q = k * 6 + e
      · subst z
        dsimp only
        rw [if_pos rfl, if_pos rfl, show k * 6 + e = 6 * k + e by omega, s2_hit]
        exact ⟨rfl, tk4 _ _ (tk3 _ _ b2)⟩
      · have hq2 : D q := hq.elim id (fun y => absurd y z)
        obtain ⟨d1, d2⟩ := hD q hq2
        have z2 : q ≠ 6 * k + e := by omega
        dsimp only
        rw [if_neg z, if_neg z, e22 q z2]
        exact ⟨d1, tk4 _ _ (tk3 _ _ (tk1 _ _ z2 d2))⟩
    · dsimp only
      rw [if_neg (by omega)]
      exact tk4 _ _ (tk3 _ _ (tk1 _ _ (by omega) h180))
theorem j_inner {c : Ch} {em lm : Nat → List Int32} {u : Ru} {nE k : Nat} (hE6 : nE ≤ 6) (n : Nat) : ∀ (m e f cc : Nat) (D : Nat → Prop) (A : Tb) (R : Mem), e + m = nE → m < f → cc < 2 ^ 31 → BJ R c em lm u nE D A → k < A.1.length → (∀ A', inA c em lm u k m e A = some A' → ∃ R' c', c' < 2 ^ 31 ∧ H_X8_compile_76 (H_X8_compile_62 (n + 1)) (f + 1) (nI cc) (nI k) (nI e) R = H_X8_compile_62 (n + 1) (nI c') (nI (k + 1)) R' ∧ BJ R' c em lm u nE (fun q => D q ∨ ∃ x, e ≤ x ∧ x < nE ∧ q = k * 6 + x) A' ∧ A.1.length ≤ A'.1.length ∧ stR R R') ∧ (inA c em lm u k m e A = none → ∃ R', H_X8_compile_76 (H_X8_compile_62 (n + 1)) (f + 1) (nI cc) (nI k) (nI e) R = some (0, R') ∧ R' 0 27 = 0 ∧ R' 0 0 = 1 ∧ stR R R') := by
  intro m
  induction m with
  | zero =>
    intro e f cc D A R he hf hcc hB hk
    refine ⟨fun A' q => ?_, fun q => (by cases q)⟩
    cases q
    refine ⟨R, cc, hcc, ?_, ?_, Nat.le_refl _, stR.rf⟩
    · show B_X8_compile_76 _ _ _ _ _ _ = _
      unfold B_X8_compile_76 B_X8_compile_127
      rw [hB.2.2.1, if_pos (nI_le (show nE ≤ e by omega) (by omega)), nm_eq, show nI k + 1 = nI (k + 1) from nI_1 k]
    · obtain ⟨b1, b2, b3, b4, b5, b6, b7, b8⟩ := hB
      exact ⟨b1, b2, b3, b4, b5, b6, fun q hq => b7 q (hq.elim id (fun ⟨x, y, z, _⟩ => by omega)), b8⟩
  | succ m ih =>
    intro e f cc D A R he hf hcc hB hk
    cases f with
    | zero => omega
    | succ f =>
      obtain ⟨s1, s2⟩ := j_step hE6 hB hk (show e < nE by omega) hcc n f
      simp only [inA]
      cases hst : stA c em lm u k e A with
      | none => exact ⟨fun A' q => (by cases q), fun _ => s2 hst⟩
      | some A1 =>
        obtain ⟨R1, c1, f0, f1, f2, f3, f4⟩ := s1 A1 hst
        obtain ⟨i1, i2⟩ := ih (e + 1) f c1 _ A1 R1 (by omega) (by omega) f0 f2 (by omega)
        dsimp only
        rw [f1]
        refine ⟨fun A' q => ?_, fun q => ?_⟩
        · obtain ⟨R', c', g0, g1, g2, g3, g4⟩ := i1 A' q
          refine ⟨R', c', g0, g1, ?_, by omega, f4.tr g4⟩
          obtain ⟨b1, b2, b3, b4, b5, b6, b7, b8⟩ := g2
          refine ⟨b1, b2, b3, b4, b5, b6, fun q hq => b7 q ?_, b8⟩
          rcases hq with y | ⟨x, y, z, w⟩
          · exact Or.inl (Or.inl y)
          · rcases Nat.eq_or_lt_of_le y with t | t
            · exact Or.inl (Or.inr (by rw [w, t]))
            · exact Or.inr ⟨x, t, z, w⟩
        · obtain ⟨R', g1, g2, g3, g4⟩ := i2 q
          exact ⟨R', g1, g2, g3, f4.tr g4⟩
theorem j_outer {c : Ch} {em lm : Nat → List Int32} {u : Ru} {nE : Nat} (hE6 : nE ≤ 6) : ∀ (m k n cc : Nat) (A : Tb) (R : Mem), k + m = 31 → m < n → cc < 2 ^ 31 → BJ R c em lm u nE (fun q => ∃ x y, x < k ∧ y < nE ∧ q = x * 6 + y) A → k ≤ A.1.length → 1 ≤ A.1.length → (∀ A', ouA c em lm u nE m k A = some A' → ∃ R', H_X8_compile_62 n (nI cc) (nI k) R = some (nI A'.1.length, R') ∧ BJ R' c em lm u nE (fun q => ∃ x y, x < A'.1.length ∧ y < nE ∧ q = x * 6 + y) A' ∧ R' 0 28 = 0 ∧ R' 0 29 = nI (min 40 (A'.2.2 180).length) ∧ stR R R') ∧ (ouA c em lm u nE m k A = none → ∃ R', H_X8_compile_62 n (nI cc) (nI k) R = some (0, R') ∧ R' 0 27 = 0 ∧ R' 0 0 = 1 ∧ stR R R') := by
  have fin : ∀ (R : Mem) (A : Tb) (D : Nat → Prop), 1 ≤ A.1.length → BJ R c em lm u nE D A → ∃ R', B_X8_compile_146 (R 0 27) R = some (nI A.1.length, R') ∧ BJ R' c em lm u nE D A ∧ R' 0 28 = 0 ∧ R' 0 29 = nI (min 40 (A.2.2 180).length) ∧ stR R R' := by
    intro R A D h1 hB
    obtain ⟨b1, b2, b3, b4, b5, b6, b7, b8⟩ := hB
    have h30 := b5.1
    obtain ⟨R', e1⟩ : ∃ R', R' = set2 (set2 (set2 R 0 27 (nI A.1.length)) 0 28 0) 0 29 (nI (min 40 (A.2.2 180).length)) := ⟨_, rfl⟩
    have es : stR R R' := by rw [e1]; exact (stR.set0 (by omega)).tr ((stR.set0 (by omega)).tr (stR.set0 (by omega)))
    have ec : ∀ a, a ≠ 0 → R' a = R a := fun a ha => by rw [e1, set2_ne _ _ _ ha, set2_ne _ _ _ ha, set2_ne _ _ _ ha]
    have e27 : R' 0 27 = nI A.1.length := by rw [e1, s2_pl _ _ _ (by decide), s2_pl _ _ _ (by decide), s2_hit]
    refine ⟨R', ?_, ⟨b1.s es, b2.s es, by rw [es.2 14 (by decide) (by decide) (by decide) (by decide) (by decide)]; exact b3, by rw [e1, s2_pl _ _ _ (by decide), s2_pl _ _ _ (by decide), s2_pl _ _ _ (by decide)]; exact b4, b5.keep (ec 21 (by decide)) (by rw [e27, b5.2.1]), b6, fun q hq => ⟨by rw [ec 22 (by decide)]; exact (b7 q hq).1, (b7 q hq).2.keep (ec 23 (by decide)) (ec 24 (by decide))⟩, b8.keep (ec 23 (by decide)) (ec 24 (by decide))⟩, by rw [e1, s2_pl _ _ _ (by decide), s2_hit], by rw [e1, s2_hit], es⟩
    unfold B_X8_compile_146
    rw [wr_eq, wr_eq, show (180 : Int32) = nI 180 from rfl, gi_ok (show 180 < 181 by omega) (by decide), nI_clamp (by omega), wr_eq, b5.2.1, show set2 (set2 R 0 27 (nI A.1.length)) 0 28 0 23 180 = nI (min 40 (A.2.2 180).length) by rw [s2_oth _ _ _ _ (show ¬ 23 = 0 by decide), s2_oth _ _ _ _ (show ¬ 23 = 0 by decide)]; exact b8.1, ← e1, e27, if_neg (nI_nle (by omega) (by omega))]
  intro m
  induction m with
  | zero =>
    intro k n cc A R hk hn hcc hB hkl h1
    have := hB.2.2.2.2.1.1
    omega
  | succ m ih =>
    intro k n cc A R hk hn hcc hB hkl h1
    cases n with
    | zero => omega
    | succ n =>
      have h30 := hB.2.2.2.2.1.1
      simp only [ouA]
      by_cases q : k < A.1.length
      · rw [if_pos q]
        obtain ⟨n', en⟩ : ∃ n', n = n' + 1 := ⟨n - 1, by omega⟩
        subst en
        have head : H_X8_compile_62 (n' + 1 + 1) (nI cc) (nI k) R = H_X8_compile_76 (H_X8_compile_62 (n' + 1)) (99 + 1) (nI cc) (nI k) (nI 0) R := by
          show B_X8_compile_62 _ _ _ _ = _
          unfold B_X8_compile_62
          rw [hB.2.2.2.2.1.2.1, if_neg (nI_ge q (by omega)), if_neg (nI_lt0 hcc)]
          rfl
        obtain ⟨i1, i2⟩ := j_inner (k := k) hE6 n' nE 0 99 cc _ A R (by omega) (by omega) hcc hB q
        rw [head]
        cases hin : inA c em lm u k nE 0 A with
        | none => exact ⟨fun A' z => (by cases z), fun _ => i2 hin⟩
        | some A1 =>
          obtain ⟨R1, c1, f0, f1, f2, f3, f4⟩ := i1 A1 hin
          have hB1 : BJ R1 c em lm u nE (fun q => ∃ x y, x < k + 1 ∧ y < nE ∧ q = x * 6 + y) A1 := by
            obtain ⟨b1, b2, b3, b4, b5, b6, b7, b8⟩ := f2
            refine ⟨b1, b2, b3, b4, b5, b6, fun q hq => b7 q ?_, b8⟩
            obtain ⟨x, y, z, w, t⟩ := hq
            rcases Nat.lt_or_ge x k with v | v
            · exact Or.inl ⟨x, y, v, w, t⟩
            · have hx : x = k := by omega
              subst hx
              exact Or.inr ⟨y, Nat.zero_le _, w, t⟩
          obtain ⟨j1, j2⟩ := ih (k + 1) (n' + 1) c1 A1 R1 (by omega) (by omega) f0 hB1 (by omega) (by omega)
          dsimp only
          rw [f1]
          refine ⟨fun A' z => ?_, fun z => ?_⟩
          · obtain ⟨R', g1, g2, g3, g4, g5⟩ := j1 A' z
            exact ⟨R', g1, g2, g3, g4, f4.tr g5⟩
          · obtain ⟨R', g1, g2, g3, g4⟩ := j2 z
            exact ⟨R', g1, g2, g3, f4.tr g4⟩
      · rw [if_neg q]
        refine ⟨fun A' z => ?_, fun z => (by cases z)⟩
        cases z
        obtain ⟨R', f1, f2, f3, f4, f5⟩ := fin R A _ h1 hB
        have hk2 : k = A.1.length := by omega
        refine ⟨R', ?_, by rw [hk2] at f2; exact f2, f3, f4, f5⟩
        show B_X8_compile_62 _ _ _ _ = _
        unfold B_X8_compile_62 B_X8_compile_133
        rw [if_pos (nI_0le hcc), f1, hB.2.2.2.2.1.2.1, if_pos (show nI A.1.length ≤ nI k from nI_le (by omega) (by omega))]
theorem j_start {c : Ch} (hc : wf c) : ∀ (m j n : Nat) (R : Mem), j + m = cN c → m < n → CD R c → (∀ i, i < j → R 19 i = now0 c i) → ∃ R', H_X8_compile_17 n (nI j) R = (bd (F_X8_enter (0 : Int32) (-1 : Int32) R') fun M_3 => bd (F_X8_keep (180 : Int32) M_3) fun M_6 => bd2 (F_X8_configuration M_6) fun r_7 M_9 => H_X8_compile_62 100 r_7 (0 : Int32) M_9) ∧ (∀ i, i < cN c → R' 19 i = now0 c i) ∧ ∀ b, b ≠ 19 → R' b = R b := by
  have h14 := hc.n14
  intro m
  induction m with
  | zero =>
    intro j n R hj hn h hw
    cases n with
    | zero => omega
    | succ n =>
      refine ⟨R, ?_, fun i hi => hw i (by omega), fun _ _ => rfl⟩
      show B_X8_compile_17 _ _ _ = _
      unfold B_X8_compile_17
      rw [h.2.1, if_pos (nI_le (by omega) (by omega))]
  | succ m ih =>
    intro j n R hj hn h hw
    cases n with
    | zero => omega
    | succ n =>
      obtain ⟨R', f1, f2, f3⟩ := ih (j + 1) n (set2 R 19 j (now0 c j)) (by omega) (by omega) (h.keep (fun a x y => set2_ne _ _ _ (by omega)) (s2_oth _ _ _ _ (by decide))) (fun i hi => by
        by_cases z : i = j
        · subst z; exact s2_hit _ _ _ _
        · rw [s2_pl _ _ _ z]; exact hw i (by omega))
      refine ⟨R', ?_, f2, fun b hb => by rw [f3 b hb, set2_ne _ _ _ hb]⟩
      have e2 : F_X8_firstOf (nI j) R = some (now0 c j) := by
        unfold now0
        rw [if_pos (by omega)]; exact g_firstOf h (by omega)
      show B_X8_compile_17 _ _ _ = _
      unfold B_X8_compile_17
      rw [h.2.1, if_neg (nI_ge (by omega) (by omega)), e2, bd_some, gi_ok (show j < 14 by omega) (by decide), nI_clamp (by omega), wr_eq, nm_eq, show nI j + 1 = nI (j + 1) from nI_1 j]
      exact f1
theorem g_compile {R : Mem} {c : Ch} {em lm : Nat → List Int32} {u : Ru} {nE : Nat} (hE6 : nE ≤ 6) (hS : SD R c em lm) (hR : RD R c u) (hE : R 0 14 = nI nE) : (∀ A, comA c em lm u nE = some A → ∃ R', F_X8_compile R = some (nI A.1.length, R') ∧ BJ R' c em lm u nE (fun q => ∃ x y, x < A.1.length ∧ y < nE ∧ q = x * 6 + y) A ∧ R' 0 28 = 0 ∧ R' 0 29 = nI (min 40 (A.2.2 180).length) ∧ stR R R') ∧ (comA c em lm u nE = none → ∃ R', F_X8_compile R = some (0, R') ∧ R' 0 27 = 0 ∧ R' 0 0 = 1 ∧ stR R R') := by
  have hc := hS.1.1
  have h14 := hc.n14
  obtain ⟨R0, e0⟩ : ∃ R0, R0 = set2 (set2 (set2 R 0 0 0) 0 27 0) 0 26 0 := ⟨_, rfl⟩
  have s0 : stR R R0 := by rw [e0]; exact (stR.set0 (by omega)).tr ((stR.set0 (by omega)).tr (stR.set0 (by omega)))
  obtain ⟨R1, f1, f2, f3⟩ := j_start hc (cN c) 0 100 R0 (by omega) (by omega) (hS.s s0).1 (fun i hi => by omega)
  have s1 : stR R R1 := s0.tr ⟨fun a x y => f3 a (by omega), fun j _ _ _ _ _ => by rw [f3 0 (by decide)]⟩
  have hw1 : WR R1 c (now0 c, []) := ⟨f2, by rw [f3 0 (by decide), e0, s2_hit]; rfl, fun i h1 h2 => by simp at h2⟩
  obtain ⟨R2, g1, g2, g3, g4, g5⟩ := g_enterF (em := em) (lm := lm) (t := none) (s := 0) (g := (now0 c, [])) hc.1 (fun k e => by cases e) (now0_ok c) (hS.s s1) hw1
  obtain ⟨R3, h1, h2, h3, h4⟩ := g_keep (q := 180) (by omega) g2
  have s3 : stR R R3 := s1.tr (g4.st.tr ⟨fun b x y => h3 b (by omega) (by omega), fun j _ _ _ _ _ => by rw [h3 0 (by decide) (by decide)]⟩)
  have e00 : R3 0 0 = 0 := by rw [h3 0 (by decide) (by decide), g4.2 0 (by decide), f3 0 (by decide), e0, s2_pl _ _ _ (by decide), s2_pl _ _ _ (by decide), s2_hit]
  have hT3 : TDs R3 (cN c) [] := ⟨by simp, by rw [h3 0 (by decide) (by decide), g4.2 27 (by decide), f3 0 (by decide), e0, s2_pl _ _ _ (by decide), s2_hit]; rfl, fun k a hk => by simp at hk⟩
  obtain ⟨n1, -⟩ := g_conf (now := (enA c em none 9 0 (now0 c, [])).1) (hS.s s3).1 hT3 (fun i hi => by rw [h3 19 (by decide) (by decide)]; exact g2.1 i hi)
  obtain ⟨R4, i1, i2, i3, i4, i5, i6⟩ := n1 0 [(enA c em none 9 0 (now0 c, [])).1] (by simp [numA, fnd])
  have s4 : stR R R4 := s3.tr ⟨fun b x y => i5 b x (by omega), fun j _ _ x _ _ => i6 j x⟩
  have hB : BJ R4 c em lm u nE (fun q => ∃ x y, x < 0 ∧ y < nE ∧ q = x * 6 + y) (tab0 c em) := ⟨hS.s s4, hR.s s4, by rw [s4.2 14 (by decide) (by decide) (by decide) (by decide) (by decide)]; exact hE, by rw [i6 0 (by decide)]; exact e00, i2, fun a ha => by rw [List.mem_singleton.mp ha]; exact g3, fun q ⟨x, y, z, _⟩ => by omega, h2.keep (i5 23 (by decide) (by decide)) (i5 24 (by decide) (by decide))⟩
  obtain ⟨o1, o2⟩ := j_outer hE6 31 0 100 0 (tab0 c em) R4 (by omega) (by omega) (by omega) hB (Nat.zero_le _) (Nat.le_refl _)
  have head : F_X8_compile R = H_X8_compile_62 100 (nI 0) (nI 0) R4 := by
    unfold F_X8_compile
    rw [wr_eq, wr_eq, wr_eq, ← e0]
    rw [show H_X8_compile_17 100 (0 : Int32) R0 = _ from f1]
    rw [show F_X8_enter (0 : Int32) (-1 : Int32) R1 = _ from g1, bd_some]
    rw [show F_X8_keep (180 : Int32) R2 = _ from h1, bd_some, i1, bd2_some]
    rfl
  rw [head]
  refine ⟨fun A q => ?_, fun q => ?_⟩
  · obtain ⟨R', h1, h2, h4, h5, h6⟩ := o1 A q
    exact ⟨R', h1, h2, h4, h5, s4.tr h6⟩
  · obtain ⟨R', h1, h2, h3, h4⟩ := o2 q
    exact ⟨R', h1, h2, h3, s4.tr h4⟩
