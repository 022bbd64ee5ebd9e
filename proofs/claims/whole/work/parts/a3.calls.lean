/-! The calls that build the table and ask for it. -/
theorem num_lt {n : Nat} {cs : List (Nat → Int32)} {now : Nat → Int32} {q : Nat × List (Nat → Int32)} (h : numA n cs now = some q) : q.1 < q.2.length ∧ cs.length ≤ q.2.length := by
  unfold numA at h
  cases e : fnd n now cs 0 with
  | some k =>
    rw [e] at h
    cases h
    have := fnd_lt _ _ _ e
    exact ⟨by show k < cs.length; omega, Nat.le_refl _⟩
  | none =>
    rw [e] at h
    dsimp only at h
    by_cases z : cs.length < 30
    · rw [if_pos z] at h
      cases h
      simp
    · rw [if_neg z] at h; cases h
def fOK (A : Tb) : Prop := ∀ q, A.2.1 q < A.1.length
theorem st_ok {c : Ch} {em lm : Nat → List Int32} {u : Ru} {k e : Nat} {A A' : Tb} (h : stA c em lm u k e A = some A') (hA : fOK A) : fOK A' := by
  unfold stA at h
  cases e1 : A.1[k]? with
  | none => rw [e1] at h; cases h
  | some a =>
    rw [e1] at h
    dsimp only at h
    cases e2 : numA (cN c) A.1 (ofA c em lm u e 9 0 (a, [])).2.1 with
    | none => rw [e2] at h; cases h
    | some q =>
      rw [e2] at h
      cases h
      have := num_lt e2
      intro x
      show (if x = k * 6 + e then q.1 else A.2.1 x) < q.2.length
      by_cases z : x = k * 6 + e
      · rw [if_pos z]; exact this.1
      · rw [if_neg z]; have := hA x; omega
theorem in_ok {c : Ch} {em lm : Nat → List Int32} {u : Ru} {k : Nat} : ∀ (m e : Nat) (A A' : Tb), inA c em lm u k m e A = some A' → fOK A → fOK A'
  | 0, _, A, A', h, hA => by cases h; exact hA
  | m + 1, e, A, A', h, hA => by
    unfold inA at h
    cases e1 : stA c em lm u k e A with
    | none => rw [e1] at h; cases h
    | some A1 => rw [e1] at h; exact in_ok m (e + 1) A1 A' h (st_ok e1 hA)
theorem ou_ok {c : Ch} {em lm : Nat → List Int32} {u : Ru} {nE : Nat} : ∀ (m k : Nat) (A A' : Tb), ouA c em lm u nE m k A = some A' → fOK A → fOK A'
  | 0, _, A, A', h, hA => by cases h; exact hA
  | m + 1, k, A, A', h, hA => by
    unfold ouA at h
    by_cases z : k < A.1.length
    · rw [if_pos z] at h
      cases e1 : inA c em lm u k nE 0 A with
      | none => rw [e1] at h; cases h
      | some A1 => rw [e1] at h; exact ou_ok m (k + 1) A1 A' h (in_ok _ _ _ _ e1 hA)
    · rw [if_neg z] at h; cases h; exact hA
theorem com_ok {c : Ch} {em lm : Nat → List Int32} {u : Ru} {nE : Nat} {A : Tb} (h : comA c em lm u nE = some A) : fOK A := ou_ok 31 0 _ A h (fun q => by show 0 < 1; decide)
theorem p_compile {M R : Mem} (h : Rel M R) : ∃ r M' b R', F_X5_build M = some (r, M') ∧ F_X8_compile R = some (b, R') ∧ ((r = 1 ∧ R' 0 0 = 0 ∧ M' 30 6 = b) ∨ (r = 0 ∧ R' 0 0 = 1)) ∧ Rel M' R' := by
  obtain ⟨c, nm, em, lm, u, nE, en, len, t, hB, hL, hR, hch, hT⟩ := h
  have hB0 := hB
  obtain ⟨⟨bS, bC, bE⟩, ⟨bD, bR, bF⟩, hE6, -, -, -, -⟩ := hB
  obtain ⟨f1, f2⟩ := f_build hE6 bS bC bE
  obtain ⟨g1, g2⟩ := g_compile hE6 bD bR bF
  have keep : ∀ M' R', stF M M' → stR R R' → BS M' R' c nm em lm u nE en ∧ LC M' len t ∧ LR R' len t := fun M' R' s1 s2 => by
    have r0 : ∀ j, j ≠ 0 → j ≠ 26 → j ≠ 27 → j ≠ 28 → j ≠ 29 → R' 0 j = R 0 j := s2.2
    refine ⟨hB0.keep (fun a _ h2 h3 => s1 a h2 h3) (fun a h4 h5 => s2.1 a (by omega) h5) (r0 6 (by decide) (by decide) (by decide) (by decide) (by decide)) (r0 14 (by decide) (by decide) (by decide) (by decide) (by decide)) (r0 15 (by decide) (by decide) (by decide) (by decide) (by decide)), ⟨hL.1, ?_, fun i hi => ?_⟩, ⟨hR.1, ?_, fun i hi => ?_⟩⟩
    · rw [s1 1 (by decide) (by decide)]; exact hL.2.1
    · rw [s1 2 (by decide) (by decide)]; exact hL.2.2 i hi
    · rw [r0 2 (by decide) (by decide) (by decide) (by decide) (by decide)]; exact hR.2.1
    · rw [s2.1 1 (by decide) (by decide)]; exact hR.2.2 i hi
  cases eA : comA c em lm u nE with
  | none =>
    obtain ⟨M', a1, a2, a3⟩ := f2 eA
    obtain ⟨R', b1, b2, b3, b4⟩ := g2 eA
    obtain ⟨k1, k2, k3⟩ := keep M' R' a3 b4
    exact ⟨0, M', 0, R', a1, b1, Or.inr ⟨rfl, b3⟩, c, nm, em, lm, u, nE, en, len, t, k1, k2, k3, hch, Or.inl ⟨a2, b2⟩⟩
  | some A =>
    obtain ⟨M', a1, a2, a3, a4, a5, a6⟩ := f1 A eA
    obtain ⟨R', b1, b2, b3, b4, b5⟩ := g1 A eA
    obtain ⟨k1, k2, k3⟩ := keep M' R' a6 b5
    obtain ⟨c1, c2, c3, c4, c5, c6, c7⟩ := a2
    obtain ⟨d1, d2, d3, d4, d5, d6, d7, d8⟩ := b2
    exact ⟨1, M', _, R', a1, b1, Or.inl ⟨rfl, d4, c4.2.1⟩, c, nm, em, lm, u, nE, en, len, t, k1, k2, k3, hch, Or.inr ⟨A, 0, c4, d5, a3, c5, fun k e hk he => ⟨c6 _ ⟨k, e, hk, he, rfl⟩, d7 _ ⟨k, e, hk, he, rfl⟩⟩, com_ok eA, ⟨c7, d8⟩, a3, a4, b3, by rw [a5, b4]⟩⟩
theorem x_cases (x : Int32) : x < 0 ∨ ∃ j : Nat, j < 2 ^ 31 ∧ x = nI j := by
  by_cases h : x < 0
  · exact Or.inl h
  · exact Or.inr (nI_of h)
theorem z_le {x : Int32} (h : ¬ x < 0) : (0 : Int32) ≤ x := by
  rw [Int32.le_iff_toInt_le]
  rw [Int32.lt_iff_toInt_lt] at h
  omega
theorem conf_cases {M R : Mem} {c : Ch} {nE : Nat} (hT : TB M R c nE) (x : Int32) : (F_X5_isConfiguration x M = some 0 ∧ (x < 0 ∨ (¬ x < 0 ∧ R 0 27 ≤ x))) ∨ ∃ A p k, TBd M R c nE A p ∧ x = nI k ∧ k < A.1.length ∧ F_X5_isConfiguration x M = some 1 ∧ ¬ x < 0 ∧ ¬ R 0 27 ≤ x := by
  unfold F_X5_isConfiguration
  rcases x_cases x with hx | ⟨j, hj, rfl⟩
  · rw [if_pos hx]; exact Or.inl ⟨rfl, Or.inl hx⟩
  · rw [if_neg (nI_lt0 hj)]
    rcases hT with ⟨h1, h2⟩ | ⟨A, p, hA⟩
    · rw [h1, if_pos (nI_0le hj), h2]; exact Or.inl ⟨rfl, Or.inr ⟨nI_lt0 hj, nI_0le hj⟩⟩
    · have h30 := hA.1.1
      rw [hA.1.2.1, hA.2.1.2.1]
      by_cases z : j < A.1.length
      · rw [if_neg (nI_ge z (by omega))]; exact Or.inr ⟨A, p, j, hA, rfl, z, rfl, nI_lt0 hj, nI_ge z (by omega)⟩
      · rw [if_pos (nI_le (by omega) hj)]; exact Or.inl ⟨rfl, Or.inr ⟨nI_lt0 hj, nI_le (by omega) hj⟩⟩
theorem ev_cases {M : Mem} {nE : Nat} (hE : M 18 9 = nI nE) (hE6 : nE ≤ 6) (y : Int32) : (F_X3_isEvent y M = some 0 ∧ (y < 0 ∨ (¬ y < 0 ∧ nI nE ≤ y))) ∨ ∃ e, y = nI e ∧ e < nE ∧ F_X3_isEvent y M = some 1 ∧ ¬ y < 0 ∧ ¬ nI nE ≤ y := by
  unfold F_X3_isEvent
  rcases x_cases y with hy | ⟨j, hj, rfl⟩
  · rw [if_pos hy]; exact Or.inl ⟨rfl, Or.inl hy⟩
  · rw [if_neg (nI_lt0 hj), hE]
    by_cases z : j < nE
    · rw [if_neg (nI_ge z (by omega))]; exact Or.inr ⟨j, rfl, z, rfl, nI_lt0 hj, nI_ge z (by omega)⟩
    · rw [if_pos (nI_le (by omega) hj)]; exact Or.inl ⟨rfl, Or.inr ⟨nI_lt0 hj, nI_le (by omega) hj⟩⟩
theorem cell_cases {M R : Mem} {c : Ch} {nE : Nat} (hT : TB M R c nE) (hE : M 18 9 = nI nE) (hF : R 0 14 = nI nE) (hE6 : nE ≤ 6) (x y : Int32) : (F_X5_cellOf x y M = some (-1) ∧ F_X8_isIn x y R = some 0) ∨ ∃ A p k e, TBd M R c nE A p ∧ x = nI k ∧ y = nI e ∧ k < A.1.length ∧ e < nE ∧ F_X5_cellOf x y M = some (nI (k * 6 + e)) ∧ F_X8_isIn x y R = some 1 := by
  unfold F_X5_cellOf F_X8_isIn
  rcases conf_cases hT x with ⟨h1, h2⟩ | ⟨A, p, k, hA, ex, hk, h1, h2, h3⟩
  · refine Or.inl ⟨by rw [h1, bd_some, if_pos rfl], ?_⟩
    rcases h2 with h2 | h2
    · rw [if_pos h2]
    · rw [if_neg h2.1, if_pos h2.2]
  · rw [h1, bd_some, if_neg (by decide), if_neg h2, if_neg h3, hF]
    rcases ev_cases hE hE6 y with ⟨g1, g2⟩ | ⟨e, ey, he, g1, g2, g3⟩
    · refine Or.inl ⟨by rw [g1, bd_some, if_pos rfl], ?_⟩
      rcases g2 with g2 | g2
      · rw [if_pos g2]
      · rw [if_neg g2.1, if_pos g2.2]
    · rw [g1, bd_some, if_neg (by decide), if_neg g2, if_neg g3]
      refine Or.inr ⟨A, p, k, e, hA, ex, ey, hk, he, ?_, rfl⟩
      rw [ex, ey, show (6 : Int32) = nI 6 from rfl, pk_mul, nI_add]
theorem p_next {M R : Mem} (x y : Int32) (h : Rel M R) : ∃ k b R', F_X5_following x y M = some k ∧ F_X8_next x y R = some (b, R') ∧ ((k = -1 ∧ R' 0 0 = 1) ∨ (¬ k = -1 ∧ b = k ∧ R' 0 0 = 0)) ∧ Rel M R' := by
  have hf := h.fault 0
  have hf2 := hf.fault 1
  obtain ⟨c, nm, em, lm, u, nE, en, len, t, hB, hL, hR, hch, hT⟩ := hf
  unfold F_X5_following F_X8_next F_X8_fails
  simp only [wr_eq, bd2_some]
  rcases cell_cases hT hB.1.2.2 hB.2.1.2.2 hB.2.2.1 x y with ⟨a1, a2⟩ | ⟨A, p, k, e, hA, ex, ey, hk, he, a1, a2⟩
  · rw [a1, bd_some, if_pos rfl, a2, bd_some, if_pos rfl]
    exact ⟨-1, _, _, rfl, rfl, Or.inl ⟨rfl, s2_hit _ _ _ _⟩, hf2⟩
  · have h30 := hA.1.1
    have hE6 := hB.2.2.1
    obtain ⟨q1, q2⟩ := hA.2.2.2.2.1 k e hk he
    have q3 := hA.2.2.2.2.2.1 (k * 6 + e)
    rw [a1, bd_some, if_neg (nI_ne_m1 (by omega)), a2, bd_some, if_neg (by decide), gi_ok (show k * 6 + e < 180 by omega) (by decide), ex, ey, show (6 : Int32) * nI k + nI e = nI (k * 6 + e) by rw [show (6 : Int32) = nI 6 from rfl, pk_mul, nI_add, Nat.mul_comm], gi_ok (show k * 6 + e < 180 by omega) (by decide), nI_clamp (by omega), q1.1, q2.1]
    exact ⟨_, _, _, rfl, rfl, Or.inr ⟨nI_ne_m1 (by omega), rfl, s2_hit _ _ _ _⟩, c, nm, em, lm, u, nE, en, len, t, hB, hL, hR, hch, hT⟩
theorem p_letter {M R : Mem} {q : Nat} {tr : List Int32} (hM : MR M 31 181 40) (hq : q < 181) (h1 : TR M q tr) (h2 : TQ R q tr) (z : Int32) : ∃ r, F_X1_letterAt 31 (nI q) z M = some r ∧ B_X8_trace_61 z (nI q) R = some (r, R) := by
  unfold F_X1_letterAt B_X8_trace_61
  rcases x_cases z with hz | ⟨i, hi, rfl⟩
  · rw [if_pos hz, if_pos hz]; exact ⟨_, rfl, rfl⟩
  · rw [if_neg (nI_lt0 hi), if_neg (nI_lt0 hi), f_sizeOf31 hM hq h1, bd_some, gi_ok hq (by decide), nI_clamp (by omega), h2.1]
    by_cases l : i < min 40 tr.length
    · have l1 : i < 40 := by omega
      have l2 : i < tr.length := by omega
      rw [if_neg (nI_ge l (by omega)), if_neg (nI_ge l (by omega)), hM.2, pk_mul, nI_add, dl_32, gi_ok (show q * 40 + i < 7240 by omega) (by decide), show (40 : Int32) * nI q + nI i = nI (40 * q + i) by rw [show (40 : Int32) = nI 40 from rfl, pk_mul, nI_add], gi_ok (show 40 * q + i < 7240 by omega) (by decide), nI_clamp (by omega), nI_clamp (by omega), h2.2 i l1 l2]
      exact ⟨_, by rw [show M (31 + 1) (q * 40 + i) = _ from h1.2 i l1 l2], rfl⟩
    · rw [if_pos (nI_le (by omega) hi), if_pos (nI_le (by omega) hi)]; exact ⟨_, rfl, rfl⟩
theorem f_letter_m1 {M : Mem} (z : Int32) : F_X1_letterAt 31 (-1) z M = some (-1) := by
  unfold F_X1_letterAt F_X1_sizeOf F_X1_isRow
  by_cases hz : z < 0
  · rw [if_pos hz]
  · rw [if_neg hz, if_pos m1_lt0, bd_some, if_pos rfl, bd_some, if_pos (z_le hz)]
theorem p_trace {M R : Mem} (x y z : Int32) (h : Rel M R) : ∃ r R', F_X7_trace x y z M = some r ∧ F_X8_trace x y z R = some (r, R') ∧ Rel M R' := by
  have hf := h.fault 0
  have hf0 := hf
  obtain ⟨c, nm, em, lm, u, nE, en, len, t, hB, hL, hR, hch, hT⟩ := hf
  have hM := hB.1.1.2.1
  unfold F_X7_trace F_X5_traceLetter F_X8_trace
  rw [wr_eq]
  have nost : ∃ r, B_X5_traceLetter_20 M x y z = some r ∧ B_X8_trace_25 x y z (set2 R 0 0 0) = some (r, set2 R 0 0 0) := by
    unfold B_X5_traceLetter_20 B_X5_traceLetter_21 B_X5_traceLetter_44 B_X8_trace_25 B_X8_trace_26 B_X8_trace_44
    rw [if_pos rfl, if_pos rfl]
    rcases cell_cases hT hB.1.2.2 hB.2.1.2.2 hB.2.2.1 x y with ⟨a1, a2⟩ | ⟨A, p, k, e, hA, ex, ey, hk, he, a1, a2⟩
    · rw [a1, bd_some, f_letter_m1, bd_some, a2, bd_some, if_pos rfl]; exact ⟨_, rfl, rfl⟩
    · have h30 := hA.1.1
      have hE6 := hB.2.2.1
      obtain ⟨q1, q2⟩ := hA.2.2.2.2.1 k e hk he
      obtain ⟨r, r1, r2⟩ := p_letter hM (show k * 6 + e < 181 by omega) q1.2 q2.2 z
      rw [a1, bd_some, r1, bd_some, a2, bd_some, if_neg (by decide), if_pos rfl, ex, ey, show (6 : Int32) * nI k + nI e = nI (k * 6 + e) by rw [show (6 : Int32) = nI 6 from rfl, pk_mul, nI_add, Nat.mul_comm], r2]
      exact ⟨r, rfl, rfl⟩
  rcases hT with ⟨t1, t2⟩ | ⟨A, p, hA⟩
  · rw [t1, if_pos (by decide), t2, if_pos (by decide)]
    obtain ⟨r, r1, r2⟩ := nost
    rw [r1, bd_some]
    exact ⟨r, _, rfl, r2, hf0⟩
  · have h30 := hA.1.1
    have h1 := hA.2.2.1
    have e1 : ¬ nI A.1.length ≤ 0 := by rw [nI_le0 (by omega)]; omega
    rw [hA.1.2.1, if_neg e1, hA.2.1.2.1, if_neg e1]
    obtain ⟨r, r1, r2⟩ := nost
    by_cases z1 : x = 0
    · rw [if_pos z1, if_pos z1]
      by_cases z2 : y = -1
      · rw [if_pos z2, if_pos z2]
        unfold B_X5_traceLetter_21 B_X5_traceLetter_44 B_X8_trace_26 B_X8_trace_44
        obtain ⟨s, s1, s2⟩ := p_letter hM (show 180 < 181 by omega) hA.2.2.2.2.2.2.1.1 hA.2.2.2.2.2.2.1.2 z
        rw [if_neg (by decide), if_neg (by decide), if_neg (by decide), show F_X1_letterAt 31 180 z M = _ from s1, bd_some, bd_some, show B_X8_trace_61 z 180 (set2 R 0 0 0) = _ from s2]
        exact ⟨s, _, rfl, rfl, hf0⟩
      · rw [if_neg z2, if_neg z2, r1, bd_some]
        exact ⟨r, _, rfl, r2, hf0⟩
    · rw [if_neg z1, if_neg z1, r1, bd_some]
      exact ⟨r, _, rfl, r2, hf0⟩
theorem p_configurations {M R : Mem} (h : Rel M R) : ∃ r R', F_X7_configurations M = some r ∧ F_X8_configurations R = some (r, R') ∧ Rel M R' := by
  have hf := h.fault 0
  have hf0 := hf
  obtain ⟨c, nm, em, lm, u, nE, en, len, t, hB, hL, hR, hch, hT⟩ := hf
  unfold F_X7_configurations F_X5_size F_X8_configurations
  rw [bd_some, wr_eq]
  refine ⟨_, _, rfl, ?_, hf0⟩
  rcases hT with ⟨t1, t2⟩ | ⟨A, p, hA⟩
  · rw [t1, t2]
  · rw [hA.1.2.1, hA.2.1.2.1]
theorem tb_pl {M R : Mem} {c : Ch} {nE : Nat} (hT : TB M R c nE) : (M 30 6 = 0 ∧ R 0 27 ≤ 0 ∧ R 0 27 = 0) ∨ (¬ M 30 6 = 0 ∧ ¬ R 0 27 ≤ 0 ∧ ¬ R 0 27 = 0 ∧ M 30 7 = R 0 28 ∧ M 30 8 = R 0 29) := by
  rcases hT with ⟨t1, t2⟩ | ⟨A, p, hA⟩
  · exact Or.inl ⟨t1, by rw [t2]; decide, t2⟩
  · have h30 := hA.1.1
    have h1 := hA.2.2.1
    have e1 : ¬ nI A.1.length ≤ 0 := by rw [nI_le0 (by omega)]; omega
    have e2 : ¬ nI A.1.length = 0 := nI_ne0 (by omega) (by omega)
    refine Or.inr ⟨by rw [hA.1.2.1]; exact e2, by rw [hA.2.1.2.1]; exact e1, by rw [hA.2.1.2.1]; exact e2, ?_, hA.2.2.2.2.2.2.2.2.2.2⟩
    rw [hA.2.2.2.2.2.2.2.2.1, hA.2.2.2.2.2.2.2.2.2.1]
theorem p_count {M R : Mem} (x : Int32) (h : Rel M R) : ∃ r R', F_X7_count x M = some r ∧ F_X8_count x R = some (r, R') ∧ Rel M R' := by
  have hf := h.fault 0
  have hf0 := hf
  obtain ⟨c, nm, em, lm, u, nE, en, len, t, hB, hL, hR, hch, hT⟩ := hf
  unfold F_X7_count F_X4_made F_X3_made F_X3_events F_X5_place F_X8_count
  rw [wr_eq]
  simp only [bd_some]
  by_cases z0 : x = 0
  · rw [if_pos z0, if_neg (by rw [z0]; decide), if_pos z0]
    exact ⟨_, _, rfl, by rw [hB.1.1.1.2.1, hB.2.1.1.1.2.1], hf0⟩
  rw [if_neg z0, if_neg z0]
  by_cases z1 : x = 1
  · rw [if_pos z1, if_neg (by rw [z1]; decide), if_pos z1]
    exact ⟨_, _, rfl, by rw [hB.1.2.1.2.1, hB.2.1.2.1.2.1], hf0⟩
  rw [if_neg z1, if_neg z1]
  by_cases z2 : x = 2
  · rw [if_pos z2, if_neg (by rw [z2]; decide), if_pos z2]
    exact ⟨_, _, rfl, by rw [hB.1.2.2, hB.2.1.2.2], hf0⟩
  rw [if_neg z2, if_neg z2]
  by_cases z3 : x = 3
  · rw [if_pos z3, if_pos z3]
    rcases tb_pl hT with ⟨a1, a2, -⟩ | ⟨a1, a2, -, a3, -⟩
    · rw [if_pos a1, if_pos a2, bd_some]; exact ⟨_, _, rfl, rfl, hf0⟩
    · rw [if_neg a1, if_neg a2, bd_some, a3]; exact ⟨_, _, rfl, rfl, hf0⟩
  · rw [if_neg z3, if_neg z3]; exact ⟨_, _, rfl, rfl, hf0⟩
theorem p_noted {M R : Mem} (h : Rel M R) : ∃ r R', F_X7_noted M = some r ∧ F_X8_noted R = some (r, R') ∧ Rel M R' := by
  have hf := h.fault 0
  have hf0 := hf
  obtain ⟨c, nm, em, lm, u, nE, en, len, t, hB, hL, hR, hch, hT⟩ := hf
  unfold F_X7_noted F_X5_marksNoted F_X8_noted
  rw [wr_eq]
  rcases tb_pl hT with ⟨a1, a2, -⟩ | ⟨a1, a2, -, -, a4⟩
  · rw [if_pos a1, if_pos a2, bd_some]; exact ⟨_, _, rfl, rfl, hf0⟩
  · rw [if_neg a1, if_neg a2, bd_some, a4]; exact ⟨_, _, rfl, rfl, hf0⟩
theorem st_cases {M : Mem} {c : Ch} (hC : CC M c) (y : Int32) : (F_X4_isState y M = some 0 ∧ (y < 0 ∨ (¬ y < 0 ∧ nI (cN c) ≤ y ∧ ¬ y < nI (cN c)))) ∨ ∃ s, y = nI s ∧ s < cN c ∧ F_X4_isState y M = some 1 ∧ ¬ y < 0 ∧ ¬ nI (cN c) ≤ y ∧ y < nI (cN c) := by
  have h14 := hC.1.n14
  rcases x_cases y with hy | ⟨j, hj, rfl⟩
  · refine Or.inl ⟨?_, Or.inl hy⟩
    unfold F_X4_isState
    rw [if_pos hy]
  · by_cases z : j < cN c
    · exact Or.inr ⟨j, rfl, z, f_isState hC z, nI_lt0 hj, nI_ge z (by omega), nI_lt z (by omega)⟩
    · exact Or.inl ⟨f_isState_out hC (by omega) hj, Or.inr ⟨nI_lt0 hj, nI_le (by omega) hj, nI_nlt (by omega) hj⟩⟩
theorem p_current {M R : Mem} (x y : Int32) (h : Rel M R) : ∃ r R', F_X7_current x y M = some r ∧ F_X8_current x y R = some (r, R') ∧ Rel M R' := by
  have hf := h.fault 0
  have hf0 := hf
  obtain ⟨c, nm, em, lm, u, nE, en, len, t, hB, hL, hR, hch, hT⟩ := hf
  have hC := hB.1.1.1
  have h14 := hC.1.n14
  unfold F_X7_current F_X8_current
  rw [wr_eq]
  rcases conf_cases hT x with ⟨h1, h2⟩ | ⟨A, p, k, hA, ex, hk, h1, h2, h3⟩
  · unfold F_X5_currentChild
    rw [h1, bd_some, if_pos rfl, bd_some]
    rcases h2 with h2 | h2
    · rw [if_pos h2]; exact ⟨_, _, rfl, rfl, hf0⟩
    · rw [if_neg h2.1, if_pos h2.2]; exact ⟨_, _, rfl, rfl, hf0⟩
  · rw [if_neg h2, if_neg h3]
    rcases st_cases hC y with ⟨g1, g2⟩ | ⟨s, ey, hs, g1, g2, g3, -⟩
    · unfold F_X5_currentChild
      rw [h1, bd_some, if_neg (by decide), g1, bd_some, if_pos rfl, bd_some]
      rcases g2 with g2 | g2
      · rw [if_pos g2]; exact ⟨_, _, rfl, rfl, hf0⟩
      · rw [if_neg g2.1, hB.2.1.1.1.2.1, if_pos g2.2.1]; exact ⟨_, _, rfl, rfl, hf0⟩
    · have h30 := hA.1.1
      obtain ⟨a, ea⟩ : ∃ a, A.1[k]? = some a := ⟨_, List.getElem?_eq_getElem hk⟩
      rw [if_neg g2, hB.2.1.1.1.2.1, if_neg g3, ex, ey, f_curChild hC hA.1 ea (hA.2.2.2.1 a (List.mem_of_getElem? ea)) (show s < 14 by omega), bd_some, show (14 : Int32) * nI k + nI s = nI (14 * k + s) by rw [show (14 : Int32) = nI 14 from rfl, pk_mul, nI_add], gi_ok (show 14 * k + s < 420 by omega) (by decide), nI_clamp (by omega), hA.2.1.2.2 k a ea s hs]
      exact ⟨_, _, rfl, rfl, hf0⟩
theorem h_active33 {c : Ch} {cs : List (Nat → Int32)} {k s : Nat} {a : Nat → Int32} (h14 : cN c ≤ 14) (hk : cs[k]? = some a) : ∀ (m j f : Nat) (R : Mem), j + m = cN c → m < f → R 0 6 = nI (cN c) → TDs R (cN c) cs → (∀ i, i < j → R 19 i = a i) → ∃ R', H_X8_active_33 f (nI k) (nI s) (nI j) R = (bd (F_X8_isActive (nI s) R') fun r => gz r (some (r, R'))) ∧ (∀ i, i < cN c → R' 19 i = a i) ∧ ∀ x, x ≠ 19 → R' x = R x := by
  intro m
  induction m with
  | zero =>
    intro j f R hj hf h6 hT ha
    cases f with
    | zero => omega
    | succ f =>
      refine ⟨R, ?_, fun i hi => ha i (by omega), fun _ _ => rfl⟩
      show B_X8_active_33 _ _ _ _ _ = _
      unfold B_X8_active_33
      rw [h6, if_pos (nI_le (by omega) (by omega))]
  | succ m ih =>
    intro j f R hj hf h6 hT ha
    cases f with
    | zero => omega
    | succ f =>
      have h30 := hT.1
      have hkl : k < cs.length := (List.getElem?_eq_some_iff.mp hk).1
      obtain ⟨R', f1, f2, f3⟩ := ih (j + 1) f (set2 R 19 j (a j)) (by omega) (by omega) (by rw [s2_oth _ _ _ _ (by decide)]; exact h6) (hT.keep (set2_ne _ _ _ (by decide)) (s2_oth _ _ _ _ (by decide))) (fun i hi => by
        by_cases z : i = j
        · rw [z, s2_hit]
        · rw [s2_pl _ _ _ z]; exact ha i (by omega))
      refine ⟨R', ?_, f2, fun x hx => by rw [f3 x hx, set2_ne _ _ _ hx]⟩
      show B_X8_active_33 _ _ _ _ _ = _
      unfold B_X8_active_33
      rw [h6, if_neg (nI_ge (show j < cN c by omega) (by omega)), show (14 : Int32) * nI k + nI j = nI (14 * k + j) by rw [show (14 : Int32) = nI 14 from rfl, pk_mul, nI_add], gi_ok (show 14 * k + j < 420 by omega) (by decide), gi_ok (show j < 14 by omega) (by decide), wr_eq, nI_clamp (by omega), nI_clamp (by omega), hT.2.2 k a hk j (by omega), nm_eq, show nI j + 1 = nI (j + 1) from nI_1 j]
      exact f1
theorem p_active {M R : Mem} (x y : Int32) (h : Rel M R) : ∃ r M' R', F_X7_active x y M = some (r, M') ∧ F_X8_active x y R = some (r, R') ∧ Rel M' R' := by
  have hf := h.fault 0
  have hf0 := hf
  obtain ⟨c, nm, em, lm, u, nE, en, len, t, hB, hL, hR, hch, hT⟩ := hf
  have hC := hB.1.1.1
  have h14 := hC.1.n14
  have g0 : ∀ k : Option (Int32 × Mem), gz 0 k = k := gz_b false
  unfold F_X7_active F_X5_isActive F_X8_active
  rw [wr_eq]
  rcases conf_cases hT x with ⟨h1, h2⟩ | ⟨A, p, k, hA, ex, hk, h1, h2, h3⟩
  · rw [h1, bd_some, if_pos rfl, bd2_some, g0]
    rcases h2 with h2 | h2
    · rw [if_pos h2]; exact ⟨_, _, _, rfl, rfl, hf0⟩
    · rw [if_neg h2.1, if_pos h2.2]; exact ⟨_, _, _, rfl, rfl, hf0⟩
  · rw [h1, bd_some, if_neg (by decide), if_neg h2, if_neg h3]
    rcases st_cases hC y with ⟨g1, g2⟩ | ⟨s, ey, hs, g1, g2, -, g3⟩
    · rw [g1, bd_some, if_pos rfl, bd2_some, g0]
      rcases g2 with g2 | g2
      · rw [if_pos g2]; exact ⟨_, _, _, rfl, rfl, hf0⟩
      · rw [if_neg g2.1, hB.2.1.1.1.2.1, if_neg g2.2.2]; exact ⟨_, _, _, rfl, rfl, hf0⟩
    · obtain ⟨a, ea⟩ : ∃ a, A.1[k]? = some a := ⟨_, List.getElem?_eq_getElem hk⟩
      obtain ⟨M', m1, m2, m3⟩ := f_setWalk hC hA.1 ea (hA.2.2.2.1 a (List.mem_of_getElem? ea))
      obtain ⟨R', r1, r2, r3⟩ := h_active33 (s := s) h14 ea (cN c) 0 100 (set2 R 0 0 0) (by omega) (by omega) hB.2.1.1.1.2.1 hA.2.1 (fun i hi => by omega)
      have mA : ∀ q, q ≠ 35 → M' q = M q := fun q hq => m2 q (by simp only [List.mem_cons, List.not_mem_nil, or_false]; exact hq)
      have hB' : BS M' R' c nm em lm u nE en := hB.keep (fun q _ h2 _ => mA q (by omega)) (fun q h4 h5 => r3 q (by omega)) (by rw [r3 0 (by decide)]) (by rw [r3 0 (by decide)]) (by rw [r3 0 (by decide)])
      rw [g1, bd_some, if_neg (by decide), if_neg g2, hB.2.1.1.1.2.1, if_pos g3, ex, m1, bd_some, ey, f_isActive hB'.1.1.1 m3 hs, bd_some, gz_b, bd2_some, gz_b, show H_X8_active_33 100 (nI k) (nI s) 0 (set2 R 0 0 0) = _ from r1, g_active hB'.2.1.1.1 r2 hs, bd_some, gz_b]
      refine ⟨_, M', R', rfl, rfl, c, nm, em, lm, u, nE, en, len, t, hB', ⟨hL.1, by rw [mA 1 (by decide)]; exact hL.2.1, fun i hi => by rw [mA 2 (by decide)]; exact hL.2.2 i hi⟩, ⟨hR.1, by rw [r3 0 (by decide)]; exact hR.2.1, fun i hi => by rw [r3 1 (by decide)]; exact hR.2.2 i hi⟩, hch, hT.keep (fun q _ _ _ h35 => mA q h35) (fun q h1 h2 => r3 q (by omega)) (by rw [r3 0 (by decide)]) (by rw [r3 0 (by decide)]) (by rw [r3 0 (by decide)])⟩
theorem p_event {M R : Mem} (x : Int32) (h : Rel M R) : ∃ b R', F_X8_event x R = some (b, R') ∧ ((M 30 6 = 0 ∧ R' 0 0 = 1 ∧ Rel M R') ∨ (¬ M 30 6 = 0 ∧ F_X3_isEvent x M = some 0 ∧ R' 0 0 = 2 ∧ Rel M R') ∨ (¬ M 30 6 = 0 ∧ F_X3_isEvent x M = some 1 ∧ ∃ M', F_X5_step x M = some (b, M') ∧ R' 0 0 = 0 ∧ Rel M' R')) := by
  have hf := h.fault 0
  have hf1 := hf.fault 1
  have hf2 := hf.fault 2
  obtain ⟨c, nm, em, lm, u, nE, en, len, t, hB, hL, hR, hch, hT⟩ := hf
  have hE6 := hB.2.2.1
  have hpl := tb_pl hT
  unfold F_X8_event B_X8_event_30 F_X8_fails
  simp only [wr_eq, bd2_some]
  have hr0 : set2 R 0 0 0 0 0 = 0 := s2_hit _ _ _ _
  generalize set2 R 0 0 0 = R1 at *
  rcases hpl with ⟨a1, -, a3⟩ | ⟨a1, -, a3, -, -⟩
  · rw [if_pos a3]; exact ⟨_, _, rfl, Or.inl ⟨a1, s2_hit _ _ _ _, hf1⟩⟩
  · rw [if_neg a3, hB.2.1.2.2]
    rcases ev_cases hB.1.2.2 hE6 x with ⟨g1, g2⟩ | ⟨e, ey, he, g1, g2, g3⟩
    · refine ⟨0, set2 R1 0 0 2, ?_, Or.inr (Or.inl ⟨a1, g1, s2_hit _ _ _ _, hf2⟩)⟩
      rcases g2 with g2 | g2
      · rw [if_pos g2]
      · rw [if_neg g2.1, if_neg (fun q => ?_)]
        rw [Int32.lt_iff_toInt_lt] at q
        have := Int32.le_iff_toInt_le.mp g2.2
        omega
    · rcases hT with ⟨t1, t2⟩ | ⟨A, p, hA⟩
      · exact absurd t1 a1
      · have hA0 := hA
        obtain ⟨c1, c2, c3, c4, c5, c6, c7, c8, c9, c10, c11⟩ := hA
        have h30 := c1.1
        obtain ⟨q1, q2⟩ := c5 p e c8 he
        have q3 := c6 (p * 6 + e)
        have hM := hB.1.1.2.1
        have lt : x < nI nE := by rw [ey]; exact nI_lt he (by omega)
        have ei : (6 : Int32) * nI p + nI e = nI (p * 6 + e) := by rw [show (6 : Int32) = nI 6 from rfl, pk_mul, nI_add, Nat.mul_comm]
        rw [if_neg g2, if_pos lt, c10, ey, ei, gi_ok (show p * 6 + e < 181 by omega) (by decide), nI_clamp (by omega), show set2 R1 0 29 (R1 0 29 + R1 23 (p * 6 + e)) 0 28 = R1 0 28 from s2_pl _ _ _ (by decide), c10, ei, gi_ok (show p * 6 + e < 180 by omega) (by decide), nI_clamp (by omega), show set2 R1 0 29 (R1 0 29 + R1 23 (p * 6 + e)) 22 (p * 6 + e) = R1 22 (p * 6 + e) from s2_oth _ _ _ _ (by decide), q2.1, s2_hit]
        have k31 : MR (set2 M 30 7 (nI (A.2.1 (p * 6 + e)))) 31 181 40 := by unfold MR; rw [set2_ne _ _ _ (by decide)]; exact hM
        have fst : F_X5_step (nI e) M = some (nI (A.2.1 (p * 6 + e)), set2 (set2 M 30 7 (nI (A.2.1 (p * 6 + e)))) 30 8 (M 30 8 + nI (min 40 (A.2.2 (p * 6 + e)).length))) := by
          unfold F_X5_step B_X5_step_42
          simp only [wr_eq]
          rw [c9, f_cellOf c1 hB.1.2.2 hE6 c8 he, bd_some, if_neg (nI_ne_m1 (by omega)), gi_ok (show p * 6 + e < 180 by omega) (by decide), nI_clamp (by omega), q1.1, f_sizeOf31 k31 (show p * 6 + e < 181 by omega) (q1.2.keep (set2_ne _ _ _ (by decide)) (set2_ne _ _ _ (by decide))), bd_some, show set2 M 30 7 (nI (A.2.1 (p * 6 + e))) 30 8 = M 30 8 from s2_pl _ _ _ (by decide), show ∀ v, set2 (set2 M 30 7 (nI (A.2.1 (p * 6 + e)))) 30 8 v 30 7 = nI (A.2.1 (p * 6 + e)) from fun v => by rw [s2_pl _ _ _ (by decide), s2_hit]]
        refine ⟨_, _, rfl, Or.inr (Or.inr ⟨a1, by rw [← ey]; exact g1, _, fst, ?_, c, nm, em, lm, u, nE, en, len, t, hB.keep (fun q _ _ h30 => by rw [set2_ne _ _ _ h30, set2_ne _ _ _ h30]) (fun q h4 _ => by rw [set2_ne _ _ _ (by omega), set2_ne _ _ _ (by omega)]) ?_ ?_ ?_, ⟨hL.1, ?_, fun i hi => ?_⟩, ⟨hR.1, ?_, fun i hi => ?_⟩, hch, Or.inr ⟨A, A.2.1 (p * 6 + e), ?_, c2.keep ?_ ?_, c3, c4, fun k y hk hy => ⟨⟨?_, (c5 k y hk hy).1.2.keep ?_ ?_⟩, ?_, (c5 k y hk hy).2.2.keep ?_ ?_⟩, c6, ⟨c7.1.keep ?_ ?_, c7.2.keep ?_ ?_⟩, q3, ?_, ?_, ?_⟩⟩)⟩
        · rw [s2_pl _ _ _ (by decide), s2_pl _ _ _ (by decide)]; exact hr0
        · rw [s2_pl _ _ _ (by decide), s2_pl _ _ _ (by decide)]
        · rw [s2_pl _ _ _ (by decide), s2_pl _ _ _ (by decide)]
        · rw [s2_pl _ _ _ (by decide), s2_pl _ _ _ (by decide)]
        · rw [s2_oth _ _ _ _ (by decide), s2_oth _ _ _ _ (by decide)]; exact hL.2.1
        · rw [s2_oth _ _ _ _ (by decide), s2_oth _ _ _ _ (by decide)]; exact hL.2.2 i hi
        · rw [s2_pl _ _ _ (by decide), s2_pl _ _ _ (by decide)]; exact hR.2.1
        · rw [s2_oth _ _ _ _ (by decide), s2_oth _ _ _ _ (by decide)]; exact hR.2.2 i hi
        · unfold TCs
          rw [s2_pl _ _ _ (by decide), s2_pl _ _ _ (by decide), set2_ne _ _ _ (by decide), set2_ne _ _ _ (by decide)]
          exact c1
        · rw [set2_ne _ _ _ (by decide), set2_ne _ _ _ (by decide)]
        · rw [s2_pl _ _ _ (by decide), s2_pl _ _ _ (by decide)]
        · rw [s2_oth _ _ _ _ (by decide), s2_oth _ _ _ _ (by decide)]; exact (c5 k y hk hy).1.1
        · rw [set2_ne _ _ _ (by decide), set2_ne _ _ _ (by decide)]
        · rw [set2_ne _ _ _ (by decide), set2_ne _ _ _ (by decide)]
        · rw [s2_oth _ _ _ _ (by decide), s2_oth _ _ _ _ (by decide)]; exact (c5 k y hk hy).2.1
        · rw [set2_ne _ _ _ (by decide), set2_ne _ _ _ (by decide)]
        · rw [set2_ne _ _ _ (by decide), set2_ne _ _ _ (by decide)]
        · rw [set2_ne _ _ _ (by decide), set2_ne _ _ _ (by decide)]
        · rw [set2_ne _ _ _ (by decide), set2_ne _ _ _ (by decide)]
        · rw [set2_ne _ _ _ (by decide), set2_ne _ _ _ (by decide)]
        · rw [set2_ne _ _ _ (by decide), set2_ne _ _ _ (by decide)]
        · rw [s2_pl _ _ _ (by decide), s2_hit]
        · rw [s2_hit]
        · rw [s2_hit, s2_pl _ _ _ (by decide), s2_hit, c11, q2.2.1]
/-- the two new objects are related -/
theorem rel0 {M R : Mem} (h1 : M 5 8 = 1 ∧ M 6 0 = 15001 ∧ M 7 0 = -1 ∧ M 8 0 = 0 ∧ M 9 0 = -1 ∧ M 10 0 = 0 ∧ M 11 0 = 0) (h2 : MR M 12 14 6 ∧ MR M 15 14 6 ∧ MR M 26 20 3 ∧ MR M 31 181 40) (h3 : (∀ s, s < 14 → M 14 s = 0 ∧ M 17 s = 0) ∧ ∀ r, r < 20 → M 28 r = 0) (h4 : M 18 8 = 0 ∧ M 18 9 = 0 ∧ M 1 3 = 0 ∧ M 30 6 = 0) (g1 : R 0 6 = 1 ∧ R 6 0 = -1 ∧ R 7 0 = 0 ∧ R 9 0 = 0 ∧ R 10 0 = 0) (g2 : ∀ m, m < 28 → R 8 m = 0) (g3 : R 4 0 = 116 ∧ R 4 1 = 111 ∧ R 4 2 = 112 ∧ R 4 3 = 0) (g4 : R 0 15 = 0 ∧ R 0 14 = 0 ∧ R 0 2 = 0 ∧ R 0 27 = 0) : Rel M R := by
  obtain ⟨h11, h12, h13, h14, h15, h16, h17⟩ := h1
  obtain ⟨g11, g12, g13, g14, g15⟩ := g1
  have w : wf ((1, fun _ => 0, fun _ => 0, fun _ => false, fun _ => false) : Ch) := ⟨Nat.le_refl _, by decide, rfl, rfl, fun s a b => by have b2 : s < 1 := b; omega⟩
  have z : ∀ s, s < cN ((1, fun _ => 0, fun _ => 0, fun _ => false, fun _ => false) : Ch) → s = 0 := fun s hs => by have b2 : s < 1 := hs; omega
  have u0 : ruOK ((1, fun _ => 0, fun _ => 0, fun _ => false, fun _ => false) : Ch) ((0, fun _ => 0, fun _ => 0, fun _ => 0, fun _ => 0, fun _ => false, fun _ => []) : Ru) := ⟨Nat.zero_le _, fun r hr => absurd hr (Nat.not_lt_zero r)⟩
  refine ⟨(1, fun _ => 0, fun _ => 0, fun _ => false, fun _ => false), fun _ => [116, 111, 112], fun _ => [], fun _ => [], (0, fun _ => 0, fun _ => 0, fun _ => 0, fun _ => 0, fun _ => false, fun _ => []), 0, fun _ => [], 0, fun _ => 0, ⟨⟨⟨⟨w, h11, h13, fun s a b => ?_, fun s hs => ?_, fun s hs => ?_, fun s hs => ?_, fun s hs => ?_⟩, h2.2.2.2, h2.1, h2.2.1, h2.2.2.1, fun s hs => ?_, fun s hs => ?_⟩, ⟨u0, h4.1, fun r hr => absurd hr (Nat.not_lt_zero r)⟩, h4.2.1⟩, ⟨⟨⟨w, g11, g12, fun s a b => ?_, fun s hs => ?_, fun s hs => ?_, fun s hs => ?_⟩, fun s hs => ?_, fun s hs => ?_⟩, ⟨u0, g4.1, fun r hr => absurd hr (Nat.not_lt_zero r)⟩, g4.2.1⟩, by decide, ⟨fun s hs => by show isL [116, 111, 112] 4 = true; decide, fun s hs => ?_, fun s hs i hi => ?_⟩, ⟨fun s hs => absurd hs (Nat.not_lt_zero s), fun e he => absurd he (Nat.not_lt_zero e), fun e he => absurd he (Nat.not_lt_zero e)⟩, ⟨fun s _ hs => ⟨(h3.1 s hs).1, (h3.1 s hs).2, g2 _ (by omega), g2 _ (by omega)⟩, fun r _ hr => h3.2 r hr⟩, fun r hr => absurd hr (Nat.not_lt_zero r)⟩, LC0 h4.2.2.1 _, LR0 g4.2.2.1 _, fun i hi => absurd hi (Nat.not_lt_zero i), Or.inl ⟨h4.2.2.2, g4.2.2.2⟩⟩
  · have := z s b; omega
  · rw [z s hs]; exact h14
  · rw [z s hs]; exact h16
  · rw [z s hs]; exact h17
  · rw [z s hs]; exact h15
  · rw [z s hs]; exact MKs.nil ((h3.1 0 (by decide)).1)
  · rw [z s hs]; exact MKs.nil ((h3.1 0 (by decide)).2)
  · have := z s b; omega
  · rw [z s hs]; exact g13
  · rw [z s hs]; exact g14
  · rw [z s hs]; exact g15
  · rw [z s hs]; exact MKr.nil (g2 _ (by decide))
  · rw [z s hs]; exact MKr.nil (g2 _ (by decide))
  · rw [z s hs, h12]; decide
  · rw [z s hs]
    match i with
    | 0 => exact g3.1
    | 1 => exact g3.2.1
    | 2 => exact g3.2.2.1
    | 3 => exact g3.2.2.2
    | i + 4 => omega
