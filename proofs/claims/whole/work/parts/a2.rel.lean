/-! The relation between class and reference; write, line, named. -/
theorem BS.keep {M M' R R' : Mem} {c : Ch} {nm em lm : Nat → List Int32} {u : Ru} {nE : Nat} {en : Nat → List Int32} (h : BS M R c nm em lm u nE en) (hM : ∀ a, 5 ≤ a → a ≤ 31 → a ≠ 30 → M' a = M a) (hR : ∀ a, 4 ≤ a → a ≤ 18 → R' a = R a) (h6 : R' 0 6 = R 0 6) (h14 : R' 0 14 = R 0 14) (h15 : R' 0 15 = R 0 15) : BS M' R' c nm em lm u nE en := by
  obtain ⟨⟨bS, bC, bE⟩, ⟨bD, bR, bF⟩, hE6, ⟨n1, n2, n3⟩, ⟨v1, v2, v3⟩, ⟨z1, z2⟩, zE⟩ := h
  have m : ∀ a, 5 ≤ a → a ≤ 29 → M' a = M a := fun a x y => hM a x (by omega) (by omega)
  refine ⟨⟨⟨?_, ?_, ?_, ?_, ?_, fun x hx => ?_, fun x hx => ?_⟩, ⟨bC.1, ?_, fun x hx => ?_⟩, ?_⟩, ⟨⟨?_, fun x hx => ?_, fun x hx => ?_⟩, ⟨bR.1, ?_, fun x hx => ?_⟩, ?_⟩, hE6, ⟨n1, fun x hx => ?_, fun x hx i hi => ?_⟩, ⟨v1, fun e he => ?_, fun e he i hi => ?_⟩, ⟨fun x hx hx2 => ?_, fun x hx hx2 => ?_⟩, zE⟩
  · unfold CC
    rw [m 5 (by omega) (by omega), m 7 (by omega) (by omega), m 8 (by omega) (by omega), m 9 (by omega) (by omega), m 10 (by omega) (by omega), m 11 (by omega) (by omega)]
    exact bS.1
  · unfold MR; rw [hM 31 (by omega) (by omega) (by omega)]; exact bS.2.1
  · unfold MR; rw [m 12 (by omega) (by omega)]; exact bS.2.2.1
  · unfold MR; rw [m 15 (by omega) (by omega)]; exact bS.2.2.2.1
  · unfold MR; rw [m 26 (by omega) (by omega)]; exact bS.2.2.2.2.1
  · exact (bS.2.2.2.2.2.1 x hx).eqc (m _ (by omega) (by omega)) (m _ (by omega) (by omega))
  · exact (bS.2.2.2.2.2.2 x hx).eqc (m _ (by omega) (by omega)) (m _ (by omega) (by omega))
  · rw [m 18 (by omega) (by omega)]; exact bC.2.1
  · obtain ⟨a1, a2, a3, a4, a5, a6, a7⟩ := bC.2.2 x hx
    rw [m 20 (by omega) (by omega), m 21 (by omega) (by omega), m 22 (by omega) (by omega), m 23 (by omega) (by omega), m 24 (by omega) (by omega), m 25 (by omega) (by omega)]
    exact ⟨a1, a2, a3, a4, a5, a6, a7.eqc (m _ (by omega) (by omega)) (m _ (by omega) (by omega))⟩
  · rw [m 18 (by omega) (by omega)]; exact bE
  · unfold CD
    rw [h6, hR 6 (by omega) (by omega), hR 7 (by omega) (by omega), hR 9 (by omega) (by omega), hR 10 (by omega) (by omega)]
    exact bD.1
  · exact (bD.2.1 x hx).eqc (hR _ (by omega) (by omega)) (hR _ (by omega) (by omega))
  · exact (bD.2.2 x hx).eqc (hR _ (by omega) (by omega)) (hR _ (by omega) (by omega))
  · rw [h15]; exact bR.2.1
  · rw [hR 13 (by omega) (by omega), hR 14 (by omega) (by omega), hR 15 (by omega) (by omega), hR 16 (by omega) (by omega), hR 17 (by omega) (by omega), hR 18 (by omega) (by omega), hR 12 (by omega) (by omega)]
    exact bR.2.2 x hx
  · rw [h14]; exact bF
  · rw [m 6 (by omega) (by omega)]; exact n2 x hx
  · rw [hR 4 (by omega) (by omega)]; exact n3 x hx i hi
  · rw [m 19 (by omega) (by omega)]; exact v2 e he
  · rw [hR 11 (by omega) (by omega)]; exact v3 e he i hi
  · rw [m 14 (by omega) (by omega), m 17 (by omega) (by omega), hR 8 (by omega) (by omega)]; exact z1 x hx hx2
  · rw [m 28 (by omega) (by omega)]; exact z2 x hx hx2
def TBd (M R : Mem) (c : Ch) (nE : Nat) (A : Tb) (p : Nat) : Prop := TCs M (cN c) A.1 ∧ TDs R (cN c) A.1 ∧ 1 ≤ A.1.length ∧ (∀ a, a ∈ A.1 → nowOK c a) ∧ (∀ k e, k < A.1.length → e < nE → (M 37 (k * 6 + e) = nI (A.2.1 (k * 6 + e)) ∧ TR M (k * 6 + e) (A.2.2 (k * 6 + e))) ∧ (R 22 (k * 6 + e) = nI (A.2.1 (k * 6 + e)) ∧ TQ R (k * 6 + e) (A.2.2 (k * 6 + e)))) ∧ (∀ q, A.2.1 q < A.1.length) ∧ (TR M 180 (A.2.2 180) ∧ TQ R 180 (A.2.2 180)) ∧ p < A.1.length ∧ M 30 7 = nI p ∧ R 0 28 = nI p ∧ M 30 8 = R 0 29
def TB (M R : Mem) (c : Ch) (nE : Nat) : Prop := (M 30 6 = 0 ∧ R 0 27 = 0) ∨ ∃ (A : Tb) (p : Nat), TBd M R c nE A p
theorem TBd.keep {M M' R R' : Mem} {c : Ch} {nE : Nat} {A : Tb} {p : Nat} (h : TBd M R c nE A p) (hM : ∀ a, 30 ≤ a → a ≠ 31 → a ≠ 34 → a ≠ 35 → M' a = M a) (hR : ∀ a, 21 ≤ a → a ≤ 24 → R' a = R a) (h27 : R' 0 27 = R 0 27) (h28 : R' 0 28 = R 0 28) (h29 : R' 0 29 = R 0 29) : TBd M' R' c nE A p := by
  obtain ⟨h1, h2, h3, h4, h5, h6, h7, h8, h9, h10, h11⟩ := h
  have m30 := hM 30 (by omega) (by omega) (by omega) (by omega)
  have m32 := hM 32 (by omega) (by omega) (by omega) (by omega)
  have m33 := hM 33 (by omega) (by omega) (by omega) (by omega)
  have m36 := hM 36 (by omega) (by omega) (by omega) (by omega)
  have m37 := hM 37 (by omega) (by omega) (by omega) (by omega)
  refine ⟨?_, h2.keep (hR 21 (by omega) (by omega)) h27, h3, h4, fun k e hk he => ⟨⟨?_, (h5 k e hk he).1.2.keep m32 m33⟩, ?_, (h5 k e hk he).2.2.keep (hR 23 (by omega) (by omega)) (hR 24 (by omega) (by omega))⟩, h6, ⟨h7.1.keep m32 m33, h7.2.keep (hR 23 (by omega) (by omega)) (hR 24 (by omega) (by omega))⟩, h8, ?_, ?_, ?_⟩
  · unfold TCs; rw [m30, m36]; exact h1
  · rw [m37]; exact (h5 k e hk he).1.1
  · rw [hR 22 (by omega) (by omega)]; exact (h5 k e hk he).2.1
  · rw [m30]; exact h9
  · rw [h28]; exact h10
  · rw [m30, h29]; exact h11
theorem TB.keep {M M' R R' : Mem} {c : Ch} {nE : Nat} (h : TB M R c nE) (hM : ∀ a, 30 ≤ a → a ≠ 31 → a ≠ 34 → a ≠ 35 → M' a = M a) (hR : ∀ a, 21 ≤ a → a ≤ 24 → R' a = R a) (h27 : R' 0 27 = R 0 27) (h28 : R' 0 28 = R 0 28) (h29 : R' 0 29 = R 0 29) : TB M' R' c nE := by
  rcases h with h | ⟨A, p, h⟩
  · exact Or.inl ⟨by rw [hM 30 (by omega) (by omega) (by omega) (by omega)]; exact h.1, by rw [h27]; exact h.2⟩
  · exact Or.inr ⟨A, p, h.keep hM hR h27 h28 h29⟩
def Rel (M R : Mem) : Prop := ∃ (c : Ch) (nm em lm : Nat → List Int32) (u : Ru) (nE : Nat) (en : Nat → List Int32) (len : Nat) (t : Nat → Int32), BS M R c nm em lm u nE en ∧ LC M len t ∧ LR R len t ∧ (∀ i, i < len → chOK (t i)) ∧ TB M R c nE
/-- a fault that is set, and nothing else -/
theorem Rel.fault {M R : Mem} (v : Int32) (h : Rel M R) : Rel M (set2 R 0 0 v) := by
  obtain ⟨c, nm, em, lm, u, nE, en, len, t, hB, hL, hR, hch, hT⟩ := h
  have o : ∀ j, j ≠ 0 → set2 R 0 0 v 0 j = R 0 j := fun j hj => s2_pl _ _ _ hj
  have a : ∀ x, x ≠ 0 → set2 R 0 0 v x = R x := fun x hx => set2_ne _ _ _ hx
  exact ⟨c, nm, em, lm, u, nE, en, len, t, hB.keep (fun _ _ _ _ => rfl) (fun x h1 _ => a x (by omega)) (o 6 (by decide)) (o 14 (by decide)) (o 15 (by decide)), hL, ⟨hR.1, by rw [o 2 (by decide)]; exact hR.2.1, fun i hi => by rw [a 1 (by decide)]; exact hR.2.2 i hi⟩, hch, hT.keep (fun _ _ _ _ _ => rfl) (fun x h1 _ => a x (by omega)) (o 27 (by decide)) (o 28 (by decide)) (o 29 (by decide))⟩
theorem ch_of {x : Int32} (h1 : ¬ x < 32) (h2 : ¬ 126 < x) : chOK x := by
  have h0 : ¬ x < 0 := fun q => h1 (by
    rw [Int32.lt_iff_toInt_lt] at q ⊢
    have e1 : (0 : Int32).toInt = 0 := by decide
    have e2 : (32 : Int32).toInt = 32 := by decide
    omega)
  obtain ⟨j, hj, e⟩ := nI_of h0
  subst e
  refine ⟨j, ?_, ?_, rfl⟩
  · rcases Nat.lt_or_ge j 32 with q | q
    · exact absurd (nI_lt (b := 32) q (by omega)) h1
    · exact q
  · rcases Nat.lt_or_ge 126 j with q | q
    · exact absurd (nI_lt (a := 126) q hj) h2
    · exact q
theorem gz_b {α : Type} (b : Bool) (k : Option α) : gz (bI b) k = k := by
  unfold gz
  rw [bI_nar, if_pos rfl]
theorem p_write {M R : Mem} (x : Int32) (h : Rel M R) : ∃ r M' R', F_X7_write x M = some (r, M') ∧ F_X8_write x R = some (r, R') ∧ Rel M' R' := by
  have hf := h.fault 0
  have g0 : ∀ k : Option (Int32 × Mem), gz 0 k = k := gz_b false
  have g1 : ∀ k : Option (Int32 × Mem), gz 1 k = k := gz_b true
  unfold F_X7_write F_X0_append F_X8_write
  simp only [wr_eq]
  by_cases z1 : x < 32
  · rw [if_pos z1, if_pos z1, bd2_some, g0]; exact ⟨0, M, _, rfl, rfl, hf⟩
  rw [if_neg z1, if_neg z1]
  by_cases z2 : 126 < x
  · rw [if_pos z2, if_pos z2, bd2_some, g0]; exact ⟨0, M, _, rfl, rfl, hf⟩
  rw [if_neg z2, if_neg z2]
  have hc := ch_of z1 z2
  obtain ⟨c, nm, em, lm, u, nE, en, len, t, hB, hL, hR, hch, hT⟩ := hf
  have h50 := hL.1
  rw [hL.2.1, hR.2.1]
  by_cases z3 : len < 50
  · rw [if_pos (show nI len < 50 from nI_lt (b := 50) z3 (by omega)), if_pos (show nI len < 50 from nI_lt (b := 50) z3 (by omega)), gi_ok z3 (by decide), gi_ok z3 (by decide)]
    rw [nI_clamp (by omega), hc.nar, s2_oth _ _ _ _ (by decide), hL.2.1, s2_oth _ _ _ _ (by decide), hR.2.1, nI_1, bd2_some, g1]
    refine ⟨1, _, _, rfl, rfl, c, nm, em, lm, u, nE, en, len + 1, up t len x, hB.keep (fun a h1 h2 _ => by rw [set2_ne _ _ _ (by omega), set2_ne _ _ _ (by omega)]) (fun a h1 h2 => by rw [set2_ne _ _ _ (by omega), set2_ne _ _ _ (by omega)]) ?_ ?_ ?_, ⟨by omega, s2_hit _ _ _ _, fun i hi => ?_⟩, ⟨by omega, s2_hit _ _ _ _, fun i hi => ?_⟩, fun i hi => ?_, hT.keep (fun a h1 _ _ _ => by rw [set2_ne _ _ _ (by omega), set2_ne _ _ _ (by omega)]) (fun a h1 h2 => by rw [set2_ne _ _ _ (by omega), set2_ne _ _ _ (by omega)]) ?_ ?_ ?_⟩
    · rw [s2_pl _ _ _ (by decide), s2_oth _ _ _ _ (by decide)]
    · rw [s2_pl _ _ _ (by decide), s2_oth _ _ _ _ (by decide)]
    · rw [s2_pl _ _ _ (by decide), s2_oth _ _ _ _ (by decide)]
    · rw [s2_oth _ _ _ _ (by decide), s2, if_pos rfl]
      unfold up
      by_cases q : i = len
      · rw [if_pos q, if_pos q]
      · rw [if_neg q, if_neg q]; exact hL.2.2 i (by omega)
    · rw [s2_oth _ _ _ _ (by decide), s2, if_pos rfl]
      unfold up
      by_cases q : i = len
      · rw [if_pos q, if_pos q]
      · rw [if_neg q, if_neg q]; exact hR.2.2 i (by omega)
    · unfold up
      by_cases q : i = len
      · rw [if_pos q]; exact hc
      · rw [if_neg q]; exact hch i (by omega)
    · rw [s2_pl _ _ _ (by decide), s2_oth _ _ _ _ (by decide)]
    · rw [s2_pl _ _ _ (by decide), s2_oth _ _ _ _ (by decide)]
    · rw [s2_pl _ _ _ (by decide), s2_oth _ _ _ _ (by decide)]
  · rw [if_neg (show ¬ nI len < 50 from nI_nlt (b := 50) (by omega) (by omega)), if_neg (show ¬ nI len < 50 from nI_nlt (b := 50) (by omega) (by omega)), bd2_some, g0]
    exact ⟨0, M, _, rfl, rfl, c, nm, em, lm, u, nE, en, len, t, hB, hL, hR, hch, hT⟩
/-- the line is split, in both, and emptied -/
theorem p_split {M R : Mem} {c : Ch} {nm em lm : Nat → List Int32} {u : Ru} {nE : Nat} {en : Nat → List Int32} {len : Nat} {t : Nat → Int32} (hB : BS M R c nm em lm u nE en) (hL : LC M len t) (hR : LR R len t) (hch : ∀ i, i < len → chOK (t i)) (hT : TB M R c nE) : ∃ M1 R1, F_X0_split M = some M1 ∧ F_X8_split (set2 R 0 0 0) = some R1 ∧ BS M1 (set2 R1 0 2 0) c nm em lm u nE en ∧ PC M1 t (scn t len 0 none) len ∧ PR (set2 R1 0 2 0) t (scn t len 0 none) len ∧ M1 1 3 = 0 ∧ set2 R1 0 2 0 0 2 = 0 ∧ set2 R1 0 2 0 0 0 = 0 ∧ TB M1 (set2 R1 0 2 0) c nE := by
  have hw := scn_wOK hL.1 hch
  obtain ⟨M1, a1, a2, a3, a4, a5, a6⟩ := f_split hL
  obtain ⟨R1, b1, b2, b3, b4, b5⟩ := g_split (R := set2 R 0 0 0) (len := len) (t := t) ⟨hR.1, by rw [s2_pl _ _ _ (by decide)]; exact hR.2.1, fun i hi => by rw [s2_oth _ _ _ _ (by decide)]; exact hR.2.2 i hi⟩
  have mA : ∀ a, 4 < a → M1 a = M a := fun a ha => a6 a (by simp only [List.mem_cons, List.not_mem_nil, or_false, not_or]; omega)
  have rA : ∀ a, a ≠ 0 → a ≠ 2 → a ≠ 3 → set2 R1 0 2 0 a = R a := fun a h0 h2 h3 => by rw [set2_ne _ _ _ h0, b4 a h0 h2 h3, set2_ne _ _ _ h0]
  have r0 : ∀ j, j ≠ 0 → j ≠ 2 → j ≠ 3 → set2 R1 0 2 0 0 j = R 0 j := fun j h0 h2 h3 => by rw [s2_pl _ _ _ h2, b5 j h3, s2_pl _ _ _ h0]
  refine ⟨M1, R1, a1, b1, hB.keep (fun a h1 h2 _ => mA a (by omega)) (fun a h1 h2 => rA a (by omega) (by omega) (by omega)) (r0 6 (by decide) (by decide) (by decide)) (r0 14 (by decide) (by decide) (by decide)) (r0 15 (by decide) (by decide) (by decide)), ⟨hw, a3, a4, fun i hi => ?_⟩, ⟨hw, ?_, ?_, fun i hi => ?_⟩, a2, s2_hit _ _ _ _, ?_, hT.keep (fun a h1 _ _ _ => mA a (by omega)) (fun a h1 h2 => rA a (by omega) (by omega) (by omega)) (r0 27 (by decide) (by decide) (by decide)) (r0 28 (by decide) (by decide) (by decide)) (r0 29 (by decide) (by decide) (by decide))⟩
  · rw [a6 2 (by decide)]; exact hL.2.2 i hi
  · rw [s2_pl _ _ _ (by decide)]; exact b2
  · rw [set2_ne _ _ _ (by decide), set2_ne _ _ _ (by decide)]; exact b3
  · rw [rA 1 (by decide) (by decide) (by decide)]; exact hR.2.2 i hi
  · rw [s2_pl _ _ _ (by decide), b5 0 (by decide), s2_hit]
theorem LC0 {M : Mem} (h : M 1 3 = 0) (t : Nat → Int32) : LC M 0 t := ⟨by decide, h, fun i hi => absurd hi (Nat.not_lt_zero i)⟩
theorem LR0 {R : Mem} (h : R 0 2 = 0) (t : Nat → Int32) : LR R 0 t := ⟨by decide, h, fun i hi => absurd hi (Nat.not_lt_zero i)⟩
/-- what a read line comes to -/
def LO (FM : Option (Int32 × Mem)) (FR : Option (Int32 × Mem)) : Prop := ∃ k M1 b R', FM = some (k, M1) ∧ FR = some (b, R') ∧ ((k = 0 ∧ b = 0 ∧ R' 0 0 = 0 ∧ Rel M1 R') ∨ (k = -1 ∧ R' 0 0 = 1 ∧ Rel M1 R') ∨ (k = -2 ∧ R' 0 0 = 2 ∧ Rel M1 R') ∨ ∃ j : Nat, 1 ≤ j ∧ j ≤ 3 ∧ k = nI j ∧ b = nI j ∧ R' 0 0 = 0 ∧ Rel (set2 M1 30 6 0) R')
theorem rs_tail {M R : Mem} {FM FR : Option (Int32 × Mem)} (h : RS FM FR M R) (hrel : Rel M R) (h0 : R 0 0 = 0) (h2 : R 0 2 = 0) (h1 : M 1 3 = 0) : LO FM (bd2 FR fun r m => B_X8_line_155 r m) := by
  rcases h with ⟨k, hk, e1, e2⟩ | ⟨j, M', R', c, nm, em, lm, u, nE, en, j1, j3, e1, e2, hB, q1, q0, q2⟩
  · rw [e2, bd2_some]
    unfold B_X8_line_155 B_X8_line_171 F_X8_fails
    simp only [wr_eq, bd2_some]
    rcases hk with hk | hk
    · rw [hk, if_neg (by decide), if_neg (by decide)]
      exact ⟨-1, M, _, _, by rw [e1, hk], rfl, Or.inr (Or.inl ⟨rfl, s2_hit _ _ _ _, hrel.fault 1⟩)⟩
    · rw [hk, if_neg (by decide), if_pos (by decide)]
      exact ⟨-2, M, _, _, by rw [e1, hk], rfl, Or.inr (Or.inr (Or.inl ⟨rfl, s2_hit _ _ _ _, hrel.fault 2⟩))⟩
  · rw [e2, bd2_some]
    unfold B_X8_line_155
    rw [if_pos (nI_0le (by omega)), wr_eq]
    refine ⟨nI j, M', nI j, _, e1, rfl, Or.inr (Or.inr (Or.inr ⟨j, j1, j3, rfl, rfl, by rw [s2_pl _ _ _ (by decide), q0]; exact h0, c, nm, em, lm, u, nE, en, 0, fun _ => 0, hB.keep (fun a _ _ h30 => set2_ne _ _ _ h30) (fun a h4 _ => set2_ne _ _ _ (by omega)) (s2_pl _ _ _ (by decide)) (s2_pl _ _ _ (by decide)) (s2_pl _ _ _ (by decide)), LC0 ?_ _, LR0 ?_ _, fun i hi => absurd hi (Nat.not_lt_zero i), Or.inl ⟨s2_hit _ _ _ _, s2_hit _ _ _ _⟩⟩))⟩
    · rw [s2_oth _ _ _ _ (by decide), q1]; exact h1
    · rw [s2_pl _ _ _ (by decide), q2]; exact h2
theorem bd2_id {o : Option (Int32 × Mem)} : (bd2 o fun r m => some (r, m)) = o := by cases o <;> rfl
theorem p_line {M R : Mem} (h : Rel M R) : LO (F_X2_read M) (F_X8_line R) := by
  obtain ⟨c, nm, em, lm, u, nE, en, len, t, hB0, hL, hR, hch, hT⟩ := h
  obtain ⟨M1, R1, a1, b1, hB, hP, hQ, m3, r2, r0, hT1⟩ := p_split hB0 hL hR hch hT
  unfold F_X2_read F_X8_line
  rw [a1, bd_some, wr_eq, b1, bd_some, wr_eq, f_words hP, bd_some]
  have hrel : Rel M1 (set2 R1 0 2 0) := ⟨c, nm, em, lm, u, nE, en, 0, fun _ => 0, hB, LC0 m3 _, LR0 r2 _, fun i hi => absurd hi (Nat.not_lt_zero i), hT1⟩
  generalize set2 R1 0 2 0 = R2 at *
  generalize scn t len 0 none = W at *
  have h25 := hP.1.1
  rw [hQ.2.1]
  by_cases z : W.length = 0
  · rw [if_pos (by rw [z]; rfl), if_pos (by rw [z]; rfl)]
    exact ⟨0, M1, 0, R2, rfl, rfl, Or.inl ⟨rfl, rfl, r0, hrel⟩⟩
  · have hk : 0 < W.length := by omega
    have sy0 : ∀ si, si < 12 → (bytS.getD si []).length < 50 → F_X0_says si 0 M1 = some (bI (decide (wrd t W 0 = bytS.getD si []))) := fun si _ hl => f_says hP (k := 0) si (by decide) hl
    have gl : F_X8_length 0 R2 = _ := g_length hQ (k := 0) hk
    rw [if_neg (nI_ne0 (by omega) (by omega)), if_neg (nI_ne0 (by omega) (by omega)), sy0 0 (by decide) (by decide), bd_some, show F_X8_says 0 115 116 97 116 101 0 R2 = _ from g_says5 hQ (k := 0) hk 0 (by decide) (by decide), bd_some, gl]
    by_cases w0 : wrd t W 0 = bytS.getD 0 []
    · rw [decide_eq_true w0, if_neg (by decide), if_neg (by decide), bd_some, w0, if_pos (by decide), bd2_id]
      exact rs_tail (rs_state hB hP hQ) hrel r0 r2 m3
    · rw [decide_eq_false w0, if_pos (by decide), if_pos (by decide), sy0 4 (by decide) (by decide), bd_some]
      unfold B_X8_line_61
      rw [show F_X8_says 0 101 110 116 101 114 0 R2 = _ from g_says5 hQ (k := 0) hk 4 (by decide) (by decide), bd_some, gl]
      by_cases w4 : wrd t W 0 = bytS.getD 4 []
      · rw [decide_eq_true w4, if_neg (by decide), if_neg (by decide), bd_some, w4, if_pos (by decide), bd2_id]
        exact rs_tail (rs_enter hB hP hQ) hrel r0 r2 m3
      · rw [decide_eq_false w4, if_pos (by decide), if_pos (by decide), sy0 5 (by decide) (by decide), bd_some]
        unfold B_X8_line_98
        rw [show F_X8_says 0 101 120 105 116 0 0 R2 = _ from g_says5 hQ (k := 0) hk 5 (by decide) (by decide), bd_some, gl]
        by_cases w5 : wrd t W 0 = bytS.getD 5 []
        · rw [decide_eq_true w5, if_neg (by decide), if_neg (by decide), bd_some, w5, if_pos (by decide), bd2_id]
          exact rs_tail (rs_leave hB hP hQ) hrel r0 r2 m3
        · rw [decide_eq_false w5, if_pos (by decide), if_pos (by decide), sy0 6 (by decide) (by decide), bd_some]
          unfold B_X8_line_134
          rw [show F_X8_says 0 111 110 0 0 0 0 R2 = _ from g_says5 hQ (k := 0) hk 6 (by decide) (by decide), bd_some]
          by_cases w6 : wrd t W 0 = bytS.getD 6 []
          · rw [decide_eq_true w6, if_neg (by decide), if_neg (by decide), bd2_id]
            exact rs_tail (rs_rule hB hP hQ) hrel r0 r2 m3
          · rw [decide_eq_false w6, if_pos (by decide), if_pos (by decide)]
            have := rs_tail (FM := some (-1, M1)) (FR := some (-1, R2)) (Or.inl ⟨-1, Or.inl rfl, rfl, rfl⟩) hrel r0 r2 m3
            rw [bd2_some] at this
            exact this
theorem p_named {M R : Mem} (h : Rel M R) : ∃ M1 n k b R', F_X0_split M = some M1 ∧ F_X0_words M1 = some (nI n) ∧ n ≤ 25 ∧ (n = 1 → ∃ v, F_X0_nameAt 0 M1 = some v ∧ F_X4_find v M1 = some k) ∧ (¬ n = 1 → k = -1) ∧ F_X8_named R = some (b, R') ∧ ((k = -1 ∧ R' 0 0 = 1) ∨ (¬ k = -1 ∧ b = k ∧ R' 0 0 = 0)) ∧ Rel M1 R' := by
  obtain ⟨c, nm, em, lm, u, nE, en, len, t, hB0, hL, hR, hch, hT⟩ := h
  obtain ⟨M1, R1, a1, b1, hB, hP, hQ, m3, r2, r0, hT1⟩ := p_split hB0 hL hR hch hT
  have hrel : Rel M1 (set2 R1 0 2 0) := ⟨c, nm, em, lm, u, nE, en, 0, fun _ => 0, hB, LC0 m3 _, LR0 r2 _, fun i hi => absurd hi (Nat.not_lt_zero i), hT1⟩
  unfold F_X8_named B_X8_named_31 F_X8_fails
  rw [wr_eq, b1, bd_some, wr_eq]
  generalize set2 R1 0 2 0 = R2 at *
  generalize scn t len 0 none = W at *
  have h25 := hP.1.1
  have hC := hB.1.1.1
  have h14 := hC.1.n14
  simp only [wr_eq, bd2_some]
  rw [hQ.2.1]
  by_cases z : W.length = 1
  · rw [if_pos (by rw [z]; rfl), show F_X8_stateOf 0 R2 = _ from g_stateOf h14 hQ (k := 0) (by omega) hB.2.1.1.1.2.1 hB.2.2.2.1.1 hB.2.2.2.1.2.2, bd_some]
    have f1 : F_X0_nameAt 0 M1 = some (cdI (wrd t W 0)) := f_nameAt hP (k := 0) (by decide)
    have f2 : F_X4_find (cdI (wrd t W 0)) M1 = some (oI (fnA nm (wrd t W 0) (cN c) 0)) := f_find h14 hC.2.1 hB.2.2.2.1.1 hB.2.2.2.1.2.1 _
    cases q : fnA nm (wrd t W 0) (cN c) 0 with
    | none =>
      rw [q] at f2
      rw [oI_n, if_neg (by decide)]
      exact ⟨M1, W.length, -1, _, _, a1, f_words hP, h25, fun _ => ⟨_, f1, f2⟩, fun x => absurd z x, rfl, Or.inl ⟨rfl, s2_hit _ _ _ _⟩, hrel.fault 1⟩
    | some s =>
      have hs := (fn_31 h14 q).2
      rw [q] at f2
      rw [oI_s, if_pos (nI_0le hs)]
      exact ⟨M1, W.length, nI s, _, _, a1, f_words hP, h25, fun _ => ⟨_, f1, f2⟩, fun x => absurd z x, rfl, Or.inr ⟨nI_ne_m1 hs, rfl, r0⟩, hrel⟩
  · rw [if_neg (show ¬ nI W.length = 1 from fun x => z (nI_inj (b := 1) (by omega) (by omega) x)), if_neg (by decide)]
    exact ⟨M1, W.length, -1, _, _, a1, f_words hP, h25, fun x => absurd x z, fun _ => rfl, rfl, Or.inl ⟨rfl, s2_hit _ _ _ _⟩, hrel.fault 1⟩
