/-! The rule that is made, in both. -/
theorem b_48 {M : Mem} {k : Nat} (hk : k < 20) (h : M 18 8 = nI k) (fr to sc q ev : Int32) (a : Bool) : ∃ M', B_X3_make_48 fr to sc q (bI a) ev M = some M' ∧ M' 18 8 = nI (k + 1) ∧ M' 18 9 = M 18 9 ∧ (∀ r, M' 20 r = if r = k then ev else M 20 r) ∧ (∀ r, M' 21 r = if r = k then fr else M 21 r) ∧ (∀ r, M' 22 r = if r = k then to else M 22 r) ∧ (∀ r, M' 23 r = if r = k then sc else M 23 r) ∧ (∀ r, M' 24 r = if r = k then q else M 24 r) ∧ (∀ r, M' 25 r = if r = k then bI a else M 25 r) ∧ ∀ x, (x < 18 ∨ x = 19 ∨ 25 < x) → M' x = M x := by
  have c1 : (nI k).toNatClampNeg = k := nI_clamp (by omega)
  have g1 : ∀ (o : Option Mem), gi 20 (nI k) o = o := fun o => gi_ok hk (by decide)
  have e0 : ∀ (M1 : Mem) (x : Nat) (j : Nat) (v : Int32), ¬ x = 18 → set2 M1 x j v 18 8 = M1 18 8 := fun M1 x j v hx => s2_oth _ _ _ _ (fun z => hx z.symm)
  unfold B_X3_make_48
  simp only [wr_eq, e0 _ 20 _ _ (by decide), e0 _ 21 _ _ (by decide), e0 _ 22 _ _ (by decide), e0 _ 23 _ _ (by decide), e0 _ 24 _ _ (by decide), e0 _ 25 _ _ (by decide), h, g1, c1, bI_nar]
  refine ⟨_, rfl, by rw [s2_hit, nI_1], by simp [s2], fun r => by simp [s2], fun r => by simp [s2], fun r => by simp [s2], fun r => by simp [s2], fun r => by simp [s2], fun r => by simp [s2], fun x hx => ?_⟩
  funext j
  simp [s2, show ¬ x = 18 by omega, show ¬ x = 20 by omega, show ¬ x = 21 by omega, show ¬ x = 22 by omega, show ¬ x = 23 by omega, show ¬ x = 24 by omega, show ¬ x = 25 by omega]
def evN (o : Option Nat) (nE : Nat) : Nat := match o with | some e => e | none => nE
def evE (o : Option Nat) (nE : Nat) : Nat := match o with | some _ => nE | none => nE + 1
def evM (o : Option Nat) (nE : Nat) (en : Nat → List Int32) (w : List Int32) : Nat → List Int32 := match o with | some _ => en | none => up en nE w
theorem f_rmake {M : Mem} {nE : Nat} {en : Nat → List Int32} {u : Ru} (hu : rN u ≤ 20) (h1 : M 18 8 = nI (rN u)) (h2 : M 18 9 = nI nE) (hE : nE ≤ 6) (hok : nOK nE en) (hN : ∀ e, e < nE → M 19 e = codeI (en e)) {w : List Int32} (hw : isL w 4 = true) (hM : ruM u nE (fnA en w nE 0)) (fr to sc q : Int32) (a : Bool) : ∃ M', F_X3_make (cdI w) fr to sc q (bI a) M = some M' ∧ M' 18 8 = nI (rN u + 1) ∧ M' 18 9 = nI (evE (fnA en w nE 0) nE) ∧ (∀ e, e < evE (fnA en w nE 0) nE → M' 19 e = codeI (evM (fnA en w nE 0) nE en w e)) ∧ (∀ r, M' 20 r = if r = rN u then nI (evN (fnA en w nE 0) nE) else M 20 r) ∧ (∀ r, M' 21 r = if r = rN u then fr else M 21 r) ∧ (∀ r, M' 22 r = if r = rN u then to else M 22 r) ∧ (∀ r, M' 23 r = if r = rN u then sc else M 23 r) ∧ (∀ r, M' 24 r = if r = rN u then q else M 24 r) ∧ (∀ r, M' 25 r = if r = rN u then bI a else M 25 r) ∧ ∀ x, (x < 18 ∨ 25 < x) → M' x = M x := by
  unfold F_X3_make
  rw [f_rHasRoom hu h1 h2 hE hok hN, bd_some, decide_eq_true hM, if_neg (by decide), f_findEvent hE h2 hok hN, bd_some]
  cases eo : fnA en w nE 0 with
  | some e =>
    rw [oI_s, if_neg (nI_ne_m1 (fn_31 (show nE ≤ 14 by omega) eo).2)]
    obtain ⟨M', m0, m1, m2, m3, m4, m5, m6, m7, m8, m9⟩ := b_48 hM.1 h1 fr to sc q (nI e) a
    exact ⟨M', m0, m1, by rw [m2]; exact h2, fun x hx => by rw [m9 19 (by omega)]; exact hN x hx, m3, m4, m5, m6, m7, m8, fun x hx => m9 x (by omega)⟩
  | none =>
    have hE2 : nE < 6 := by
      rw [eo] at hM
      rcases hM.2 with x | x
      · exact x
      · exact absurd rfl x
    rw [oI_n, if_pos rfl, nm_eq, h2, gi_ok hE2 (by decide), wr_eq, wr_eq, nI_clamp (by omega), s2_oth _ _ _ _ (by decide), h2, nI_1]
    obtain ⟨M', m0, m1, m2, m3, m4, m5, m6, m7, m8, m9⟩ := b_48 (M := set2 (set2 M 19 nE (cdI w)) 18 9 (nI (nE + 1))) hM.1 (by rw [s2_pl _ _ _ (by decide), s2_oth _ _ _ _ (by decide)]; exact h1) fr to sc q (nI nE) a
    have o : ∀ x r, ¬ x = 18 → ¬ x = 19 → set2 (set2 M 19 nE (cdI w)) 18 9 (nI (nE + 1)) x r = M x r := fun x r a b => by rw [s2_oth _ _ _ _ a, s2_oth _ _ _ _ b]
    refine ⟨M', m0, m1, by rw [m2, s2_hit]; rfl, fun x hx => ?_, fun r => by rw [m3, o 20 r (by decide) (by decide)]; rfl, fun r => by rw [m4, o 21 r (by decide) (by decide)], fun r => by rw [m5, o 22 r (by decide) (by decide)], fun r => by rw [m6, o 23 r (by decide) (by decide)], fun r => by rw [m7, o 24 r (by decide) (by decide)], fun r => by rw [m8, o 25 r (by decide) (by decide)], fun x hx => ?_⟩
    · rw [m9 19 (by omega), s2_oth _ _ _ _ (by decide), s2, if_pos rfl]
      show _ = codeI (up en nE w x)
      have hx2 : x < nE + 1 := hx
      by_cases z : x = nE
      · rw [if_pos z, z, up_hit, cdI_L hw]
      · rw [if_neg z, up_ne _ _ z]; exact hN x (by omega)
    · rw [m9 x (by omega)]
      funext r
      exact o x r (by omega) (by omega)
theorem h_431 {t : Nat → Int32} {W : List (Nat × Nat)} {len r b : Nat} (hr : r < 20) (hb : b ≤ 8) (h3 : (wrd t W (b + 1)).length ≤ 3) (hk : 0 < (wrd t W (b + 1)).length → b + 1 < W.length) : ∀ (j i f : Nat) (R : Mem), i + j = (wrd t W (b + 1)).length → j < f → PR R t W len → R 0 15 = nI r → R 18 r = nI (wrd t W (b + 1)).length → ∃ R', H_X8_newRule_431 f (nI b) (nI i) R = some (3, R') ∧ R' 0 15 = nI (r + 1) ∧ (∀ q, q ≠ 15 → R' 0 q = R 0 q) ∧ (∀ x, i ≤ x → x < (wrd t W (b + 1)).length → R' 12 (3 * r + x) = (wrd t W (b + 1)).getD x 0) ∧ (∀ q, (q < 3 * r + i ∨ 3 * r + (wrd t W (b + 1)).length ≤ q) → R' 12 q = R 12 q) ∧ ∀ x, x ≠ 0 → x ≠ 12 → R' x = R x := by
  intro j
  induction j with
  | zero =>
    intro i f R hi hf hP hA hB
    cases f with
    | zero => omega
    | succ f =>
      show ∃ R', B_X8_newRule_431 _ _ _ _ = _ ∧ _
      unfold B_X8_newRule_431
      rw [hA, gi_ok hr (by decide), nI_clamp (by omega), hB, if_pos (nI_le (by omega) (by omega)), wr_eq, nI_1]
      exact ⟨_, rfl, s2_hit _ _ _ _, fun q hq => s2_pl _ _ _ hq, fun x h1 h2 => by omega, fun q _ => s2_oth _ _ _ _ (by decide), fun x h0 _ => set2_ne _ _ _ h0⟩
  | succ j ih =>
    intro i f R hi hf hP hA hB
    cases f with
    | zero => omega
    | succ f =>
      have hlt : i < (wrd t W (b + 1)).length := by omega
      obtain ⟨R1, e1⟩ : ∃ R1, R1 = set2 R 12 (3 * r + i) ((wrd t W (b + 1)).getD i 0) := ⟨_, rfl⟩
      obtain ⟨R', f0, f1, f2, f3, f4, f5⟩ := ih (i + 1) f R1 (by omega) (by omega) (hP.keep (by rw [e1]; exact s2_oth _ _ _ _ (by decide)) (by rw [e1]; exact set2_ne _ _ _ (by decide)) (by rw [e1]; exact set2_ne _ _ _ (by decide)) (by rw [e1]; exact set2_ne _ _ _ (by decide))) (by rw [e1, s2_oth _ _ _ _ (by decide)]; exact hA) (by rw [e1, s2_oth _ _ _ _ (by decide)]; exact hB)
      refine ⟨R', ?_, f1, fun q hq => by rw [f2 q hq, e1, s2_oth _ _ _ _ (by decide)], fun x h1 h2 => ?_, fun q hq => ?_, fun x h0 h12 => by rw [f5 x h0 h12, e1, set2_ne _ _ _ h12]⟩
      · show B_X8_newRule_431 _ _ _ _ = _
        unfold B_X8_newRule_431
        rw [hA, gi_ok hr (by decide), nI_clamp (n := r) (by omega), hB, if_neg (nI_ge hlt (by omega)), show nI b + 1 = nI (b + 1) from nI_1 b, g_letter hP (hk (by omega)) (by omega), bd_some, show (3 : Int32) * nI r + nI i = nI (3 * r + i) by rw [show (3 : Int32) = nI 3 from rfl, pk_mul, nI_add], gi_ok (show 3 * r + i < 60 by omega) (by decide), wr_eq, nI_clamp (by omega), getD_ch hP.1, nm_eq, show nI i + 1 = nI (i + 1) from nI_1 i, ← e1]
        exact f0
      · rcases Nat.eq_or_lt_of_le h1 with q | q
        · rw [f4 _ (Or.inl (by omega)), e1, ← q, s2_hit]
        · exact f3 x q h2
      · rw [f4 q (by omega), e1, s2_pl _ _ _ (by omega)]
theorem b_349 {R : Mem} {t : Nat → Int32} {W : List (Nat × Nat)} {len r b : Nat} (hr : r < 20) (hb : b ≤ 8) (h3 : (wrd t W (b + 1)).length ≤ 3) (hP : PR R t W len) (hA : R 0 15 = nI r) {D : Bool} (hD : D = true → b + 1 < W.length) (hD2 : D = false → wrd t W (b + 1) = []) (fr to wh q ev : Int32) : ∃ R', B_X8_newRule_349 fr to wh q (nI b) (bI D) ev R = some (3, R') ∧ R' 0 15 = nI (r + 1) ∧ (∀ x, x ≠ 15 → R' 0 x = R 0 x) ∧ (∀ x, R' 13 x = if x = r then ev else R 13 x) ∧ (∀ x, R' 14 x = if x = r then fr else R 14 x) ∧ (∀ x, R' 15 x = if x = r then to else R 15 x) ∧ (∀ x, R' 16 x = if x = r then wh else R 16 x) ∧ (∀ x, R' 17 x = if x = r then q else R 17 x) ∧ (∀ x, R' 18 x = if x = r then nI (wrd t W (b + 1)).length else R 18 x) ∧ (∀ x, x < (wrd t W (b + 1)).length → R' 12 (3 * r + x) = (wrd t W (b + 1)).getD x 0) ∧ (∀ x, (x < 3 * r ∨ 3 * r + (wrd t W (b + 1)).length ≤ x) → R' 12 x = R 12 x) ∧ ∀ x, x ≠ 0 → (x < 12 ∨ 18 < x) → R' x = R x := by
  have c1 : (nI r).toNatClampNeg = r := nI_clamp (by omega)
  have g1 : ∀ (o : Option (Int32 × Mem)), gi 20 (nI r) o = o := fun o => gi_ok hr (by decide)
  have e0 : ∀ (M1 : Mem) (x : Nat) (j : Nat) (v : Int32), ¬ x = 0 → set2 M1 x j v 0 15 = M1 0 15 := fun M1 x j v hx => s2_oth _ _ _ _ (fun z => hx z.symm)
  unfold B_X8_newRule_349
  simp only [wr_eq, e0 _ 13 _ _ (by decide), e0 _ 14 _ _ (by decide), e0 _ 15 _ _ (by decide), e0 _ 16 _ _ (by decide), e0 _ 17 _ _ (by decide), hA, g1, c1]
  obtain ⟨R1, e1⟩ : ∃ R1, R1 = set2 (set2 (set2 (set2 (set2 R 13 r ev) 14 r fr) 15 r to) 16 r wh) 17 r q := ⟨_, rfl⟩
  rw [← e1]
  have o1 : ∀ x, ¬ x = 13 → ¬ x = 14 → ¬ x = 15 → ¬ x = 16 → ¬ x = 17 → R1 x = R x := fun x a b c d f => by rw [e1, set2_ne _ _ _ f, set2_ne _ _ _ d, set2_ne _ _ _ c, set2_ne _ _ _ b, set2_ne _ _ _ a]
  have hP1 : PR R1 t W len := hP.keep (by rw [o1 0 (by decide) (by decide) (by decide) (by decide) (by decide)]) (o1 1 (by decide) (by decide) (by decide) (by decide) (by decide)) (o1 2 (by decide) (by decide) (by decide) (by decide) (by decide)) (o1 3 (by decide) (by decide) (by decide) (by decide) (by decide))
  have key : (if bI D = 0 then B_X8_newRule_427 (nI b) 0 (nI r) R1 else bd (F_X8_length (nI b + 1) R1) fun r_16 => B_X8_newRule_427 (nI b) r_16 (nI r) R1) = H_X8_newRule_431 100 (nI b) (nI 0) (set2 R1 18 r (nI (wrd t W (b + 1)).length)) := by
    unfold B_X8_newRule_427
    cases hd : D with
    | false => rw [if_pos (by decide), g1, wr_eq, c1, hD2 hd]; rfl
    | true => rw [if_neg (by decide), show nI b + 1 = nI (b + 1) from nI_1 b, g_length hP1 (hD hd), bd_some, g1, wr_eq, c1]; rfl
  rw [key]
  obtain ⟨R', f0, f1, f2, f3, f4, f5⟩ := h_431 (len := len) hr hb h3 (fun x => by
    cases hd : D with
    | false => rw [hD2 hd] at x; exact absurd x (by decide)
    | true => exact hD hd) (wrd t W (b + 1)).length 0 100 (set2 R1 18 r (nI (wrd t W (b + 1)).length)) (by omega) (by omega) (hP1.keep (s2_oth _ _ _ _ (by decide)) (set2_ne _ _ _ (by decide)) (set2_ne _ _ _ (by decide)) (set2_ne _ _ _ (by decide))) (by rw [s2_oth _ _ _ _ (by decide), o1 0 (by decide) (by decide) (by decide) (by decide) (by decide)]; exact hA) (s2_hit _ _ _ _)
  refine ⟨R', f0, f1, fun x hx => by rw [f2 x hx, s2_oth _ _ _ _ (by decide), o1 0 (by decide) (by decide) (by decide) (by decide) (by decide)], fun x => ?_, fun x => ?_, fun x => ?_, fun x => ?_, fun x => ?_, fun x => ?_, fun x hx => f3 x (by omega) hx, fun x hx => by rw [f4 x (by omega), s2_oth _ _ _ _ (by decide), o1 12 (by decide) (by decide) (by decide) (by decide) (by decide)], fun x h0 hx => by rw [f5 x h0 (by omega), set2_ne _ _ _ (by omega), o1 x (by omega) (by omega) (by omega) (by omega) (by omega)]⟩
  all_goals rw [f5 _ (by decide) (by decide)]
  all_goals simp [s2, e1]
theorem h_318 {t : Nat → Int32} {W : List (Nat × Nat)} {len e : Nat} (he : e < 6) (h1 : 1 < W.length) (x2 x3 x4 x5 x6 x7 : Int32) : ∀ (j i f : Nat) (R : Mem), i + j = 4 → j < f → PR R t W len → ∃ R', H_X8_newRule_318 f x2 x3 x4 x5 x6 x7 (nI e) (nI i) R = B_X8_newRule_349 x2 x3 x4 x5 x6 x7 (nI e) R' ∧ (∀ x, i ≤ x → x < 4 → R' 11 (4 * e + x) = (wrd t W 1).getD x 0) ∧ (∀ q, (q < 4 * e + i ∨ 4 * e + 4 ≤ q) → R' 11 q = R 11 q) ∧ ∀ x, x ≠ 11 → R' x = R x := by
  intro j
  induction j with
  | zero =>
    intro i f R hi hf hP
    cases f with
    | zero => omega
    | succ f =>
      refine ⟨R, ?_, fun x h1 h2 => by omega, fun q _ => rfl, fun x _ => rfl⟩
      show B_X8_newRule_318 _ _ _ _ _ _ _ _ _ _ = _
      unfold B_X8_newRule_318
      rw [if_pos (show (4 : Int32) ≤ nI i from nI_le (a := 4) (by omega) (by omega))]
  | succ j ih =>
    intro i f R hi hf hP
    cases f with
    | zero => omega
    | succ f =>
      obtain ⟨R1, e1⟩ : ∃ R1, R1 = set2 R 11 (4 * e + i) ((wrd t W 1).getD i 0) := ⟨_, rfl⟩
      obtain ⟨R', f0, f3, f4, f5⟩ := ih (i + 1) f R1 (by omega) (by omega) (hP.keep (by rw [e1]; exact s2_oth _ _ _ _ (by decide)) (by rw [e1]; exact set2_ne _ _ _ (by decide)) (by rw [e1]; exact set2_ne _ _ _ (by decide)) (by rw [e1]; exact set2_ne _ _ _ (by decide)))
      refine ⟨R', ?_, fun x h1 h2 => ?_, fun q hq => ?_, fun x h => by rw [f5 x h, e1, set2_ne _ _ _ h]⟩
      · show B_X8_newRule_318 _ _ _ _ _ _ _ _ _ _ = _
        unfold B_X8_newRule_318
        rw [if_neg (show ¬ (4 : Int32) ≤ nI i from nI_ge (b := 4) (by omega) (by omega)), show F_X8_letter 1 (nI i) R = _ from g_letter hP (k := 1) h1 (by omega), bd_some, show (4 : Int32) * nI e + nI i = nI (4 * e + i) by rw [show (4 : Int32) = nI 4 from rfl, pk_mul, nI_add], gi_ok (show 4 * e + i < 24 by omega) (by decide), wr_eq, nI_clamp (by omega), getD_ch hP.1, nm_eq, show nI i + 1 = nI (i + 1) from nI_1 i, ← e1]
        exact f0
      · rcases Nat.eq_or_lt_of_le h1 with q | q
        · rw [f4 _ (Or.inl (by omega)), e1, ← q, s2_hit]
        · exact f3 x q h2
      · rw [f4 q (by omega), e1, s2_pl _ _ _ (by omega)]
theorem b_294 {R : Mem} {t : Nat → Int32} {W : List (Nat × Nat)} {len r b nE : Nat} {en : Nat → List Int32} (hr : r < 20) (hb : b ≤ 8) (h1 : 1 < W.length) (h3 : (wrd t W (b + 1)).length ≤ 3) (hP : PR R t W len) (hA : R 0 15 = nI r) (hE : R 0 14 = nI nE) (hN : ∀ e, e < nE → ∀ i, i < 4 → R 11 (4 * e + i) = (en e).getD i 0) {D : Bool} (hD : D = true → b + 1 < W.length) (hD2 : D = false → wrd t W (b + 1) = []) (fr to wh q : Int32) {o : Option Nat} (ho : ∀ e, o = some e → e < nE) (ho2 : o = none → nE < 6) (hE6 : nE ≤ 6) : ∃ R', B_X8_newRule_294 fr to wh q (nI b) (bI D) (oI o) R = some (3, R') ∧ R' 0 15 = nI (r + 1) ∧ R' 0 14 = nI (evE o nE) ∧ (∀ x, x ≠ 15 → x ≠ 14 → R' 0 x = R 0 x) ∧ (∀ e, e < evE o nE → ∀ i, i < 4 → R' 11 (4 * e + i) = (evM o nE en (wrd t W 1) e).getD i 0) ∧ (∀ x, R' 13 x = if x = r then nI (evN o nE) else R 13 x) ∧ (∀ x, R' 14 x = if x = r then fr else R 14 x) ∧ (∀ x, R' 15 x = if x = r then to else R 15 x) ∧ (∀ x, R' 16 x = if x = r then wh else R 16 x) ∧ (∀ x, R' 17 x = if x = r then q else R 17 x) ∧ (∀ x, R' 18 x = if x = r then nI (wrd t W (b + 1)).length else R 18 x) ∧ (∀ x, x < (wrd t W (b + 1)).length → R' 12 (3 * r + x) = (wrd t W (b + 1)).getD x 0) ∧ (∀ x, (x < 3 * r ∨ 3 * r + (wrd t W (b + 1)).length ≤ x) → R' 12 x = R 12 x) ∧ ∀ x, x ≠ 0 → (x < 11 ∨ 18 < x) → R' x = R x := by
  unfold B_X8_newRule_294
  cases o with
  | some e =>
    have he := ho e rfl
    rw [oI_s, if_pos (nI_0le (by omega))]
    obtain ⟨R', f0, f1, f2, f3, f4, f5, f6, f7, f8, f9, f10, f11⟩ := b_349 hr hb h3 hP hA hD hD2 fr to wh q (nI e)
    exact ⟨R', f0, f1, by rw [f2 14 (by decide)]; exact hE, fun x a _ => f2 x a, fun x hx i hi => by rw [f11 11 (by decide) (by decide)]; exact hN x hx i hi, f3, f4, f5, f6, f7, f8, f9, f10, fun x a b => f11 x a (by omega)⟩
  | none =>
    have he := ho2 rfl
    rw [oI_n, if_neg (by decide), nm_eq, wr_eq, hE, nI_1]
    have hP1 : PR (set2 R 0 14 (nI (nE + 1))) t W len := hP.keep (s2_pl _ _ _ (by decide)) (set2_ne _ _ _ (by decide)) (set2_ne _ _ _ (by decide)) (set2_ne _ _ _ (by decide))
    obtain ⟨R1, a0, a1, a2, a3⟩ := h_318 (len := len) he h1 fr to wh q (nI b) (bI D) 4 0 100 (set2 R 0 14 (nI (nE + 1))) (by omega) (by omega) hP1
    have a4 : ∀ x, x ≠ 11 → x ≠ 0 → R1 x = R x := fun x h h0 => by rw [a3 x h, set2_ne _ _ _ h0]
    have a00 : ∀ x, x ≠ 14 → R1 0 x = R 0 x := fun x h => by rw [a3 0 (by decide), s2_pl _ _ _ h]
    obtain ⟨R', f0, f1, f2, f3, f4, f5, f6, f7, f8, f9, f10, f11⟩ := b_349 (R := R1) hr hb h3 (hP.keep (a00 3 (by decide)) (a4 1 (by decide) (by decide)) (a4 2 (by decide) (by decide)) (a4 3 (by decide) (by decide))) (by rw [a00 15 (by decide)]; exact hA) hD hD2 fr to wh q (nI nE)
    refine ⟨R', by rw [← f0]; exact a0, f1, by rw [f2 14 (by decide), a3 0 (by decide), s2_hit]; rfl, fun x h15 h14 => by rw [f2 x h15, a00 x h14], fun x hx i hi => ?_, fun x => by rw [f3, a4 13 (by decide) (by decide)]; rfl, fun x => by rw [f4, a4 14 (by decide) (by decide)], fun x => by rw [f5, a4 15 (by decide) (by decide)], fun x => by rw [f6, a4 16 (by decide) (by decide)], fun x => by rw [f7, a4 17 (by decide) (by decide)], fun x => by rw [f8, a4 18 (by decide) (by decide)], f9, fun x hx => by rw [f10 x hx, a4 12 (by decide) (by decide)], fun x h0 hx => by rw [f11 x h0 (by omega), a4 x (by omega) h0]⟩
    rw [f11 11 (by decide) (by decide)]
    show _ = (up en nE (wrd t W 1) x).getD i 0
    have hx2 : x < nE + 1 := hx
    by_cases z : x = nE
    · rw [z, up_hit]; exact a1 i (by omega) hi
    · rw [up_ne _ _ z, a2 _ (by omega), s2_oth _ _ _ _ (by decide)]; exact hN x (by omega) i hi
