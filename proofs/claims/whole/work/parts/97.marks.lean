/-! The line that adds marks. -/
theorem MKs.oth {M : Mem} {o w rows s s2 : Nat} {ms ms2 : List Int32} {v n : Int32} (hs : s2 ≠ s) (hl : ms.length < w) (h : MKs M o w s2 ms2) : MKs (set2 (set2 M (o + 1) (s * w + ms.length) v) (o + 2) s n) o w s2 ms2 := by
  obtain ⟨h1, h2, h3, h4⟩ := h
  refine ⟨h1, ?_, fun i hi => ?_, h4⟩
  · rw [s2_pl _ _ _ hs, s2_oth _ _ _ _ (by omega)]; exact h2
  · rw [s2_oth _ _ _ _ (by omega), s2_pl _ _ _ (fun e => ?_)]
    · exact h3 i hi
    · rcases Nat.lt_or_gt_of_ne hs with q | q
      · have := Nat.mul_le_mul_right w (show s2 + 1 ≤ s by omega)
        rw [Nat.add_mul] at this
        omega
      · have := Nat.mul_le_mul_right w (show s + 1 ≤ s2 by omega)
        rw [Nat.add_mul] at this
        omega
theorem getD_snoc (ms : List Int32) (v : Int32) {i : Nat} (hi : i < (ms ++ [v]).length) : (ms ++ [v]).getD i 0 = if i = ms.length then v else ms.getD i 0 := by
  simp only [List.length_append, List.length_cons, List.length_nil] at hi
  by_cases q : i = ms.length
  · rw [if_pos q, List.getD_eq_getElem?_getD, q, List.getElem?_append_right (Nat.le_refl _)]; simp
  · rw [if_neg q, List.getD_eq_getElem?_getD, List.getD_eq_getElem?_getD, List.getElem?_append_left (by omega)]
theorem f_add {M : Mem} {o rows w s : Nat} {ms : List Int32} {v : Int32} (hM : MR M o rows w) (hd1 : dl_C (o + 1) = rows * w) (hd2 : dl_C (o + 2) = rows) (hr : rows ≤ 20) (hw : w ≤ 6) (hs : s < rows) (h : MKs M o w s ms) (hl : ms.length < w) (hv : vp_nar .char v = v) : F_X1_add o (nI s) v M = some (set2 (set2 M (o + 1) (s * w + ms.length) v) (o + 2) s (nI (ms.length + 1))) ∧ MKs (set2 (set2 M (o + 1) (s * w + ms.length) v) (o + 2) s (nI (ms.length + 1))) o w s (ms ++ [v]) := by
  have hsw : s * w + w ≤ rows * w := by
    have := Nat.mul_le_mul_right w (show s + 1 ≤ rows from hs)
    rw [Nat.add_mul] at this
    omega
  have hrw : rows * w ≤ 120 := by
    have := Nat.mul_le_mul hr hw
    omega
  obtain ⟨h1, h2, h3, h4⟩ := h
  have cs : (nI s).toNatClampNeg = s := nI_clamp (by omega)
  constructor
  · unfold F_X1_add F_X1_isRow
    rw [hM.1, if_neg (nI_lt0 (by omega)), if_neg (nI_ge hs (by omega)), bd_some, if_neg (by decide), hd2, gi_ok hs (by omega), hM.2, cs, h2, if_neg (nI_ge hl (by omega)), gi_ok hs (by omega), hd1, pk_mul, nI_add, gi_ok (by omega) (by omega), wr_eq, gi_ok hs (by omega), gi_ok hs (by omega), wr_eq, nI_clamp (by omega), hv, s2_oth _ _ _ _ (by omega), h2, nI_1]
  · refine ⟨by simp; omega, ?_, fun i hi => ?_, fun i hi => ?_⟩
    · rw [s2_hit]; simp
    · rw [getD_snoc _ _ hi, s2_oth _ _ _ _ (by omega)]
      simp only [List.length_append, List.length_cons, List.length_nil] at hi
      by_cases q : i = ms.length
      · rw [if_pos q, q, s2_hit]
      · rw [if_neg q, s2_pl _ _ _ (by omega)]; exact h3 i (by omega)
    · rw [getD_snoc _ _ hi]
      simp only [List.length_append, List.length_cons, List.length_nil] at hi
      by_cases q : i = ms.length
      · rw [if_pos q]; exact hv
      · rw [if_neg q]; exact h4 i (by omega)
theorem h_addMarks {t : Nat → Int32} {W : List (Nat × Nat)} {len k o rows w s : Nat} (hk : k < 2 ^ 31) (hd1 : dl_C (o + 1) = rows * w) (hd2 : dl_C (o + 2) = rows) (ho : 12 ≤ o) (hr : rows ≤ 20) (hw : w ≤ 6) (hs : s < rows) : ∀ (j i n : Nat) (ms : List Int32) (M : Mem), i + j = (wrd t W k).length → j < n → ms.length + j ≤ w → PC M t W len → MR M o rows w → MKs M o w s ms → ∃ M', H_X2_addMarks_13 o n (nI s) (nI k) (nI (wrd t W k).length) (nI i) M = some M' ∧ MKs M' o w s (ms ++ (wrd t W k).drop i) ∧ (∀ s2 ms2, s2 ≠ s → MKs M o w s2 ms2 → MKs M' o w s2 ms2) ∧ (∀ s2, s2 ≠ s → M' (o + 2) s2 = M (o + 2) s2) ∧ agr [o + 1, o + 2] M M' := by
  intro j
  induction j with
  | zero =>
    intro i n ms M hi hn hl hP hM hK
    have h50 := wrd_50 hP.1 (k := k)
    cases n with
    | zero => omega
    | succ n =>
      refine ⟨M, ?_, by rw [List.drop_eq_nil_of_le (by omega), List.append_nil]; exact hK, fun _ _ _ h => h, fun _ _ => rfl, agr.rf⟩
      show B_X2_addMarks_13 _ _ _ _ _ _ _ = _
      unfold B_X2_addMarks_13
      rw [if_pos (nI_le (by omega) (by omega))]
  | succ j ih =>
    intro i n ms M hi hn hl hP hM hK
    have h50 := wrd_50 hP.1 (k := k)
    cases n with
    | zero => omega
    | succ n =>
      have hlt : i < (wrd t W k).length := by omega
      obtain ⟨a1, a2⟩ := f_add (v := (wrd t W k).getD i 0) hM hd1 hd2 hr hw hs hK (by omega) (getD_ch hP.1)
      obtain ⟨M1, e1⟩ : ∃ M1, M1 = set2 (set2 M (o + 1) (s * w + ms.length) ((wrd t W k).getD i 0)) (o + 2) s (nI (ms.length + 1)) := ⟨_, rfl⟩
      rw [← e1] at a1 a2
      have g1 : ∀ x, x ≠ o + 1 → x ≠ o + 2 → M1 x = M x := fun x h1 h2 => by rw [e1, set2_ne _ _ _ h2, set2_ne _ _ _ h1]
      obtain ⟨M', f1, f2, f3, f4, f5⟩ := ih (i + 1) n (ms ++ [(wrd t W k).getD i 0]) M1 (by omega) (by omega) (by simp; omega) (hP.keep (by rw [g1 1 (by omega) (by omega)]) (g1 2 (by omega) (by omega)) (g1 3 (by omega) (by omega)) (g1 4 (by omega) (by omega))) (by unfold MR; rw [g1 o (by omega) (by omega)]; exact hM) a2
      refine ⟨M', ?_, ?_, fun s2 ms2 h1 h2 => f3 s2 ms2 h1 (by rw [e1]; exact MKs.oth (rows := rows) h1 (by omega) h2), fun s2 h1 => by rw [f4 s2 h1, e1, s2_pl _ _ _ h1, s2_oth _ _ _ _ (by omega)], fun x hx => ?_⟩
      · show B_X2_addMarks_13 _ _ _ _ _ _ _ = _
        unfold B_X2_addMarks_13
        rw [if_neg (nI_ge hlt (by omega)), f_letterAt hP hk (by omega), bd_some, if_pos hlt, a1, bd_some, nm_eq, show nI i + 1 = nI (i + 1) from nI_1 i]
        exact f1
      · rw [drop_getD' hlt]
        rw [List.append_assoc] at f2
        exact f2
      · simp only [List.mem_cons, List.not_mem_nil, or_false, not_or] at hx
        rw [f5 x (by simp only [List.mem_cons, List.not_mem_nil, or_false, not_or]; exact hx)]
        exact g1 x hx.1 hx.2
theorem f_addMarks {M : Mem} {t : Nat → Int32} {W : List (Nat × Nat)} {len k o rows w s : Nat} {ms : List Int32} (hk : k < 2 ^ 31) (hd1 : dl_C (o + 1) = rows * w) (hd2 : dl_C (o + 2) = rows) (ho : 12 ≤ o) (hr : rows ≤ 20) (hw : w ≤ 6) (hs : s < rows) (hl : ms.length + (wrd t W k).length ≤ w) (hP : PC M t W len) (hM : MR M o rows w) (hK : MKs M o w s ms) : ∃ M', F_X2_addMarks o (nI s) (nI k) M = some M' ∧ MKs M' o w s (ms ++ wrd t W k) ∧ (∀ s2 ms2, s2 ≠ s → MKs M o w s2 ms2 → MKs M' o w s2 ms2) ∧ (∀ s2, s2 ≠ s → M' (o + 2) s2 = M (o + 2) s2) ∧ agr [o + 1, o + 2] M M' := by
  have h50 := wrd_50 hP.1 (k := k)
  unfold F_X2_addMarks
  rw [f_sizeOf hP hk, bd_some]
  have := h_addMarks (len := len) hk hd1 hd2 ho hr hw hs (wrd t W k).length 0 100 ms M (by omega) (by omega) (by omega) hP hM hK
  rw [List.drop_zero] at this
  exact this
theorem h_60 {t : Nat → Int32} {W : List (Nat × Nat)} {len m a : Nat} (hm : m < 28) (h2 : 2 < W.length) (ha : a + (wrd t W 2).length ≤ 6) : ∀ (j i f : Nat) (R : Mem), i + j = (wrd t W 2).length → j < f → PR R t W len → R 8 m = nI a → ∃ R', H_X8_newMarks_60 f (nI m) (nI i) R = some (2, R') ∧ R' 8 m = nI (a + (wrd t W 2).length) ∧ (∀ q, q ≠ m → R' 8 q = R 8 q) ∧ (∀ x, i ≤ x → x < (wrd t W 2).length → R' 5 (6 * m + a + x) = (wrd t W 2).getD x 0) ∧ (∀ q, (q < 6 * m + a + i ∨ 6 * m + a + (wrd t W 2).length ≤ q) → R' 5 q = R 5 q) ∧ ∀ x, x ≠ 5 → x ≠ 8 → R' x = R x := by
  intro j
  induction j with
  | zero =>
    intro i f R hi hf hP hA
    cases f with
    | zero => omega
    | succ f =>
      show ∃ R', B_X8_newMarks_60 _ _ _ _ = _ ∧ _
      unfold B_X8_newMarks_60
      rw [show F_X8_length 2 R = _ from g_length hP (k := 2) h2, bd_some, if_pos (nI_le (by omega) (by omega)), gi_ok hm (by decide), bd_some, gi_ok hm (by decide), wr_eq, nI_clamp (by omega), hA, nI_add]
      exact ⟨_, rfl, s2_hit _ _ _ _, fun q hq => s2_pl _ _ _ hq, fun x h1 h2 => by omega, fun q _ => s2_oth _ _ _ _ (by decide), fun x _ h8 => set2_ne _ _ _ h8⟩
  | succ j ih =>
    intro i f R hi hf hP hA
    cases f with
    | zero => omega
    | succ f =>
      have hlt : i < (wrd t W 2).length := by omega
      obtain ⟨R1, e1⟩ : ∃ R1, R1 = set2 R 5 (6 * m + a + i) ((wrd t W 2).getD i 0) := ⟨_, rfl⟩
      obtain ⟨R', f0, f1, f2, f3, f4, f5⟩ := ih (i + 1) f R1 (by omega) (by omega) (hP.keep (by rw [e1]; exact s2_oth _ _ _ _ (by decide)) (by rw [e1]; exact set2_ne _ _ _ (by decide)) (by rw [e1]; exact set2_ne _ _ _ (by decide)) (by rw [e1]; exact set2_ne _ _ _ (by decide))) (by rw [e1, s2_oth _ _ _ _ (by decide)]; exact hA)
      refine ⟨R', ?_, f1, fun q hq => by rw [f2 q hq, e1, s2_oth _ _ _ _ (by decide)], fun x h1 h2 => ?_, fun q hq => ?_, fun x h5 h8 => by rw [f5 x h5 h8, e1, set2_ne _ _ _ h5]⟩
      · show B_X8_newMarks_60 _ _ _ _ = _
        unfold B_X8_newMarks_60
        rw [show F_X8_length 2 R = _ from g_length hP (k := 2) h2, bd_some, if_neg (nI_ge hlt (by omega)), gi_ok hm (by decide), show F_X8_letter 2 (nI i) R = _ from g_letter hP (k := 2) h2 (by omega), bd_some, nI_clamp (by omega), hA, show (6 : Int32) * nI m + nI a + nI i = nI (6 * m + a + i) by rw [show (6 : Int32) = nI 6 from rfl, pk_mul, nI_add, nI_add], gi_ok (show 6 * m + a + i < 168 by omega) (by decide), wr_eq, nI_clamp (by omega), getD_ch hP.1, nm_eq, show nI i + 1 = nI (i + 1) from nI_1 i, ← e1]
        exact f0
      · rcases Nat.eq_or_lt_of_le h1 with q | q
        · rw [f4 _ (Or.inl (by omega)), e1, ← q, s2_hit]
        · exact f3 x q h2
      · rw [f4 q (by omega), e1, s2_pl _ _ _ (by omega)]
abbrev mkC (t : Nat → Int32) (W : List (Nat × Nat)) : Prop := W.length = 3 ∧ isL (wrd t W 2) 3 = true
def mkP (w : List Int32) (ms : Nat → List Int32) (o : Option Nat) : Option (Option Nat) := match o with
  | none => none
  | some s => if (ms s).length + w.length ≤ 6 then some (some s) else some none
theorem mkP_n {w : List Int32} {ms : Nat → List Int32} {s : Nat} (h : ¬ (ms s).length + w.length ≤ 6) : mkP w ms (some s) = some none := if_neg h
theorem mkP_y {w : List Int32} {ms : Nat → List Int32} {s : Nat} (h : (ms s).length + w.length ≤ 6) : mkP w ms (some s) = some (some s) := if_pos h
def mkK (c : Ch) (nm ms : Nat → List Int32) (t : Nat → Int32) (W : List (Nat × Nat)) : Option (Option Nat) := if mkC t W then mkP (wrd t W 2) ms (fnA nm (wrd t W 1) (cN c) 0) else none
theorem mkK_n {c : Ch} {nm ms : Nat → List Int32} {t : Nat → Int32} {W : List (Nat × Nat)} (h : ¬ mkC t W) : mkK c nm ms t W = none := if_neg h
theorem mkK_y {c : Ch} {nm ms : Nat → List Int32} {t : Nat → Int32} {W : List (Nat × Nat)} (h : mkC t W) : mkK c nm ms t W = mkP (wrd t W 2) ms (fnA nm (wrd t W 1) (cN c) 0) := if_pos h
theorem c_marks {M : Mem} {c : Ch} {nm ms : Nat → List Int32} {t : Nat → Int32} {W : List (Nat × Nat)} {len o : Nat} (hC : CC M c) (hok : nOK (cN c) nm) (hN : ∀ s, s < cN c → M 6 s = codeI (nm s)) (h : PC M t W len) (hM : MR M o 14 6) (hd2 : dl_C (o + 2) = 14) (hK : ∀ s, s < cN c → MKs M o 6 s (ms s)) : F_X2_readMarks o M = kO (mkK c nm ms t W) M (fun s => bd (F_X2_addMarks o (nI s) 2 M) fun M' => some (2, M')) := by
  have h14 := hC.1.n14
  have h25 := h.1.1
  unfold F_X2_readMarks
  rw [show F_X0_nameAt 1 M = _ from f_nameAt h (k := 1) (by decide), bd_some, f_find h14 hC.2.1 hok hN, bd_some, f_words h, bd_some]
  by_cases z : W.length = 3
  · rw [if_pos (show nI W.length = 3 by rw [z]; rfl)]
    cases z1 : fnA nm (wrd t W 1) (cN c) 0 with
    | none =>
      rw [oI_n, if_pos rfl]
      by_cases q : mkC t W
      · rw [mkK_y q, z1]; rfl
      · rw [mkK_n q]; rfl
    | some s =>
      obtain ⟨y1, y2⟩ := fn_31 h14 z1
      rw [oI_s, if_neg (nI_ne_m1 y2), show F_X0_isLetters 2 3 M = _ from f_isLetters h (k := 2) (most := 3) (by decide) (by decide), bd_some]
      cases z2 : isL (wrd t W 2) 3 with
      | false => rw [if_pos (by decide), mkK_n (fun q => by have q2 := q.2; rw [z2] at q2; cases q2)]; rfl
      | true =>
        have hL := isL_spec z2
        have hK1 := hK s y1
        rw [if_neg (by decide), show F_X0_sizeOf 2 M = _ from f_sizeOf h (k := 2) (by decide), bd_some, mkK_y ⟨z, z2⟩, z1]
        unfold F_X1_hasRoom F_X1_isRow
        rw [hM.1, if_neg (nI_lt0 y2), if_neg (nI_ge (show s < 14 by omega) (by omega)), bd_some, if_neg (by decide), hd2, gi_ok (show s < 14 by omega) (by decide), hM.2, nI_clamp y2, hK1.2.1, pk_sub hK1.1]
        by_cases q : (ms s).length + (wrd t W 2).length ≤ 6
        · rw [if_neg (nI_nlt (by omega) (by omega)), bd_some, if_neg (by decide), mkP_y q, kO_3]
        · rw [if_pos (nI_lt (by omega) (by omega)), bd_some, if_pos rfl, mkP_n q, kO_2]
  · rw [if_neg (show ¬ nI W.length = 3 from fun q => z (nI_inj (b := 3) (by omega) (by omega) q)), mkK_n (fun q => z q.1)]
    rfl
theorem r_marks {R : Mem} {c : Ch} {nm ms : Nat → List Int32} {t : Nat → Int32} {W : List (Nat × Nat)} {len v : Nat} (hv : v < 2) (hC : CD R c) (hok : nOK (cN c) nm) (hN : ∀ s, s < cN c → ∀ i, i < 4 → R 4 (4 * s + i) = (nm s).getD i 0) (h : PR R t W len) (hK : ∀ s, s < cN c → MKr R (2 * s + v) (ms s)) : F_X8_newMarks (nI v) R = kO (mkK c nm ms t W) R (fun s => H_X8_newMarks_60 100 (nI (2 * s + v)) 0 R) := by
  have h14 := hC.1.n14
  have h25 := h.1.1
  unfold F_X8_newMarks
  rw [h.2.1]
  by_cases z : W.length = 3
  · rw [if_pos (show nI W.length = 3 by rw [z]; rfl), show F_X8_isWord 2 3 R = _ from g_isWord h (k := 2) (most := 3) (by omega) (by omega), bd_some]
    cases z2 : isL (wrd t W 2) 3 with
    | false => rw [if_pos (by decide), mkK_n (fun q => by have q2 := q.2; rw [z2] at q2; cases q2)]; rfl
    | true =>
      have hL := isL_spec z2
      rw [if_neg (by decide), show F_X8_stateOf 1 R = _ from g_stateOf h14 h (k := 1) (by omega) hC.2.1 hok hN, bd_some, mkK_y ⟨z, z2⟩]
      cases z1 : fnA nm (wrd t W 1) (cN c) 0 with
      | none => rw [oI_n, if_neg (by decide)]; rfl
      | some s =>
        obtain ⟨y1, y2⟩ := fn_31 h14 z1
        have hK1 := hK s y1
        rw [oI_s, if_pos (nI_0le y2), nm_eq, show (2 : Int32) * nI s + nI v = nI (2 * s + v) by rw [show (2 : Int32) = nI 2 from rfl, pk_mul, nI_add], gi_ok (show 2 * s + v < 28 by omega) (by decide), show F_X8_length 2 R = _ from g_length h (k := 2) (by omega), bd_some, nI_clamp (by omega), hK1.2.1, nI_add]
        by_cases q : (ms s).length + (wrd t W 2).length ≤ 6
        · rw [if_pos (show nI _ ≤ (6 : Int32) from nI_le (b := 6) q (by omega)), mkP_y q, kO_3]
        · rw [if_neg (show ¬ nI _ ≤ (6 : Int32) from nI_ge (a := 6) (by omega) (by have := hK1.1; omega)), mkP_n q, kO_2]
  · rw [if_neg (show ¬ nI W.length = 3 from fun q => z (nI_inj (b := 3) (by omega) (by omega) q)), mkK_n (fun q => z q.1)]
    rfl
theorem getD_app {a b : List Int32} {i : Nat} : (a ++ b).getD i 0 = if i < a.length then a.getD i 0 else b.getD (i - a.length) 0 := by
  by_cases q : i < a.length
  · rw [if_pos q, List.getD_eq_getElem?_getD, List.getD_eq_getElem?_getD, List.getElem?_append_left q]
  · rw [if_neg q, List.getD_eq_getElem?_getD, List.getD_eq_getElem?_getD, List.getElem?_append_right (by omega)]
theorem rs_enter {M R : Mem} {c : Ch} {nm em lm : Nat → List Int32} {u : Ru} {nE : Nat} {en : Nat → List Int32} {t : Nat → Int32} {W : List (Nat × Nat)} {len : Nat} (hB : BS M R c nm em lm u nE en) (hP : PC M t W len) (hR : PR R t W len) : RS (F_X2_readMarks 12 M) (F_X8_newMarks (nI 0) R) M R := by
  obtain ⟨⟨bS, bC, bE⟩, ⟨bD, bR, bF⟩, hE6, ⟨n1, n2, n3⟩, ⟨v1, v2, v3⟩, ⟨z1, z2⟩, zE⟩ := hB
  have hC := bS.1
  have hc := hC.1
  have hD := bD.1
  have h14 := hc.n14
  rw [c_marks (o := 12) hC n1 n2 hP bS.2.2.1 rfl bS.2.2.2.2.2.1, r_marks (v := 0) (by decide) hD n1 n3 hR bD.2.1]
  by_cases q : mkC t W
  · rw [mkK_y q]
    have hL := isL_spec q.2
    cases z5 : fnA nm (wrd t W 1) (cN c) 0 with
    | none => exact Or.inl ⟨-1, Or.inl rfl, rfl, rfl⟩
    | some s =>
      obtain ⟨y1, y2⟩ := fn_31 hc.n14 z5
      by_cases z6 : (em s).length + (wrd t W 2).length ≤ 6
      · rw [mkP_y z6, kO_3, kO_3]
        have hK1 := bD.2.1 s y1
        obtain ⟨M', f1, f2, f3, f4, f5⟩ := f_addMarks (k := 2) (s := s) (by decide) (show dl_C (12 + 1) = 14 * 6 from rfl) (show dl_C (12 + 2) = 14 from rfl) (by decide) (by decide) (by decide) (by omega) z6 hP bS.2.2.1 (bS.2.2.2.2.2.1 s y1)
        obtain ⟨R', r0, r1, r2, r3, r4, r5⟩ := h_60 (t := t) (W := W) (len := len) (m := 2 * s + 0) (a := (em s).length) (by omega) (by omega) z6 (wrd t W 2).length 0 100 R (by omega) (by omega) hR hK1.2.1
        have mA : ∀ a, a ≠ 12 + 1 → a ≠ 12 + 2 → M' a = M a := fun a h1 h2 => f5 a (by simp only [List.mem_cons, List.not_mem_nil, or_false, not_or]; exact ⟨h1, h2⟩)
        have kR : ∀ m ms, m ≠ 2 * s + 0 → MKr R m ms → MKr R' m ms := fun m ms hm h => by
          obtain ⟨a1, a2, a3⟩ := h
          have hl6 := hK1.1
          refine ⟨a1, by rw [r2 m hm]; exact a2, fun i hi => ⟨?_, (a3 i hi).2⟩⟩
          rw [r4 _ (by omega)]
          exact (a3 i hi).1
        have kS : MKr R' (2 * s + 0) (em s ++ wrd t W 2) := by
          refine ⟨by simp; omega, by rw [r1]; simp, fun i hi => ?_⟩
          rw [getD_app]
          simp only [List.length_append] at hi
          by_cases z : i < (em s).length
          · rw [if_pos z, r4 _ (Or.inl (by omega))]
            exact hK1.2.2 i z
          · rw [if_neg z]
            refine ⟨?_, getD_ch hP.1⟩
            have := r3 (i - (em s).length) (by omega) (by omega)
            rw [show 6 * (2 * s + 0) + (em s).length + (i - (em s).length) = 6 * (2 * s + 0) + i by omega] at this
            exact this
        have cc : ∀ a, a ≤ 11 → M' a = M a := fun a h => mA a (by omega) (by omega)
        refine Or.inr ⟨2, M', R', c, nm, up em s (em s ++ wrd t W 2), lm, u, nE, en, by omega, by omega, ?_, ?_, ⟨⟨⟨?_, ?_, ?_, ?_, ?_, fun x hx => ?_, fun x hx => ?_⟩, ⟨bC.1, ?_, fun x hx => ?_⟩, ?_⟩, ⟨⟨?_, fun x hx => ?_, fun x hx => ?_⟩, ⟨bR.1, ?_, fun x hx => ?_⟩, ?_⟩, hE6, ⟨n1, fun x hx => ?_, fun x hx i hi => ?_⟩, ⟨v1, fun e he => ?_, fun e he i hi => ?_⟩, ⟨fun x hx hx2 => ?_, fun x hx hx2 => ?_⟩, zE⟩, ?_, ?_, ?_⟩
        · show bd (F_X2_addMarks 12 (nI s) 2 M) _ = _
          rw [show F_X2_addMarks 12 (nI s) 2 M = _ from f1]; rfl
        · exact r0
        · unfold CC
          rw [cc 5 (by omega), cc 7 (by omega), cc 8 (by omega), cc 9 (by omega), cc 10 (by omega), cc 11 (by omega)]
          exact hC
        · unfold MR; rw [mA 31 (by omega) (by omega)]; exact bS.2.1
        · unfold MR; rw [mA 12 (by omega) (by omega)]; exact bS.2.2.1
        · unfold MR; rw [mA 15 (by omega) (by omega)]; exact bS.2.2.2.1
        · unfold MR; rw [mA 26 (by omega) (by omega)]; exact bS.2.2.2.2.1
        · by_cases z : x = s
          · rw [z, up_hit]; exact f2
          · rw [up_ne _ _ z]; exact f3 x _ z (bS.2.2.2.2.2.1 x hx)
        · exact (bS.2.2.2.2.2.2 x hx).eqc (mA _ (by omega) (by omega)) (mA _ (by omega) (by omega))
        · rw [mA 18 (by omega) (by omega)]; exact bC.2.1
        · obtain ⟨a1, a2, a3, a4, a5, a6, a7⟩ := bC.2.2 x hx
          rw [mA 20 (by omega) (by omega), mA 21 (by omega) (by omega), mA 22 (by omega) (by omega), mA 23 (by omega) (by omega), mA 24 (by omega) (by omega), mA 25 (by omega) (by omega)]
          exact ⟨a1, a2, a3, a4, a5, a6, a7.eqc (mA _ (by omega) (by omega)) (mA _ (by omega) (by omega))⟩
        · rw [mA 18 (by omega) (by omega)]; exact bE
        · unfold CD
          rw [r5 0 (by decide) (by decide), r5 6 (by decide) (by decide), r5 7 (by decide) (by decide), r5 9 (by decide) (by decide), r5 10 (by decide) (by decide)]
          exact hD
        · by_cases z : x = s
          · rw [z, up_hit]; exact kS
          · rw [up_ne _ _ z]; exact kR _ _ (by omega) (bD.2.1 x hx)
        · exact kR _ _ (by omega) (bD.2.2 x hx)
        · rw [r5 0 (by decide) (by decide)]; exact bR.2.1
        · rw [r5 13 (by decide) (by decide), r5 14 (by decide) (by decide), r5 15 (by decide) (by decide), r5 16 (by decide) (by decide), r5 17 (by decide) (by decide), r5 18 (by decide) (by decide), r5 12 (by decide) (by decide)]
          exact bR.2.2 x hx
        · rw [r5 0 (by decide) (by decide)]; exact bF
        · rw [mA 6 (by omega) (by omega)]; exact n2 x hx
        · rw [r5 4 (by decide) (by decide)]; exact n3 x hx i hi
        · rw [mA 19 (by omega) (by omega)]; exact v2 e he
        · rw [r5 11 (by decide) (by decide)]; exact v3 e he i hi
        · have zz := z1 x hx hx2
          rw [r2 _ (by omega), r2 _ (by omega), show M' 14 x = M 14 x from f4 x (by omega), mA 17 (by omega) (by omega)]
          exact zz
        · rw [mA 28 (by omega) (by omega)]; exact z2 x hx hx2
        · exact mA 1 (by omega) (by omega)
        · rw [r5 0 (by decide) (by decide)]
        · rw [r5 0 (by decide) (by decide)]
      · rw [mkP_n z6]
        exact Or.inl ⟨-2, Or.inr rfl, rfl, rfl⟩
  · rw [mkK_n q]
    exact Or.inl ⟨-1, Or.inl rfl, rfl, rfl⟩
theorem rs_leave {M R : Mem} {c : Ch} {nm em lm : Nat → List Int32} {u : Ru} {nE : Nat} {en : Nat → List Int32} {t : Nat → Int32} {W : List (Nat × Nat)} {len : Nat} (hB : BS M R c nm em lm u nE en) (hP : PC M t W len) (hR : PR R t W len) : RS (F_X2_readMarks 15 M) (F_X8_newMarks (nI 1) R) M R := by
  obtain ⟨⟨bS, bC, bE⟩, ⟨bD, bR, bF⟩, hE6, ⟨n1, n2, n3⟩, ⟨v1, v2, v3⟩, ⟨z1, z2⟩, zE⟩ := hB
  have hC := bS.1
  have hc := hC.1
  have hD := bD.1
  have h14 := hc.n14
  rw [c_marks (o := 15) hC n1 n2 hP bS.2.2.2.1 rfl bS.2.2.2.2.2.2, r_marks (v := 1) (by decide) hD n1 n3 hR bD.2.2]
  by_cases q : mkC t W
  · rw [mkK_y q]
    have hL := isL_spec q.2
    cases z5 : fnA nm (wrd t W 1) (cN c) 0 with
    | none => exact Or.inl ⟨-1, Or.inl rfl, rfl, rfl⟩
    | some s =>
      obtain ⟨y1, y2⟩ := fn_31 hc.n14 z5
      by_cases z6 : (lm s).length + (wrd t W 2).length ≤ 6
      · rw [mkP_y z6, kO_3, kO_3]
        have hK1 := bD.2.2 s y1
        obtain ⟨M', f1, f2, f3, f4, f5⟩ := f_addMarks (k := 2) (s := s) (by decide) (show dl_C (15 + 1) = 14 * 6 from rfl) (show dl_C (15 + 2) = 14 from rfl) (by decide) (by decide) (by decide) (by omega) z6 hP bS.2.2.2.1 (bS.2.2.2.2.2.2 s y1)
        obtain ⟨R', r0, r1, r2, r3, r4, r5⟩ := h_60 (t := t) (W := W) (len := len) (m := 2 * s + 1) (a := (lm s).length) (by omega) (by omega) z6 (wrd t W 2).length 0 100 R (by omega) (by omega) hR hK1.2.1
        have mA : ∀ a, a ≠ 15 + 1 → a ≠ 15 + 2 → M' a = M a := fun a h1 h2 => f5 a (by simp only [List.mem_cons, List.not_mem_nil, or_false, not_or]; exact ⟨h1, h2⟩)
        have kR : ∀ m ms, m ≠ 2 * s + 1 → MKr R m ms → MKr R' m ms := fun m ms hm h => by
          obtain ⟨a1, a2, a3⟩ := h
          have hl6 := hK1.1
          refine ⟨a1, by rw [r2 m hm]; exact a2, fun i hi => ⟨?_, (a3 i hi).2⟩⟩
          rw [r4 _ (by omega)]
          exact (a3 i hi).1
        have kS : MKr R' (2 * s + 1) (lm s ++ wrd t W 2) := by
          refine ⟨by simp; omega, by rw [r1]; simp, fun i hi => ?_⟩
          rw [getD_app]
          simp only [List.length_append] at hi
          by_cases z : i < (lm s).length
          · rw [if_pos z, r4 _ (Or.inl (by omega))]
            exact hK1.2.2 i z
          · rw [if_neg z]
            refine ⟨?_, getD_ch hP.1⟩
            have := r3 (i - (lm s).length) (by omega) (by omega)
            rw [show 6 * (2 * s + 1) + (lm s).length + (i - (lm s).length) = 6 * (2 * s + 1) + i by omega] at this
            exact this
        have cc : ∀ a, a ≤ 11 → M' a = M a := fun a h => mA a (by omega) (by omega)
        refine Or.inr ⟨2, M', R', c, nm, em, up lm s (lm s ++ wrd t W 2), u, nE, en, by omega, by omega, ?_, ?_, ⟨⟨⟨?_, ?_, ?_, ?_, ?_, fun x hx => ?_, fun x hx => ?_⟩, ⟨bC.1, ?_, fun x hx => ?_⟩, ?_⟩, ⟨⟨?_, fun x hx => ?_, fun x hx => ?_⟩, ⟨bR.1, ?_, fun x hx => ?_⟩, ?_⟩, hE6, ⟨n1, fun x hx => ?_, fun x hx i hi => ?_⟩, ⟨v1, fun e he => ?_, fun e he i hi => ?_⟩, ⟨fun x hx hx2 => ?_, fun x hx hx2 => ?_⟩, zE⟩, ?_, ?_, ?_⟩
        · show bd (F_X2_addMarks 15 (nI s) 2 M) _ = _
          rw [show F_X2_addMarks 15 (nI s) 2 M = _ from f1]; rfl
        · exact r0
        · unfold CC
          rw [cc 5 (by omega), cc 7 (by omega), cc 8 (by omega), cc 9 (by omega), cc 10 (by omega), cc 11 (by omega)]
          exact hC
        · unfold MR; rw [mA 31 (by omega) (by omega)]; exact bS.2.1
        · unfold MR; rw [mA 12 (by omega) (by omega)]; exact bS.2.2.1
        · unfold MR; rw [mA 15 (by omega) (by omega)]; exact bS.2.2.2.1
        · unfold MR; rw [mA 26 (by omega) (by omega)]; exact bS.2.2.2.2.1
        · exact (bS.2.2.2.2.2.1 x hx).eqc (mA _ (by omega) (by omega)) (mA _ (by omega) (by omega))
        · by_cases z : x = s
          · rw [z, up_hit]; exact f2
          · rw [up_ne _ _ z]; exact f3 x _ z (bS.2.2.2.2.2.2 x hx)
        · rw [mA 18 (by omega) (by omega)]; exact bC.2.1
        · obtain ⟨a1, a2, a3, a4, a5, a6, a7⟩ := bC.2.2 x hx
          rw [mA 20 (by omega) (by omega), mA 21 (by omega) (by omega), mA 22 (by omega) (by omega), mA 23 (by omega) (by omega), mA 24 (by omega) (by omega), mA 25 (by omega) (by omega)]
          exact ⟨a1, a2, a3, a4, a5, a6, a7.eqc (mA _ (by omega) (by omega)) (mA _ (by omega) (by omega))⟩
        · rw [mA 18 (by omega) (by omega)]; exact bE
        · unfold CD
          rw [r5 0 (by decide) (by decide), r5 6 (by decide) (by decide), r5 7 (by decide) (by decide), r5 9 (by decide) (by decide), r5 10 (by decide) (by decide)]
          exact hD
        · exact kR _ _ (by omega) (bD.2.1 x hx)
        · by_cases z : x = s
          · rw [z, up_hit]; exact kS
          · rw [up_ne _ _ z]; exact kR _ _ (by omega) (bD.2.2 x hx)
        · rw [r5 0 (by decide) (by decide)]; exact bR.2.1
        · rw [r5 13 (by decide) (by decide), r5 14 (by decide) (by decide), r5 15 (by decide) (by decide), r5 16 (by decide) (by decide), r5 17 (by decide) (by decide), r5 18 (by decide) (by decide), r5 12 (by decide) (by decide)]
          exact bR.2.2 x hx
        · rw [r5 0 (by decide) (by decide)]; exact bF
        · rw [mA 6 (by omega) (by omega)]; exact n2 x hx
        · rw [r5 4 (by decide) (by decide)]; exact n3 x hx i hi
        · rw [mA 19 (by omega) (by omega)]; exact v2 e he
        · rw [r5 11 (by decide) (by decide)]; exact v3 e he i hi
        · have zz := z1 x hx hx2
          rw [r2 _ (by omega), r2 _ (by omega), show M' 17 x = M 17 x from f4 x (by omega), mA 14 (by omega) (by omega)]
          exact zz
        · rw [mA 28 (by omega) (by omega)]; exact z2 x hx hx2
        · exact mA 1 (by omega) (by omega)
        · rw [r5 0 (by decide) (by decide)]
        · rw [r5 0 (by decide) (by decide)]
      · rw [mkP_n z6]
        exact Or.inl ⟨-2, Or.inr rfl, rfl, rfl⟩
  · rw [mkK_n q]
    exact Or.inl ⟨-1, Or.inl rfl, rfl, rfl⟩
