/-! Rows of marks, and the trace that is noted. -/
def MR (M : Mem) (o rows w : Nat) : Prop := M o 0 = nI rows ∧ M o 1 = nI w
/-- the marks of s in the rows at o -/
def MKs (M : Mem) (o w s : Nat) (ms : List Int32) : Prop := ms.length ≤ w ∧ M (o + 2) s = nI ms.length ∧ (∀ i, i < ms.length → M (o + 1) (s * w + i) = ms.getD i 0) ∧ ∀ i, i < ms.length → vp_nar .char (ms.getD i 0) = ms.getD i 0
/-- a row of the traces: at most 40 of what was noted -/
def TR (M : Mem) (row : Nat) (tr : List Int32) : Prop := M 33 row = nI (min 40 tr.length) ∧ ∀ i, i < 40 → i < tr.length → M 32 (row * 40 + i) = tr.getD i 0
/-- only the traces' row changes -/
def sT (row : Nat) (M M' : Mem) : Prop := agr [32, 33] M M' ∧ (∀ r, r ≠ row → M' 33 r = M 33 r) ∧ ∀ q, (q < row * 40 ∨ row * 40 + 40 ≤ q) → M' 32 q = M 32 q
theorem sT.rf {row : Nat} {M : Mem} : sT row M M := ⟨agr.rf, fun _ _ => rfl, fun _ _ => rfl⟩
theorem sT.tr {row : Nat} {M M1 M2 : Mem} (h : sT row M M1) (g : sT row M1 M2) : sT row M M2 := ⟨h.1.tr g.1, fun r hr => (g.2.1 r hr).trans (h.2.1 r hr), fun q hq => (g.2.2 q hq).trans (h.2.2 q hq)⟩
theorem dl_33 : dl_C (31 + 2) = 181 := rfl
theorem dl_32 : dl_C (31 + 1) = 7240 := rfl
theorem h_addRow {o2 s row w2 rows2 a cp : Nat} (hd1 : dl_C (o2 + 1) = rows2 * w2) (ho : o2 + 2 < 31) (hr2 : rows2 ≤ 20) (hw2 : w2 ≤ 6) (hrow : row < 181) (hs : s < rows2) (hcw : cp ≤ w2) (hac : a + cp ≤ 40) : ∀ (k i n : Nat) (M : Mem), cp = i + k → k < n → M o2 1 = nI w2 → M 33 row = nI a → (∀ j, j < cp → vp_nar .char (M (o2 + 1) (s * w2 + j)) = M (o2 + 1) (s * w2 + j)) → ∃ M', H_X1_addRow_61 31 o2 n (nI row) (nI s) (nI cp) (nI (row * 40 + a)) (nI i) M = some M' ∧ M' 33 row = nI (a + cp) ∧ (∀ j, i ≤ j → j < cp → M' 32 (row * 40 + a + j) = M (o2 + 1) (s * w2 + j)) ∧ (∀ q, (q < row * 40 + a + i ∨ row * 40 + a + cp ≤ q) → M' 32 q = M 32 q) ∧ (∀ r, r ≠ row → M' 33 r = M 33 r) ∧ agr [32, 33] M M' := by
  intro k
  have hsw : s * w2 + w2 ≤ rows2 * w2 := by
    have := Nat.mul_le_mul_right w2 (show s + 1 ≤ rows2 from hs)
    rw [Nat.add_mul] at this
    omega
  have hrw : rows2 * w2 ≤ 120 := by
    have := Nat.mul_le_mul hr2 hw2
    omega
  induction k with
  | zero =>
    intro i n M hc hn hw ha hch
    cases n with
    | zero => omega
    | succ n =>
      refine ⟨set2 M 33 row (nI (a + cp)), ?_, s2_hit _ _ _ _, fun j h1 h2 => by omega, fun q _ => s2_oth _ _ _ _ (by decide), fun r hr => s2_pl _ _ _ hr, agr.set (by decide)⟩
      show B_X1_addRow_61 _ _ _ _ _ _ _ _ _ = _
      unfold B_X1_addRow_61
      rw [if_pos (nI_le (by omega) (by omega)), dl_33, gi_ok hrow (by decide), gi_ok hrow (by decide), nI_clamp (by omega), wr_eq]
      show some (set2 M 33 row (M 33 row + nI cp)) = _
      rw [ha, nI_add]
  | succ k ih =>
    intro i n M hc hn hw ha hch
    cases n with
    | zero => omega
    | succ n =>
      have hlt : i < cp := by omega
      have e1 : ¬ (32 = o2) := by omega
      have e2 : ¬ (o2 = 32) := by omega
      have e3 : ¬ (o2 + 1 = 32) := by omega
      obtain ⟨M', f1, f2, f3, f4, f5, f6⟩ := ih (i + 1) n (set2 M 32 (row * 40 + a + i) (M (o2 + 1) (s * w2 + i))) (by omega) (by omega) (by rw [s2_oth _ _ _ _ e2]; exact hw) (by rw [s2_oth _ _ _ _ (by decide)]; exact ha) (fun j hj => by rw [s2_oth _ _ _ _ e3]; exact hch j hj)
      refine ⟨M', ?_, f2, fun j h1 h2 => ?_, fun q hq => ?_, fun r hr => ?_, fun x hx => ?_⟩
      · show B_X1_addRow_61 _ _ _ _ _ _ _ _ _ = _
        unfold B_X1_addRow_61
        rw [if_neg (nI_ge hlt (by omega)), hd1, hw, pk_mul, nI_add, gi_ok (show s * w2 + i < rows2 * w2 by omega) (by omega), dl_32, nI_add, gi_ok (show row * 40 + a + i < 7240 by omega) (by decide), nI_clamp (by omega), nI_clamp (by omega), wr_eq, nm_eq, hch i hlt, show nI i + 1 = nI (i + 1) from nI_1 i]
        exact f1
      · rcases Nat.eq_or_lt_of_le h1 with e | e
        · subst e
          rw [f4 _ (Or.inl (by omega)), s2_hit]
        · rw [f3 j e h2, s2_oth _ _ _ _ e3]
      · rw [f4 q (by omega), s2_pl _ _ _ (by omega)]
      · rw [f5 r hr, s2_oth _ _ _ _ (by decide)]
      · rw [f6 x hx, set2_ne _ _ _ (fun e => hx (by rw [e]; decide))]
theorem f_isRow {M : Mem} {o rows w r : Nat} (h : MR M o rows w) (hr : r < rows) (h2 : rows < 2 ^ 31) : F_X1_isRow o (nI r) M = some 1 := by
  unfold F_X1_isRow
  rw [if_neg (nI_lt0 (by omega)), h.1, if_neg (nI_ge hr h2)]
theorem getD_app_l {l m : List Int32} {i : Nat} (h : i < l.length) : (l ++ m).getD i 0 = l.getD i 0 := by
  simp [List.getD_eq_getElem?_getD, List.getElem?_append_left h]
theorem getD_app_r {l m : List Int32} {i : Nat} (h : l.length ≤ i) : (l ++ m).getD i 0 = m.getD (i - l.length) 0 := by
  simp [List.getD_eq_getElem?_getD, List.getElem?_append_right h]
theorem f_addRow {M : Mem} {row s o2 rows2 w2 : Nat} {tr ms : List Int32} (h31 : MR M 31 181 40) (h2 : MR M o2 rows2 w2) (hd1 : dl_C (o2 + 1) = rows2 * w2) (hd2 : dl_C (o2 + 2) = rows2) (ho : o2 + 2 < 31) (hr2 : rows2 ≤ 20) (hw2 : w2 ≤ 6) (hrow : row < 181) (hs : s < rows2) (hT : TR M row tr) (hm : MKs M o2 w2 s ms) : ∃ M', F_X1_addRow 31 o2 (nI row) (nI s) M = some M' ∧ TR M' row (tr ++ ms) ∧ sT row M M' := by
  obtain ⟨m1, m2, m3, m4⟩ := hm
  obtain ⟨t1, t2⟩ := hT
  obtain ⟨a, ea⟩ : ∃ a, a = min 40 tr.length := ⟨_, rfl⟩
  obtain ⟨cp, ec⟩ : ∃ cp, cp = min ms.length (40 - a) := ⟨_, rfl⟩
  rw [← ea] at t1
  have ha : a ≤ 40 := by omega
  have hcw : cp ≤ w2 := by omega
  obtain ⟨M', f1, f2, f3, f4, f5, f6⟩ := h_addRow (o2 := o2) (s := s) (row := row) (w2 := w2) (rows2 := rows2) (a := a) (cp := cp) hd1 ho hr2 hw2 hrow hs hcw (by omega) cp 0 100 M (by omega) (by omega) h2.2 t1 (fun j hj => by rw [m3 j (by omega)]; exact m4 j (by omega))
  refine ⟨M', ?_, ⟨?_, fun i h40 hi => ?_⟩, f6, f5, fun q hq => f4 q (by omega)⟩
  · unfold F_X1_addRow
    rw [f_isRow h31 hrow (by decide), bd_some, if_neg (by decide), f_isRow h2 hs (by omega), bd_some, if_neg (by decide), hd2, gi_ok hs (by omega), dl_33, gi_ok hrow (by decide), nm_eq, nI_clamp (by omega), nI_clamp (by omega), m2, h31.2]
    show gi 181 (nI row) (nm (nI row * nI 40 + M 33 row) fun x5_10 => H_X1_addRow_61 31 o2 100 (nI row) (nI s) (if nI 40 - M 33 row < nI ms.length then nI 40 - M 33 row else nI ms.length) x5_10 (nI 0) M) = some M'
    rw [gi_ok hrow (by decide), nm_eq, t1, pk_sub ha, pk_mul, nI_add]
    have e : (if nI (40 - a) < nI ms.length then nI (40 - a) else nI ms.length) = nI cp := by
      by_cases q : 40 - a < ms.length
      · rw [if_pos (nI_lt q (by omega)), show cp = 40 - a by omega]
      · rw [if_neg (nI_nlt (by omega) (by omega)), show cp = ms.length by omega]
    rw [e]
    exact f1
  · rw [f2, List.length_append]
    congr 1
    omega
  · rw [List.length_append] at hi
    by_cases q : i < tr.length
    · rw [f4 _ (Or.inl (by omega)), t2 i h40 q, getD_app_l q]
    · have ea2 : a = tr.length := by omega
      have h3 := f3 (i - a) (by omega) (by omega)
      rw [show row * 40 + a + (i - a) = row * 40 + i by omega, m3 _ (by omega)] at h3
      rw [h3, getD_app_r (by omega), ea2]
