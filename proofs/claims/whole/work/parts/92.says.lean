/-! What a word says, names and where they are found, in the class and in the reference. -/
def nz (w : List Int32) : Prop := ∀ i, i < w.length → ¬ w.getD i 0 = 0
theorem wrd_nz {t : Nat → Int32} {W : List (Nat × Nat)} {len k : Nat} (hw : wOK t W len) : nz (wrd t W k) := fun _ hi => (wrd_ch hw hi).ne0
theorem isL_nz {w : List Int32} {k : Nat} (h : isL w k = true) : nz w := fun i hi => by
  have h3 := (isL_spec h).2.2 (w.getD i 0) (by
    rw [List.getD_eq_getElem?_getD, List.getElem?_eq_getElem hi]; exact List.getElem_mem hi)
  obtain ⟨d, d1, d2, e, -⟩ := isLt_dg h3
  rw [e]
  exact nI_ne0 (by omega) (by omega)
theorem eq_getD {a b : List Int32} (hl : a.length = b.length) (h : ∀ i, i < a.length → a.getD i 0 = b.getD i 0) : a = b := by
  refine List.ext_getElem hl fun i h1 h2 => ?_
  have := h i h1
  rw [List.getD_eq_getElem?_getD, List.getD_eq_getElem?_getD, List.getElem?_eq_getElem h1, List.getElem?_eq_getElem h2] at this
  exact this
theorem eq_pad {a b : List Int32} {N : Nat} (ha : nz a) (hb : nz b) (hbN : b.length ≤ N) (haN : a.length ≤ N ∨ b.length < N) (h : ∀ i, i < N → a.getD i 0 = b.getD i 0) : a = b := by
  have h1 : b.length ≤ a.length := by
    rcases Nat.lt_or_ge a.length b.length with q | q
    · have e := h a.length (by omega)
      rw [getD_out (Nat.le_refl _)] at e
      exact absurd e.symm (hb _ q)
    · exact q
  have h2 : a.length ≤ b.length := by
    rcases Nat.lt_or_ge b.length a.length with q | q
    · rcases Nat.lt_or_ge b.length N with z | z
      · have e := h b.length z
        rw [getD_out (l := b) (Nat.le_refl _)] at e
        exact absurd e (ha _ q)
      · rcases haN with r | r <;> omega
    · exact q
  exact eq_getD (by omega) (fun i hi => h i (by omega))
theorem h_says {M : Mem} {t : Nat → Int32} {W : List (Nat × Nat)} {len : Nat} (h : PC M t W len) {k si : Nat} (hk : k < 2 ^ 31) (hl : (wrd t W k).length = (bytS.getD si []).length) : ∀ (j i n : Nat), i + j = (wrd t W k).length → j < n → H_X0_says_16 si M n (nI k) (nI i) = some (bI (decide ((wrd t W k).drop i = (bytS.getD si []).drop i))) := by
  have h50 := wrd_50 h.1 (k := k)
  intro j
  induction j with
  | zero =>
    intro i n hi hn
    cases n with
    | zero => omega
    | succ n =>
      show B_X0_says_16 _ _ _ _ _ = _
      unfold B_X0_says_16
      rw [if_pos (nI_le (by omega) (by omega)), List.drop_eq_nil_of_le (by omega), List.drop_eq_nil_of_le (by omega)]
      rfl
  | succ j ih =>
    intro i n hi hn
    cases n with
    | zero => omega
    | succ n =>
      have hlt : i < (wrd t W k).length := by omega
      have hlt2 : i < (bytS.getD si []).length := by omega
      show B_X0_says_16 _ _ _ _ _ = _
      unfold B_X0_says_16
      rw [if_neg (nI_ge hlt2 (by omega)), f_letterAt h hk (by omega), bd_some, if_pos hlt, gi_ok hlt2 (by omega), nI_clamp (by omega), drop_getD' hlt, drop_getD' hlt2]
      by_cases z : (wrd t W k).getD i 0 = (bytS.getD si []).getD i 0
      · rw [if_pos z, nm_eq, show nI i + 1 = nI (i + 1) from nI_1 i, ih (i + 1) n (by omega) (by omega), z]
        simp
      · rw [if_neg z]
        have : ¬ ((wrd t W k).getD i 0 :: (wrd t W k).drop (i + 1) = (bytS.getD si []).getD i 0 :: (bytS.getD si []).drop (i + 1)) := fun q => z (List.cons.inj q).1
        rw [decide_eq_false this]
        rfl
theorem f_says {M : Mem} {t : Nat → Int32} {W : List (Nat × Nat)} {len : Nat} (h : PC M t W len) {k : Nat} (si : Nat) (hk : k < 2 ^ 31) (hs : (bytS.getD si []).length < 50) : F_X0_says si (nI k) M = some (bI (decide (wrd t W k = bytS.getD si []))) := by
  have h50 := wrd_50 h.1 (k := k)
  unfold F_X0_says
  rw [f_sizeOf h hk, bd_some]
  by_cases z : (wrd t W k).length = (bytS.getD si []).length
  · rw [if_pos (by rw [z]), show (0 : Int32) = nI 0 from rfl, h_says h hk z (wrd t W k).length 0 100 (by omega) (by omega), List.drop_zero, List.drop_zero]
  · rw [if_neg (fun q => z (nI_inj (by omega) (by omega) q)), decide_eq_false (fun q => z (by rw [q]))]
    rfl
/-- the reference: six letters, padded -/
abbrev sy (w : List Int32) (a b c d e f : Int32) : Prop := w.getD 0 0 = a ∧ w.getD 1 0 = b ∧ w.getD 2 0 = c ∧ w.getD 3 0 = d ∧ w.getD 4 0 = e ∧ w.getD 5 0 = f ∧ w.length ≤ 8
theorem g_says {R : Mem} {t : Nat → Int32} {W : List (Nat × Nat)} {len : Nat} (h : PR R t W len) {k : Nat} (hk : k < W.length) (a b c d e f : Int32) : F_X8_says (nI k) a b c d e f R = some (bI (decide (sy (wrd t W k) a b c d e f))) := by
  obtain ⟨hl0, hl⟩ := wrd_pos h.1 hk
  have gl : ∀ i : Nat, i ≤ 100 → F_X8_letter (nI k) (nI i) R = some ((wrd t W k).getD i 0) := fun i hi => g_letter h hk hi
  unfold F_X8_says
  rw [show F_X8_letter (nI k) 0 R = _ from gl 0 (by omega), bd_some]
  by_cases z0 : (wrd t W k).getD 0 0 = a
  · rw [if_pos z0, show F_X8_letter (nI k) 1 R = _ from gl 1 (by omega), bd_some]
    by_cases z1 : (wrd t W k).getD 1 0 = b
    · rw [if_pos z1, show F_X8_letter (nI k) 2 R = _ from gl 2 (by omega), bd_some]
      by_cases z2 : (wrd t W k).getD 2 0 = c
      · rw [if_pos z2, show F_X8_letter (nI k) 3 R = _ from gl 3 (by omega), bd_some]
        by_cases z3 : (wrd t W k).getD 3 0 = d
        · rw [if_pos z3, show F_X8_letter (nI k) 4 R = _ from gl 4 (by omega), bd_some]
          by_cases z4 : (wrd t W k).getD 4 0 = e
          · rw [if_pos z4, show F_X8_letter (nI k) 5 R = _ from gl 5 (by omega), bd_some]
            by_cases z5 : (wrd t W k).getD 5 0 = f
            · rw [if_pos z5, g_length h hk, bd_some]
              by_cases z6 : (wrd t W k).length ≤ 8
              · rw [if_neg (show ¬ (8 : Int32) < _ from nI_nlt (a := 8) z6 (by omega)), decide_eq_true (show sy _ _ _ _ _ _ _ from ⟨z0, z1, z2, z3, z4, z5, z6⟩)]
                rfl
              · rw [if_pos (show (8 : Int32) < _ from nI_lt (a := 8) (by omega) (by omega)), decide_eq_false (fun q => z6 q.2.2.2.2.2.2)]
                rfl
            · rw [if_neg z5, decide_eq_false (fun q => z5 q.2.2.2.2.2.1)]; rfl
          · rw [if_neg z4, decide_eq_false (fun q => z4 q.2.2.2.2.1)]; rfl
        · rw [if_neg z3, decide_eq_false (fun q => z3 q.2.2.2.1)]; rfl
      · rw [if_neg z2, decide_eq_false (fun q => z2 q.2.2.1)]; rfl
    · rw [if_neg z1, decide_eq_false (fun q => z1 q.2.1)]; rfl
  · rw [if_neg z0, decide_eq_false (fun q => z0 q.1)]; rfl
theorem sy_all {w tx : List Int32} (h : sy w (tx.getD 0 0) (tx.getD 1 0) (tx.getD 2 0) (tx.getD 3 0) (tx.getD 4 0) (tx.getD 5 0)) : ∀ i, i < 6 → w.getD i 0 = tx.getD i 0 := by
  obtain ⟨z0, z1, z2, z3, z4, z5, z6⟩ := h
  intro i hi
  match i with
  | 0 => exact z0
  | 1 => exact z1
  | 2 => exact z2
  | 3 => exact z3
  | 4 => exact z4
  | 5 => exact z5
  | i + 6 => omega
theorem sy_self {w tx : List Int32} (h : w = tx) (hl : tx.length ≤ 8) : sy w (tx.getD 0 0) (tx.getD 1 0) (tx.getD 2 0) (tx.getD 3 0) (tx.getD 4 0) (tx.getD 5 0) := by
  subst h; exact ⟨rfl, rfl, rfl, rfl, rfl, rfl, hl⟩
/-- a text of at most five letters -/
theorem sy_5 {w tx : List Int32} (hw : nz w) (ht : nz tx) (hl : tx.length ≤ 5) : sy w (tx.getD 0 0) (tx.getD 1 0) (tx.getD 2 0) (tx.getD 3 0) (tx.getD 4 0) (tx.getD 5 0) ↔ w = tx :=
  ⟨fun h => eq_pad (N := 6) hw ht (by omega) (Or.inr (by omega)) (sy_all h), fun h => sy_self h (by omega)⟩
theorem sy_6 {w tx : List Int32} (hw : nz w) (ht : nz tx) (hl : tx.length = 6) : (sy w (tx.getD 0 0) (tx.getD 1 0) (tx.getD 2 0) (tx.getD 3 0) (tx.getD 4 0) (tx.getD 5 0) ∧ w.length = 6) ↔ w = tx :=
  ⟨fun h => eq_pad (N := 6) hw ht (by omega) (Or.inl (by omega)) (sy_all h.1), fun h => ⟨sy_self h (by omega), by rw [h]; exact hl⟩⟩
theorem sy_8 {w tx : List Int32} (hw : nz w) (ht : nz tx) (hl : tx.length = 8) : (sy w (tx.getD 0 0) (tx.getD 1 0) (tx.getD 2 0) (tx.getD 3 0) (tx.getD 4 0) (tx.getD 5 0) ∧ w.length = 8 ∧ w.getD 6 0 = tx.getD 6 0 ∧ w.getD 7 0 = tx.getD 7 0) ↔ w = tx := by
  refine ⟨fun h => eq_pad (N := 8) hw ht (by omega) (Or.inl (by omega)) (fun i hi => ?_), fun h => ⟨sy_self h (by omega), by rw [h]; exact hl, by rw [h], by rw [h]⟩⟩
  by_cases q : i < 6
  · exact sy_all h.1 i q
  · by_cases r : i = 6
    · rw [r]; exact h.2.2.1
    · rw [show i = 7 by omega]; exact h.2.2.2
/-- the first of the names that is w -/
def fnA (nm : Nat → List Int32) (w : List Int32) : Nat → Nat → Option Nat
  | 0, _ => none
  | m + 1, k => if nm k = w then some k else fnA nm w m (k + 1)
theorem fnA_some {nm : Nat → List Int32} {w : List Int32} : ∀ (m k s : Nat), fnA nm w m k = some s → k ≤ s ∧ s < k + m ∧ nm s = w
  | 0, _, _, h => by simp [fnA] at h
  | m + 1, k, s, h => by
    simp only [fnA] at h
    by_cases q : nm k = w
    · rw [if_pos q] at h
      cases h
      exact ⟨Nat.le_refl _, by omega, q⟩
    · rw [if_neg q] at h
      have := fnA_some m (k + 1) s h
      exact ⟨by omega, by omega, this.2.2⟩
theorem fnA_none {nm : Nat → List Int32} {w : List Int32} : ∀ (m k : Nat), (∀ s, k ≤ s → s < k + m → ¬ nm s = w) → fnA nm w m k = none
  | 0, _, _ => rfl
  | m + 1, k, h => by
    simp only [fnA]
    rw [if_neg (h k (Nat.le_refl _) (by omega))]
    exact fnA_none m (k + 1) (fun s h1 h2 => h s (by omega) (by omega))
theorem fnA_ext {nm nm' : Nat → List Int32} {w : List Int32} : ∀ (m k : Nat), (∀ s, k ≤ s → s < k + m → nm' s = nm s) → fnA nm' w m k = fnA nm w m k
  | 0, _, _ => rfl
  | m + 1, k, h => by
    simp only [fnA]
    rw [h k (Nat.le_refl _) (by omega), fnA_ext m (k + 1) (fun s h1 h2 => h s (by omega) (by omega))]
/-- equal in the four padded letters -/
def pe (a b : List Int32) : Nat → Nat → Bool
  | 0, _ => true
  | j + 1, i => decide (a.getD i 0 = b.getD i 0) && pe a b j (i + 1)
theorem pe_all {a b : List Int32} : ∀ (j i : Nat), pe a b j i = true → ∀ x, i ≤ x → x < i + j → a.getD x 0 = b.getD x 0
  | 0, _, _, x, h1, h2 => by omega
  | j + 1, i, h, x, h1, h2 => by
    simp only [pe, Bool.and_eq_true, decide_eq_true_eq] at h
    rcases Nat.eq_or_lt_of_le h1 with q | q
    · rw [← q]; exact h.1
    · exact pe_all j (i + 1) h.2 x q (by omega)
theorem pe_self {a : List Int32} : ∀ (j i : Nat), pe a a j i = true
  | 0, _ => rfl
  | j + 1, i => by simp only [pe]; rw [pe_self j (i + 1)]; simp
theorem pe_4 {a b : List Int32} (ha : nz a) (hb : nz b) (la : a.length ≤ 4) (lb : b.length ≤ 4) : pe a b 4 0 = decide (a = b) := by
  by_cases q : a = b
  · rw [decide_eq_true q, q]; exact pe_self 4 0
  · rw [decide_eq_false q]
    cases h : pe a b 4 0 with
    | false => rfl
    | true => exact absurd (eq_pad (N := 4) ha hb lb (Or.inl la) (fun i hi => pe_all 4 0 h i (by omega) (by omega))) q
def nOK (n : Nat) (nm : Nat → List Int32) : Prop := ∀ s, s < n → isL (nm s) 4 = true
