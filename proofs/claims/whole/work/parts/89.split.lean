/-! The words of a line: m characters from i on, a word perhaps begun at s. -/
def scn (t : Nat → Int32) : Nat → Nat → Option Nat → List (Nat × Nat)
  | 0, _, none => []
  | 0, i, some s => [(s, i)]
  | m + 1, i, none => if t i = 32 then scn t m (i + 1) none else scn t m (i + 1) (some i)
  | m + 1, i, some s => if t i = 32 then (s, i) :: scn t m (i + 1) none else scn t m (i + 1) (some s)
theorem scn_len {t : Nat → Int32} : ∀ (m i : Nat) (o : Option Nat), 2 * (scn t m i o).length ≤ m + 1 + (match o with | none => 0 | some _ => 1)
  | 0, i, none => by simp [scn]
  | 0, i, some s => by simp [scn]
  | m + 1, i, none => by
    simp only [scn]
    by_cases z : t i = 32
    · rw [if_pos z]; have := scn_len (t := t) m (i + 1) none; simp only [] at this ⊢; omega
    · rw [if_neg z]; have := scn_len (t := t) m (i + 1) (some i); simp only [] at this ⊢; omega
  | m + 1, i, some s => by
    simp only [scn]
    by_cases z : t i = 32
    · rw [if_pos z]; have := scn_len (t := t) m (i + 1) none; simp only [List.length_cons] at this ⊢; omega
    · rw [if_neg z]; have := scn_len (t := t) m (i + 1) (some s); simp only [] at this ⊢; omega
def PW (st en : Nat → Int32) (W : List (Nat × Nat)) : Prop := ∀ k s e, W[k]? = some (s, e) → st k = nI s ∧ en k = nI e
theorem PW.nil {st en : Nat → Int32} : PW st en [] := fun k s e h => by simp at h
theorem PW.snoc {st en st' en' : Nat → Int32} {W : List (Nat × Nat)} {s e : Nat} (h : PW st en W) (h1 : ∀ k, k < W.length → st' k = st k ∧ en' k = en k) (h2 : st' W.length = nI s) (h3 : en' W.length = nI e) : PW st' en' (W ++ [(s, e)]) := by
  intro k a b hk
  rcases Nat.lt_or_ge k W.length with q | q
  · rw [List.getElem?_append_left q] at hk
    rw [(h1 k q).1, (h1 k q).2]; exact h k a b hk
  · rw [List.getElem?_append_right q] at hk
    have hz : k - W.length < 1 := (List.getElem?_eq_some_iff.mp hk).1
    have e0 : k = W.length := by omega
    subst e0
    rw [Nat.sub_self] at hk
    cases hk
    exact ⟨h2, h3⟩
/-- the class's line: what is written, in characters that can be written -/
def LC (M : Mem) (len : Nat) (t : Nat → Int32) : Prop := len ≤ 50 ∧ M 1 3 = nI len ∧ ∀ i, i < len → M 2 i = t i
def opn (o : Option Nat) : Nat := match o with | none => 0 | some _ => 1
theorem h_split {len : Nat} {t : Nat → Int32} : ∀ (m i n : Nat) (o : Option Nat) (W : List (Nat × Nat)) (M : Mem), i + m = len → m < n → LC M len t → M 1 4 = nI (W.length + opn o) → 2 * (W.length + opn o) ≤ i + opn o → PW (M 3) (M 4) W → (∀ s, o = some s → M 3 W.length = nI s ∧ M 4 W.length = nI i) → ∃ M', H_X0_split_9 n (bI o.isSome) (nI i) M = some M' ∧ M' 1 3 = 0 ∧ M' 1 4 = nI (W ++ scn t m i o).length ∧ PW (M' 3) (M' 4) (W ++ scn t m i o) ∧ (W ++ scn t m i o).length ≤ 25 ∧ agr [1, 3, 4] M M' := by
  intro m
  induction m with
  | zero =>
    intro i n o W M hi hn hL h4 hb hp ho
    cases n with
    | zero => omega
    | succ n =>
      have h50 := hL.1
      have e : H_X0_split_9 (n + 1) (bI o.isSome) (nI i) M = some (set2 M 1 3 0) := by
        show B_X0_split_9 _ _ _ _ = _
        unfold B_X0_split_9 B_X0_split_118
        rw [hL.2.1, if_pos (nI_le (by omega) (by omega)), wr_eq]
      rw [e]
      refine ⟨_, rfl, s2_hit _ _ _ _, ?_, ?_, ?_, agr.set (by decide)⟩
      · rw [s2_pl _ _ _ (by decide), h4]
        cases o <;> simp [scn, opn]
      · rw [set2_ne _ _ _ (by decide), set2_ne _ _ _ (by decide)]
        cases o with
        | none => simp only [scn, List.append_nil]; exact hp
        | some s => exact hp.snoc (fun k _ => ⟨rfl, rfl⟩) (ho s rfl).1 (ho s rfl).2
      · cases o <;> simp only [scn, opn, List.length_append, List.length_nil, List.length_cons] at hb ⊢ <;> omega
  | succ m ih =>
    intro i n o W M hi hn hL h4 hb hp ho
    cases n with
    | zero => omega
    | succ n =>
      have h50 := hL.1
      have hlt : i < len := by omega
      have hb2 : W.length + opn o ≤ 25 := by cases o <;> simp only [opn] at hb ⊢ <;> omega
      have head : H_X0_split_9 (n + 1) (bI o.isSome) (nI i) M = B_X0_split_39 (H_X0_split_9 n) (bI o.isSome) (nI i) (bI (decide (t i = 32))) M := by
        show B_X0_split_9 _ _ _ _ = _
        unfold B_X0_split_9
        rw [hL.2.1, if_neg (nI_ge hlt (by omega)), if_neg (show ¬ (50 : Int32) ≤ nI i from nI_ge (b := 50) (by omega) (by omega)), gi_ok (show i < 50 by omega) (by decide), nI_clamp (by omega), hL.2.2 i hlt]
        by_cases z : t i = 32
        · rw [if_pos z]; simp [z]; rfl
        · rw [if_neg z]; simp [z]; rfl
      rw [head]
      have keepL : ∀ k j v, k ≠ 1 → k ≠ 2 → LC (set2 M k j v) len t := fun k j v a b => ⟨hL.1, by rw [s2_oth _ _ _ _ (by omega)]; exact hL.2.1, fun i hi => by rw [s2_oth _ _ _ _ (by omega)]; exact hL.2.2 i hi⟩
      by_cases z : t i = 32
      · -- a blank
        have e : B_X0_split_39 (H_X0_split_9 n) (bI o.isSome) (nI i) (bI (decide (t i = 32))) M = H_X0_split_9 n (bI (none : Option Nat).isSome) (nI (i + 1)) M := by
          unfold B_X0_split_39 B_X0_split_77 B_X0_split_102 B_X0_split_111
          rw [show bI (decide (t i = 32)) = 1 by simp [z, bI], if_neg (by decide), if_neg (by decide), if_neg (by decide), nm_eq, show nI i + 1 = nI (i + 1) from nI_1 i]
          rfl
        rw [e]
        cases o with
        | none =>
          simp only [scn]; rw [if_pos z]
          exact ih (i + 1) n none W M (by omega) (by omega) hL h4 (by simp only [opn] at hb ⊢; omega) hp (fun s q => by cases q)
        | some s =>
          simp only [scn]; rw [if_pos z]
          have := ih (i + 1) n none (W ++ [(s, i)]) M (by omega) (by omega) hL (by rw [h4, List.length_append]; rfl) (by simp only [opn] at hb ⊢; rw [List.length_append]; simp only [List.length_cons, List.length_nil]; omega) (hp.snoc (fun k _ => ⟨rfl, rfl⟩) (ho s rfl).1 (ho s rfl).2) (fun s q => by cases q)
          rw [List.append_assoc] at this
          exact this
      · have ebl : bI (decide (t i = 32)) = 0 := by simp [z, bI]
        cases o with
        | none =>
          simp only [scn]; rw [if_neg z]
          simp only [opn, Nat.add_zero] at h4 hb hb2
          obtain ⟨M1, e1⟩ : ∃ M1, M1 = set2 (set2 (set2 M 3 W.length (nI i)) 1 4 (nI (W.length + 1))) 4 W.length (nI (i + 1)) := ⟨_, rfl⟩
          have e : B_X0_split_39 (H_X0_split_9 n) (bI (none : Option Nat).isSome) (nI i) (bI (decide (t i = 32))) M = H_X0_split_9 n (bI (some i).isSome) (nI (i + 1)) M1 := by
            unfold B_X0_split_39 B_X0_split_77 B_X0_split_102 B_X0_split_111
            rw [ebl, if_pos rfl, if_pos rfl, h4, if_neg (show ¬ (25 : Int32) ≤ nI W.length from nI_ge (b := 25) (by omega) (by omega)), gi_ok (show W.length < 25 by omega) (by decide), nI_clamp (by omega), wr_eq, wr_eq, s2_oth _ _ _ _ (show ¬ 1 = 3 by decide), h4, show nI W.length + 1 = nI (W.length + 1) from nI_1 _, s2_hit, if_neg (nI_nle (by omega) (by omega)), show nI (W.length + 1) - 1 = nI W.length from nI_pred _, gi_ok (show W.length < 25 by omega) (by decide), nI_clamp (by omega), wr_eq, nm_eq, show nI i + 1 = nI (i + 1) from nI_1 i, ← e1]
            rfl
          rw [e]
          have hL1 : LC M1 len t := ⟨hL.1, by rw [e1, s2_oth _ _ _ _ (by decide), s2_pl _ _ _ (by decide), s2_oth _ _ _ _ (by decide)]; exact hL.2.1, fun i hi => by rw [e1, s2_oth _ _ _ _ (by decide), s2_oth _ _ _ _ (by decide), s2_oth _ _ _ _ (by decide)]; exact hL.2.2 i hi⟩
          have p3 : ∀ k, k ≠ W.length → M1 3 k = M 3 k ∧ M1 4 k = M 4 k := fun k hk => ⟨by rw [e1, s2_oth _ _ _ _ (by decide), s2_oth _ _ _ _ (by decide), s2_pl _ _ _ hk], by rw [e1, s2_pl _ _ _ hk, s2_oth _ _ _ _ (by decide), s2_oth _ _ _ _ (by decide)]⟩
          obtain ⟨M', f1, f2, f3, f4, f5, f6⟩ := ih (i + 1) n (some i) W M1 (by omega) (by omega) hL1 (by rw [e1, s2_oth _ _ _ _ (by decide), s2_hit]; rfl) (by simp only [opn]; omega) (fun k s e hk => by
            have hl := (List.getElem?_eq_some_iff.mp hk).1
            rw [(p3 k (by omega)).1, (p3 k (by omega)).2]; exact hp k s e hk) (fun s q => by
            cases q
            exact ⟨by rw [e1, s2_oth _ _ _ _ (by decide), s2_oth _ _ _ _ (by decide), s2_hit], by rw [e1, s2_hit]⟩)
          refine ⟨M', f1, f2, f3, f4, f5, agr.tr ?_ f6⟩
          rw [e1]; exact ((agr.set (by decide)).tr (agr.set (by decide))).tr (agr.set (by decide))
        | some s =>
          simp only [scn]; rw [if_neg z]
          simp only [opn] at h4 hb hb2
          obtain ⟨o1, o2⟩ := ho s rfl
          have e : B_X0_split_39 (H_X0_split_9 n) (bI (some s).isSome) (nI i) (bI (decide (t i = 32))) M = H_X0_split_9 n (bI (some s).isSome) (nI (i + 1)) (set2 M 4 W.length (nI (i + 1))) := by
            unfold B_X0_split_39 B_X0_split_77 B_X0_split_102 B_X0_split_111
            rw [ebl, if_pos rfl, if_neg (show ¬ bI (some s).isSome = 0 from (by decide : ¬ bI true = 0)), if_pos rfl, h4, if_neg (nI_nle (by omega) (by omega)), show nI (W.length + 1) - 1 = nI W.length from nI_pred _, gi_ok (show W.length < 25 by omega) (by decide), nI_clamp (by omega), wr_eq, if_pos rfl, nm_eq, show nI i + 1 = nI (i + 1) from nI_1 i]
            rfl
          rw [e]
          obtain ⟨M', f1, f2, f3, f4, f5, f6⟩ := ih (i + 1) n (some s) W (set2 M 4 W.length (nI (i + 1))) (by omega) (by omega) (keepL 4 _ _ (by decide) (by decide)) (by rw [s2_oth _ _ _ _ (by decide)]; exact h4) (by simp only [opn]; omega) (fun k a b hk => by
            have hl := (List.getElem?_eq_some_iff.mp hk).1
            rw [set2_ne _ _ _ (by decide), s2_pl _ _ _ (by omega)]; exact hp k a b hk) (fun x q => by
            cases q
            exact ⟨by rw [s2_oth _ _ _ _ (by decide)]; exact o1, s2_hit _ _ _ _⟩)
          exact ⟨M', f1, f2, f3, f4, f5, agr.tr (agr.set (by decide)) f6⟩
theorem f_split {M : Mem} {len : Nat} {t : Nat → Int32} (hL : LC M len t) : ∃ M', F_X0_split M = some M' ∧ M' 1 3 = 0 ∧ M' 1 4 = nI (scn t len 0 none).length ∧ PW (M' 3) (M' 4) (scn t len 0 none) ∧ (scn t len 0 none).length ≤ 25 ∧ agr [1, 3, 4] M M' := by
  have h50 := hL.1
  have hL1 : LC (set2 M 1 4 0) len t := ⟨hL.1, by rw [s2_pl _ _ _ (by decide)]; exact hL.2.1, fun i hi => by rw [s2_oth _ _ _ _ (by decide)]; exact hL.2.2 i hi⟩
  obtain ⟨M', f1, f2, f3, f4, f5, f6⟩ := h_split len 0 100 none [] (set2 M 1 4 0) (by omega) (by omega) hL1 (s2_hit _ _ _ _) (by simp [opn]) PW.nil (fun s q => by cases q)
  exact ⟨M', f1, f2, f3, f4, f5, agr.tr (agr.set (by decide)) f6⟩
/-- the reference's line -/
def LR (R : Mem) (len : Nat) (t : Nat → Int32) : Prop := len ≤ 50 ∧ R 0 2 = nI len ∧ ∀ i, i < len → R 1 i = t i
theorem LR.set {R : Mem} {len k j : Nat} {t : Nat → Int32} {v : Int32} (h : LR R len t) (hk : k ≠ 1) (hj : k = 0 → j ≠ 2) : LR (set2 R k j v) len t := by
  refine ⟨h.1, ?_, fun i hi => by rw [s2_oth _ _ _ _ (by omega)]; exact h.2.2 i hi⟩
  by_cases z : k = 0
  · subst z; rw [s2_pl _ _ _ (by have := hj rfl; omega)]; exact h.2.1
  · rw [s2_oth _ _ _ _ (by omega)]; exact h.2.1
theorem q_skip {R : Mem} {len : Nat} {t : Nat → Int32} (hL : LR R len t) : ∀ (m k n : Nat), k + m = len → m < n → ∃ k', k ≤ k' ∧ k' ≤ len ∧ (k' = len ∨ ¬ t k' = 32) ∧ scn t m k none = scn t (len - k') k' none ∧ ∀ kh7 : Int32 → Mem → Option Mem, H_X8_split_15 kh7 n (nI k) R = B_X8_split_40 kh7 (nI k') R := by
  have h50 := hL.1
  intro m
  induction m with
  | zero =>
    intro k n hk hn
    cases n with
    | zero => omega
    | succ n =>
      refine ⟨k, Nat.le_refl _, by omega, Or.inl (by omega), by rw [show len - k = 0 by omega], fun kh7 => ?_⟩
      show B_X8_split_15 _ _ _ _ = _
      unfold B_X8_split_15
      rw [hL.2.1, if_pos (nI_le (by omega) (by omega))]
  | succ m ih =>
    intro k n hk hn
    cases n with
    | zero => omega
    | succ n =>
      have hlt : k < len := by omega
      have head : ∀ kh7 : Int32 → Mem → Option Mem, H_X8_split_15 kh7 (n + 1) (nI k) R = if t k = 32 then H_X8_split_15 kh7 n (nI (k + 1)) R else B_X8_split_40 kh7 (nI k) R := by
        intro kh7
        show B_X8_split_15 _ _ _ _ = _
        unfold B_X8_split_15
        rw [hL.2.1, if_neg (nI_ge hlt (by omega)), gi_ok (show k < 50 by omega) (by decide), nI_clamp (by omega), hL.2.2 k hlt, nm_eq, show nI k + 1 = nI (k + 1) from nI_1 k]
      by_cases z : t k = 32
      · obtain ⟨k', a, b, d, e, f⟩ := ih (k + 1) n (by omega) (by omega)
        refine ⟨k', by omega, b, d, ?_, fun kh7 => by rw [head, if_pos z]; exact f kh7⟩
        simp only [scn]; rw [if_pos z]; exact e
      · exact ⟨k, Nat.le_refl _, by omega, Or.inr z, by rw [show len - k = m + 1 by omega], fun kh7 => by rw [head, if_neg z]⟩
theorem q_word {R : Mem} {len : Nat} {t : Nat → Int32} (hL : LR R len t) {s : Nat} : ∀ (m k n : Nat), k + m = len → m < n → ∃ k', k ≤ k' ∧ k' ≤ len ∧ scn t m k (some s) = (s, k') :: scn t (len - k') k' none ∧ (¬ (k < len ∧ t k = 32) → k < len → k < k') ∧ ∀ kh7 : Int32 → Mem → Option Mem, H_X8_split_58 kh7 n (nI k) R = B_X8_split_83 kh7 (nI k') R := by
  have h50 := hL.1
  intro m
  induction m with
  | zero =>
    intro k n hk hn
    cases n with
    | zero => omega
    | succ n =>
      refine ⟨k, Nat.le_refl _, by omega, by rw [show len - k = 0 by omega]; rfl, fun _ h => by omega, fun kh7 => ?_⟩
      show B_X8_split_58 _ _ _ _ = _
      unfold B_X8_split_58
      rw [hL.2.1, if_pos (nI_le (by omega) (by omega))]
  | succ m ih =>
    intro k n hk hn
    cases n with
    | zero => omega
    | succ n =>
      have hlt : k < len := by omega
      have head : ∀ kh7 : Int32 → Mem → Option Mem, H_X8_split_58 kh7 (n + 1) (nI k) R = if t k = 32 then B_X8_split_83 kh7 (nI k) R else H_X8_split_58 kh7 n (nI (k + 1)) R := by
        intro kh7
        show B_X8_split_58 _ _ _ _ = _
        unfold B_X8_split_58
        rw [hL.2.1, if_neg (nI_ge hlt (by omega)), gi_ok (show k < 50 by omega) (by decide), nI_clamp (by omega), hL.2.2 k hlt, nm_eq, show nI k + 1 = nI (k + 1) from nI_1 k]
      by_cases z : t k = 32
      · refine ⟨k, Nat.le_refl _, by omega, ?_, fun q _ => absurd ⟨hlt, z⟩ q, fun kh7 => by rw [head, if_pos z]⟩
        rw [show len - k = m + 1 by omega]
        simp only [scn]; rw [if_pos z, if_pos z]
      · obtain ⟨k', a, b, d, e, f⟩ := ih (k + 1) n (by omega) (by omega)
        refine ⟨k', by omega, b, ?_, fun _ _ => by omega, fun kh7 => by rw [head, if_neg z]; exact f kh7⟩
        simp only [scn]; rw [if_neg z]; exact d
theorem q_split {len : Nat} {t : Nat → Int32} : ∀ (m k n : Nat) (W : List (Nat × Nat)) (R : Mem), len - k ≤ m → k ≤ len → m + 1 < n → LR R len t → R 0 3 = nI W.length → (W ++ scn t (len - k) k none).length ≤ 25 → PW (R 2) (R 3) W → ∃ R', H_X8_split_7 n (nI k) R = some R' ∧ R' 0 3 = nI (W ++ scn t (len - k) k none).length ∧ PW (R' 2) (R' 3) (W ++ scn t (len - k) k none) ∧ (∀ a, a ≠ 0 → a ≠ 2 → a ≠ 3 → R' a = R a) ∧ ∀ j, j ≠ 3 → R' 0 j = R 0 j := by
  intro m
  induction m with
  | zero =>
    intro k n W R hm hk hn hL h3 hb hp
    have h50 := hL.1
    cases n with
    | zero => omega
    | succ n =>
      have e : len - k = 0 := by omega
      rw [e]
      simp only [scn, List.append_nil]
      refine ⟨R, ?_, h3, hp, fun _ _ _ _ => rfl, fun _ _ => rfl⟩
      show B_X8_split_7 _ _ _ = _
      unfold B_X8_split_7
      rw [hL.2.1, if_pos (nI_le (by omega) (by omega))]
  | succ m ih =>
    intro k n W R hm hk hn hL h3 hb hp
    have h50 := hL.1
    cases n with
    | zero => omega
    | succ n =>
      by_cases q : k < len
      · obtain ⟨k1, a1, a2, a3, a4, a5⟩ := q_skip hL (len - k) k 100 (by omega) (by omega)
        have head : H_X8_split_7 (n + 1) (nI k) R = B_X8_split_40 (H_X8_split_7 n) (nI k1) R := by
          show B_X8_split_7 _ _ _ = _
          unfold B_X8_split_7
          rw [hL.2.1, if_neg (nI_ge q (by omega))]
          exact a5 _
        rw [head, a4]
        by_cases q1 : k1 = len
        · cases n with
          | zero => omega
          | succ n =>
            rw [show len - k1 = 0 by omega]
            simp only [scn, List.append_nil]
            refine ⟨R, ?_, h3, hp, fun _ _ _ _ => rfl, fun _ _ => rfl⟩
            unfold B_X8_split_40
            rw [hL.2.1, if_pos (nI_le (by omega) (by omega))]
            show B_X8_split_7 _ _ _ = _
            unfold B_X8_split_7
            rw [hL.2.1, if_pos (nI_le (by omega) (by omega))]
        · have hnb : ¬ t k1 = 32 := a3.resolve_left q1
          have hk1 : k1 < len := by omega
          have hwl : W.length < 26 := by rw [List.length_append] at hb; omega
          have hL1 : LR (set2 R 2 W.length (nI k1)) len t := hL.set (by decide) (fun z => by cases z)
          obtain ⟨k2, b1, b2, b3, b4, b5⟩ := q_word hL1 (s := k1) (len - k1) k1 100 (by omega) (by omega)
          have hk2 : k1 < k2 := b4 (fun z => hnb z.2) hk1
          obtain ⟨R2, e2⟩ : ∃ R2, R2 = set2 (set2 (set2 R 2 W.length (nI k1)) 3 W.length (nI k2)) 0 3 (nI (W.length + 1)) := ⟨_, rfl⟩
          have e3 : B_X8_split_40 (H_X8_split_7 n) (nI k1) R = H_X8_split_7 n (nI k2) R2 := by
            unfold B_X8_split_40
            rw [hL.2.1, if_neg (nI_ge hk1 (by omega)), h3, gi_ok hwl (by decide), nI_clamp (by omega), wr_eq, b5]
            unfold B_X8_split_83
            rw [s2_oth _ _ _ _ (show ¬ 0 = 2 by decide), h3, gi_ok hwl (by decide), nI_clamp (by omega), wr_eq, wr_eq, s2_oth _ _ _ _ (show ¬ 0 = 3 by decide), s2_oth _ _ _ _ (show ¬ 0 = 2 by decide), h3, show nI W.length + 1 = nI (W.length + 1) from nI_1 _, ← e2]
          have hsc : scn t (len - k1) k1 none = (k1, k2) :: scn t (len - k2) k2 none := by
            rw [← b3]
            obtain ⟨x, ex⟩ : ∃ x, len - k1 = x + 1 := ⟨len - k1 - 1, by omega⟩
            rw [ex]
            simp only [scn]; rw [if_neg hnb, if_neg hnb]
          have hL2 : LR R2 len t := by rw [e2]; exact (hL1.set (by decide) (fun z => by cases z)).set (by decide) (fun _ => by decide)
          have hp2 : PW (R2 2) (R2 3) (W ++ [(k1, k2)]) := hp.snoc (fun x hx => ⟨by rw [e2, s2_oth _ _ _ _ (by decide), s2_oth _ _ _ _ (by decide), s2_pl _ _ _ (by omega)], by rw [e2, s2_oth _ _ _ _ (by decide), s2_pl _ _ _ (by omega), s2_oth _ _ _ _ (by decide)]⟩) (by rw [e2, s2_oth _ _ _ _ (by decide), s2_oth _ _ _ _ (by decide), s2_hit]) (by rw [e2, s2_oth _ _ _ _ (by decide), s2_hit])
          have hb2 : (W ++ [(k1, k2)] ++ scn t (len - k2) k2 none).length ≤ 25 := by
            rw [List.append_assoc]
            rw [a4, hsc] at hb
            exact hb
          obtain ⟨R', f1, f2, f3, f4, f5⟩ := ih k2 n (W ++ [(k1, k2)]) R2 (by omega) b2 (by omega) hL2 (by rw [e2, s2_hit, List.length_append]; rfl) hb2 hp2
          rw [e3, hsc]
          rw [List.append_assoc] at f2 f3
          refine ⟨R', f1, f2, f3, fun a x y z => by rw [f4 a x y z, e2, set2_ne _ _ _ x, set2_ne _ _ _ z, set2_ne _ _ _ y], fun j hj => by rw [f5 j hj, e2, s2_pl _ _ _ hj, s2_oth _ _ _ _ (by decide), s2_oth _ _ _ _ (by decide)]⟩
      · cases n with
        | zero => omega
        | succ n =>
          rw [show len - k = 0 by omega]
          simp only [scn, List.append_nil]
          refine ⟨R, ?_, h3, hp, fun _ _ _ _ => rfl, fun _ _ => rfl⟩
          show B_X8_split_7 _ _ _ = _
          unfold B_X8_split_7
          rw [hL.2.1, if_pos (nI_le (by omega) (by omega))]
theorem g_split {R : Mem} {len : Nat} {t : Nat → Int32} (hL : LR R len t) : ∃ R', F_X8_split R = some R' ∧ R' 0 3 = nI (scn t len 0 none).length ∧ PW (R' 2) (R' 3) (scn t len 0 none) ∧ (∀ a, a ≠ 0 → a ≠ 2 → a ≠ 3 → R' a = R a) ∧ ∀ j, j ≠ 3 → R' 0 j = R 0 j := by
  have h50 := hL.1
  have hs := scn_len (t := t) len 0 none
  simp only [Nat.add_zero] at hs
  obtain ⟨R', f1, f2, f3, f4, f5⟩ := q_split len 0 100 [] (set2 R 0 3 0) (by omega) (Nat.zero_le _) (by omega) (hL.set (by decide) (fun _ => by decide)) (s2_hit _ _ _ _) (by simp only [List.nil_append, Nat.sub_zero]; omega) PW.nil
  simp only [List.nil_append, Nat.sub_zero] at f2 f3
  exact ⟨R', f1, f2, f3, fun a x y z => by rw [f4 a x y z, set2_ne _ _ _ x], fun j hj => by rw [f5 j hj, s2_pl _ _ _ hj]⟩
