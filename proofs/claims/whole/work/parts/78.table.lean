/-! Configurations and the table; the class's pieces. -/
def stF (M M' : Mem) : Prop := ∀ a, a ≤ 31 → a ≠ 30 → M' a = M a
theorem stF.rf {M : Mem} : stF M M := fun _ _ _ => rfl
theorem stF.tr {M M1 M2 : Mem} (h : stF M M1) (g : stF M1 M2) : stF M M2 := fun a x y => (g a x y).trans (h a x y)
theorem stF.of {L : List Nat} {M M' : Mem} (h : agr L M M') (hL : ∀ a, a ∈ L → 29 < a ∧ a ≠ 31) : stF M M' := fun a x y => h a (fun z => by have := hL a z; omega)
theorem CC.st {M M' : Mem} {c : Ch} (h : CC M c) (e : stF M M') : CC M' c := by
  obtain ⟨h1, h2, h3, h4, h5, h6, h7, h8⟩ := h
  refine ⟨h1, ?_, ?_, ?_, ?_, ?_, ?_, ?_⟩
  · rw [e 5 (by omega) (by omega)]; exact h2
  · rw [e 7 (by omega) (by omega)]; exact h3
  · rw [e 7 (by omega) (by omega)]; exact h4
  · rw [e 8 (by omega) (by omega)]; exact h5
  · rw [e 10 (by omega) (by omega)]; exact h6
  · rw [e 11 (by omega) (by omega)]; exact h7
  · rw [e 9 (by omega) (by omega)]; exact h8
theorem SC.st {M M' : Mem} {c : Ch} {em lm : Nat → List Int32} (h : SC M c em lm) (e : stF M M') : SC M' c em lm := by
  obtain ⟨h1, h2, h3, h4, h5, h6, h7⟩ := h
  exact ⟨h1.st e, h2.keep (e _ (by omega) (by omega)), h3.keep (e _ (by omega) (by omega)), h4.keep (e _ (by omega) (by omega)), h5.keep (e _ (by omega) (by omega)), fun s hs => (h6 s hs).keep (e _ (by omega) (by omega)) (e _ (by omega) (by omega)), fun s hs => (h7 s hs).keep (e _ (by omega) (by omega)) (e _ (by omega) (by omega))⟩
theorem RC.st {M M' : Mem} {c : Ch} {u : Ru} (h : RC M c u) (e : stF M M') : RC M' c u := by
  obtain ⟨h1, h2, h3⟩ := h
  refine ⟨h1, by rw [e 18 (by omega) (by omega)]; exact h2, fun r hr => ?_⟩
  rw [e 20 (by omega) (by omega), e 21 (by omega) (by omega), e 22 (by omega) (by omega), e 23 (by omega) (by omega), e 24 (by omega) (by omega), e 25 (by omega) (by omega)]
  obtain ⟨a, b, d, f, g, i, j⟩ := h3 r hr
  exact ⟨a, b, d, f, g, i, j.keep (e _ (by omega) (by omega)) (e _ (by omega) (by omega))⟩
/-- the rows of the traces but one stay -/
def rwF (row : Nat) (M M' : Mem) : Prop := (∀ r, r ≠ row → M' 33 r = M 33 r) ∧ ∀ q, (q < row * 40 ∨ row * 40 + 40 ≤ q) → M' 32 q = M 32 q
theorem rwF.TR {row q : Nat} {M M' : Mem} {tr : List Int32} (h : rwF row M M') (hq : q ≠ row) (ht : TR M q tr) : TR M' q tr := by
  refine ⟨by rw [h.1 q hq]; exact ht.1, fun i a b => ?_⟩
  rw [h.2 _ (by rcases Nat.lt_or_gt_of_ne hq with z | z <;> omega)]
  exact ht.2 i a b
theorem TR.keep {M M' : Mem} {q : Nat} {tr : List Int32} (h : TR M q tr) (e1 : M' 32 = M 32) (e2 : M' 33 = M 33) : TR M' q tr := by unfold TR; rw [e1, e2]; exact h
/-- the configurations of the table -/
def TCs (M : Mem) (n : Nat) (cs : List (Nat → Int32)) : Prop := cs.length ≤ 30 ∧ M 30 6 = nI cs.length ∧ ∀ k a, cs[k]? = some a → ∀ i, i < n → M 36 (k * 14 + i) = a i
theorem f_isConf {M : Mem} {n : Nat} {cs : List (Nat → Int32)} (h : TCs M n cs) {k : Nat} (hk : k < cs.length) : F_X5_isConfiguration (nI k) M = some 1 := by
  have := h.1
  unfold F_X5_isConfiguration
  rw [if_neg (nI_lt0 (by omega)), h.2.1, if_neg (nI_ge hk (by omega))]
theorem f_isState_out {M : Mem} {c : Ch} (h : CC M c) {s : Nat} (hs : cN c ≤ s) (h2 : s < 2 ^ 31) : F_X4_isState (nI s) M = some 0 := by
  unfold F_X4_isState
  rw [if_neg (nI_lt0 h2), h.2.1, if_pos (nI_le hs h2)]
theorem f_curChild {M : Mem} {c : Ch} {cs : List (Nat → Int32)} (h : CC M c) (hT : TCs M (cN c) cs) {k i : Nat} {a : Nat → Int32} (hk : cs[k]? = some a) (ha : nowOK c a) (hi : i < 14) : F_X5_currentChild (nI k) (nI i) M = some (a i) := by
  have hl := (List.getElem?_eq_some_iff.mp hk).1
  have h30 := hT.1
  unfold F_X5_currentChild
  rw [f_isConf hT hl, bd_some, if_neg (by decide)]
  by_cases q : i < cN c
  · rw [f_isState h q, bd_some, if_neg (by decide), show (14 : Int32) = nI 14 from rfl, pk_mul, nI_add, gi_ok (show k * 14 + i < 420 by omega) (by decide), nI_clamp (by omega), hT.2.2 k a hk i q]
  · rw [f_isState_out h (by omega) (by omega), bd_some, if_pos rfl, (ha i).2 (by omega)]
theorem h_setWalk {c : Ch} {cs : List (Nat → Int32)} {k : Nat} {a : Nat → Int32} (hk : cs[k]? = some a) (ha : nowOK c a) : ∀ (m j n : Nat) (M : Mem), j + m = 14 → m < n → CC M c → TCs M (cN c) cs → ∃ M', H_X5_setWalk_2 n (nI k) (nI j) M = some M' ∧ agr [35] M M' ∧ (∀ i, i < j → M' 35 i = M 35 i) ∧ ∀ i, j ≤ i → i < 14 → M' 35 i = a i := by
  intro m
  induction m with
  | zero =>
    intro j n M hj hn h hT
    cases n with
    | zero => omega
    | succ n =>
      refine ⟨M, ?_, agr.rf, fun i _ => rfl, fun i h1 h2 => by omega⟩
      show B_X5_setWalk_2 _ _ _ _ = _
      unfold B_X5_setWalk_2
      rw [if_pos (show (14 : Int32) ≤ nI j from nI_le (a := 14) (by omega) (by omega))]
  | succ m ih =>
    intro j n M hj hn h hT
    cases n with
    | zero => omega
    | succ n =>
      have e : stF M (set2 M 35 j (a j)) := stF.of (L := [35]) (agr.set (by decide)) (fun a ha => by simp only [List.mem_cons, List.not_mem_nil, or_false] at ha; omega)
      obtain ⟨M', f1, f2, f3, f4⟩ := ih (j + 1) n (set2 M 35 j (a j)) (by omega) (by omega) (h.st e) ⟨hT.1, by rw [s2_oth _ _ _ _ (by decide)]; exact hT.2.1, fun k a hk i hi => by rw [s2_oth _ _ _ _ (by decide)]; exact hT.2.2 k a hk i hi⟩
      refine ⟨M', ?_, (agr.set (by decide)).tr f2, fun i hi => ?_, fun i h1 h2 => ?_⟩
      · show B_X5_setWalk_2 _ _ _ _ = _
        unfold B_X5_setWalk_2
        rw [if_neg (show ¬ (14 : Int32) ≤ nI j from nI_ge (b := 14) (by omega) (by omega)), f_curChild h hT hk ha (by omega), bd_some, f_makeCurrent (by omega), bd_some, nm_eq, show nI j + 1 = nI (j + 1) from nI_1 j]
        exact f1
      · rw [f3 i (by omega), s2_pl _ _ _ (by omega)]
      · rcases Nat.eq_or_lt_of_le h1 with z | z
        · subst z
          rw [f3 j (by omega), s2_hit]
        · exact f4 i z h2
theorem f_setWalk {M : Mem} {c : Ch} {cs : List (Nat → Int32)} {k : Nat} {a : Nat → Int32} (h : CC M c) (hT : TCs M (cN c) cs) (hk : cs[k]? = some a) (ha : nowOK c a) : ∃ M', F_X5_setWalk (nI k) M = some M' ∧ agr [35] M M' ∧ ∀ i, i < 14 → M' 35 i = a i := by
  obtain ⟨M', f1, f2, -, f4⟩ := h_setWalk hk ha 14 0 100 M (by omega) (by omega) h hT
  exact ⟨M', f1, f2, fun i hi => f4 i (by omega) hi⟩
theorem h_isWalk {M : Mem} {c : Ch} {cs : List (Nat → Int32)} {k : Nat} {a now : Nat → Int32} (h : CC M c) (hT : TCs M (cN c) cs) (hk : cs[k]? = some a) (ha : nowOK c a) (hw : ∀ i, i < 14 → M 35 i = now i) : ∀ (m j n : Nat), j + m = 14 → m < n → ((∀ i, j ≤ i → i < 14 → a i = now i) → H_X5_isWalk_2 M n (nI k) (nI j) = some 1) ∧ (¬ (∀ i, j ≤ i → i < 14 → a i = now i) → H_X5_isWalk_2 M n (nI k) (nI j) = some 0) := by
  intro m
  induction m with
  | zero =>
    intro j n hj hn
    cases n with
    | zero => omega
    | succ n =>
      refine ⟨fun _ => ?_, fun q => absurd (fun i a b => by omega) q⟩
      show B_X5_isWalk_2 _ _ _ _ = _
      unfold B_X5_isWalk_2
      rw [if_pos (show (14 : Int32) ≤ nI j from nI_le (a := 14) (by omega) (by omega))]
  | succ m ih =>
    intro j n hj hn
    cases n with
    | zero => omega
    | succ n =>
      obtain ⟨i1, i2⟩ := ih (j + 1) n (by omega) (by omega)
      have head : H_X5_isWalk_2 M (n + 1) (nI k) (nI j) = if a j = now j then H_X5_isWalk_2 M n (nI k) (nI (j + 1)) else some 0 := by
        show B_X5_isWalk_2 _ _ _ _ = _
        unfold B_X5_isWalk_2
        rw [if_neg (show ¬ (14 : Int32) ≤ nI j from nI_ge (b := 14) (by omega) (by omega)), f_curChild h hT hk ha (by omega), bd_some, f_currentChild (by omega), bd_some, hw j (by omega), nm_eq, show nI j + 1 = nI (j + 1) from nI_1 j]
      rw [head]
      refine ⟨fun q => ?_, fun q => ?_⟩
      · rw [if_pos (q j (Nat.le_refl _) (by omega))]
        exact i1 (fun i x y => q i (by omega) y)
      · by_cases z : a j = now j
        · rw [if_pos z]
          refine i2 (fun w => q (fun i x y => ?_))
          rcases Nat.eq_or_lt_of_le x with e | e
          · subst e; exact z
          · exact w i e y
        · rw [if_neg z]
/-- the first configuration that is now -/
def fnd (n : Nat) (now : Nat → Int32) : List (Nat → Int32) → Nat → Option Nat
  | [], _ => none
  | a :: l, k => if (∀ i, i < n → a i = now i) then some k else fnd n now l (k + 1)
def numA (n : Nat) (cs : List (Nat → Int32)) (now : Nat → Int32) : Option (Nat × List (Nat → Int32)) := match fnd n now cs 0 with
  | some k => some (k, cs)
  | none => if cs.length < 30 then some (cs.length, cs ++ [now]) else none
theorem same_14 {c : Ch} {a b : Nat → Int32} (hc : wf c) (ha : nowOK c a) (hb : nowOK c b) : (∀ i, i < cN c → a i = b i) ↔ ∀ i, 0 ≤ i → i < 14 → a i = b i := by
  have h14 := hc.n14
  constructor
  · intro q i _ hi
    rcases Nat.lt_or_ge i (cN c) with z | z
    · exact q i z
    · rw [(ha i).2 z, (hb i).2 z]
  · intro q i hi
    exact q i (by omega) (by omega)
theorem h_store {sz : Nat} (hsz : sz < 30) : ∀ (m j n : Nat) (M : Mem), j + m = 14 → m < n → M 30 6 = nI sz → ∃ M', H_X5_numberOfWalk_39 n (nI j) M = some (nI sz, M') ∧ agr [30, 36] M M' ∧ M' 30 6 = nI (sz + 1) ∧ (∀ x, x ≠ 6 → M' 30 x = M 30 x) ∧ (∀ i, j ≤ i → i < 14 → M' 36 (sz * 14 + i) = M 35 i) ∧ ∀ q, (q < sz * 14 + j ∨ sz * 14 + 14 ≤ q) → M' 36 q = M 36 q := by
  intro m
  induction m with
  | zero =>
    intro j n M hj hn h6
    cases n with
    | zero => omega
    | succ n =>
      refine ⟨set2 M 30 6 (nI (sz + 1)), ?_, agr.set (by decide), s2_hit _ _ _ _, fun x hx => s2_pl _ _ _ hx, fun i h1 h2 => by omega, fun q _ => s2_oth _ _ _ _ (by decide)⟩
      show B_X5_numberOfWalk_39 _ _ _ = _
      unfold B_X5_numberOfWalk_39
      rw [if_pos (show (14 : Int32) ≤ nI j from nI_le (a := 14) (by omega) (by omega)), h6, show nI sz + 1 = nI (sz + 1) from nI_1 sz, wr_eq, s2_hit, show nI (sz + 1) - 1 = nI sz from nI_pred sz]
  | succ m ih =>
    intro j n M hj hn h6
    cases n with
    | zero => omega
    | succ n =>
      obtain ⟨M', f1, f2, f3, f4, f5, f6⟩ := ih (j + 1) n (set2 M 36 (sz * 14 + j) (M 35 j)) (by omega) (by omega) (by rw [s2_oth _ _ _ _ (by decide)]; exact h6)
      refine ⟨M', ?_, (agr.set (by decide)).tr f2, f3, fun x hx => ?_, fun i h1 h2 => ?_, fun q hq => ?_⟩
      · show B_X5_numberOfWalk_39 _ _ _ = _
        unfold B_X5_numberOfWalk_39
        rw [if_neg (show ¬ (14 : Int32) ≤ nI j from nI_ge (b := 14) (by omega) (by omega)), f_currentChild (by omega), bd_some, h6, show (14 : Int32) = nI 14 from rfl, pk_mul, nI_add, gi_ok (show sz * 14 + j < 420 by omega) (by decide), nI_clamp (by omega), wr_eq, nm_eq, show nI j + 1 = nI (j + 1) from nI_1 j]
        exact f1
      · rw [f4 x hx, s2_oth _ _ _ _ (by decide)]
      · rcases Nat.eq_or_lt_of_le h1 with e | e
        · subst e
          rw [f6 _ (Or.inl (by omega)), s2_hit]
        · rw [f5 i e h2, s2_oth _ _ _ _ (by decide)]
      · rw [f6 q (by omega), s2_pl _ _ _ (by omega)]
/-- the number of the walk's configuration -/
theorem h_number {M : Mem} {c : Ch} {cs : List (Nat → Int32)} {now : Nat → Int32} (h : CC M c) (hT : TCs M (cN c) cs) (hcs : ∀ a, a ∈ cs → nowOK c a) (hn : nowOK c now) (hw : ∀ i, i < 14 → M 35 i = now i) : ∀ (m k n : Nat), k + m = cs.length → m < n → (∀ x, fnd (cN c) now (cs.drop k) k = some x → H_X5_numberOfWalk_2 n (nI k) M = some (nI x, M)) ∧ (fnd (cN c) now (cs.drop k) k = none → H_X5_numberOfWalk_2 n (nI k) M = if cs.length < 30 then H_X5_numberOfWalk_39 100 (nI 0) M else some (-1, M)) := by
  have h30 := hT.1
  intro m
  induction m with
  | zero =>
    intro k n hk hn2
    cases n with
    | zero => omega
    | succ n =>
      have e : cs.drop k = [] := List.drop_eq_nil_of_le (by omega)
      rw [e]
      refine ⟨fun x q => (by cases q), fun _ => ?_⟩
      show B_X5_numberOfWalk_2 _ _ _ = _
      unfold B_X5_numberOfWalk_2
      rw [hT.2.1, if_pos (nI_le (by omega) (by omega))]
      by_cases z : cs.length < 30
      · rw [if_pos z, if_pos (show nI cs.length < 30 from nI_lt (b := 30) z (by omega))]
        rfl
      · rw [if_neg z, if_neg (show ¬ nI cs.length < 30 from nI_nlt (b := 30) (by omega) (by omega))]
  | succ m ih =>
    intro k n hk hn2
    cases n with
    | zero => omega
    | succ n =>
      have hl : k < cs.length := by omega
      obtain ⟨a, ea⟩ : ∃ a, cs[k]? = some a := ⟨_, List.getElem?_eq_getElem hl⟩
      have hd : cs.drop k = a :: cs.drop (k + 1) := by
        rw [List.drop_eq_getElem_cons hl]
        congr 1
        exact Option.some.inj ((List.getElem?_eq_getElem hl).symm.trans ea)
      have ha : nowOK c a := hcs a (List.mem_of_getElem? ea)
      obtain ⟨i1, i2⟩ := ih (k + 1) n (by omega) (by omega)
      obtain ⟨w1, w2⟩ := h_isWalk h hT ea ha hw 14 0 100 (by omega) (by omega)
      have head : H_X5_numberOfWalk_2 (n + 1) (nI k) M = bd (F_X5_isWalk (nI k) M) fun r_2 => (if r_2 = (0 : Int32) then H_X5_numberOfWalk_2 n (nI (k + 1)) M else some (nI k, M)) := by
        show B_X5_numberOfWalk_2 _ _ _ = _
        unfold B_X5_numberOfWalk_2
        rw [hT.2.1, if_neg (nI_ge hl (by omega)), nm_eq, show nI k + 1 = nI (k + 1) from nI_1 k]
      rw [head, hd]
      simp only [fnd]
      unfold F_X5_isWalk
      by_cases z : ∀ i, i < cN c → a i = now i
      · rw [if_pos z, show (0 : Int32) = nI 0 from rfl, w1 ((same_14 h.1 ha hn).mp z), bd_some, if_neg (by decide)]
        refine ⟨fun x q => by cases q; rfl, fun q => by cases q⟩
      · rw [if_neg z, show (0 : Int32) = nI 0 from rfl, w2 (fun y => z ((same_14 h.1 ha hn).mpr y)), bd_some, if_pos (show (0 : Int32) = nI 0 from rfl)]
        exact ⟨i1, i2⟩
theorem fnd_lt {n : Nat} {now : Nat → Int32} : ∀ (l : List (Nat → Int32)) (k x : Nat), fnd n now l k = some x → k ≤ x ∧ x < k + l.length
  | [], k, x, h => by cases h
  | a :: l, k, x, h => by
    simp only [fnd] at h
    by_cases q : ∀ i, i < n → a i = now i
    · rw [if_pos q] at h
      cases h
      exact ⟨Nat.le_refl _, by simp⟩
    · rw [if_neg q] at h
      have := fnd_lt l (k + 1) x h
      simp only [List.length_cons]
      omega
theorem f_number {M : Mem} {c : Ch} {cs : List (Nat → Int32)} {now : Nat → Int32} (h : CC M c) (hT : TCs M (cN c) cs) (hcs : ∀ a, a ∈ cs → nowOK c a) (hn : nowOK c now) (hw : ∀ i, i < 14 → M 35 i = now i) : (∀ k cs', numA (cN c) cs now = some (k, cs') → ∃ M', F_X5_numberOfWalk M = some (nI k, M') ∧ TCs M' (cN c) cs' ∧ (∀ a, a ∈ cs' → nowOK c a) ∧ k < cs'.length ∧ cs.length ≤ cs'.length ∧ agr [30, 36] M M' ∧ ∀ x, x ≠ 6 → M' 30 x = M 30 x) ∧ (numA (cN c) cs now = none → F_X5_numberOfWalk M = some (-1, M)) := by
  have h30 := hT.1
  have h14 := h.1.n14
  obtain ⟨a1, a2⟩ := h_number h hT hcs hn hw cs.length 0 100 (by omega) (by omega)
  rw [List.drop_zero] at a1 a2
  unfold F_X5_numberOfWalk numA
  cases e : fnd (cN c) now cs 0 with
  | some x =>
    refine ⟨fun k cs' q => ?_, fun q => by cases q⟩
    cases q
    have := fnd_lt _ _ _ e
    exact ⟨M, a1 x e, hT, hcs, by omega, Nat.le_refl _, agr.rf, fun _ _ => rfl⟩
  | none =>
    have b := a2 e
    by_cases z : cs.length < 30
    · rw [if_pos z] at b
      refine ⟨fun k cs' q => ?_, fun q => by dsimp only at q; rw [if_pos z] at q; cases q⟩
      dsimp only at q
      rw [if_pos z] at q
      cases q
      obtain ⟨M', f1, f2, f3, f4, f5, f6⟩ := h_store z 14 0 100 M (by omega) (by omega) hT.2.1
      refine ⟨M', b.trans f1, ⟨by rw [List.length_append]; simp; omega, by rw [f3, List.length_append]; simp, fun k a hk i hi => ?_⟩, fun a ha => ?_, by rw [List.length_append]; simp, by rw [List.length_append]; simp, f2, f4⟩
      · rcases Nat.lt_or_ge k cs.length with y | y
        · rw [List.getElem?_append_left y] at hk
          rw [f6 _ (Or.inl (by omega))]
          exact hT.2.2 k a hk i hi
        · rw [List.getElem?_append_right y] at hk
          have hz : k - cs.length < 1 := (List.getElem?_eq_some_iff.mp hk).1
          have hk0 : k = cs.length := by omega
          subst hk0
          rw [Nat.sub_self] at hk
          cases hk
          rw [f5 i (by omega) (by omega)]
          exact hw i (by omega)
      · rcases List.mem_append.mp ha with y | y
        · exact hcs a y
        · rw [List.mem_singleton.mp y]; exact hn
    · rw [if_neg z] at b
      exact ⟨fun k cs' q => (by dsimp only at q; rw [if_neg z] at q; cases q), fun _ => b⟩
