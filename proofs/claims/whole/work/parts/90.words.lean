/-! The words, in the class and in the reference. -/
def chOK (v : Int32) : Prop := ∃ a : Nat, 32 ≤ a ∧ a ≤ 126 ∧ v = nI a
theorem chOK.nar {v : Int32} (h : chOK v) : vp_nar .char v = v := by
  obtain ⟨a, h1, h2, e⟩ := h
  subst e
  have := (pk_charN (q := a) (by omega)).1
  unfold vp_nar
  rw [this]
theorem chOK.ne0 {v : Int32} (h : chOK v) : ¬ v = 0 := by
  obtain ⟨a, h1, h2, e⟩ := h
  subst e
  exact nI_ne0 (by omega) (by omega)
def wrd (t : Nat → Int32) (W : List (Nat × Nat)) (k : Nat) : List Int32 := match W[k]? with
  | some q => (List.range (q.2 - q.1)).map (fun i => t (q.1 + i))
  | none => []
def wOK (t : Nat → Int32) (W : List (Nat × Nat)) (len : Nat) : Prop := W.length ≤ 25 ∧ len ≤ 50 ∧ (∀ i, i < len → chOK (t i)) ∧ ∀ (k s e : Nat), W[k]? = some (s, e) → s < e ∧ e ≤ len
theorem scn_ok {t : Nat → Int32} : ∀ (m i : Nat) (o : Option Nat), (∀ s, o = some s → s < i) → ∀ s e, (s, e) ∈ scn t m i o → s < e ∧ e ≤ i + m
  | 0, i, none, _, s, e, h => by simp [scn] at h
  | 0, i, some x, ho, s, e, h => by
    simp only [scn, List.mem_singleton, Prod.mk.injEq] at h
    have := ho x rfl
    omega
  | m + 1, i, none, ho, s, e, h => by
    simp only [scn] at h
    by_cases z : t i = 32
    · rw [if_pos z] at h
      have := scn_ok m (i + 1) none (fun s q => by cases q) s e h
      omega
    · rw [if_neg z] at h
      have := scn_ok m (i + 1) (some i) (fun s q => by cases q; omega) s e h
      omega
  | m + 1, i, some x, ho, s, e, h => by
    have hx := ho x rfl
    simp only [scn] at h
    by_cases z : t i = 32
    · rw [if_pos z] at h
      rcases List.mem_cons.mp h with q | q
      · cases q; omega
      · have := scn_ok m (i + 1) none (fun s q => by cases q) s e q
        omega
    · rw [if_neg z] at h
      have := scn_ok m (i + 1) (some x) (fun s q => by cases q; omega) s e h
      omega
theorem scn_wOK {t : Nat → Int32} {len : Nat} (h50 : len ≤ 50) (ht : ∀ i, i < len → chOK (t i)) : wOK t (scn t len 0 none) len := by
  have hs := scn_len (t := t) len 0 none
  simp only [Nat.add_zero] at hs
  refine ⟨by omega, h50, ht, fun k s e hk => ?_⟩
  have := scn_ok len 0 none (fun s q => by cases q) s e (List.mem_of_getElem? hk)
  omega
theorem wrd_some {t : Nat → Int32} {W : List (Nat × Nat)} {k s e : Nat} (h : W[k]? = some (s, e)) : wrd t W k = (List.range (e - s)).map (fun i => t (s + i)) := by unfold wrd; rw [h]
theorem wrd_len {t : Nat → Int32} {W : List (Nat × Nat)} {k s e : Nat} (h : W[k]? = some (s, e)) : (wrd t W k).length = e - s := by rw [wrd_some h]; simp
theorem wrd_get {t : Nat → Int32} {W : List (Nat × Nat)} {k s e i : Nat} (h : W[k]? = some (s, e)) (hi : i < e - s) : (wrd t W k).getD i 0 = t (s + i) := by
  rw [wrd_some h]; simp [List.getD_eq_getElem?_getD, hi]
theorem getD_out {l : List Int32} {i : Nat} (h : l.length ≤ i) : l.getD i 0 = 0 := by simp [List.getD_eq_getElem?_getD, List.getElem?_eq_none h]
theorem wrd_none {t : Nat → Int32} {W : List (Nat × Nat)} {k : Nat} (h : W.length ≤ k) : wrd t W k = [] := by unfold wrd; rw [List.getElem?_eq_none h]
theorem wrd_ch {t : Nat → Int32} {W : List (Nat × Nat)} {len k i : Nat} (hw : wOK t W len) (hi : i < (wrd t W k).length) : chOK ((wrd t W k).getD i 0) := by
  cases h : W[k]? with
  | none => rw [show wrd t W k = [] by unfold wrd; rw [h]] at hi; simp at hi
  | some q =>
    obtain ⟨s, e⟩ := q
    rw [wrd_len h] at hi
    rw [wrd_get h hi]
    have := hw.2.2.2 k s e h
    exact hw.2.2.1 _ (by omega)
theorem wrd_pos {t : Nat → Int32} {W : List (Nat × Nat)} {len k : Nat} (hw : wOK t W len) (hk : k < W.length) : 0 < (wrd t W k).length ∧ (wrd t W k).length ≤ 50 := by
  obtain ⟨⟨s, e⟩, h⟩ : ∃ q, W[k]? = some q := ⟨_, List.getElem?_eq_getElem hk⟩
  have := hw.2.2.2 k s e h
  have := hw.2.1
  rw [wrd_len h]
  omega
theorem wrd_50 {t : Nat → Int32} {W : List (Nat × Nat)} {len k : Nat} (hw : wOK t W len) : (wrd t W k).length ≤ 50 := by
  rcases Nat.lt_or_ge k W.length with q | q
  · exact (wrd_pos hw q).2
  · rw [wrd_none q]; simp
/-- the class's line is split into W -/
def PC (M : Mem) (t : Nat → Int32) (W : List (Nat × Nat)) (len : Nat) : Prop := wOK t W len ∧ M 1 4 = nI W.length ∧ PW (M 3) (M 4) W ∧ ∀ i, i < len → M 2 i = t i
def PR (R : Mem) (t : Nat → Int32) (W : List (Nat × Nat)) (len : Nat) : Prop := wOK t W len ∧ R 0 3 = nI W.length ∧ PW (R 2) (R 3) W ∧ ∀ i, i < len → R 1 i = t i
theorem PC.keep {M M' : Mem} {t : Nat → Int32} {W : List (Nat × Nat)} {len : Nat} (h : PC M t W len) (e1 : M' 1 4 = M 1 4) (e2 : M' 2 = M 2) (e3 : M' 3 = M 3) (e4 : M' 4 = M 4) : PC M' t W len := by unfold PC; rw [e1, e2, e3, e4]; exact h
theorem PR.keep {R R' : Mem} {t : Nat → Int32} {W : List (Nat × Nat)} {len : Nat} (h : PR R t W len) (e0 : R' 0 3 = R 0 3) (e1 : R' 1 = R 1) (e2 : R' 2 = R 2) (e3 : R' 3 = R 3) : PR R' t W len := by unfold PR; rw [e0, e1, e2, e3]; exact h
theorem f_sizeOf {M : Mem} {t : Nat → Int32} {W : List (Nat × Nat)} {len : Nat} (h : PC M t W len) {k : Nat} (hk : k < 2 ^ 31) : F_X0_sizeOf (nI k) M = some (nI (wrd t W k).length) := by
  have h25 := h.1.1
  unfold F_X0_sizeOf
  rw [if_neg (nI_lt0 hk), h.2.1]
  rcases Nat.lt_or_ge k W.length with q | q
  · obtain ⟨⟨s, e⟩, hq⟩ : ∃ q, W[k]? = some q := ⟨_, List.getElem?_eq_getElem q⟩
    have hse := h.1.2.2.2 k s e hq
    obtain ⟨p1, p2⟩ := h.2.2.1 k s e hq
    rw [if_neg (nI_ge q (by omega)), gi_ok (show k < 25 by omega) (by decide), gi_ok (show k < 25 by omega) (by decide), nI_clamp hk, p1, p2, pk_sub (by omega), wrd_len hq]
  · rw [if_pos (nI_le q hk), wrd_none q]; rfl
theorem f_letterAt {M : Mem} {t : Nat → Int32} {W : List (Nat × Nat)} {len : Nat} (h : PC M t W len) {k i : Nat} (hk : k < 2 ^ 31) (hi : i < 2 ^ 31) : F_X0_letterAt (nI k) (nI i) M = some (if i < (wrd t W k).length then (wrd t W k).getD i 0 else 32) := by
  have h25 := h.1.1
  have h50 := h.1.2.1
  have hl := wrd_50 h.1 (k := k)
  unfold F_X0_letterAt
  rw [if_neg (nI_lt0 hi), f_sizeOf h hk, bd_some]
  by_cases z : i < (wrd t W k).length
  · have q : k < W.length := by
      rcases Nat.lt_or_ge k W.length with q | q
      · exact q
      · rw [wrd_none q] at z; simp at z
    obtain ⟨⟨s, e⟩, hq⟩ : ∃ q, W[k]? = some q := ⟨_, List.getElem?_eq_getElem q⟩
    have hse := h.1.2.2.2 k s e hq
    obtain ⟨p1, p2⟩ := h.2.2.1 k s e hq
    have z2 : i < e - s := by rw [wrd_len hq] at z; exact z
    rw [if_neg (nI_ge z (by omega)), if_pos z, gi_ok (show k < 25 by omega) (by decide), nI_clamp hk, p1, nI_add, gi_ok (show s + i < 50 by omega) (by decide), nI_clamp (by omega), h.2.2.2 (s + i) (by omega), wrd_get hq z2]
    unfold gc
    rw [if_pos (h.1.2.2.1 (s + i) (by omega)).nar]
  · rw [if_pos (nI_le (by omega) hi), if_neg z]
def isLt (v : Int32) : Bool := !decide (v < 97) && decide (v ≤ 122)
theorem isLt_lo {v : Int32} (h : v < 97) : isLt v = false := by unfold isLt; simp only [h, decide_true, Bool.not_true, Bool.false_and]
theorem isLt_hi {v : Int32} (h : ¬ v ≤ 122) : isLt v = false := by unfold isLt; simp only [h, decide_false, Bool.and_false]
theorem isLt_in {v : Int32} (h : ¬ v < 97) (h2 : v ≤ 122) : isLt v = true := by unfold isLt; simp only [h, h2, decide_false, decide_true, Bool.not_false, Bool.and_true]
def isL (w : List Int32) (most : Nat) : Bool := !w.isEmpty && decide (w.length ≤ most) && w.all isLt
theorem drop_getD' {w : List Int32} {i : Nat} (h : i < w.length) : w.drop i = w.getD i 0 :: w.drop (i + 1) := drop_getD h
theorem h_isLetters {M : Mem} {t : Nat → Int32} {W : List (Nat × Nat)} {len : Nat} (h : PC M t W len) {k : Nat} (hk : k < 2 ^ 31) : ∀ (j i n : Nat), i + j = (wrd t W k).length → j < n → H_X0_isLetters_20 M n (nI k) (nI (wrd t W k).length) (nI i) = some (bI (((wrd t W k).drop i).all isLt)) := by
  have hl := wrd_50 h.1 (k := k)
  intro j
  induction j with
  | zero =>
    intro i n hi hn
    cases n with
    | zero => omega
    | succ n =>
      show B_X0_isLetters_20 _ _ _ _ _ = _
      unfold B_X0_isLetters_20
      rw [if_pos (nI_le (by omega) (by omega)), List.drop_eq_nil_of_le (by omega)]
      rfl
  | succ j ih =>
    intro i n hi hn
    cases n with
    | zero => omega
    | succ n =>
      have hlt : i < (wrd t W k).length := by omega
      show B_X0_isLetters_20 _ _ _ _ _ = _
      unfold B_X0_isLetters_20
      rw [if_neg (nI_ge hlt (by omega)), f_letterAt h hk (by omega), bd_some, if_pos hlt, drop_getD' hlt, List.all_cons, nm_eq, show nI i + 1 = nI (i + 1) from nI_1 i, ih (i + 1) n (by omega) (by omega)]
      by_cases z1 : (wrd t W k).getD i 0 < 97
      · rw [if_pos z1, isLt_lo z1, Bool.false_and]; rfl
      · rw [if_neg z1]
        by_cases z2 : (wrd t W k).getD i 0 ≤ 122
        · rw [if_pos z2, isLt_in z1 z2, Bool.true_and]
        · rw [if_neg z2, isLt_hi z2, Bool.false_and]; rfl
theorem isEmpty_len {w : List Int32} : w.isEmpty = decide (w.length = 0) := by cases w <;> simp
theorem f_isLetters {M : Mem} {t : Nat → Int32} {W : List (Nat × Nat)} {len : Nat} (h : PC M t W len) {k most : Nat} (hk : k < 2 ^ 31) (hm : most < 2 ^ 31) : F_X0_isLetters (nI k) (nI most) M = some (bI (isL (wrd t W k) most)) := by
  have hl := wrd_50 h.1 (k := k)
  unfold F_X0_isLetters isL
  rw [f_sizeOf h hk, bd_some, isEmpty_len]
  by_cases z : (wrd t W k).length = 0
  · rw [z, if_pos (by decide)]; simp [bI]
  · rw [if_neg (nI_ne0 (by omega) (by omega))]
    by_cases z2 : (wrd t W k).length ≤ most
    · rw [if_pos (nI_le z2 hm), show (0 : Int32) = nI 0 from rfl, h_isLetters h hk (wrd t W k).length 0 100 (by omega) (by omega), List.drop_zero]
      simp [z, z2]
    · rw [if_neg (nI_ge (by omega) (by omega))]; simp [z2, bI]
/-- a name as a number -/
def dg (v : Int32) : Nat := v.toNatClampNeg - 96
def codeI (w : List Int32) : Int32 := w.foldl (fun a v => (((a * 27) + v) - 97) + 1) 0
def valR : List Int32 → Nat
  | [] => 0
  | v :: r => valR r * 27 + dg v
theorem isLt_dg {v : Int32} (h : isLt v = true) : ∃ d, 1 ≤ d ∧ d ≤ 26 ∧ v = nI (96 + d) ∧ dg v = d := by
  unfold isLt at h
  simp only [Bool.and_eq_true, Bool.not_eq_true', decide_eq_false_iff_not, decide_eq_true_eq] at h
  obtain ⟨h1, h2⟩ := h
  have h0 : ¬ v < 0 := fun q => h1 (by
    rw [Int32.lt_iff_toInt_lt] at q ⊢
    have e1 : (0 : Int32).toInt = 0 := by decide
    have e2 : (97 : Int32).toInt = 97 := by decide
    omega)
  obtain ⟨j, hj, e⟩ := nI_of h0
  subst e
  have a1 : 97 ≤ j := by
    rcases Nat.lt_or_ge j 97 with q | q
    · exact absurd (nI_lt (b := 97) q (by omega)) h1
    · exact q
  have a2 : j ≤ 122 := by
    rcases Nat.lt_or_ge 122 j with q | q
    · exact absurd h2 (nI_ge (a := 122) q hj)
    · exact q
  refine ⟨j - 96, by omega, by omega, by congr 1; omega, ?_⟩
  unfold dg
  rw [nI_clamp hj]
theorem code_snoc {a : Nat} {v : Int32} (h : isLt v = true) : (((nI a * 27) + v) - 97) + 1 = nI (a * 27 + dg v) := by
  obtain ⟨d, d1, d2, e, ed⟩ := isLt_dg h
  rw [ed, e, show (27 : Int32) = nI 27 from rfl, pk_mul, nI_add, show (97 : Int32) = nI 97 from rfl, pk_sub (by omega), show (1 : Int32) = nI 1 from rfl, nI_add]
  congr 1
  omega
theorem code_val : ∀ (w : List Int32) (a : Nat) (pre : List Int32), (∀ v, v ∈ w → isLt v = true) → a = valR pre → w.foldl (fun a v => (((a * 27) + v) - 97) + 1) (nI a) = nI (valR (w.reverse ++ pre))
  | [], a, pre, _, e => by rw [e]; rfl
  | v :: w, a, pre, h, e => by
    rw [List.foldl_cons, code_snoc (h v List.mem_cons_self), code_val w (a * 27 + dg v) (v :: pre) (fun x hx => h x (List.mem_cons_of_mem _ hx)) (by rw [e]; rfl), List.reverse_cons, List.append_assoc]
    rfl
theorem codeI_val {w : List Int32} (h : ∀ v, v ∈ w → isLt v = true) : codeI w = nI (valR w.reverse) := by
  have := code_val w 0 [] h rfl
  rw [List.append_nil] at this
  exact this
theorem valR_lt : ∀ (l : List Int32), (∀ v, v ∈ l → isLt v = true) → valR l < 27 ^ l.length
  | [], _ => by simp [valR]
  | v :: l, h => by
    obtain ⟨d, d1, d2, e, ed⟩ := isLt_dg (h v List.mem_cons_self)
    have := valR_lt l (fun x hx => h x (List.mem_cons_of_mem _ hx))
    simp only [valR, List.length_cons, Nat.pow_succ]
    omega
theorem valR_inj : ∀ (l m : List Int32), (∀ v, v ∈ l → isLt v = true) → (∀ v, v ∈ m → isLt v = true) → valR l = valR m → l = m
  | [], [], _, _, _ => rfl
  | [], v :: m, _, h2, e => by
    obtain ⟨d, d1, d2, _, ed⟩ := isLt_dg (h2 v List.mem_cons_self)
    simp only [valR] at e
    omega
  | v :: l, [], h1, _, e => by
    obtain ⟨d, d1, d2, _, ed⟩ := isLt_dg (h1 v List.mem_cons_self)
    simp only [valR] at e
    omega
  | v :: l, x :: m, h1, h2, e => by
    obtain ⟨d, d1, d2, ev, ed⟩ := isLt_dg (h1 v List.mem_cons_self)
    obtain ⟨b, b1, b2, ex, eb⟩ := isLt_dg (h2 x List.mem_cons_self)
    simp only [valR] at e
    have e1 : d = b := by omega
    have e2 : valR l = valR m := by omega
    rw [ev, ex, e1, valR_inj l m (fun x hx => h1 x (List.mem_cons_of_mem _ hx)) (fun x hx => h2 x (List.mem_cons_of_mem _ hx)) e2]
theorem isL_spec {w : List Int32} {k : Nat} (h : isL w k = true) : 0 < w.length ∧ w.length ≤ k ∧ ∀ v, v ∈ w → isLt v = true := by
  unfold isL at h
  simp only [Bool.and_eq_true, Bool.not_eq_true', decide_eq_true_eq, List.all_eq_true] at h
  obtain ⟨⟨h1, h2⟩, h3⟩ := h
  refine ⟨?_, h2, h3⟩
  rw [isEmpty_len] at h1
  simp at h1
  cases w with
  | nil => exact absurd rfl h1
  | cons a l => simp
theorem code_lt {w : List Int32} (h : isL w 4 = true) : ∃ a, a < 531441 ∧ codeI w = nI a ∧ a = valR w.reverse := by
  obtain ⟨-, h2, h3⟩ := isL_spec h
  have h4 := valR_lt w.reverse (fun v hv => h3 v (List.mem_reverse.mp hv))
  rw [List.length_reverse] at h4
  have h5 : 27 ^ w.length ≤ 27 ^ 4 := Nat.pow_le_pow_right (by omega) h2
  exact ⟨_, by have : (27 : Nat) ^ 4 = 531441 := by decide
               omega, codeI_val h3, rfl⟩
theorem code_inj {w x : List Int32} (hw : isL w 4 = true) (hx : isL x 4 = true) (e : codeI w = codeI x) : w = x := by
  obtain ⟨a, a1, a2, a3⟩ := code_lt hw
  obtain ⟨b, b1, b2, b3⟩ := code_lt hx
  rw [a2, b2] at e
  have e1 := nI_inj (by omega) (by omega) e
  rw [a3, b3] at e1
  have := valR_inj _ _ (fun v hv => (isL_spec hw).2.2 v (List.mem_reverse.mp hv)) (fun v hv => (isL_spec hx).2.2 v (List.mem_reverse.mp hv)) e1
  exact List.reverse_inj.mp this
theorem h_nameAt {M : Mem} {t : Nat → Int32} {W : List (Nat × Nat)} {len : Nat} (h : PC M t W len) {k : Nat} (hk : k < 2 ^ 31) : ∀ (j i n : Nat) (a : Int32), i + j = (wrd t W k).length → j < n → H_X0_nameAt_22 M n (nI k) a (nI (wrd t W k).length) (nI i) = some (((wrd t W k).drop i).foldl (fun a v => (((a * 27) + v) - 97) + 1) a) := by
  have hl := wrd_50 h.1 (k := k)
  intro j
  induction j with
  | zero =>
    intro i n a hi hn
    cases n with
    | zero => omega
    | succ n =>
      show B_X0_nameAt_22 _ _ _ _ _ _ = _
      unfold B_X0_nameAt_22
      rw [if_pos (nI_le (by omega) (by omega)), List.drop_eq_nil_of_le (by omega)]
      rfl
  | succ j ih =>
    intro i n a hi hn
    cases n with
    | zero => omega
    | succ n =>
      have hlt : i < (wrd t W k).length := by omega
      show B_X0_nameAt_22 _ _ _ _ _ _ = _
      unfold B_X0_nameAt_22
      rw [if_neg (nI_ge hlt (by omega)), f_letterAt h hk (by omega), bd_some, if_pos hlt, nm_eq, nm_eq, show nI i + 1 = nI (i + 1) from nI_1 i, ih (i + 1) n _ (by omega) (by omega), drop_getD' hlt, List.foldl_cons]
def cdI (w : List Int32) : Int32 := if isL w 4 = true then codeI w else -1
theorem f_nameAt {M : Mem} {t : Nat → Int32} {W : List (Nat × Nat)} {len : Nat} (h : PC M t W len) {k : Nat} (hk : k < 2 ^ 31) : F_X0_nameAt (nI k) M = some (cdI (wrd t W k)) := by
  have hl := wrd_50 h.1 (k := k)
  unfold F_X0_nameAt cdI
  rw [show (4 : Int32) = nI 4 from rfl, f_isLetters h hk (by omega), bd_some]
  cases hb : isL (wrd t W k) 4
  · rw [if_pos (by decide), if_neg (by decide)]
  · rw [if_neg (by decide), if_pos rfl, f_sizeOf h hk, bd_some, show (0 : Int32) = nI 0 from rfl, h_nameAt h hk (wrd t W k).length 0 100 _ (by omega) (by omega), List.drop_zero]
    rfl
theorem f_words {M : Mem} {t : Nat → Int32} {W : List (Nat × Nat)} {len : Nat} (h : PC M t W len) : F_X0_words M = some (nI W.length) := by unfold F_X0_words; rw [h.2.1]
/-- the reference's words -/
theorem g_length {R : Mem} {t : Nat → Int32} {W : List (Nat × Nat)} {len : Nat} (h : PR R t W len) {k : Nat} (hk : k < W.length) : F_X8_length (nI k) R = some (nI (wrd t W k).length) := by
  have h25 := h.1.1
  obtain ⟨⟨s, e⟩, hq⟩ : ∃ q, W[k]? = some q := ⟨_, List.getElem?_eq_getElem hk⟩
  have hse := h.1.2.2.2 k s e hq
  obtain ⟨p1, p2⟩ := h.2.2.1 k s e hq
  unfold F_X8_length
  rw [gi_ok (show k < 26 by omega) (by decide), gi_ok (show k < 26 by omega) (by decide), nI_clamp (by omega), p1, p2, pk_sub (by omega), wrd_len hq]
theorem g_letter {R : Mem} {t : Nat → Int32} {W : List (Nat × Nat)} {len : Nat} (h : PR R t W len) {k i : Nat} (hk : k < W.length) (hi : i ≤ 100) : F_X8_letter (nI k) (nI i) R = some ((wrd t W k).getD i 0) := by
  have h25 := h.1.1
  have h50 := h.1.2.1
  obtain ⟨⟨s, e⟩, hq⟩ : ∃ q, W[k]? = some q := ⟨_, List.getElem?_eq_getElem hk⟩
  have hse := h.1.2.2.2 k s e hq
  obtain ⟨p1, p2⟩ := h.2.2.1 k s e hq
  unfold F_X8_letter
  rw [gi_ok (show k < 26 by omega) (by decide), gi_ok (show k < 26 by omega) (by decide), nI_clamp (n := k) (by omega), p1, p2, nI_add]
  by_cases z : i < e - s
  · rw [if_neg (nI_ge (by omega) (by omega)), gi_ok (show k < 26 by omega) (by decide), gi_ok (show s + i < 50 by omega) (by decide), nI_clamp (by omega), h.2.2.2 (s + i) (by omega), wrd_get hq z]
    unfold gc
    rw [if_pos (h.1.2.2.1 (s + i) (by omega)).nar]
  · rw [if_pos (nI_le (by omega) (by omega)), getD_out (by rw [wrd_len hq]; omega)]
theorem h_isWord {R : Mem} {t : Nat → Int32} {W : List (Nat × Nat)} {len : Nat} (h : PR R t W len) {k : Nat} (hk : k < W.length) : ∀ (j i n : Nat) (y : Bool), i + j = (wrd t W k).length → j < n → H_X8_isWord_18 R n (nI k) (bI y) (nI i) = some (bI (y && ((wrd t W k).drop i).all isLt)) := by
  have hl := (wrd_pos h.1 hk).2
  have gzb : ∀ b : Bool, gz (bI b) (some (bI b)) = some (bI b) := by decide
  intro j
  induction j with
  | zero =>
    intro i n y hi hn
    cases n with
    | zero => omega
    | succ n =>
      show B_X8_isWord_18 _ _ _ _ _ = _
      unfold B_X8_isWord_18
      rw [g_length h hk, bd_some, if_pos (nI_le (by omega) (by omega)), List.drop_eq_nil_of_le (by omega), gzb]
      simp
  | succ j ih =>
    intro i n y hi hn
    cases n with
    | zero => omega
    | succ n =>
      have hlt : i < (wrd t W k).length := by omega
      have e61 : ∀ b : Bool, B_X8_isWord_61 (H_X8_isWord_18 R n) R (nI k) (nI i) (bI b) = some (bI (b && ((wrd t W k).drop (i + 1)).all isLt)) := by
        intro b
        unfold B_X8_isWord_61
        rw [nm_eq, show nI i + 1 = nI (i + 1) from nI_1 i]
        exact ih (i + 1) n b (by omega) (by omega)
      have e60 : B_X8_isWord_60 (H_X8_isWord_18 R n) R (nI k) (nI i) = some (bI false) := by
        unfold B_X8_isWord_60
        rw [show (0 : Int32) = bI false from rfl, e61, Bool.false_and]
      show B_X8_isWord_18 _ _ _ _ _ = _
      unfold B_X8_isWord_18
      rw [g_length h hk, bd_some, if_neg (nI_ge hlt (by omega))]
      cases y
      · rw [if_pos (by decide), gzb, Bool.false_and]
      · rw [if_neg (by decide), g_letter h hk (by omega), bd_some, drop_getD' hlt, List.all_cons, e60, show (1 : Int32) = bI true from rfl, e61, bd_some]
        by_cases z1 : (wrd t W k).getD i 0 < 97
        · rw [if_pos z1, isLt_lo z1]; simp
        · rw [if_neg z1]
          by_cases z2 : 122 < (wrd t W k).getD i 0
          · rw [if_pos z2]
            have z3 : ¬ (wrd t W k).getD i 0 ≤ 122 := fun q => by rw [Int32.le_iff_toInt_le] at q; rw [Int32.lt_iff_toInt_lt] at z2; omega
            rw [isLt_hi z3]; simp
          · rw [if_neg z2]
            have z3 : (wrd t W k).getD i 0 ≤ 122 := by rw [Int32.le_iff_toInt_le]; rw [Int32.lt_iff_toInt_lt] at z2; omega
            rw [isLt_in z1 z3]; simp
theorem g_isWord {R : Mem} {t : Nat → Int32} {W : List (Nat × Nat)} {len : Nat} (h : PR R t W len) {k most : Nat} (hk : k < W.length) (hm : most < 2 ^ 31) : F_X8_isWord (nI k) (nI most) R = some (bI (isL (wrd t W k) most)) := by
  obtain ⟨hl0, hl⟩ := wrd_pos h.1 hk
  have key : ∀ b : Bool, B_X8_isWord_14 R (nI k) (bI b) = some (bI (b && (wrd t W k).all isLt)) := by
    intro b
    unfold B_X8_isWord_14
    have := h_isWord h hk (wrd t W k).length 0 100 b (by omega) (by omega)
    rw [List.drop_zero] at this
    exact this
  unfold F_X8_isWord isL
  rw [g_length h hk, bd_some, isEmpty_len]
  by_cases z : (wrd t W k).length ≤ most
  · rw [if_neg (nI_nlt z hm), show (1 : Int32) = bI true from rfl, key]
    simp [z, show ¬ (wrd t W k).length = 0 by omega]
  · rw [if_pos (nI_lt (by omega) (by omega)), show (0 : Int32) = bI false from rfl, key]
    simp [z]
