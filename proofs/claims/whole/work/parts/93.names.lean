/-! Where names are found. -/
theorem h_find {M : Mem} {n : Nat} {nm : Nat → List Int32} (hn : n ≤ 14) (hM : M 5 8 = nI n) (hok : nOK n nm) (hN : ∀ s, s < n → M 6 s = codeI (nm s)) (w : List Int32) : ∀ (m k f : Nat), k + m = n → m < f → H_X4_find_2 M f (cdI w) (nI k) = some (oI (fnA nm w m k)) := by
  intro m
  induction m with
  | zero =>
    intro k f hk hf
    cases f with
    | zero => omega
    | succ f =>
      show B_X4_find_2 _ _ _ _ = _
      unfold B_X4_find_2
      rw [hM, if_pos (nI_le (by omega) (by omega))]
      rfl
  | succ m ih =>
    intro k f hk hf
    cases f with
    | zero => omega
    | succ f =>
      show B_X4_find_2 _ _ _ _ = _
      unfold B_X4_find_2
      simp only [fnA]
      rw [hM, if_neg (nI_ge (show k < n by omega) (by omega)), gi_ok (show k < 14 by omega) (by decide), nI_clamp (by omega), hN k (by omega)]
      by_cases q : nm k = w
      · rw [if_pos q, if_pos (by rw [q]; unfold cdI; rw [if_pos (q ▸ hok k (by omega))])]
        rfl
      · rw [if_neg q, if_neg ?_, nm_eq, show nI k + 1 = nI (k + 1) from nI_1 k, ih (k + 1) f (by omega) (by omega)]
        intro z
        unfold cdI at z
        by_cases r : isL w 4 = true
        · rw [if_pos r] at z
          exact q (code_inj (hok k (by omega)) r z)
        · rw [if_neg r] at z
          obtain ⟨a, a1, a2, -⟩ := code_lt (hok k (by omega))
          rw [a2] at z
          exact nI_ne_m1 (by omega) z
theorem f_find {M : Mem} {n : Nat} {nm : Nat → List Int32} (hn : n ≤ 14) (hM : M 5 8 = nI n) (hok : nOK n nm) (hN : ∀ s, s < n → M 6 s = codeI (nm s)) (w : List Int32) : F_X4_find (cdI w) M = some (oI (fnA nm w n 0)) := by
  unfold F_X4_find
  exact h_find hn hM hok hN w n 0 100 (by omega) (by omega)
theorem h_RSi {R : Mem} {t : Nat → Int32} {W : List (Nat × Nat)} {len n : Nat} {nm : Nat → List Int32} (hn : n ≤ 14) (h : PR R t W len) {k : Nat} (hk : k < W.length) (hN : ∀ s, s < n → ∀ i, i < 4 → R 4 (4 * s + i) = (nm s).getD i 0) (kh : Int32 → Int32 → Option Int32) {s : Nat} (hs : s < n) : ∀ (j i f : Nat) (y : Bool), i + j = 4 → j < f → H_X8_stateOf_24 kh R f (nI k) (nI s) (bI y) (nI i) = if (y && pe (nm s) (wrd t W k) j i) = true then some (nI s) else kh (nI k) (nI (s + 1)) := by
  intro j
  induction j with
  | zero =>
    intro i f y hi hf
    cases f with
    | zero => omega
    | succ f =>
      show B_X8_stateOf_24 _ _ _ _ _ _ _ = _
      unfold B_X8_stateOf_24
      rw [if_pos (show (4 : Int32) ≤ nI i from nI_le (a := 4) (by omega) (by omega)), nm_eq, show nI s + 1 = nI (s + 1) from nI_1 s]
      cases y
      · rw [if_pos (by decide), if_neg (by simp)]
      · rw [if_neg (by decide), if_pos (by simp [pe])]
  | succ j ih =>
    intro i f y hi hf
    cases f with
    | zero => omega
    | succ f =>
      have e60 : ∀ b : Bool, B_X8_stateOf_60 kh (H_X8_stateOf_24 kh R f) R (nI k) (nI s) (nI i) (bI b) = if (b && pe (nm s) (wrd t W k) j (i + 1)) = true then some (nI s) else kh (nI k) (nI (s + 1)) := by
        intro b
        unfold B_X8_stateOf_60
        rw [nm_eq, show nI i + 1 = nI (i + 1) from nI_1 i]
        exact ih (i + 1) f b (by omega) (by omega)
      have e59 : B_X8_stateOf_59 kh (H_X8_stateOf_24 kh R f) R (nI k) (nI s) (nI i) = kh (nI k) (nI (s + 1)) := by
        unfold B_X8_stateOf_59
        rw [show (0 : Int32) = bI false from rfl, e60, if_neg (by simp)]
      show B_X8_stateOf_24 _ _ _ _ _ _ _ = _
      unfold B_X8_stateOf_24
      rw [if_neg (show ¬ (4 : Int32) ≤ nI i from nI_ge (b := 4) (by omega) (by omega))]
      cases y
      · rw [if_pos (by decide), e59, if_neg (by simp)]
      · rw [if_neg (by decide), show (4 : Int32) = nI 4 from rfl, pk_mul, nI_add, gi_ok (show 4 * s + i < 56 by omega) (by decide), g_letter h hk (by omega), bd_some, nI_clamp (by omega), hN s hs i (by omega), e59, show (1 : Int32) = bI true from rfl, e60]
        simp only [pe, Bool.true_and]
        by_cases z : (nm s).getD i 0 = (wrd t W k).getD i 0
        · rw [if_pos z, decide_eq_true z, Bool.true_and]
        · rw [if_neg z, decide_eq_false z, Bool.false_and, if_neg (by simp)]
theorem h_findEvent {M : Mem} {n : Nat} {nm : Nat → List Int32} (hn : n ≤ 6) (hM : M 18 9 = nI n) (hok : nOK n nm) (hN : ∀ s, s < n → M 19 s = codeI (nm s)) (w : List Int32) : ∀ (m k f : Nat), k + m = n → m < f → H_X3_findEvent_2 M f (cdI w) (nI k) = some (oI (fnA nm w m k)) := by
  intro m
  induction m with
  | zero =>
    intro k f hk hf
    cases f with
    | zero => omega
    | succ f =>
      show B_X3_findEvent_2 _ _ _ _ = _
      unfold B_X3_findEvent_2
      rw [hM, if_pos (nI_le (by omega) (by omega))]
      rfl
  | succ m ih =>
    intro k f hk hf
    cases f with
    | zero => omega
    | succ f =>
      show B_X3_findEvent_2 _ _ _ _ = _
      unfold B_X3_findEvent_2
      simp only [fnA]
      rw [hM, if_neg (nI_ge (show k < n by omega) (by omega)), gi_ok (show k < 6 by omega) (by decide), nI_clamp (by omega), hN k (by omega)]
      by_cases q : nm k = w
      · rw [if_pos q, if_pos (by rw [q]; unfold cdI; rw [if_pos (q ▸ hok k (by omega))])]
        rfl
      · rw [if_neg q, if_neg ?_, nm_eq, show nI k + 1 = nI (k + 1) from nI_1 k, ih (k + 1) f (by omega) (by omega)]
        intro z
        unfold cdI at z
        by_cases r : isL w 4 = true
        · rw [if_pos r] at z
          exact q (code_inj (hok k (by omega)) r z)
        · rw [if_neg r] at z
          obtain ⟨a, a1, a2, -⟩ := code_lt (hok k (by omega))
          rw [a2] at z
          exact nI_ne_m1 (by omega) z
theorem f_findEvent {M : Mem} {n : Nat} {nm : Nat → List Int32} (hn : n ≤ 6) (hM : M 18 9 = nI n) (hok : nOK n nm) (hN : ∀ s, s < n → M 19 s = codeI (nm s)) (w : List Int32) : F_X3_findEvent (cdI w) M = some (oI (fnA nm w n 0)) := by
  unfold F_X3_findEvent
  exact h_findEvent hn hM hok hN w n 0 100 (by omega) (by omega)
theorem h_REi {R : Mem} {t : Nat → Int32} {W : List (Nat × Nat)} {len n : Nat} {nm : Nat → List Int32} (hn : n ≤ 6) (h : PR R t W len) {k : Nat} (hk : k < W.length) (hN : ∀ s, s < n → ∀ i, i < 4 → R 11 (4 * s + i) = (nm s).getD i 0) (kh : Int32 → Int32 → Option Int32) {s : Nat} (hs : s < n) : ∀ (j i f : Nat) (y : Bool), i + j = 4 → j < f → H_X8_eventOf_15 kh R f (nI k) (nI s) (bI y) (nI i) = if (y && pe (nm s) (wrd t W k) j i) = true then some (nI s) else kh (nI k) (nI (s + 1)) := by
  intro j
  induction j with
  | zero =>
    intro i f y hi hf
    cases f with
    | zero => omega
    | succ f =>
      show B_X8_eventOf_15 _ _ _ _ _ _ _ = _
      unfold B_X8_eventOf_15
      rw [if_pos (show (4 : Int32) ≤ nI i from nI_le (a := 4) (by omega) (by omega)), nm_eq, show nI s + 1 = nI (s + 1) from nI_1 s]
      cases y
      · rw [if_pos (by decide), if_neg (by simp)]
      · rw [if_neg (by decide), if_pos (by simp [pe])]
  | succ j ih =>
    intro i f y hi hf
    cases f with
    | zero => omega
    | succ f =>
      have e60 : ∀ b : Bool, B_X8_eventOf_51 kh (H_X8_eventOf_15 kh R f) R (nI k) (nI s) (nI i) (bI b) = if (b && pe (nm s) (wrd t W k) j (i + 1)) = true then some (nI s) else kh (nI k) (nI (s + 1)) := by
        intro b
        unfold B_X8_eventOf_51
        rw [nm_eq, show nI i + 1 = nI (i + 1) from nI_1 i]
        exact ih (i + 1) f b (by omega) (by omega)
      have e59 : B_X8_eventOf_50 kh (H_X8_eventOf_15 kh R f) R (nI k) (nI s) (nI i) = kh (nI k) (nI (s + 1)) := by
        unfold B_X8_eventOf_50
        rw [show (0 : Int32) = bI false from rfl, e60, if_neg (by simp)]
      show B_X8_eventOf_15 _ _ _ _ _ _ _ = _
      unfold B_X8_eventOf_15
      rw [if_neg (show ¬ (4 : Int32) ≤ nI i from nI_ge (b := 4) (by omega) (by omega))]
      cases y
      · rw [if_pos (by decide), e59, if_neg (by simp)]
      · rw [if_neg (by decide), show (4 : Int32) = nI 4 from rfl, pk_mul, nI_add, gi_ok (show 4 * s + i < 24 by omega) (by decide), g_letter h hk (by omega), bd_some, nI_clamp (by omega), hN s hs i (by omega), e59, show (1 : Int32) = bI true from rfl, e60]
        simp only [pe, Bool.true_and]
        by_cases z : (nm s).getD i 0 = (wrd t W k).getD i 0
        · rw [if_pos z, decide_eq_true z, Bool.true_and]
        · rw [if_neg z, decide_eq_false z, Bool.false_and, if_neg (by simp)]
theorem h_stateOf {R : Mem} {t : Nat → Int32} {W : List (Nat × Nat)} {len n : Nat} {nm : Nat → List Int32} (hn : n ≤ 14) (h : PR R t W len) {k : Nat} (hk : k < W.length) (hM : R 0 6 = nI n) (hok : nOK n nm) (hN : ∀ s, s < n → ∀ i, i < 4 → R 4 (4 * s + i) = (nm s).getD i 0) : ∀ (m s f : Nat), s + m = n → m < f → H_X8_stateOf_2 R f (nI k) (nI s) = some (oI (fnA nm (wrd t W k) m s)) := by
  obtain ⟨hl0, hl⟩ := wrd_pos h.1 hk
  intro m
  induction m with
  | zero =>
    intro s f hs hf
    cases f with
    | zero => omega
    | succ f =>
      show B_X8_stateOf_2 _ _ _ _ = _
      unfold B_X8_stateOf_2
      rw [hM, if_pos (nI_le (by omega) (by omega))]
      rfl
  | succ m ih =>
    intro s f hs hf
    cases f with
    | zero => omega
    | succ f =>
      have hL := isL_spec (hok s (by omega))
      show B_X8_stateOf_2 _ _ _ _ = _
      unfold B_X8_stateOf_2
      rw [hM, if_neg (nI_ge (show s < n by omega) (by omega)), g_length h hk, bd_some]
      by_cases z : (wrd t W k).length ≤ 4
      · rw [if_neg (show ¬ (4 : Int32) < _ from nI_nlt (a := 4) z (by omega)), show (1 : Int32) = bI true from rfl, show (0 : Int32) = nI 0 from rfl, h_RSi hn h hk hN (H_X8_stateOf_2 R f) (s := s) (by omega) 4 0 100 true (by omega) (by omega), Bool.true_and, pe_4 (isL_nz (hok s (by omega))) (wrd_nz h.1) hL.2.1 z, ih (s + 1) f (by omega) (by omega)]
        simp only [fnA]
        by_cases q : nm s = wrd t W k
        · rw [decide_eq_true q, if_pos rfl, if_pos q]; rfl
        · rw [decide_eq_false q, if_neg (by decide), if_neg q]
      · rw [if_pos (show (4 : Int32) < _ from nI_lt (a := 4) (by omega) (by omega)), fnA_none (m + 1) s (fun x h1 h2 q => by
          have := (isL_spec (hok x (by omega))).2.1
          rw [q] at this
          omega)]
        rfl
theorem g_stateOf {R : Mem} {t : Nat → Int32} {W : List (Nat × Nat)} {len n : Nat} {nm : Nat → List Int32} (hn : n ≤ 14) (h : PR R t W len) {k : Nat} (hk : k < W.length) (hM : R 0 6 = nI n) (hok : nOK n nm) (hN : ∀ s, s < n → ∀ i, i < 4 → R 4 (4 * s + i) = (nm s).getD i 0) : F_X8_stateOf (nI k) R = some (oI (fnA nm (wrd t W k) n 0)) := by
  unfold F_X8_stateOf
  exact h_stateOf hn h hk hM hok hN n 0 100 (by omega) (by omega)
theorem h_eventOf {R : Mem} {t : Nat → Int32} {W : List (Nat × Nat)} {len n : Nat} {nm : Nat → List Int32} (hn : n ≤ 6) (h : PR R t W len) {k : Nat} (hk : k < W.length) (h4 : (wrd t W k).length ≤ 4) (hM : R 0 14 = nI n) (hok : nOK n nm) (hN : ∀ s, s < n → ∀ i, i < 4 → R 11 (4 * s + i) = (nm s).getD i 0) : ∀ (m s f : Nat), s + m = n → m < f → H_X8_eventOf_2 R f (nI k) (nI s) = some (oI (fnA nm (wrd t W k) m s)) := by
  intro m
  induction m with
  | zero =>
    intro s f hs hf
    cases f with
    | zero => omega
    | succ f =>
      show B_X8_eventOf_2 _ _ _ _ = _
      unfold B_X8_eventOf_2
      rw [hM, if_pos (nI_le (by omega) (by omega))]
      rfl
  | succ m ih =>
    intro s f hs hf
    cases f with
    | zero => omega
    | succ f =>
      have hL := isL_spec (hok s (by omega))
      show B_X8_eventOf_2 _ _ _ _ = _
      unfold B_X8_eventOf_2
      rw [hM, if_neg (nI_ge (show s < n by omega) (by omega)), show (1 : Int32) = bI true from rfl, show (0 : Int32) = nI 0 from rfl, h_REi hn h hk hN (H_X8_eventOf_2 R f) (s := s) (by omega) 4 0 100 true (by omega) (by omega), Bool.true_and, pe_4 (isL_nz (hok s (by omega))) (wrd_nz h.1) hL.2.1 h4, ih (s + 1) f (by omega) (by omega)]
      simp only [fnA]
      by_cases q : nm s = wrd t W k
      · rw [decide_eq_true q, if_pos rfl, if_pos q]; rfl
      · rw [decide_eq_false q, if_neg (by decide), if_neg q]
theorem g_eventOf {R : Mem} {t : Nat → Int32} {W : List (Nat × Nat)} {len n : Nat} {nm : Nat → List Int32} (hn : n ≤ 6) (h : PR R t W len) {k : Nat} (hk : k < W.length) (h4 : (wrd t W k).length ≤ 4) (hM : R 0 14 = nI n) (hok : nOK n nm) (hN : ∀ s, s < n → ∀ i, i < 4 → R 11 (4 * s + i) = (nm s).getD i 0) : F_X8_eventOf (nI k) R = some (oI (fnA nm (wrd t W k) n 0)) := by
  unfold F_X8_eventOf
  exact h_eventOf hn h hk h4 hM hok hN n 0 100 (by omega) (by omega)
