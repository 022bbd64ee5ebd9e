/-! The class's chart cells hold the chart c. -/
def oI (o : Option Nat) : Int32 := match o with | none => -1 | some k => nI k
def bI (b : Bool) : Int32 := if b = true then 1 else 0
def fstI (c : Ch) (s : Nat) : Int32 := match kids c s with | [] => -1 | k :: _ => nI k
def CC (M : Mem) (c : Ch) : Prop := wf c ∧ M 5 8 = nI (cN c) ∧ M 7 0 = -1 ∧ (∀ s, 0 < s → s < cN c → M 7 s = nI (cP c s)) ∧ (∀ s, s < cN c → M 8 s = nI (cD c s)) ∧ (∀ s, s < cN c → M 10 s = bI (cW c s)) ∧ (∀ s, s < cN c → M 11 s = bI (cR c s)) ∧ (∀ s, s < cN c → M 9 s = fstI c s)
theorem CC.keep {M M' : Mem} {c : Ch} {L : List Nat} (h : CC M c) (ha : agr L M M') (hL : ∀ a, a ∈ L → 11 < a) : CC M' c := by
  have e : ∀ a, a ≤ 11 → M' a = M a := fun a q => ha a (fun z => by have := hL a z; omega)
  obtain ⟨h1, h2, h3, h4, h5, h6, h7, h8⟩ := h
  refine ⟨h1, ?_, ?_, ?_, ?_, ?_, ?_, ?_⟩
  · rw [e 5 (by omega)]; exact h2
  · rw [e 7 (by omega)]; exact h3
  · rw [e 7 (by omega)]; exact h4
  · rw [e 8 (by omega)]; exact h5
  · rw [e 10 (by omega)]; exact h6
  · rw [e 11 (by omega)]; exact h7
  · rw [e 9 (by omega)]; exact h8
theorem n_lt {c : Ch} (h : wf c) {s : Nat} (hs : s < cN c) : s < 14 := Nat.lt_of_lt_of_le hs h.n14
theorem n_31 {c : Ch} (h : wf c) {s : Nat} (hs : s < cN c) : s < 2 ^ 31 := by have := n_lt h hs; omega
theorem f_isState {M : Mem} {c : Ch} (h : CC M c) {s : Nat} (hs : s < cN c) : F_X4_isState (nI s) M = some 1 := by
  have := n_31 h.1 hs
  have := h.1.n14
  unfold F_X4_isState
  rw [if_neg (nI_lt0 (by omega)), h.2.1, if_neg (nI_ge hs (by omega))]
theorem f_isState_m1 {M : Mem} : F_X4_isState (-1) M = some 0 := by
  unfold F_X4_isState
  rw [if_pos m1_lt0]
theorem f_parentOf {M : Mem} {c : Ch} (h : CC M c) {s : Nat} (h0 : 0 < s) (hs : s < cN c) : F_X4_parentOf (nI s) M = some (nI (cP c s)) := by
  unfold F_X4_parentOf
  rw [f_isState h hs, bd_some, if_neg (by decide), gi_ok (n_lt h.1 hs) (by decide), nI_clamp (n_31 h.1 hs), h.2.2.2.1 s h0 hs]
theorem f_parentOf_0 {M : Mem} {c : Ch} (h : CC M c) : F_X4_parentOf (nI 0) M = some (-1) := by
  have hs : 0 < cN c := h.1.1
  unfold F_X4_parentOf
  rw [f_isState h hs, bd_some, if_neg (by decide), gi_ok (n_lt h.1 hs) (by decide), nI_clamp (n_31 h.1 hs), h.2.2.1]
theorem f_isWhole {M : Mem} {c : Ch} (h : CC M c) {s : Nat} (hs : s < cN c) : F_X4_isWhole (nI s) M = some (bI (cW c s)) := by
  unfold F_X4_isWhole
  rw [f_isState h hs, bd_some, if_neg (by decide), gi_ok (n_lt h.1 hs) (by decide), nI_clamp (n_31 h.1 hs), h.2.2.2.2.2.1 s hs]
  cases cW c s
  · rfl
  · rfl
theorem f_isRemembering {M : Mem} {c : Ch} (h : CC M c) {s : Nat} (hs : s < cN c) : F_X4_isRemembering (nI s) M = some (bI (cR c s)) := by
  unfold F_X4_isRemembering
  rw [f_isState h hs, bd_some, if_neg (by decide), gi_ok (n_lt h.1 hs) (by decide), nI_clamp (n_31 h.1 hs), h.2.2.2.2.2.2.1 s hs]
  cases cR c s
  · rfl
  · rfl
theorem f_depthOf {M : Mem} {c : Ch} (h : CC M c) {s : Nat} (hs : s < cN c) : F_X4_depthOf (nI s) M = some (nI (cD c s)) := by
  unfold F_X4_depthOf
  rw [f_isState h hs, bd_some, if_neg (by decide), gi_ok (n_lt h.1 hs) (by decide), nI_clamp (n_31 h.1 hs), h.2.2.2.2.1 s hs]
/-- the current child at first -/
def cf0 (c : Ch) (s : Nat) : Int32 := if cW c s = true then -1 else fstI c s
theorem f_currentAtFirst {M : Mem} {c : Ch} (h : CC M c) {s : Nat} (hs : s < cN c) : F_X4_currentAtFirst (nI s) M = some (cf0 c s) := by
  unfold F_X4_currentAtFirst cf0
  rw [f_isState h hs, bd_some, if_neg (by decide), gi_ok (n_lt h.1 hs) (by decide), nI_clamp (n_31 h.1 hs), h.2.2.2.2.2.1 s hs]
  cases hw : cW c s
  · rw [if_pos (by decide), if_neg (by decide), gi_ok (n_lt h.1 hs) (by decide), h.2.2.2.2.2.2.2 s hs]
  · rw [if_neg (by decide), if_pos rfl]
theorem f_currentAtFirst_out {M : Mem} {c : Ch} (h : CC M c) {s : Nat} (hs : cN c ≤ s) (h2 : s < 2 ^ 31) : F_X4_currentAtFirst (nI s) M = some (-1) := by
  unfold F_X4_currentAtFirst F_X4_isState
  rw [if_neg (nI_lt0 h2), h.2.1, if_pos (nI_le hs h2), bd_some, if_pos rfl]
theorem f_made {M : Mem} {c : Ch} (h : CC M c) : F_X4_made M = some (nI (cN c)) := by
  unfold F_X4_made; rw [h.2.1]
theorem h_chTo_m1 {M : Mem} (s : Nat) (i n : Nat) (hn : 0 < n) : H_X4_childToward_15 M n (nI s) (-1) (nI i) = some (-1) := by
  cases n with
  | zero => omega
  | succ n =>
    show B_X4_childToward_15 _ _ _ _ _ = _
    unfold B_X4_childToward_15
    by_cases q : (6 : Int32) < nI i
    · rw [if_pos q]
    · rw [if_neg q, f_isState_m1, bd_some, if_pos rfl]
theorem h_chTo {M : Mem} {c : Ch} (h : CC M c) {s : Nat} (hs : s < cN c) : ∀ (k t i n : Nat), t ≤ k → t < cN c → i + cD c t ≤ 6 → cD c t + 2 ≤ n → H_X4_childToward_15 M n (nI s) (nI t) (nI i) = some (oI (twd c s t)) := by
  intro k
  induction k with
  | zero =>
    intro t i n hk ht hi hn
    have e0 : t = 0 := by omega
    subst e0
    cases n with
    | zero => omega
    | succ n =>
      show B_X4_childToward_15 _ _ _ _ _ = _
      unfold B_X4_childToward_15
      rw [if_neg (show ¬ (6 : Int32) < nI i from nI_nlt (a := 6) (by omega) (by omega)), f_isState h ht, bd_some, if_neg (by decide), gi_ok (n_lt h.1 ht) (by decide), nI_clamp (by omega), h.2.2.1, if_neg (m1_ne_nI (n_31 h.1 hs)), gi_ok (n_lt h.1 ht) (by decide), nm_eq, nm_eq, show nI i + 1 = nI (i + 1) from nI_1 i, h_chTo_m1 s (i + 1) n (by omega), twd_0]
      rfl
  | succ k ih =>
    intro t i n hk ht hi hn
    rcases Nat.eq_zero_or_pos t with e0 | e0
    · exact ih t i n (by omega) ht hi hn
    · cases n with
      | zero => omega
      | succ n =>
        have hp := h.1.par e0 ht
        have hd := h.1.dep e0 ht
        show B_X4_childToward_15 _ _ _ _ _ = _
        unfold B_X4_childToward_15
        rw [if_neg (show ¬ (6 : Int32) < nI i from nI_nlt (a := 6) (by omega) (by omega)), f_isState h ht, bd_some, if_neg (by decide), gi_ok (n_lt h.1 ht) (by decide), nI_clamp (n_31 h.1 ht), h.2.2.2.1 t e0 ht]
        by_cases q : cP c t = s
        · rw [if_pos (by rw [q]), twd_hit e0 q]
          rfl
        · rw [if_neg (fun z => q (nI_inj (n_31 h.1 (by omega)) (n_31 h.1 hs) z)), gi_ok (n_lt h.1 ht) (by decide), nm_eq, nm_eq, show nI i + 1 = nI (i + 1) from nI_1 i, ih (cP c t) (i + 1) n (by omega) (by omega) (by omega) (by omega), twd_up h.1 e0 ht q]
theorem f_childToward {M : Mem} {c : Ch} (h : CC M c) {s t : Nat} (hs : s < cN c) (ht : t < cN c) : F_X4_childToward (nI s) (nI t) M = some (oI (twd c s t)) := by
  unfold F_X4_childToward
  have := h.1.dep6 ht
  rw [f_isState h hs, bd_some, if_neg (by decide), show (0 : Int32) = nI 0 from rfl, h_chTo h hs t t 0 100 (Nat.le_refl _) ht (by omega) (by omega)]
theorem f_childToward_m1 {M : Mem} {c : Ch} (h : CC M c) {s : Nat} (hs : s < cN c) : F_X4_childToward (nI s) (-1) M = some (-1) := by
  unfold F_X4_childToward
  rw [f_isState h hs, bd_some, if_neg (by decide), show (0 : Int32) = nI 0 from rfl, h_chTo_m1 s 0 100 (by omega)]
