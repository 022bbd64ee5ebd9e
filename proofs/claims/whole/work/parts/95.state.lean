/-! What class and reference hold of one chart; the line that makes a state. -/
def BS (M R : Mem) (c : Ch) (nm : Nat → List Int32) (em lm : Nat → List Int32) (u : Ru) (nE : Nat) (en : Nat → List Int32) : Prop :=
  (SC M c em lm ∧ RC M c u ∧ M 18 9 = nI nE) ∧ (SD R c em lm ∧ RD R c u ∧ R 0 14 = nI nE) ∧ nE ≤ 6 ∧
  (nOK (cN c) nm ∧ (∀ s, s < cN c → M 6 s = codeI (nm s)) ∧ ∀ s, s < cN c → ∀ i, i < 4 → R 4 (4 * s + i) = (nm s).getD i 0) ∧
  (nOK nE en ∧ (∀ e, e < nE → M 19 e = codeI (en e)) ∧ ∀ e, e < nE → ∀ i, i < 4 → R 11 (4 * e + i) = (en e).getD i 0) ∧
  ((∀ s, cN c ≤ s → s < 14 → M 14 s = 0 ∧ M 17 s = 0 ∧ R 8 (2 * s) = 0 ∧ R 8 (2 * s + 1) = 0) ∧ ∀ r, rN u ≤ r → r < 20 → M 28 r = 0) ∧ ∀ r, r < rN u → rE u r < nE
/-- what reading a line comes to, in both -/
def RS (FM FR : Option (Int32 × Mem)) (M R : Mem) : Prop :=
  (∃ k, (k = -1 ∨ k = -2) ∧ FM = some (k, M) ∧ FR = some (k, R)) ∨
  ∃ (j : Nat) (M' R' : Mem) (c : Ch) (nm em lm : Nat → List Int32) (u : Ru) (nE : Nat) (en : Nat → List Int32), 1 ≤ j ∧ j ≤ 3 ∧ FM = some (nI j, M') ∧ FR = some (nI j, R') ∧ BS M' R' c nm em lm u nE en ∧ M' 1 = M 1 ∧ R' 0 0 = R 0 0 ∧ R' 0 2 = R 0 2
def kO {β : Type} (o : Option (Option β)) (M : Mem) (f : β → Option (Int32 × Mem)) : Option (Int32 × Mem) := match o with | none => some (-1, M) | some none => some (-2, M) | some (some x) => f x
theorem kO_1 {β : Type} (M : Mem) (f : β → Option (Int32 × Mem)) : kO none M f = some (-1, M) := rfl
theorem kO_2 {β : Type} (M : Mem) (f : β → Option (Int32 × Mem)) : kO (some none) M f = some (-2, M) := rfl
theorem kO_3 {β : Type} (x : β) (M : Mem) (f : β → Option (Int32 × Mem)) : kO (some (some x)) M f = f x := rfl
abbrev stC (c : Ch) (nm : Nat → List Int32) (t : Nat → Int32) (W : List (Nat × Nat)) : Prop := (W.length = 4 ∨ (W.length = 5 ∧ (wrd t W 4 = bytS.getD 1 [] ∨ wrd t W 4 = bytS.getD 2 []))) ∧ wrd t W 2 = bytS.getD 3 [] ∧ isL (wrd t W 1) 4 = true ∧ fnA nm (wrd t W 1) (cN c) 0 = none
def stP (c : Ch) (t : Nat → Int32) (W : List (Nat × Nat)) (o : Option Nat) : Option (Option (Nat × Bool × Bool)) := match o with
  | none => none
  | some p => if cD c p < 6 then (if cN c < 14 then some (some (p, decide (wrd t W 4 = bytS.getD 1 []), decide (wrd t W 4 = bytS.getD 2 []))) else some none) else none
def stK (c : Ch) (nm : Nat → List Int32) (t : Nat → Int32) (W : List (Nat × Nat)) : Option (Option (Nat × Bool × Bool)) := if stC c nm t W then stP c t W (fnA nm (wrd t W 3) (cN c) 0) else none
theorem stK_n {c : Ch} {nm : Nat → List Int32} {t : Nat → Int32} {W : List (Nat × Nat)} (h : ¬ stC c nm t W) : stK c nm t W = none := if_neg h
theorem stK_y {c : Ch} {nm : Nat → List Int32} {t : Nat → Int32} {W : List (Nat × Nat)} (h : stC c nm t W) : stK c nm t W = stP c t W (fnA nm (wrd t W 3) (cN c) 0) := if_pos h
theorem stP_6 {c : Ch} {t : Nat → Int32} {W : List (Nat × Nat)} {p : Nat} (h : ¬ cD c p < 6) : stP c t W (some p) = none := if_neg h
theorem stP_14 {c : Ch} {t : Nat → Int32} {W : List (Nat × Nat)} {p : Nat} (h : cD c p < 6) (h2 : ¬ cN c < 14) : stP c t W (some p) = some none := (if_pos h).trans (if_neg h2)
theorem stP_ok {c : Ch} {t : Nat → Int32} {W : List (Nat × Nat)} {p : Nat} (h : cD c p < 6) (h2 : cN c < 14) : stP c t W (some p) = some (some (p, decide (wrd t W 4 = bytS.getD 1 []), decide (wrd t W 4 = bytS.getD 2 []))) := (if_pos h).trans (if_pos h2)
theorem oI_s (y : Nat) : oI (some y) = nI y := rfl
theorem oI_n : oI none = -1 := rfl
theorem oI_m1 {o : Option Nat} (h : ∀ x, o = some x → x < 2 ^ 31) : (oI o = -1) ↔ o = none := by
  cases o with
  | none => exact ⟨fun _ => rfl, fun _ => rfl⟩
  | some x => exact ⟨fun q => absurd q (nI_ne_m1 (h x rfl)), fun q => (by cases q)⟩
theorem oI_0le {o : Option Nat} (h : ∀ x, o = some x → x < 2 ^ 31) : ((0 : Int32) ≤ oI o) ↔ ¬ o = none := by
  cases o with
  | none => exact ⟨fun q => absurd q (by decide), fun q => absurd rfl q⟩
  | some x => exact ⟨fun _ q => (by cases q), fun _ => nI_0le (h x rfl)⟩
theorem fn_31 {nm : Nat → List Int32} {w : List Int32} {n x : Nat} (hn : n ≤ 14) (h : fnA nm w n 0 = some x) : x < n ∧ x < 2 ^ 31 := by
  have := fnA_some n 0 x h
  omega
theorem fn_nil {nm : Nat → List Int32} {n : Nat} (hok : nOK n nm) : fnA nm [] n 0 = none := fnA_none n 0 (fun s _ h2 q => by
  have := (isL_spec (hok s (by omega))).1
  rw [q] at this
  exact absurd this (by decide))
theorem c_state {M : Mem} {c : Ch} {nm : Nat → List Int32} {t : Nat → Int32} {W : List (Nat × Nat)} {len : Nat} (hC : CC M c) (hok : nOK (cN c) nm) (hN : ∀ s, s < cN c → M 6 s = codeI (nm s)) (h : PC M t W len) : F_X2_readState M = kO (stK c nm t W) M (fun q => bd (F_X4_make (cdI (wrd t W 1)) (nI q.1) (bI q.2.1) (bI q.2.2) M) fun M' => some (1, M')) := by
  have h14 := hC.1.n14
  have h25 := h.1.1
  have ff : ∀ w, F_X4_find (cdI w) M = some (oI (fnA nm w (cN c) 0)) := fun w => f_find h14 hC.2.1 hok hN w
  have e : F_X2_readState M = B_X2_readState_42 (bI (decide (wrd t W 4 = bytS.getD 1 []))) (bI (decide (wrd t W 4 = bytS.getD 2 []))) (nI (if wrd t W 4 = bytS.getD 1 [] ∨ wrd t W 4 = bytS.getD 2 [] then 5 else 4)) (nI W.length) M := by
    unfold F_X2_readState B_X2_readState_37
    rw [show (4 : Int32) = nI 4 from rfl, f_says h 1 (by decide) (by decide), bd_some, f_says h 2 (by decide) (by decide), bd_some, f_words h, bd_some]
    by_cases a : wrd t W 4 = bytS.getD 1 []
    · rw [decide_eq_true a, if_neg (by decide), if_pos (Or.inl a)]; rfl
    · by_cases b : wrd t W 4 = bytS.getD 2 []
      · rw [decide_eq_false a, decide_eq_true b, if_pos (by decide), if_neg (by decide), if_pos (Or.inr b)]; rfl
      · rw [decide_eq_false a, decide_eq_false b, if_pos (by decide), if_pos (by decide), if_neg (by rintro (z | z) <;> contradiction)]
  rw [e]
  have h4 : W.length ≤ 4 → ¬ (wrd t W 4 = bytS.getD 1 [] ∨ wrd t W 4 = bytS.getD 2 []) := fun q z => by
    rw [wrd_none q] at z
    rcases z with z | z
    · exact absurd z (by decide)
    · exact absurd z (by decide)
  unfold B_X2_readState_42
  by_cases z1 : W.length = 4 ∨ (W.length = 5 ∧ (wrd t W 4 = bytS.getD 1 [] ∨ wrd t W 4 = bytS.getD 2 []))
  · have z1' : W.length = if wrd t W 4 = bytS.getD 1 [] ∨ wrd t W 4 = bytS.getD 2 [] then 5 else 4 := by
      rcases z1 with q | q
      · rw [if_neg (h4 (by omega))]; exact q
      · rw [if_pos q.2]; exact q.1
    rw [if_pos (by rw [← z1']), show F_X0_says 3 2 M = _ from f_says h (k := 2) 3 (by decide) (by decide), bd_some]
    by_cases z2 : wrd t W 2 = bytS.getD 3 []
    · rw [decide_eq_true z2, if_neg (by decide), show F_X0_nameAt 1 M = _ from f_nameAt h (k := 1) (by decide), bd_some, show F_X0_nameAt 3 M = _ from f_nameAt h (k := 3) (by decide), bd_some, ff, bd_some]
      by_cases z3 : isL (wrd t W 1) 4 = true
      · have e1 : ¬ cdI (wrd t W 1) = -1 := fun q => by
          unfold cdI at q
          rw [if_pos z3] at q
          obtain ⟨x, x1, x2, -⟩ := code_lt z3
          rw [x2] at q
          exact nI_ne_m1 (by omega) q
        rw [if_neg e1, ff, bd_some]
        cases z4 : fnA nm (wrd t W 1) (cN c) 0 with
        | some y =>
          rw [stK_n (fun q => by have q2 := q.2.2.2; rw [z4] at q2; cases q2), oI_s, if_neg (fun q => nI_ne_m1 (fn_31 h14 z4).2 q)]
          rfl
        | none =>
          rw [stK_y ⟨z1, z2, z3, z4⟩, oI_n, if_pos rfl]
          cases z5 : fnA nm (wrd t W 3) (cN c) 0 with
          | none => rw [oI_n, if_pos rfl]; rfl
          | some y =>
            obtain ⟨y1, y2⟩ := fn_31 h14 z5
            have hy6 := hC.1.dep6 y1
            rw [oI_s, if_neg (fun q => nI_ne_m1 y2 q), f_depthOf hC y1, bd_some]
            by_cases z6 : cD c y < 6
            · rw [if_pos (show nI (cD c y) < 6 from nI_lt (b := 6) z6 (by omega))]
              unfold F_X4_isFull
              rw [hC.2.1]
              by_cases z7 : cN c < 14
              · rw [if_pos (show nI (cN c) < 14 from nI_lt (b := 14) z7 (by omega)), bd_some, if_pos rfl, stP_ok z6 z7]
                rfl
              · rw [if_neg (show ¬ nI (cN c) < 14 from nI_nlt (b := 14) (by omega) (by omega)), bd_some, if_neg (by decide), stP_14 z6 z7]
                rfl
            · rw [if_neg (show ¬ nI (cD c y) < 6 from nI_nlt (b := 6) (by omega) (by omega)), stP_6 z6]
              rfl
      · rw [if_pos (by unfold cdI; rw [if_neg z3]), stK_n (fun q => z3 q.2.2.1)]
        rfl
    · rw [decide_eq_false z2, if_pos (by decide), stK_n (fun q => z2 q.2.1)]
      rfl
  · rw [if_neg (fun q => z1 ?_), stK_n (fun q => z1 q.1)]
    · rfl
    · have q2 := nI_inj (by omega) (by split <;> omega) q
      by_cases y : wrd t W 4 = bytS.getD 1 [] ∨ wrd t W 4 = bytS.getD 2 []
      · rw [if_pos y] at q2; exact Or.inr ⟨q2, y⟩
      · rw [if_neg y] at q2; exact Or.inl q2
theorem bI_dec {P Q : Prop} [Decidable P] [Decidable Q] (h : P ↔ Q) : bI (decide P) = bI (decide Q) := by
  by_cases p : P
  · rw [decide_eq_true p, decide_eq_true (h.mp p)]
  · rw [decide_eq_false p, decide_eq_false (fun q => p (h.mpr q))]
theorem byt_nz : ∀ i, i < 12 → nz (bytS.getD i []) := by
  intro i hi j hj
  have key : ∀ i, i < 12 → ∀ j, j < (bytS.getD i []).length → ¬ (bytS.getD i []).getD j 0 = 0 := by decide +kernel
  exact key i hi j hj
/-- the reference's test for a text of at most five letters -/
theorem g_says5 {R : Mem} {t : Nat → Int32} {W : List (Nat × Nat)} {len : Nat} (h : PR R t W len) {k : Nat} (hk : k < W.length) (si : Nat) (hs : si < 12) (hl : (bytS.getD si []).length ≤ 5) : F_X8_says (nI k) ((bytS.getD si []).getD 0 0) ((bytS.getD si []).getD 1 0) ((bytS.getD si []).getD 2 0) ((bytS.getD si []).getD 3 0) ((bytS.getD si []).getD 4 0) ((bytS.getD si []).getD 5 0) R = some (bI (decide (wrd t W k = bytS.getD si []))) := by
  rw [g_says h hk, bI_dec (sy_5 (wrd_nz h.1) (byt_nz si hs) hl)]
theorem b_98 {R : Mem} {t : Nat → Int32} {W : List (Nat × Nat)} {len : Nat} (h : PR R t W len) (x a : Int32) : B_X8_newState_98 x a R = B_X8_newState_166 x a (bI (decide (W.length = 5 ∧ wrd t W 4 = bytS.getD 2 []))) R := by
  have h25 := h.1.1
  unfold B_X8_newState_98 B_X8_newState_165
  rw [h.2.1]
  by_cases z : W.length = 5
  · have hk : 4 < W.length := by omega
    have e6 : (sy (wrd t W 4) 114 101 109 101 109 98 ∧ (wrd t W 4).length = 8 ∧ (wrd t W 4).getD 6 0 = 101 ∧ (wrd t W 4).getD 7 0 = 114) ↔ wrd t W 4 = bytS.getD 2 [] := sy_8 (tx := bytS.getD 2 []) (wrd_nz h.1 (k := 4)) (byt_nz 2 (by decide)) (by decide)
    rw [if_pos (show nI W.length = 5 by rw [z]; rfl), show F_X8_says 4 114 101 109 101 109 98 R = _ from g_says h (k := 4) hk 114 101 109 101 109 98, bd_some]
    by_cases y : wrd t W 4 = bytS.getD 2 []
    · have y2 := e6.mpr y
      rw [decide_eq_true y2.1, if_neg (by decide), show F_X8_length 4 R = _ from g_length h (k := 4) hk, bd_some, y2.2.1, if_pos (show nI 8 = 8 from rfl), show F_X8_letter 4 6 R = _ from g_letter h (k := 4) (i := 6) hk (by omega), bd_some, if_pos y2.2.2.1, show F_X8_letter 4 7 R = _ from g_letter h (k := 4) (i := 7) hk (by omega), bd_some, if_pos y2.2.2.2, decide_eq_true ⟨z, y⟩]
      rfl
    · rw [decide_eq_false (show ¬ (W.length = 5 ∧ wrd t W 4 = bytS.getD 2 []) from fun q => y q.2)]
      by_cases a1 : sy (wrd t W 4) 114 101 109 101 109 98
      · rw [decide_eq_true a1, if_neg (by decide), show F_X8_length 4 R = _ from g_length h (k := 4) hk, bd_some]
        have hl := wrd_50 h.1 (k := 4)
        by_cases a2 : (wrd t W 4).length = 8
        · rw [a2, if_pos (show nI 8 = 8 from rfl), show F_X8_letter 4 6 R = _ from g_letter h (k := 4) (i := 6) hk (by omega), bd_some]
          by_cases a3 : (wrd t W 4).getD 6 0 = 101
          · rw [if_pos a3, show F_X8_letter 4 7 R = _ from g_letter h (k := 4) (i := 7) hk (by omega), bd_some]
            by_cases a4 : (wrd t W 4).getD 7 0 = 114
            · exact absurd (e6.mp ⟨a1, a2, a3, a4⟩) y
            · rw [if_neg a4]; rfl
          · rw [if_neg a3]; rfl
        · rw [if_neg (show ¬ nI (wrd t W 4).length = 8 from fun q => a2 (nI_inj (b := 8) (by omega) (by omega) q))]; rfl
      · rw [decide_eq_false a1, if_pos (by decide)]; rfl
  · rw [if_neg (show ¬ nI W.length = 5 from fun q => z (nI_inj (b := 5) (by omega) (by omega) q)), decide_eq_false (fun q => z q.1)]
    rfl
theorem r_state {R : Mem} {c : Ch} {nm : Nat → List Int32} {t : Nat → Int32} {W : List (Nat × Nat)} {len : Nat} (hC : CD R c) (hok : nOK (cN c) nm) (hN : ∀ s, s < cN c → ∀ i, i < 4 → R 4 (4 * s + i) = (nm s).getD i 0) (h : PR R t W len) : F_X8_newState R = kO (stK c nm t W) R (fun q => H_X8_newState_215 100 (nI q.1) (bI q.2.1) (bI q.2.2) 0 R) := by
  have h14 := hC.1.n14
  have h25 := h.1.1
  unfold F_X8_newState
  rw [h.2.1]
  by_cases L4 : W.length < 4
  · rw [if_pos (show nI W.length < 4 from nI_lt (b := 4) L4 (by omega)), stK_n (fun q => by omega)]
    rfl
  · rw [if_neg (show ¬ nI W.length < 4 from nI_nlt (b := 4) (by omega) (by omega))]
    by_cases L5 : 5 < W.length
    · rw [if_pos (show (5 : Int32) < nI W.length from nI_lt (a := 5) L5 (by omega)), stK_n (fun q => by omega)]
      rfl
    · rw [if_neg (show ¬ (5 : Int32) < nI W.length from nI_nlt (a := 5) (by omega) (by omega)), show F_X8_isWord 1 4 R = _ from g_isWord h (k := 1) (most := 4) (by omega) (by omega), bd_some]
      cases z3 : isL (wrd t W 1) 4 with
      | false => rw [if_pos (by decide), stK_n (fun q => by have q2 := q.2.2.1; rw [z3] at q2; cases q2)]; rfl
      | true =>
        rw [if_neg (by decide), show F_X8_stateOf 1 R = _ from g_stateOf h14 h (k := 1) (by omega) hC.2.1 hok hN, bd_some]
        cases z4 : fnA nm (wrd t W 1) (cN c) 0 with
        | some y => rw [oI_s, if_pos (nI_0le (fn_31 h14 z4).2), stK_n (fun q => by have q2 := q.2.2.2; rw [z4] at q2; cases q2)]; rfl
        | none =>
          rw [oI_n, if_neg (by decide), show F_X8_says 2 105 110 0 0 0 0 R = _ from g_says5 h (k := 2) (by omega) 3 (by decide) (by decide), bd_some]
          by_cases z2 : wrd t W 2 = bytS.getD 3 []
          · have e2 : (if nI W.length = 5 then bd (F_X8_says 4 119 104 111 108 101 0 R) fun r_9 => (if r_9 = 0 then B_X8_newState_97 (oI (fnA nm (wrd t W 3) (cN c) 0)) R else bd (F_X8_length 4 R) fun r_11 => (if r_11 = 5 then B_X8_newState_98 (oI (fnA nm (wrd t W 3) (cN c) 0)) 1 R else B_X8_newState_97 (oI (fnA nm (wrd t W 3) (cN c) 0)) R)) else B_X8_newState_97 (oI (fnA nm (wrd t W 3) (cN c) 0)) R) = B_X8_newState_166 (oI (fnA nm (wrd t W 3) (cN c) 0)) (bI (decide (W.length = 5 ∧ wrd t W 4 = bytS.getD 1 []))) (bI (decide (W.length = 5 ∧ wrd t W 4 = bytS.getD 2 []))) R := by
              unfold B_X8_newState_97
              rw [b_98 h, b_98 h]
              by_cases z : W.length = 5
              · rw [if_pos (show nI W.length = 5 by rw [z]; rfl), show F_X8_says 4 119 104 111 108 101 0 R = _ from g_says5 h (k := 4) (by omega) 1 (by decide) (by decide), bd_some]
                by_cases y : wrd t W 4 = bytS.getD 1 []
                · rw [decide_eq_true y, if_neg (by decide), show F_X8_length 4 R = _ from g_length h (k := 4) (by omega), bd_some, y, if_pos (by decide), decide_eq_true (show W.length = 5 ∧ bytS.getD 1 [] = bytS.getD 1 [] from ⟨z, rfl⟩)]
                  rfl
                · rw [decide_eq_false y, if_pos (by decide), decide_eq_false (show ¬ (W.length = 5 ∧ wrd t W 4 = bytS.getD 1 []) from fun q => y q.2)]
                  rfl
              · rw [if_neg (show ¬ nI W.length = 5 from fun q => z (nI_inj (b := 5) (by omega) (by omega) q)), decide_eq_false (show ¬ (W.length = 5 ∧ wrd t W 4 = bytS.getD 1 []) from fun q => z q.1)]
                rfl
            rw [decide_eq_true z2, if_neg (by decide), show F_X8_stateOf 3 R = _ from g_stateOf h14 h (k := 3) (by omega) hC.2.1 hok hN, bd_some, e2]
            unfold B_X8_newState_166
            rw [h.2.1]
            cases z5 : fnA nm (wrd t W 3) (cN c) 0 with
            | none =>
              rw [oI_n, if_pos (by decide)]
              by_cases z1 : stC c nm t W
              · rw [stK_y z1, z5]; rfl
              · rw [stK_n z1]; rfl
            | some y =>
              obtain ⟨y1, y2⟩ := fn_31 h14 z5
              have hy6 := hC.1.dep6 y1
              rw [oI_s, if_neg (nI_lt0 y2), gi_ok (show y < 14 by omega) (by decide), nI_clamp y2, hC.2.2.2.2.1 y y1]
              by_cases z6 : cD c y = 6
              · rw [z6, if_pos (show nI 6 = 6 from rfl)]
                by_cases z1 : stC c nm t W
                · rw [stK_y z1, z5, stP_6 (by omega)]; rfl
                · rw [stK_n z1]; rfl
              · rw [if_neg (show ¬ nI (cD c y) = 6 from fun q => z6 (nI_inj (b := 6) (by omega) (by omega) q))]
                have e200 : ∀ a b : Int32, stC c nm t W → a = bI (decide (wrd t W 4 = bytS.getD 1 [])) → b = bI (decide (wrd t W 4 = bytS.getD 2 [])) → B_X8_newState_200 (nI y) a b R = kO (stK c nm t W) R (fun q => H_X8_newState_215 100 (nI q.1) (bI q.2.1) (bI q.2.2) 0 R) := by
                  intro a b z1 ea eb
                  unfold B_X8_newState_200
                  rw [hC.2.1, stK_y z1, z5]
                  by_cases z7 : cN c = 14
                  · rw [z7, if_pos (show nI 14 = 14 from rfl), stP_14 (by omega) (by omega)]; rfl
                  · rw [if_neg (show ¬ nI (cN c) = 14 from fun q => z7 (nI_inj (b := 14) (by omega) (by omega) q)), stP_ok (by omega) (by omega), kO_3, ea, eb]
                by_cases z : W.length = 5
                · have e5 : ∀ P : Prop, [Decidable P] → bI (decide (W.length = 5 ∧ P)) = bI (decide P) := fun P _ => bI_dec ⟨fun q => q.2, fun q => ⟨z, q⟩⟩
                  rw [if_pos (show nI W.length = 5 by rw [z]; rfl), e5, e5]
                  by_cases a : wrd t W 4 = bytS.getD 1 []
                  · rw [if_neg (by rw [decide_eq_true a]; decide)]
                    exact e200 _ _ ⟨Or.inr ⟨z, Or.inl a⟩, z2, z3, z4⟩ rfl rfl
                  · rw [if_pos (by rw [decide_eq_false a]; rfl)]
                    by_cases b : wrd t W 4 = bytS.getD 2 []
                    · rw [if_neg (by rw [decide_eq_true b]; decide)]
                      exact e200 _ _ ⟨Or.inr ⟨z, Or.inr b⟩, z2, z3, z4⟩ rfl rfl
                    · rw [if_pos (by rw [decide_eq_false b]; rfl), stK_n (fun q => ?_)]
                      · rfl
                      · rcases q.1 with q | ⟨-, q | q⟩
                        · omega
                        · exact a q
                        · exact b q
                · have z4' : W.length = 4 := by omega
                  have w4 : wrd t W 4 = [] := wrd_none (by omega)
                  rw [if_neg (show ¬ nI W.length = 5 from fun q => z (nI_inj (b := 5) (by omega) (by omega) q))]
                  refine e200 _ _ ⟨Or.inl z4', z2, z3, z4⟩ ?_ ?_
                  · rw [w4, decide_eq_false (fun q => z q.1)]; decide
                  · rw [w4, decide_eq_false (fun q => z q.1)]; decide
          · rw [decide_eq_false z2, if_pos (by decide), stK_n (fun q => z2 q.2.1)]
            rfl
