/-! The line that makes a rule, in the reference. -/
def ruH (t : Nat → Int32) (W : List (Nat × Nat)) : Nat := if wrd t W 6 = bytS.getD 10 [] then 1 else if wrd t W 6 = bytS.getD 9 [] then 2 else 0
theorem ruH_0 {t : Nat → Int32} {W : List (Nat × Nat)} : (ruH t W = 0) ↔ ¬ ruQ t W := by
  unfold ruH ruQ
  by_cases a : wrd t W 6 = bytS.getD 10 []
  · rw [if_pos a]; exact ⟨fun q => (by cases q), fun q => absurd (Or.inr a) q⟩
  · rw [if_neg a]
    by_cases b : wrd t W 6 = bytS.getD 9 []
    · rw [if_pos b]; exact ⟨fun q => (by cases q), fun q => absurd (Or.inl b) q⟩
    · rw [if_neg b]; exact ⟨fun _ q => q.elim b a, fun _ => rfl⟩
theorem ruQ_len {t : Nat → Int32} {W : List (Nat × Nat)} (h : ruQ t W) : 6 < W.length := by
  rcases Nat.lt_or_ge 6 W.length with q | q
  · exact q
  · unfold ruQ at h
    rw [wrd_none q] at h
    rcases h with h | h
    · exact absurd h (by decide)
    · exact absurd h (by decide)
theorem ruE_len {t : Nat → Int32} {W : List (Nat × Nat)} (h : ruE t W (ruB t W)) : W.length = 6 ∨ W.length = 8 ∨ W.length = 10 := by
  rcases ruB_68 t W with x | x <;> rw [x] at h <;> rcases h with h | h <;> omega
theorem r_23 {R : Mem} {c : Ch} {nm : Nat → List Int32} {u : Ru} {nE : Nat} {en : Nat → List Int32} {t : Nat → Int32} {W : List (Nat × Nat)} {len : Nat} (hC : CD R c) (hok : nOK (cN c) nm) (hN : ∀ s, s < cN c → ∀ i, i < 4 → R 4 (4 * s + i) = (nm s).getD i 0) (hu : rN u ≤ 20) (h1 : R 0 15 = nI (rN u)) (h2 : R 0 14 = nI nE) (hE : nE ≤ 6) (hok2 : nOK nE en) (hN2 : ∀ e, e < nE → ∀ i, i < 4 → R 11 (4 * e + i) = (en e).getD i 0) (h : PR R t W len) (hL : W.length = 6 ∨ W.length = 8 ∨ W.length = 10) : B_X8_newRule_23 (nI W.length) R = kO (ruK c nm u nE en t W) R (fun q => B_X8_newRule_294 (nI q.1) (nI q.2.1) (nI (ruH t W)) (nI q.2.2) (nI (ruB t W)) (bI (decide (ruB t W < W.length))) (oI (fnA en (wrd t W 1) nE 0)) R) := by
  have h14 := hC.1.n14
  have h25 := h.1.1
  have hL6 : 6 ≤ W.length := by omega
  have gs : ∀ k, k < W.length → F_X8_stateOf (nI k) R = some (oI (fnA nm (wrd t W k) (cN c) 0)) := fun k hk => g_stateOf h14 h hk hC.2.1 hok hN
  have hb68 := ruB_68 t W
  unfold B_X8_newRule_23
  rw [show F_X8_isWord 1 4 R = _ from g_isWord h (k := 1) (most := 4) (by omega) (by omega), bd_some]
  by_cases z1 : isL (wrd t W 1) 4 = true
  · have hw1 := isL_spec z1
    rw [z1, if_neg (by decide), show F_X8_says 2 102 114 111 109 0 0 R = _ from g_says5 h (k := 2) (by omega) 7 (by decide) (by decide), bd_some]
    by_cases z2 : wrd t W 2 = bytS.getD 7 []
    · rw [decide_eq_true z2, if_neg (by decide), show F_X8_says 4 116 111 0 0 0 0 R = _ from g_says5 h (k := 4) (by omega) 8 (by decide) (by decide), bd_some]
      by_cases z3 : wrd t W 4 = bytS.getD 8 []
      · rw [decide_eq_true z3, if_neg (by decide), show F_X8_stateOf 3 R = _ from gs 3 (by omega), bd_some, show F_X8_stateOf 5 R = _ from gs 5 (by omega), bd_some]
        have e169 : ∀ x y : Int32, (if nI W.length ≤ 6 then B_X8_newRule_169 (nI W.length) x y 0 0 R else bd (F_X8_says 6 105 102 0 0 0 0 R) fun r_11 => (if r_11 = 0 then bd (F_X8_says 6 117 110 108 101 115 115 R) fun r_13 => (if r_13 = 0 then B_X8_newRule_149 (nI W.length) x y R else bd (F_X8_length 6 R) fun r_15 => (if r_15 = 6 then B_X8_newRule_150 (nI W.length) x y 2 R else B_X8_newRule_149 (nI W.length) x y R)) else B_X8_newRule_150 (nI W.length) x y 1 R)) = B_X8_newRule_181 (nI W.length) x y (nI (ruH t W)) (oI (ruA c nm t W)) (nI (ruB t W)) R := by
          intro x y
          have k1 : ∀ (v : Nat) (o : Option Nat), v = ruH t W → o = ruA c nm t W → B_X8_newRule_169 (nI W.length) x y (nI v) (oI o) R = B_X8_newRule_181 (nI W.length) x y (nI (ruH t W)) (oI (ruA c nm t W)) (nI (ruB t W)) R := by
            intro v o hv ho
            have hv3 : v < 2 ^ 31 := by rw [hv]; unfold ruH; split <;> (try split) <;> omega
            unfold B_X8_newRule_169
            rw [ho]
            by_cases q : v = 0
            · have q2 := ruH_0.mp (hv ▸ q)
              rw [if_pos (by rw [nI_le0 hv3]; exact q), hv, show ruB t W = 6 from if_neg q2]; rfl
            · have q2 : ruQ t W := Classical.byContradiction fun w => q (hv ▸ ruH_0.mpr w)
              rw [if_neg (by rw [nI_le0 hv3]; exact q), hv, show ruB t W = 8 from if_pos q2]; rfl
          by_cases l6 : W.length ≤ 6
          · rw [if_pos (show nI W.length ≤ 6 from nI_le (b := 6) l6 (by omega))]
            have q2 : ¬ ruQ t W := fun w => by have := ruQ_len w; omega
            exact k1 0 (some 0) (ruH_0.mpr q2).symm (show some 0 = ruA c nm t W from (if_neg q2).symm)
          · have hk6 : 6 < W.length := by omega
            have k150 : ∀ v : Nat, 0 < v → v < 3 → v = ruH t W → B_X8_newRule_150 (nI W.length) x y (nI v) R = B_X8_newRule_181 (nI W.length) x y (nI (ruH t W)) (oI (ruA c nm t W)) (nI (ruB t W)) R := by
              intro v v0 v3 hv
              have q2 : ruQ t W := Classical.byContradiction fun w => by have := ruH_0.mpr w; omega
              unfold B_X8_newRule_150 B_X8_newRule_167
              rw [if_neg (show ¬ nI v ≤ 0 by rw [nI_le0 (by omega)]; omega), show F_X8_stateOf 7 R = _ from gs 7 (by omega), bd_some]
              exact k1 v _ hv (show _ = ruA c nm t W from (if_pos q2).symm)
            have k149 : ¬ ruQ t W → B_X8_newRule_149 (nI W.length) x y R = B_X8_newRule_181 (nI W.length) x y (nI (ruH t W)) (oI (ruA c nm t W)) (nI (ruB t W)) R := by
              intro q2
              unfold B_X8_newRule_149 B_X8_newRule_150 B_X8_newRule_167
              rw [if_pos (by decide)]
              exact k1 0 (some 0) (ruH_0.mpr q2).symm (show some 0 = ruA c nm t W from (if_neg q2).symm)
            rw [if_neg (show ¬ nI W.length ≤ 6 from nI_ge (a := 6) hk6 (by omega)), show F_X8_says 6 105 102 0 0 0 0 R = _ from g_says5 h (k := 6) hk6 10 (by decide) (by decide), bd_some]
            by_cases q10 : wrd t W 6 = bytS.getD 10 []
            · rw [decide_eq_true q10, if_neg (by decide)]
              exact k150 1 (by omega) (by omega) (show 1 = ruH t W from (if_pos q10).symm)
            · rw [decide_eq_false q10, if_pos (by decide), show F_X8_says 6 117 110 108 101 115 115 R = _ from g_says h (k := 6) hk6 117 110 108 101 115 115, bd_some]
              have e6 : (sy (wrd t W 6) 117 110 108 101 115 115 ∧ (wrd t W 6).length = 6) ↔ wrd t W 6 = bytS.getD 9 [] := sy_6 (tx := bytS.getD 9 []) (wrd_nz h.1 (k := 6)) (byt_nz 9 (by decide)) (by decide)
              by_cases q9 : wrd t W 6 = bytS.getD 9 []
              · have y2 := e6.mpr q9
                rw [decide_eq_true y2.1, if_neg (by decide), show F_X8_length 6 R = _ from g_length h (k := 6) hk6, bd_some, y2.2, if_pos (show nI 6 = 6 from rfl)]
                exact k150 2 (by omega) (by omega) (show 2 = ruH t W from ((if_neg q10).trans (if_pos q9)).symm)
              · have q2 : ¬ ruQ t W := fun w => w.elim q9 q10
                by_cases a1 : sy (wrd t W 6) 117 110 108 101 115 115
                · have hl := wrd_50 h.1 (k := 6)
                  rw [decide_eq_true a1, if_neg (by decide), show F_X8_length 6 R = _ from g_length h (k := 6) hk6, bd_some, if_neg (show ¬ nI (wrd t W 6).length = 6 from fun w => q9 (e6.mp ⟨a1, nI_inj (b := 6) (by omega) (by omega) w⟩))]
                  exact k149 q2
                · rw [decide_eq_false a1, if_pos (by decide)]
                  exact k149 q2
        rw [e169]
        unfold B_X8_newRule_181 B_X8_newRule_222
        have hbq : ruQ t W → ruB t W = 8 ∧ 8 ≤ W.length := fun q => ⟨if_pos q, by have := ruQ_len q; omega⟩
        have hbn : ruB t W ≤ W.length := by
          by_cases q : ruQ t W
          · have := hbq q; omega
          · rw [show ruB t W = 6 from if_neg q]; omega
        have e223 : ∀ x y : Int32, (if nI W.length ≤ nI (ruB t W) then B_X8_newRule_223 (nI W.length) x y (nI (ruH t W)) (oI (ruA c nm t W)) (nI (ruB t W)) 0 R else bd (F_X8_says (nI (ruB t W)) 100 111 0 0 0 0 R) fun r_1 => (if r_1 = 0 then B_X8_newRule_223 (nI W.length) x y (nI (ruH t W)) (oI (ruA c nm t W)) (nI (ruB t W)) 0 R else bd (F_X8_isWord (nI (ruB t W) + 1) 3 R) fun r_3 => (if r_3 = 0 then B_X8_newRule_223 (nI W.length) x y (nI (ruH t W)) (oI (ruA c nm t W)) (nI (ruB t W)) 0 R else B_X8_newRule_223 (nI W.length) x y (nI (ruH t W)) (oI (ruA c nm t W)) (nI (ruB t W)) 1 R))) = B_X8_newRule_223 (nI W.length) x y (nI (ruH t W)) (oI (ruA c nm t W)) (nI (ruB t W)) (bI (decide (ruB t W < W.length ∧ wrd t W (ruB t W) = bytS.getD 11 [] ∧ isL (wrd t W (ruB t W + 1)) 3 = true))) R := by
          intro x y
          by_cases l : ruB t W < W.length
          · rw [if_neg (nI_ge l (by omega)), show F_X8_says (nI (ruB t W)) 100 111 0 0 0 0 R = _ from g_says5 h l 11 (by decide) (by decide), bd_some]
            by_cases a : wrd t W (ruB t W) = bytS.getD 11 []
            · rw [show bI (decide (wrd t W (ruB t W) = bytS.getD 11 [])) = 1 by rw [decide_eq_true a]; rfl, if_neg (by decide), show nI (ruB t W) + 1 = nI (ruB t W + 1) from nI_1 _, show F_X8_isWord (nI (ruB t W + 1)) 3 R = _ from g_isWord h (k := ruB t W + 1) (most := 3) (by omega) (by omega), bd_some]
              by_cases b : isL (wrd t W (ruB t W + 1)) 3 = true
              · rw [show bI (isL (wrd t W (ruB t W + 1)) 3) = 1 by rw [b]; rfl, if_neg (by decide), decide_eq_true (show ruB t W < W.length ∧ wrd t W (ruB t W) = bytS.getD 11 [] ∧ isL (wrd t W (ruB t W + 1)) 3 = true from ⟨l, a, b⟩)]
                rfl
              · rw [show bI (isL (wrd t W (ruB t W + 1)) 3) = 0 by rw [Bool.eq_false_iff.mpr b]; rfl, if_pos rfl, decide_eq_false (show ¬ (ruB t W < W.length ∧ wrd t W (ruB t W) = bytS.getD 11 [] ∧ isL (wrd t W (ruB t W + 1)) 3 = true) from fun q => b q.2.2)]
                rfl
            · rw [show bI (decide (wrd t W (ruB t W) = bytS.getD 11 [])) = 0 by rw [decide_eq_false a]; rfl, if_pos rfl, decide_eq_false (show ¬ (ruB t W < W.length ∧ wrd t W (ruB t W) = bytS.getD 11 [] ∧ isL (wrd t W (ruB t W + 1)) 3 = true) from fun q => a q.2.1)]
              rfl
          · rw [if_pos (nI_le (by omega) (by omega)), decide_eq_false (show ¬ (ruB t W < W.length ∧ wrd t W (ruB t W) = bytS.getD 11 [] ∧ isL (wrd t W (ruB t W + 1)) 3 = true) from fun q => l q.1)]
            rfl
        rw [e223]
        unfold B_X8_newRule_223
        cases o3 : fnA nm (wrd t W 3) (cN c) 0 with
        | none => rw [oI_n, if_pos (by decide), ruK_e (by rw [o3, ruP_n3])]; rfl
        | some fr =>
          obtain ⟨a1, a2⟩ := fn_31 h14 o3
          rw [oI_s]
          rcases Nat.eq_zero_or_pos fr with f0 | f0
          · rw [if_pos (show nI fr < 1 from nI_lt (b := 1) (by omega) (by omega)), ruK_e (by rw [o3, f0, ruP_03])]; rfl
          rw [if_neg (show ¬ nI fr < 1 from nI_nlt (b := 1) (by omega) (by omega))]
          cases o5 : fnA nm (wrd t W 5) (cN c) 0 with
          | none => rw [oI_n, if_pos (by decide), ruK_e (by rw [o5, ruP_n5])]; rfl
          | some to =>
            obtain ⟨b1, b2⟩ := fn_31 h14 o5
            rw [oI_s]
            rcases Nat.eq_zero_or_pos to with t0 | t0
            · rw [if_pos (show nI to < 1 from nI_lt (b := 1) (by omega) (by omega)), ruK_e (by rw [o5, t0, ruP_05])]; rfl
            rw [if_neg (show ¬ nI to < 1 from nI_nlt (b := 1) (by omega) (by omega))]
            cases oA : ruA c nm t W with
            | none => rw [oI_n, if_pos (by decide), ruK_e (by rw [oA, ruP_nA])]; rfl
            | some q =>
              have hq : q < 2 ^ 31 := by
                unfold ruA at oA
                by_cases x : ruQ t W
                · rw [if_pos x] at oA; exact (fn_31 h14 oA).2
                · rw [if_neg x] at oA; cases oA; decide
              rw [oI_s, if_neg (nI_lt0 hq)]
              have e251 : ruE t W (ruB t W) → ∀ D : Int32, B_X8_newRule_251 (nI W.length) (nI fr) (nI to) (nI (ruH t W)) (nI q) (nI (ruB t W)) D R = kO (ruK c nm u nE en t W) R (fun q => B_X8_newRule_294 (nI q.1) (nI q.2.1) (nI (ruH t W)) (nI q.2.2) (nI (ruB t W)) D (oI (fnA en (wrd t W 1) nE 0)) R) := by
                intro zE D
                have hl2 : W.length ≤ ruB t W + 2 := by rcases zE with x | x <;> omega
                unfold B_X8_newRule_251
                rw [show nI (ruB t W) + 2 = nI (ruB t W + 2) from nI_add _ 2, if_pos (nI_le hl2 (by omega)), show F_X8_eventOf 1 R = _ from g_eventOf hE h (k := 1) (by omega) hw1.2.1 h2 hok2 hN2, bd_some, h1, h2, ruK_y ⟨z1, z2, z3, zE⟩, o3, o5, oA]
                by_cases m : rN u = 20
                · rw [m, if_pos (show nI 20 = 20 from rfl), ruP_f f0 t0 (fun x => by have := x.1; omega), kO_2]
                · rw [if_neg (show ¬ nI (rN u) = 20 from fun x => m (nI_inj (b := 20) (by omega) (by omega) x))]
                  cases eo : fnA en (wrd t W 1) nE 0 with
                  | some e =>
                    rw [oI_s, if_pos (nI_0le (fn_31 (show nE ≤ 14 by omega) eo).2), ruP_y f0 t0 ⟨by omega, Or.inr (fun x => by cases x)⟩, kO_3]
                  | none =>
                    rw [oI_n, if_neg (by decide)]
                    by_cases m2 : nE = 6
                    · rw [m2, if_pos (show nI 6 = 6 from rfl), ruP_f f0 t0 (fun x => by rcases x.2 with y | y; omega; exact y rfl), kO_2]
                    · rw [if_neg (show ¬ nI nE = 6 from fun x => m2 (nI_inj (b := 6) (by omega) (by omega) x)), ruP_y f0 t0 ⟨by omega, Or.inl (by omega)⟩, kO_3]
              by_cases zE : ruE t W (ruB t W)
              · have ed : bI (decide (ruB t W < W.length ∧ wrd t W (ruB t W) = bytS.getD 11 [] ∧ isL (wrd t W (ruB t W + 1)) 3 = true)) = bI (decide (ruB t W < W.length)) := bI_dec ⟨fun x => x.1, fun x => by
                  rcases zE with y | y
                  · exact ⟨x, y.1, y.2.2⟩
                  · omega⟩
                rw [ed]
                by_cases l : ruB t W < W.length
                · rw [if_neg (nI_ge l (by omega)), if_neg (by rw [decide_eq_true l]; decide), e251 zE]
                · rw [if_pos (nI_le (by omega) (by omega)), e251 zE]
              · rw [ruK_n (fun x => zE x.2.2.2)]
                have hb2 : ¬ W.length = ruB t W := fun x => zE (Or.inr ⟨fun y => by rw [wrd_none (by omega)] at y; exact absurd y (by decide), x⟩)
                rw [if_neg (nI_ge (by omega) (by omega))]
                by_cases a : wrd t W (ruB t W) = bytS.getD 11 [] ∧ isL (wrd t W (ruB t W + 1)) 3 = true
                · rw [if_neg (by rw [decide_eq_true (show ruB t W < W.length ∧ wrd t W (ruB t W) = bytS.getD 11 [] ∧ isL (wrd t W (ruB t W + 1)) 3 = true from ⟨by omega, a⟩)]; decide)]
                  unfold B_X8_newRule_251
                  have hb3 : ¬ W.length = ruB t W + 2 := fun x => zE (Or.inl ⟨a.1, x, a.2⟩)
                  rw [show nI (ruB t W) + 2 = nI (ruB t W + 2) from nI_add _ 2, if_neg (nI_ge (by omega) (by omega))]
                  rfl
                · rw [if_pos (by rw [decide_eq_false (show ¬ (ruB t W < W.length ∧ wrd t W (ruB t W) = bytS.getD 11 [] ∧ isL (wrd t W (ruB t W + 1)) 3 = true) from fun x => a x.2)]; rfl)]
                  rfl
      · rw [decide_eq_false z3, if_pos (by decide), ruK_n (fun x => z3 x.2.2.1)]; rfl
    · rw [decide_eq_false z2, if_pos (by decide), ruK_n (fun x => z2 x.2.1)]; rfl
  · rw [if_pos (by rw [Bool.eq_false_iff.mpr z1]; rfl), ruK_n (fun x => z1 x.1)]; rfl
theorem r_rule {R : Mem} {c : Ch} {nm : Nat → List Int32} {u : Ru} {nE : Nat} {en : Nat → List Int32} {t : Nat → Int32} {W : List (Nat × Nat)} {len : Nat} (hC : CD R c) (hok : nOK (cN c) nm) (hN : ∀ s, s < cN c → ∀ i, i < 4 → R 4 (4 * s + i) = (nm s).getD i 0) (hu : rN u ≤ 20) (h1 : R 0 15 = nI (rN u)) (h2 : R 0 14 = nI nE) (hE : nE ≤ 6) (hok2 : nOK nE en) (hN2 : ∀ e, e < nE → ∀ i, i < 4 → R 11 (4 * e + i) = (en e).getD i 0) (h : PR R t W len) : F_X8_newRule R = kO (ruK c nm u nE en t W) R (fun q => B_X8_newRule_294 (nI q.1) (nI q.2.1) (nI (ruH t W)) (nI q.2.2) (nI (ruB t W)) (bI (decide (ruB t W < W.length))) (oI (fnA en (wrd t W 1) nE 0)) R) := by
  have h25 := h.1.1
  unfold F_X8_newRule
  rw [h.2.1, nm_eq]
  by_cases l6 : W.length = 6
  · rw [if_pos (show nI W.length = 6 by rw [l6]; rfl)]
    exact r_23 hC hok hN hu h1 h2 hE hok2 hN2 h (Or.inl l6)
  · rw [if_neg (show ¬ nI W.length = 6 from fun x => l6 (nI_inj (b := 6) (by omega) (by omega) x))]
    by_cases l8 : W.length = 8
    · rw [if_pos (show nI W.length = 8 by rw [l8]; rfl)]
      exact r_23 hC hok hN hu h1 h2 hE hok2 hN2 h (Or.inr (Or.inl l8))
    · rw [if_neg (show ¬ nI W.length = 8 from fun x => l8 (nI_inj (b := 8) (by omega) (by omega) x))]
      by_cases l10 : W.length = 10
      · rw [if_pos (show nI W.length = 10 by rw [l10]; rfl)]
        exact r_23 hC hok hN hu h1 h2 hE hok2 hN2 h (Or.inr (Or.inr l10))
      · rw [if_neg (show ¬ nI W.length = 10 from fun x => l10 (nI_inj (b := 10) (by omega) (by omega) x)), ruK_n (fun x => by have := ruE_len x.2.2.2; omega)]
        rfl
