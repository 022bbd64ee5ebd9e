/-! The line that makes a rule: what it asks. -/
abbrev ruQ (t : Nat → Int32) (W : List (Nat × Nat)) : Prop := wrd t W 6 = bytS.getD 9 [] ∨ wrd t W 6 = bytS.getD 10 []
def ruB (t : Nat → Int32) (W : List (Nat × Nat)) : Nat := if ruQ t W then 8 else 6
def ruA (c : Ch) (nm : Nat → List Int32) (t : Nat → Int32) (W : List (Nat × Nat)) : Option Nat := if ruQ t W then fnA nm (wrd t W 7) (cN c) 0 else some 0
abbrev ruE (t : Nat → Int32) (W : List (Nat × Nat)) (b : Nat) : Prop := (wrd t W b = bytS.getD 11 [] ∧ W.length = b + 2 ∧ isL (wrd t W (b + 1)) 3 = true) ∨ (¬ wrd t W b = bytS.getD 11 [] ∧ W.length = b)
abbrev ruC (t : Nat → Int32) (W : List (Nat × Nat)) : Prop := isL (wrd t W 1) 4 = true ∧ wrd t W 2 = bytS.getD 7 [] ∧ wrd t W 4 = bytS.getD 8 [] ∧ ruE t W (ruB t W)
abbrev ruM (u : Ru) (nE : Nat) (e : Option Nat) : Prop := rN u < 20 ∧ (nE < 6 ∨ ¬ e = none)
def ruP (u : Ru) (nE : Nat) (e : Option Nat) (o3 o5 oA : Option Nat) : Option (Option (Nat × Nat × Nat)) := match o3, o5, oA with
  | some fr, some to, some q => if 0 < fr ∧ 0 < to then (if ruM u nE e then some (some (fr, to, q)) else some none) else none
  | _, _, _ => none
theorem ruP_n3 {u : Ru} {nE : Nat} {e o5 oA : Option Nat} : ruP u nE e none o5 oA = none := rfl
theorem ruP_n5 {u : Ru} {nE : Nat} {e o3 oA : Option Nat} : ruP u nE e o3 none oA = none := by cases o3 <;> rfl
theorem ruP_nA {u : Ru} {nE : Nat} {e o3 o5 : Option Nat} : ruP u nE e o3 o5 none = none := by cases o3 <;> cases o5 <;> rfl
theorem ruP_03 {u : Ru} {nE : Nat} {e o5 oA : Option Nat} : ruP u nE e (some 0) o5 oA = none := by
  cases o5 with
  | none => rfl
  | some y => cases oA with
    | none => rfl
    | some q => exact (show (if 0 < 0 ∧ 0 < y then (if ruM u nE e then some (some (0, y, q)) else some none) else none) = none from if_neg (fun z => absurd z.1 (by decide)))
theorem ruP_05 {u : Ru} {nE : Nat} {e o3 oA : Option Nat} : ruP u nE e o3 (some 0) oA = none := by
  cases o3 with
  | none => rfl
  | some y => cases oA with
    | none => rfl
    | some q => exact (show (if 0 < y ∧ 0 < 0 then (if ruM u nE e then some (some (y, 0, q)) else some none) else none) = none from if_neg (fun z => absurd z.2 (by decide)))
theorem ruP_y {u : Ru} {nE : Nat} {e : Option Nat} {fr to q : Nat} (h1 : 0 < fr) (h2 : 0 < to) (h : ruM u nE e) : ruP u nE e (some fr) (some to) (some q) = some (some (fr, to, q)) := (if_pos ⟨h1, h2⟩).trans (if_pos h)
theorem ruP_f {u : Ru} {nE : Nat} {e : Option Nat} {fr to q : Nat} (h1 : 0 < fr) (h2 : 0 < to) (h : ¬ ruM u nE e) : ruP u nE e (some fr) (some to) (some q) = some none := (if_pos ⟨h1, h2⟩).trans (if_neg h)
def ruK (c : Ch) (nm : Nat → List Int32) (u : Ru) (nE : Nat) (en : Nat → List Int32) (t : Nat → Int32) (W : List (Nat × Nat)) : Option (Option (Nat × Nat × Nat)) :=
  if ruC t W then ruP u nE (fnA en (wrd t W 1) nE 0) (fnA nm (wrd t W 3) (cN c) 0) (fnA nm (wrd t W 5) (cN c) 0) (ruA c nm t W) else none
theorem ruK_n {c : Ch} {nm : Nat → List Int32} {u : Ru} {nE : Nat} {en : Nat → List Int32} {t : Nat → Int32} {W : List (Nat × Nat)} (h : ¬ ruC t W) : ruK c nm u nE en t W = none := if_neg h
theorem ruK_y {c : Ch} {nm : Nat → List Int32} {u : Ru} {nE : Nat} {en : Nat → List Int32} {t : Nat → Int32} {W : List (Nat × Nat)} (h : ruC t W) : ruK c nm u nE en t W = ruP u nE (fnA en (wrd t W 1) nE 0) (fnA nm (wrd t W 3) (cN c) 0) (fnA nm (wrd t W 5) (cN c) 0) (ruA c nm t W) := if_pos h
theorem ruK_e {c : Ch} {nm : Nat → List Int32} {u : Ru} {nE : Nat} {en : Nat → List Int32} {t : Nat → Int32} {W : List (Nat × Nat)} (h : ruP u nE (fnA en (wrd t W 1) nE 0) (fnA nm (wrd t W 3) (cN c) 0) (fnA nm (wrd t W 5) (cN c) 0) (ruA c nm t W) = none) : ruK c nm u nE en t W = none := by
  by_cases q : ruC t W
  · rw [ruK_y q, h]
  · exact ruK_n q
theorem ruB_68 (t : Nat → Int32) (W : List (Nat × Nat)) : ruB t W = 6 ∨ ruB t W = 8 := by
  unfold ruB
  by_cases q : ruQ t W
  · rw [if_pos q]; exact Or.inr rfl
  · rw [if_neg q]; exact Or.inl rfl
theorem f_endOf {M : Mem} {t : Nat → Int32} {W : List (Nat × Nat)} {len b : Nat} (h : PC M t W len) (hb : b ≤ 8) : F_X2_isEndOfRule (nI b) M = some (bI (decide (ruE t W b))) := by
  have h25 := h.1.1
  unfold F_X2_isEndOfRule
  rw [f_says h 11 (by omega) (by decide), bd_some, f_words h, bd_some, bd_some]
  by_cases z : wrd t W b = bytS.getD 11 []
  · rw [decide_eq_true z, if_neg (by decide), show nI b + 2 = nI (b + 2) from nI_add b 2, show nI b + 1 = nI (b + 1) from nI_1 b]
    by_cases y : W.length = b + 2
    · rw [if_pos (by rw [y]), show F_X0_isLetters (nI (b + 1)) 3 M = _ from f_isLetters h (k := b + 1) (most := 3) (by omega) (by decide), bd_some]
      by_cases q : isL (wrd t W (b + 1)) 3 = true
      · rw [show bI (isL (wrd t W (b + 1)) 3) = 1 by rw [q]; rfl, if_neg (by decide), decide_eq_true (show ruE t W b from Or.inl ⟨z, y, q⟩)]; rfl
      · rw [show bI (isL (wrd t W (b + 1)) 3) = 0 by rw [Bool.eq_false_iff.mpr q]; rfl, if_pos rfl, decide_eq_false (show ¬ ruE t W b from fun w => ?_)]
        · rfl
        · rcases w with w | w
          · exact q w.2.2
          · exact w.1 z
    · rw [if_neg (fun q => y (nI_inj (by omega) (by omega) q)), decide_eq_false (fun w => ?_)]
      · rfl
      · rcases w with w | w
        · exact y w.2.1
        · exact w.1 z
  · rw [decide_eq_false z, if_pos (by decide)]
    by_cases y : W.length = b
    · rw [if_pos (by rw [y]), decide_eq_true (Or.inr ⟨z, y⟩)]; rfl
    · rw [if_neg (fun q => y (nI_inj (by omega) (by omega) q)), decide_eq_false (fun w => ?_)]
      · rfl
      · rcases w with w | w
        · exact z w.1
        · exact y w.2
theorem f_rHasRoom {M : Mem} {nE : Nat} {en : Nat → List Int32} {u : Ru} (hu : rN u ≤ 20) (h1 : M 18 8 = nI (rN u)) (h2 : M 18 9 = nI nE) (hE : nE ≤ 6) (hok : nOK nE en) (hN : ∀ e, e < nE → M 19 e = codeI (en e)) (w : List Int32) : F_X3_hasRoom (cdI w) M = some (bI (decide (ruM u nE (fnA en w nE 0)))) := by
  unfold F_X3_hasRoom B_X3_hasRoom_27
  rw [h1, h2]
  by_cases z : rN u < 20
  · rw [if_neg (show ¬ (20 : Int32) ≤ nI (rN u) from nI_ge (b := 20) z (by omega))]
    by_cases y : nE < 6
    · rw [if_pos (show nI nE < 6 from nI_lt (b := 6) y (by omega)), decide_eq_true ⟨z, Or.inl y⟩]; rfl
    · rw [if_neg (show ¬ nI nE < 6 from nI_nlt (b := 6) (by omega) (by omega)), f_findEvent hE h2 hok hN w, bd_some]
      cases q : fnA en w nE 0 with
      | none =>
        rw [oI_n, if_pos rfl, decide_eq_false (fun x => ?_)]
        · rfl
        · rcases x.2 with x | x
          · exact y x
          · exact x rfl
      | some e =>
        rw [oI_s, if_neg (nI_ne_m1 (fn_31 (show nE ≤ 14 by omega) q).2), decide_eq_true ⟨z, Or.inr (fun x => by cases x)⟩]
        rfl
  · rw [if_pos (show (20 : Int32) ≤ nI (rN u) from nI_le (a := 20) (by omega) (by omega)), decide_eq_false (fun x => z x.1)]
    rfl
theorem c_rule {M : Mem} {c : Ch} {nm : Nat → List Int32} {u : Ru} {nE : Nat} {en : Nat → List Int32} {t : Nat → Int32} {W : List (Nat × Nat)} {len : Nat} (hC : CC M c) (hok : nOK (cN c) nm) (hN : ∀ s, s < cN c → M 6 s = codeI (nm s)) (hu : rN u ≤ 20) (h1 : M 18 8 = nI (rN u)) (h2 : M 18 9 = nI nE) (hE : nE ≤ 6) (hok2 : nOK nE en) (hN2 : ∀ e, e < nE → M 19 e = codeI (en e)) (h : PC M t W len) : F_X2_readRule M = kO (ruK c nm u nE en t W) M (fun q => bd (F_X4_scopeOf (nI q.1) (nI q.2.1) M) fun r7 => B_X2_readRule_246 (nI (ruB t W)) (bI (decide (¬ wrd t W 6 = bytS.getD 9 []))) (nI q.2.2) r7 (nI q.2.1) (nI q.1) (cdI (wrd t W 1)) M) := by
  have h14 := hC.1.n14
  have h25 := h.1.1
  have ff : ∀ w, F_X4_find (cdI w) M = some (oI (fnA nm w (cN c) 0)) := fun w => f_find h14 hC.2.1 hok hN w
  have ff1 : F_X0_nameAt 1 M = some (cdI (wrd t W 1)) := f_nameAt h (k := 1) (by decide)
  unfold F_X2_readRule
  rw [show F_X0_nameAt 3 M = _ from f_nameAt h (k := 3) (by decide), bd_some, ff, bd_some, show F_X0_nameAt 5 M = _ from f_nameAt h (k := 5) (by decide), bd_some, ff, bd_some, ff1, bd_some]
  by_cases z1 : isL (wrd t W 1) 4 = true
  · have e1 : ¬ cdI (wrd t W 1) = -1 := fun q => by
      rw [cdI_L z1] at q
      obtain ⟨x, x1, x2, -⟩ := code_lt z1
      rw [x2] at q
      exact nI_ne_m1 (by omega) q
    rw [if_neg e1, show F_X0_says 7 2 M = _ from f_says h (k := 2) 7 (by decide) (by decide), bd_some]
    by_cases z2 : wrd t W 2 = bytS.getD 7 []
    · rw [decide_eq_true z2, if_neg (by decide), show F_X0_says 8 4 M = _ from f_says h (k := 4) 8 (by decide) (by decide), bd_some]
      by_cases z3 : wrd t W 4 = bytS.getD 8 []
      · rw [decide_eq_true z3, if_neg (by decide)]
        cases o3 : fnA nm (wrd t W 3) (cN c) 0 with
        | none => rw [oI_n, if_pos rfl, ruK_e (by rw [o3, ruP_n3])]; rfl
        | some fr =>
          obtain ⟨a1, a2⟩ := fn_31 h14 o3
          rw [oI_s, if_neg (nI_ne_m1 a2)]
          rcases Nat.eq_zero_or_pos fr with f0 | f0
          · rw [if_pos (by rw [f0]; rfl), ruK_e (by rw [o3, f0, ruP_03])]; rfl
          rw [if_neg (nI_ne0 f0 a2)]
          cases o5 : fnA nm (wrd t W 5) (cN c) 0 with
          | none => rw [oI_n, if_pos rfl, ruK_e (by rw [o5, ruP_n5])]; rfl
          | some to =>
            obtain ⟨b1, b2⟩ := fn_31 h14 o5
            rw [oI_s, if_neg (nI_ne_m1 b2)]
            rcases Nat.eq_zero_or_pos to with t0 | t0
            · rw [if_pos (by rw [t0]; rfl), ruK_e (by rw [o5, t0, ruP_05])]; rfl
            rw [if_neg (nI_ne0 t0 b2)]
            have e6 : (bd (F_X0_says 9 6 M) fun r_15 => (if r_15 = 0 then bd (F_X0_says 10 6 M) fun r_17 => (if r_17 = 0 then B_X2_readRule_127 (nI fr) (nI to) r_15 0 M else B_X2_readRule_122 (nI fr) (nI to) r_15 M) else B_X2_readRule_122 (nI fr) (nI to) r_15 M)) = B_X2_readRule_168 (nI fr) (nI to) (bI (decide (wrd t W 6 = bytS.getD 9 []))) (oI (ruA c nm t W)) (nI (ruB t W)) M := by
              have e127 : ∀ y : Bool, y = decide (ruQ t W) → B_X2_readRule_127 (nI fr) (nI to) (bI (decide (wrd t W 6 = bytS.getD 9 []))) (bI y) M = B_X2_readRule_168 (nI fr) (nI to) (bI (decide (wrd t W 6 = bytS.getD 9 []))) (oI (ruA c nm t W)) (nI (ruB t W)) M := by
                intro y hy
                unfold B_X2_readRule_127 B_X2_readRule_154 ruA ruB
                by_cases q : ruQ t W
                · rw [hy, decide_eq_true q, if_neg (by decide), show F_X0_nameAt 7 M = _ from f_nameAt h (k := 7) (by decide), bd_some, ff, bd_some, if_neg (by decide), if_pos q, if_pos q]
                  rfl
                · rw [hy, decide_eq_false q, if_pos (by decide), if_pos (by decide), if_neg q, if_neg q]
                  rfl
              rw [show F_X0_says 9 6 M = _ from f_says h (k := 6) 9 (by decide) (by decide), bd_some]
              unfold B_X2_readRule_122
              by_cases q9 : wrd t W 6 = bytS.getD 9 []
              · have := e127 true (decide_eq_true (Or.inl q9)).symm
                rw [decide_eq_true q9] at this ⊢
                rw [if_neg (by decide)]
                exact this
              · rw [show bI (decide (wrd t W 6 = bytS.getD 9 [])) = 0 by rw [decide_eq_false q9]; rfl, if_pos rfl, show F_X0_says 10 6 M = _ from f_says h (k := 6) 10 (by decide) (by decide), bd_some]
                by_cases q10 : wrd t W 6 = bytS.getD 10 []
                · have := e127 true (decide_eq_true (Or.inr q10)).symm
                  rw [show bI (decide (wrd t W 6 = bytS.getD 9 [])) = 0 by rw [decide_eq_false q9]; rfl] at this
                  rw [decide_eq_true q10, if_neg (by decide)]
                  exact this
                · have := e127 false (decide_eq_false (fun x => by rcases x with x | x <;> contradiction)).symm
                  rw [show bI (decide (wrd t W 6 = bytS.getD 9 [])) = 0 by rw [decide_eq_false q9]; rfl] at this
                  rw [decide_eq_false q10, if_pos (by decide)]
                  exact this
            rw [e6]
            unfold B_X2_readRule_168
            cases oA : ruA c nm t W with
            | none => rw [oI_n, if_pos rfl, ruK_e (by rw [oA, ruP_nA])]; rfl
            | some q =>
              have hq : q < 2 ^ 31 := by
                unfold ruA at oA
                by_cases x : ruQ t W
                · rw [if_pos x] at oA; exact (fn_31 h14 oA).2
                · rw [if_neg x] at oA; cases oA; decide
              have hb8 : ruB t W ≤ 8 := by rcases ruB_68 t W with x | x <;> omega
              rw [oI_s, if_neg (nI_ne_m1 hq), f_endOf h hb8, bd_some]
              by_cases zE : ruE t W (ruB t W)
              · rw [decide_eq_true zE, if_neg (by decide), ff1, bd_some, f_rHasRoom hu h1 h2 hE hok2 hN2, bd_some, ruK_y ⟨z1, z2, z3, zE⟩, o3, o5, oA]
                by_cases zM : ruM u nE (fnA en (wrd t W 1) nE 0)
                · rw [decide_eq_true zM, if_neg (by decide), ruP_y f0 t0 zM, kO_3]
                  simp only [bd_some]
                  congr 1
                  funext r7
                  by_cases q9 : wrd t W 6 = bytS.getD 9 []
                  · rw [if_neg (by rw [decide_eq_true q9]; decide), decide_eq_false (fun x => x q9)]; rfl
                  · rw [if_pos (by rw [decide_eq_false q9]; rfl), decide_eq_true q9]; rfl
                · rw [decide_eq_false zM, if_pos (by decide), ruP_f f0 t0 zM, kO_2]
              · rw [decide_eq_false zE, if_pos (by decide), ruK_n (fun x => zE x.2.2.2)]
                rfl
      · rw [decide_eq_false z3, if_pos (by decide), ruK_n (fun x => z3 x.2.2.1)]; rfl
    · rw [decide_eq_false z2, if_pos (by decide), ruK_n (fun x => z2 x.2.1)]; rfl
  · rw [if_pos (by unfold cdI; rw [if_neg z1]), ruK_n (fun x => z1 x.1)]; rfl
