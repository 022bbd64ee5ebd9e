/-! The line that makes a rule, in both; any line. -/
def gU (u : Ru) (e fr to q : Nat) (a : Bool) (ms : List Int32) : Ru := (rN u + 1, up (rE u) (rN u) e, up (rF u) (rN u) fr, up (rT u) (rN u) to, up (rA u) (rN u) q, up (rW u) (rN u) a, up (rM u) (rN u) ms)
theorem gU_N {u : Ru} {e fr to q : Nat} {a : Bool} {ms : List Int32} : rN (gU u e fr to q a ms) = rN u + 1 := rfl
theorem gU_E {u : Ru} {e fr to q : Nat} {a : Bool} {ms : List Int32} : rE (gU u e fr to q a ms) = up (rE u) (rN u) e := rfl
theorem gU_F {u : Ru} {e fr to q : Nat} {a : Bool} {ms : List Int32} : rF (gU u e fr to q a ms) = up (rF u) (rN u) fr := rfl
theorem gU_T {u : Ru} {e fr to q : Nat} {a : Bool} {ms : List Int32} : rT (gU u e fr to q a ms) = up (rT u) (rN u) to := rfl
theorem gU_A {u : Ru} {e fr to q : Nat} {a : Bool} {ms : List Int32} : rA (gU u e fr to q a ms) = up (rA u) (rN u) q := rfl
theorem gU_W {u : Ru} {e fr to q : Nat} {a : Bool} {ms : List Int32} : rW (gU u e fr to q a ms) = up (rW u) (rN u) a := rfl
theorem gU_M {u : Ru} {e fr to q : Nat} {a : Bool} {ms : List Int32} : rM (gU u e fr to q a ms) = up (rM u) (rN u) ms := rfl
theorem ruP_inv {u : Ru} {nE : Nat} {e o3 o5 oA : Option Nat} {x : Nat × Nat × Nat} (h : ruP u nE e o3 o5 oA = some (some x)) : o3 = some x.1 ∧ o5 = some x.2.1 ∧ oA = some x.2.2 ∧ 0 < x.1 ∧ 0 < x.2.1 ∧ ruM u nE e := by
  cases o3 with
  | none => rw [ruP_n3] at h; cases h
  | some fr => cases o5 with
    | none => rw [ruP_n5] at h; cases h
    | some to => cases oA with
      | none => rw [ruP_nA] at h; cases h
      | some q =>
        by_cases z : 0 < fr ∧ 0 < to
        · by_cases y : ruM u nE e
          · rw [ruP_y z.1 z.2 y] at h; cases h; exact ⟨rfl, rfl, rfl, z.1, z.2, y⟩
          · rw [ruP_f z.1 z.2 y] at h; cases h
        · rw [show ruP u nE e (some fr) (some to) (some q) = none from if_neg z] at h; cases h
theorem ruE_ms {t : Nat → Int32} {W : List (Nat × Nat)} {b : Nat} (h : ruE t W b) : (wrd t W (b + 1)).length ≤ 3 ∧ (b < W.length → b + 1 < W.length) ∧ (¬ b < W.length → wrd t W (b + 1) = []) := by
  rcases h with h | h
  · exact ⟨(isL_spec h.2.2).2.1, fun _ => by omega, fun x => by omega⟩
  · have e : wrd t W (b + 1) = [] := wrd_none (by omega)
    exact ⟨by rw [e]; decide, fun x => by omega, fun _ => e⟩
theorem evN_lt {o : Option Nat} {nE : Nat} (h : ∀ e, o = some e → e < nE) : evN o nE < evE o nE := by
  cases o with
  | some e => exact h e rfl
  | none => exact Nat.lt_succ_self nE
theorem evE_le {o : Option Nat} {nE : Nat} : nE ≤ evE o nE := by
  cases o with
  | some e => exact Nat.le_refl _
  | none => exact Nat.le_succ _
theorem evE_6 {u : Ru} {o : Option Nat} {nE : Nat} (h : nE ≤ 6) (hM : ruM u nE o) : evE o nE ≤ 6 := by
  cases o with
  | some e => exact h
  | none => rcases hM.2 with x | x; exact x; exact absurd rfl x
theorem evM_ok {o : Option Nat} {nE : Nat} {en : Nat → List Int32} {w : List Int32} (h : nOK nE en) (hw : isL w 4 = true) : nOK (evE o nE) (evM o nE en w) := by
  cases o with
  | some e => exact h
  | none =>
    intro s hs
    have hs2 : s < nE + 1 := hs
    show isL (up en nE w s) 4 = true
    by_cases z : s = nE
    · rw [z, up_hit]; exact hw
    · rw [up_ne _ _ z]; exact h s (by omega)
theorem rs_rule {M R : Mem} {c : Ch} {nm em lm : Nat → List Int32} {u : Ru} {nE : Nat} {en : Nat → List Int32} {t : Nat → Int32} {W : List (Nat × Nat)} {len : Nat} (hB : BS M R c nm em lm u nE en) (hP : PC M t W len) (hR : PR R t W len) : RS (F_X2_readRule M) (F_X8_newRule R) M R := by
  obtain ⟨⟨bS, bC, bE⟩, ⟨bD, bR, bF⟩, hE6, ⟨n1, n2, n3⟩, ⟨v1, v2, v3⟩, ⟨z1, z2⟩, zE⟩ := hB
  have hC := bS.1
  have hc := hC.1
  have hD := bD.1
  have h14 := hc.n14
  have hu := bC.1.1
  have h25 := hP.1.1
  rw [c_rule hC n1 n2 hu bC.2.1 bE hE6 v1 v2 hP, r_rule hD n1 n3 hu bR.2.1 bF hE6 v1 v3 hR]
  by_cases q : ruC t W
  · rw [ruK_y q]
    cases zp : ruP u nE (fnA en (wrd t W 1) nE 0) (fnA nm (wrd t W 3) (cN c) 0) (fnA nm (wrd t W 5) (cN c) 0) (ruA c nm t W) with
    | none => exact Or.inl ⟨-1, Or.inl rfl, rfl, rfl⟩
    | some op =>
      cases op with
      | none => exact Or.inl ⟨-2, Or.inr rfl, rfl, rfl⟩
      | some x3 =>
        obtain ⟨fr, to, qa⟩ := x3
        obtain ⟨o3, o5, oA, f0, t0, hM⟩ := ruP_inv zp
        simp only at o3 o5 oA f0 t0
        rw [kO_3, kO_3]
        obtain ⟨a1, -⟩ := fn_31 h14 o3
        obtain ⟨b1, -⟩ := fn_31 h14 o5
        have hqa : qa < cN c := by
          unfold ruA at oA
          by_cases x : ruQ t W
          · rw [if_pos x] at oA; exact (fn_31 h14 oA).1
          · rw [if_neg x] at oA; cases oA; exact hc.1
        have hb8 : ruB t W ≤ 8 := by rcases ruB_68 t W with x | x <;> omega
        obtain ⟨ms3, msD, msD2⟩ := ruE_ms q.2.2.2
        have hLn := ruE_len q.2.2.2
        have hev : ∀ e, fnA en (wrd t W 1) nE 0 = some e → e < nE := fun e he => (fn_31 (show nE ≤ 14 by omega) he).1
        have hev2 : fnA en (wrd t W 1) nE 0 = none → nE < 6 := fun he => by
          rcases hM.2 with x | x
          · exact x
          · exact absurd he x
        have hevN := evN_lt hev
        have hE6' := evE_6 hE6 hM
        obtain ⟨M1, m0, m1, m2, m3, m4, m5, m6, m7, m8, m9, m10⟩ := f_rmake hu bC.2.1 bE hE6 v1 v2 q.1 hM (nI fr) (nI to) (nI (scp c fr to)) (nI qa) (decide (¬ wrd t W 6 = bytS.getD 9 []))
        have hP1 : PC M1 t W len := hP.keep (by rw [m10 1 (by omega)]) (m10 2 (by omega)) (m10 3 (by omega)) (m10 4 (by omega))
        obtain ⟨M', f1, f2, f3, f4, f5⟩ := f_addMarks (M := M1) (k := ruB t W + 1) (s := rN u) (ms := []) (o := 26) (rows := 20) (w := 3) (by omega) rfl rfl (by decide) (by decide) (by decide) hM.1 (by simp; omega) hP1 (by unfold MR; rw [m10 26 (by omega)]; exact bS.2.2.2.2.1) (MKs.nil (by rw [m10 (26 + 2) (by omega)]; exact z2 (rN u) (Nat.le_refl _) hM.1))
        rw [List.nil_append] at f2
        have mA : ∀ x, x ≠ 27 → x ≠ 28 → M' x = M1 x := fun x h1 h2 => f5 x (by simp only [List.mem_cons, List.not_mem_nil, or_false, not_or]; omega)
        have mB : ∀ x, (x < 18 ∨ 28 < x ∨ x = 26) → M' x = M x := fun x hx => by rw [mA x (by omega) (by omega), m10 x (by omega)]
        obtain ⟨R', r0, r1, r2, r3, r4, r5, r6, r7, r8, r9, r10, r11, r12, r13⟩ := b_294 (r := rN u) (b := ruB t W) (nE := nE) (en := en) (D := decide (ruB t W < W.length)) (o := fnA en (wrd t W 1) nE 0) hM.1 hb8 (by omega) ms3 hR bR.2.1 bF v3 (fun x => msD (of_decide_eq_true x)) (fun x => msD2 (of_decide_eq_false x)) (nI fr) (nI to) (nI (ruH t W)) (nI qa) hev hev2 hE6
        have okU : ruOK c (gU u (evN (fnA en (wrd t W 1) nE 0) nE) fr to qa (decide (¬ wrd t W 6 = bytS.getD 9 [])) (wrd t W (ruB t W + 1))) := by
          refine ⟨by rw [gU_N]; exact hM.1, fun r hr => ?_⟩
          rw [gU_N] at hr
          rw [gU_F, gU_T, gU_A, gU_E]
          by_cases z : r = rN u
          · rw [z, up_hit, up_hit, up_hit, up_hit]; exact ⟨f0, a1, t0, b1, hqa, by omega⟩
          · rw [up_ne _ _ z, up_ne _ _ z, up_ne _ _ z, up_ne _ _ z]; exact bC.1.2 r (by omega)
        refine Or.inr ⟨3, M', R', c, nm, em, lm, gU u (evN (fnA en (wrd t W 1) nE 0) nE) fr to qa (decide (¬ wrd t W 6 = bytS.getD 9 [])) (wrd t W (ruB t W + 1)), evE (fnA en (wrd t W 1) nE 0) nE, evM (fnA en (wrd t W 1) nE 0) nE en (wrd t W 1), by omega, by omega, ?_, r0, ⟨⟨⟨?_, ?_, ?_, ?_, ?_, fun x hx => ?_, fun x hx => ?_⟩, ⟨okU, ?_, fun x hx => ?_⟩, ?_⟩, ⟨⟨?_, fun x hx => ?_, fun x hx => ?_⟩, ⟨okU, r1, fun x hx => ?_⟩, r2⟩, hE6', ⟨n1, fun x hx => ?_, fun x hx i hi => ?_⟩, ⟨evM_ok v1 q.1, fun e he => ?_, r4⟩, ⟨fun x hx hx2 => ?_, fun x hx hx2 => ?_⟩, fun x hx => ?_⟩, ?_, ?_, ?_⟩
        · show bd (F_X4_scopeOf (nI fr) (nI to) M) _ = _
          rw [f_scopeOf hC f0 a1 b1, bd_some]
          unfold B_X2_readRule_246 F_X3_made
          rw [m0, bd_some, bd_some, m1, show nI (rN u + 1) - 1 = nI (rN u) from by rw [show (1 : Int32) = nI 1 from rfl, pk_sub (by omega)]; rfl, show nI (ruB t W) + 1 = nI (ruB t W + 1) from nI_1 _, f1]
          rfl
        · unfold CC
          rw [mB 5 (by omega), mB 7 (by omega), mB 8 (by omega), mB 9 (by omega), mB 10 (by omega), mB 11 (by omega)]
          exact hC
        · unfold MR; rw [mB 31 (by omega)]; exact bS.2.1
        · unfold MR; rw [mB 12 (by omega)]; exact bS.2.2.1
        · unfold MR; rw [mB 15 (by omega)]; exact bS.2.2.2.1
        · unfold MR; rw [mB 26 (by omega)]; exact bS.2.2.2.2.1
        · exact (bS.2.2.2.2.2.1 x hx).eqc (mB _ (by omega)) (mB _ (by omega))
        · exact (bS.2.2.2.2.2.2 x hx).eqc (mB _ (by omega)) (mB _ (by omega))
        · rw [mA 18 (by omega) (by omega)]; exact m1
        · rw [gU_N] at hx
          rw [mA 20 (by omega) (by omega), mA 21 (by omega) (by omega), mA 22 (by omega) (by omega), mA 23 (by omega) (by omega), mA 24 (by omega) (by omega), mA 25 (by omega) (by omega), m4, m5, m6, m7, m8, m9, gU_E, gU_F, gU_T, gU_A, gU_W, gU_M]
          by_cases z : x = rN u
          · subst z
            simp only [if_pos, up_hit]
            exact ⟨trivial, trivial, trivial, trivial, trivial, trivial, f2⟩
          · simp only [if_neg z, up_ne _ _ z]
            obtain ⟨e1, e2, e3, e4, e5, e6, e7⟩ := bC.2.2 x (by omega)
            exact ⟨e1, e2, e3, e4, e5, e6, f3 x _ z (e7.eqc (m10 _ (by omega)) (m10 _ (by omega)))⟩
        · rw [mA 18 (by omega) (by omega)]; exact m2
        · unfold CD
          rw [r3 6 (by decide) (by decide), r13 6 (by decide) (by decide), r13 7 (by decide) (by decide), r13 9 (by decide) (by decide), r13 10 (by decide) (by decide)]
          exact hD
        · exact (bD.2.1 x hx).eqc (r13 _ (by decide) (by decide)) (r13 _ (by decide) (by decide))
        · exact (bD.2.2 x hx).eqc (r13 _ (by decide) (by decide)) (r13 _ (by decide) (by decide))
        · rw [gU_N] at hx
          rw [r5, r6, r7, r8, r9, r10, gU_E, gU_F, gU_T, gU_A, gU_W, gU_M]
          by_cases z : x = rN u
          · subst z
            simp only [if_pos, up_hit]
            refine ⟨trivial, trivial, trivial, ?_, trivial, ms3, fun i hi => ⟨r11 i hi, getD_ch hP.1⟩⟩
            by_cases q10 : wrd t W 6 = bytS.getD 10 []
            · have e9 : ¬ wrd t W 6 = bytS.getD 9 [] := fun y => by rw [q10] at y; exact absurd y (by decide)
              exact Or.inr (Or.inl ⟨by rw [show ruH t W = 1 from if_pos q10], trivial, decide_eq_true e9⟩)
            · by_cases q9 : wrd t W 6 = bytS.getD 9 []
              · exact Or.inr (Or.inr ⟨by rw [show ruH t W = 2 from (if_neg q10).trans (if_pos q9)], trivial, decide_eq_false (fun y => y q9)⟩)
              · have q2 : ¬ ruQ t W := fun w => w.elim q9 q10
                refine Or.inl ⟨by rw [ruH_0.mpr q2], ?_, decide_eq_true q9⟩
                unfold ruA at oA
                rw [if_neg q2] at oA
                exact (Option.some.inj oA).symm
          · simp only [if_neg z, up_ne _ _ z]
            obtain ⟨e1, e2, e3, e4, e5, e6, e7⟩ := bR.2.2 x (by omega)
            refine ⟨e1, e2, e3, e4, e5, e6, fun i hi => ⟨?_, (e7 i hi).2⟩⟩
            rw [r12 _ (by omega)]
            exact (e7 i hi).1
        · rw [mB 6 (by omega)]; exact n2 x hx
        · rw [r13 4 (by decide) (by decide)]; exact n3 x hx i hi
        · rw [mA 19 (by omega) (by omega)]; exact m3 e he
        · have zz := z1 x hx hx2
          rw [r13 8 (by decide) (by decide), mB 14 (by omega), mB 17 (by omega)]
          exact zz
        · rw [gU_N] at hx
          rw [show M' 28 x = M1 28 x from f4 x (by omega), m10 28 (by omega)]
          exact z2 x (by omega) hx2
        · rw [gU_N] at hx
          rw [gU_E]
          by_cases z : x = rN u
          · rw [z, up_hit]; exact hevN
          · rw [up_ne _ _ z]
            have := zE x (by omega)
            have := evE_le (o := fnA en (wrd t W 1) nE 0) (nE := nE)
            omega
        · exact mB 1 (by omega)
        · exact r3 0 (by decide) (by decide)
        · exact r3 2 (by decide) (by decide)
  · rw [ruK_n q]
    exact Or.inl ⟨-1, Or.inl rfl, rfl, rfl⟩
