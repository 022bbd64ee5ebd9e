/-! The state that is made, in both. -/
theorem cdI_L {w : List Int32} (h : isL w 4 = true) : cdI w = codeI w := if_pos h
theorem getD_ch {t : Nat → Int32} {W : List (Nat × Nat)} {len k i : Nat} (hw : wOK t W len) : vp_nar .char ((wrd t W k).getD i 0) = (wrd t W k).getD i 0 := by
  rcases Nat.lt_or_ge i (wrd t W k).length with q | q
  · exact (wrd_ch hw q).nar
  · rw [getD_out q]; decide
theorem h_215 {t : Nat → Int32} {W : List (Nat × Nat)} {len n p d : Nat} {a r : Bool} (hn : n < 14) (hp : p < n) (h1 : 1 < W.length) : ∀ (j i f : Nat) (R : Mem), i + j = 4 → j < f → PR R t W len → R 0 6 = nI n → R 7 p = nI d → ∃ R', H_X8_newState_215 f (nI p) (bI a) (bI r) (nI i) R = some (1, R') ∧ R' 0 6 = nI (n + 1) ∧ (∀ q, q ≠ 6 → R' 0 q = R 0 q) ∧ (∀ x, i ≤ x → x < 4 → R' 4 (4 * n + x) = (wrd t W 1).getD x 0) ∧ (∀ q, (q < 4 * n + i ∨ 4 * n + 4 ≤ q) → R' 4 q = R 4 q) ∧ (∀ s, R' 6 s = if s = n then nI p else R 6 s) ∧ (∀ s, R' 7 s = if s = n then nI (d + 1) else R 7 s) ∧ (∀ s, R' 9 s = if s = n then bI a else R 9 s) ∧ (∀ s, R' 10 s = if s = n then bI r else R 10 s) ∧ ∀ x, x ≠ 0 → x ≠ 4 → x ≠ 6 → x ≠ 7 → x ≠ 9 → x ≠ 10 → R' x = R x := by
  intro j
  induction j with
  | zero =>
    intro i f R hi hf hP hN hd
    cases f with
    | zero => omega
    | succ f =>
      have c1 : (nI n).toNatClampNeg = n := nI_clamp (by omega)
      have c2 : (nI p).toNatClampNeg = p := nI_clamp (by omega)
      have g1 : ∀ (k : Option (Int32 × Mem)), gi 14 (nI n) k = k := fun k => gi_ok hn (by decide)
      have g2 : ∀ (k : Option (Int32 × Mem)), gi 14 (nI p) k = k := fun k => gi_ok (show p < 14 by omega) (by decide)
      show ∃ R', B_X8_newState_215 _ _ _ _ _ _ = _ ∧ _
      unfold B_X8_newState_215
      rw [if_pos (show (4 : Int32) ≤ nI i from nI_le (a := 4) (by omega) (by omega))]
      have e0 : ∀ (R1 : Mem) (k : Nat) (j : Nat) (v : Int32), ¬ k = 0 → set2 R1 k j v 0 6 = R1 0 6 := fun R1 k j v hk => s2_oth _ _ _ _ (fun z => hk z.symm)
      simp only [wr_eq, e0 _ 6 _ _ (by decide), e0 _ 7 _ _ (by decide), e0 _ 9 _ _ (by decide), e0 _ 10 _ _ (by decide), hN, g1, g2, c1, c2, bI_nar]
      refine ⟨_, rfl, by rw [s2_hit, nI_1], fun q hq => by simp [s2, hq], fun x h1 h2 => by omega, fun q hq => by simp [s2], fun s => by simp [s2], fun s => by simp [s2]; rw [hd, nI_1], fun s => by simp [s2], fun s => by simp [s2], fun x x0 x4 x6 x7 x9 x10 => ?_⟩
      funext q
      simp [s2, x0, x6, x7, x9, x10]
  | succ j ih =>
    intro i f R hi hf hP hN hd
    cases f with
    | zero => omega
    | succ f =>
      obtain ⟨R1, e1⟩ : ∃ R1, R1 = set2 R 4 (4 * n + i) ((wrd t W 1).getD i 0) := ⟨_, rfl⟩
      obtain ⟨R', f0, f1, f2, f3, f4, f5, f6, f7, f8, f9⟩ := ih (i + 1) f R1 (by omega) (by omega) (hP.keep (by rw [e1]; exact s2_oth _ _ _ _ (by decide)) (by rw [e1]; exact set2_ne _ _ _ (by decide)) (by rw [e1]; exact set2_ne _ _ _ (by decide)) (by rw [e1]; exact set2_ne _ _ _ (by decide))) (by rw [e1, s2_oth _ _ _ _ (by decide)]; exact hN) (by rw [e1, s2_oth _ _ _ _ (by decide)]; exact hd)
      refine ⟨R', ?_, f1, fun q hq => by rw [f2 q hq, e1, s2_oth _ _ _ _ (by decide)], fun x h1 h2 => ?_, fun q hq => ?_, fun s => by rw [f5, e1, s2_oth _ _ _ _ (by decide)], fun s => by rw [f6, e1, s2_oth _ _ _ _ (by decide)], fun s => by rw [f7, e1, s2_oth _ _ _ _ (by decide)], fun s => by rw [f8, e1, s2_oth _ _ _ _ (by decide)], fun x x0 x4 x6 x7 x9 x10 => by rw [f9 x x0 x4 x6 x7 x9 x10, e1, set2_ne _ _ _ x4]⟩
      · show B_X8_newState_215 _ _ _ _ _ _ = _
        unfold B_X8_newState_215
        rw [if_neg (show ¬ (4 : Int32) ≤ nI i from nI_ge (b := 4) (by omega) (by omega)), show F_X8_letter 1 (nI i) R = _ from g_letter hP (k := 1) h1 (by omega), bd_some, hN, show (4 : Int32) * nI n + nI i = nI (4 * n + i) by rw [show (4 : Int32) = nI 4 from rfl, pk_mul, nI_add], gi_ok (show 4 * n + i < 56 by omega) (by decide), wr_eq, nI_clamp (by omega), getD_ch hP.1, nm_eq, show nI i + 1 = nI (i + 1) from nI_1 i, ← e1]
        exact f0
      · rcases Nat.eq_or_lt_of_le h1 with q | q
        · rw [f4 _ (Or.inl (by omega)), e1, ← q, s2_hit]
        · exact f3 x q h2
      · rw [f4 q (by omega), e1, s2_pl _ _ _ (by omega)]
theorem MKs.eqc {M M' : Mem} {o w s : Nat} {ms : List Int32} (h : MKs M o w s ms) (e1 : M' (o + 1) = M (o + 1)) (e2 : M' (o + 2) = M (o + 2)) : MKs M' o w s ms := by unfold MKs; rw [e1, e2]; exact h
theorem MKr.eqc {R R' : Mem} {m : Nat} {ms : List Int32} (h : MKr R m ms) (e1 : R' 5 = R 5) (e2 : R' 8 = R 8) : MKr R' m ms := by unfold MKr; rw [e1, e2]; exact h
theorem MKs.nil {M : Mem} {o w s : Nat} (h : M (o + 2) s = 0) : MKs M o w s [] := ⟨Nat.zero_le _, h, fun i hi => absurd hi (Nat.not_lt_zero i), fun i hi => absurd hi (Nat.not_lt_zero i)⟩
theorem MKr.nil {R : Mem} {m : Nat} (h : R 8 m = 0) : MKr R m [] := ⟨Nat.zero_le _, h, fun i hi => absurd hi (Nat.not_lt_zero i)⟩
theorem up_lt {α : Type} (f : Nat → α) {n k : Nat} (v : α) (h : k < n) : up f n v k = f k := up_ne _ _ (by omega)
theorem rs_state {M R : Mem} {c : Ch} {nm em lm : Nat → List Int32} {u : Ru} {nE : Nat} {en : Nat → List Int32} {t : Nat → Int32} {W : List (Nat × Nat)} {len : Nat} (hB : BS M R c nm em lm u nE en) (hP : PC M t W len) (hR : PR R t W len) : RS (F_X2_readState M) (F_X8_newState R) M R := by
  obtain ⟨⟨bS, bC, bE⟩, ⟨bD, bR, bF⟩, hE6, ⟨n1, n2, n3⟩, ⟨v1, v2, v3⟩, ⟨z1, z2⟩, zE⟩ := hB
  have hC := bS.1
  have hc := hC.1
  have hD := bD.1
  rw [c_state hC n1 n2 hP, r_state hD n1 n3 hR]
  by_cases q : stC c nm t W
  · rw [stK_y q]
    cases z5 : fnA nm (wrd t W 3) (cN c) 0 with
    | none => exact Or.inl ⟨-1, Or.inl rfl, rfl, rfl⟩
    | some p =>
      obtain ⟨y1, y2⟩ := fn_31 hc.n14 z5
      by_cases z6 : cD c p < 6
      · by_cases z7 : cN c < 14
        · rw [stP_ok z6 z7, kO_3, kO_3]
          have hL1 := q.2.2.1
          have hWl : 1 < W.length := by rcases q.1 with z | z <;> omega
          obtain ⟨M', m0, m5, m6, m7, m8, m9, m10, m11, mA⟩ := f_make hC y1 z7 (cdI (wrd t W 1)) (decide (wrd t W 4 = bytS.getD 1 [])) (decide (wrd t W 4 = bytS.getD 2 []))
          obtain ⟨R', r0, r1, r2, r3, r4, r5, r6, r7, r8, r9⟩ := h_215 (d := cD c p) (a := decide (wrd t W 4 = bytS.getD 1 [])) (r := decide (wrd t W 4 = bytS.getD 2 [])) z7 y1 hWl 4 0 100 R (by omega) (by omega) hR hD.2.1 (hD.2.2.2.2.1 p y1)
          have mA' : ∀ a, 11 < a → M' a = M a := fun a ha => mA a (by simp only [List.mem_cons, List.not_mem_nil, or_false]; omega)
          refine Or.inr ⟨1, M', R', gC c p (decide (wrd t W 4 = bytS.getD 1 [])) (decide (wrd t W 4 = bytS.getD 2 [])), up nm (cN c) (wrd t W 1), up em (cN c) [], up lm (cN c) [], u, nE, en, by omega, by omega, ?_, r0, ⟨⟨⟨grow_CC hC y1 z7 z6 m5 m7 m8 m9 m10 m11, ?_, ?_, ?_, ?_, fun s hs => ?_, fun s hs => ?_⟩, ⟨⟨bC.1.1, fun x hx => ?_⟩, ?_, fun x hx => ?_⟩, ?_⟩, ⟨⟨⟨gwf hc y1 z7 z6, r1, ?_, fun s h0 hs => ?_, fun s hs => ?_, fun s hs => ?_, fun s hs => ?_⟩, fun s hs => ?_, fun s hs => ?_⟩, ⟨⟨bR.1.1, fun x hx => ?_⟩, ?_, fun x hx => ?_⟩, ?_⟩, hE6, ⟨fun s hs => ?_, fun s hs => ?_, fun s hs i hi => ?_⟩, ⟨v1, fun e he => ?_, fun e he i hi => ?_⟩, ⟨fun s hs hs2 => ?_, fun x hx hx2 => ?_⟩, zE⟩, ?_, ?_, ?_⟩
          · show bd (F_X4_make (cdI (wrd t W 1)) (nI p) _ _ M) _ = _
            rw [m0]; rfl
          · unfold MR; rw [mA' 31 (by omega)]; exact bS.2.1
          · unfold MR; rw [mA' 12 (by omega)]; exact bS.2.2.1
          · unfold MR; rw [mA' 15 (by omega)]; exact bS.2.2.2.1
          · unfold MR; rw [mA' 26 (by omega)]; exact bS.2.2.2.2.1
          · rw [gN] at hs
            by_cases z : s = cN c
            · rw [z, up_hit]
              exact MKs.nil (by rw [mA' (12 + 2) (by omega)]; exact (z1 (cN c) (Nat.le_refl _) z7).1)
            · rw [up_ne _ _ z]
              exact (bS.2.2.2.2.2.1 s (by omega)).eqc (mA' _ (by omega)) (mA' _ (by omega))
          · rw [gN] at hs
            by_cases z : s = cN c
            · rw [z, up_hit]
              exact MKs.nil (by rw [mA' (15 + 2) (by omega)]; exact (z1 (cN c) (Nat.le_refl _) z7).2.1)
            · rw [up_ne _ _ z]
              exact (bS.2.2.2.2.2.2 s (by omega)).eqc (mA' _ (by omega)) (mA' _ (by omega))
          · have := bC.1.2 x hx
            rw [gN]; omega
          · rw [mA' 18 (by omega)]; exact bC.2.1
          · have h0 := bC.1.2 x hx
            obtain ⟨a1, a2, a3, a4, a5, a6, a7⟩ := bC.2.2 x hx
            rw [mA' 20 (by omega), mA' 21 (by omega), mA' 22 (by omega), mA' 23 (by omega), mA' 24 (by omega), mA' 25 (by omega), g_scp hc h0.1 h0.2.1 h0.2.2.2.1]
            exact ⟨a1, a2, a3, a4, a5, a6, a7.eqc (mA' _ (by omega)) (mA' _ (by omega))⟩
          · rw [mA' 18 (by omega)]; exact bE
          · rw [r5, if_neg (by have := hc.1; omega)]; exact hD.2.2.1
          · rw [gN] at hs
            rw [r5]
            by_cases z : s = cN c
            · rw [if_pos z, z, gP']
            · rw [if_neg z, gP (by omega)]; exact hD.2.2.2.1 s h0 (by omega)
          · rw [gN] at hs
            rw [r6]
            by_cases z : s = cN c
            · rw [if_pos z, z, gD']
            · rw [if_neg z, gD (by omega)]; exact hD.2.2.2.2.1 s (by omega)
          · rw [gN] at hs
            rw [r7]
            by_cases z : s = cN c
            · rw [if_pos z, z, gW']
            · rw [if_neg z, gW (by omega)]; exact hD.2.2.2.2.2.1 s (by omega)
          · rw [gN] at hs
            rw [r8]
            by_cases z : s = cN c
            · rw [if_pos z, z, gR']
            · rw [if_neg z, gR (by omega)]; exact hD.2.2.2.2.2.2 s (by omega)
          · rw [gN] at hs
            by_cases z : s = cN c
            · rw [z, up_hit]
              exact MKr.nil (by rw [r9 8 (by decide) (by decide) (by decide) (by decide) (by decide) (by decide)]; exact (z1 (cN c) (Nat.le_refl _) z7).2.2.1)
            · rw [up_ne _ _ z]
              exact (bD.2.1 s (by omega)).eqc (r9 _ (by decide) (by decide) (by decide) (by decide) (by decide) (by decide)) (r9 _ (by decide) (by decide) (by decide) (by decide) (by decide) (by decide))
          · rw [gN] at hs
            by_cases z : s = cN c
            · rw [z, up_hit]
              exact MKr.nil (by rw [r9 8 (by decide) (by decide) (by decide) (by decide) (by decide) (by decide)]; exact (z1 (cN c) (Nat.le_refl _) z7).2.2.2)
            · rw [up_ne _ _ z]
              exact (bD.2.2 s (by omega)).eqc (r9 _ (by decide) (by decide) (by decide) (by decide) (by decide) (by decide)) (r9 _ (by decide) (by decide) (by decide) (by decide) (by decide) (by decide))
          · have := bR.1.2 x hx
            rw [gN]; omega
          · rw [r2 15 (by decide)]; exact bR.2.1
          · have r9' : ∀ a, 11 ≤ a → R' a = R a := fun a ha => r9 a (by omega) (by omega) (by omega) (by omega) (by omega) (by omega)
            rw [r9' 13 (by omega), r9' 14 (by omega), r9' 15 (by omega), r9' 16 (by omega), r9' 17 (by omega), r9' 18 (by omega), r9' 12 (by omega)]
            exact bR.2.2 x hx
          · rw [r2 14 (by decide)]; exact bF
          · rw [gN] at hs
            by_cases z : s = cN c
            · rw [z, up_hit]; exact hL1
            · rw [up_ne _ _ z]; exact n1 s (by omega)
          · rw [gN] at hs
            rw [m6]
            by_cases z : s = cN c
            · rw [if_pos z, z, up_hit, cdI_L hL1]
            · rw [if_neg z, up_ne _ _ z]; exact n2 s (by omega)
          · rw [gN] at hs
            by_cases z : s = cN c
            · rw [z, up_hit]; exact r3 i (by omega) hi
            · rw [up_ne _ _ z, r4 _ (by omega)]; exact n3 s (by omega) i hi
          · rw [mA' 19 (by omega)]; exact v2 e he
          · rw [r9 11 (by decide) (by decide) (by decide) (by decide) (by decide) (by decide)]; exact v3 e he i hi
          · rw [gN] at hs
            rw [mA' 14 (by omega), mA' 17 (by omega), r9 8 (by decide) (by decide) (by decide) (by decide) (by decide) (by decide)]
            exact z1 s (by omega) hs2
          · rw [mA' 28 (by omega)]; exact z2 x hx hx2
          · exact mA 1 (by decide)
          · exact r2 0 (by decide)
          · exact r2 2 (by decide)
        · rw [stP_14 z6 z7]
          exact Or.inl ⟨-2, Or.inr rfl, rfl, rfl⟩
      · rw [stP_6 z6]
        exact Or.inl ⟨-1, Or.inl rfl, rfl, rfl⟩
  · rw [stK_n q]
    exact Or.inl ⟨-1, Or.inl rfl, rfl, rfl⟩
