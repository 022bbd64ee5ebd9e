/-! Compiling: the abstract table, and the class's build. -/
abbrev Tb : Type := List (Nat → Int32) × (Nat → Nat) × (Nat → List Int32)
def now0 (c : Ch) (i : Nat) : Int32 := if i < cN c then cf0 c i else -1
theorem now0_ok (c : Ch) : nowOK c (now0 c) := by
  intro s
  unfold now0
  refine ⟨fun h => ?_, fun h => ?_⟩
  · rw [if_pos h]; exact cf0_ok
  · rw [if_neg (by omega)]
section BLD
variable (c : Ch) (em lm : Nat → List Int32) (u : Ru)
def stA (k e : Nat) (A : Tb) : Option Tb := match A.1[k]? with
  | none => none
  | some a => match numA (cN c) A.1 (ofA c em lm u e 9 0 (a, [])).2.1 with
    | none => none
    | some q => some (q.2, (fun x => if x = k * 6 + e then q.1 else A.2.1 x), fun x => if x = k * 6 + e then (ofA c em lm u e 9 0 (a, [])).2.2 else A.2.2 x)
def inA (k : Nat) : Nat → Nat → Tb → Option Tb
  | 0, _, A => some A
  | m + 1, e, A => match stA c em lm u k e A with
    | none => none
    | some A' => inA k m (e + 1) A'
def ouA (nE : Nat) : Nat → Nat → Tb → Option Tb
  | 0, _, A => some A
  | m + 1, k, A => if k < A.1.length then (match inA c em lm u k nE 0 A with
    | none => none
    | some A' => ouA nE m (k + 1) A') else some A
def tab0 : Tb := ([(enA c em none 9 0 (now0 c, [])).1], (fun _ => 0), fun _ => (enA c em none 9 0 (now0 c, [])).2)
def comA (nE : Nat) : Option Tb := ouA c em lm u nE 31 0 (tab0 c em)
end BLD
theorem f_noteIn {M : Mem} {row : Nat} (h : MR M 31 181 40) (hr : row < 181) : F_X6_noteIn (nI row) M = some (set2 (set2 M 34 4 (nI row)) 33 row 0) := by
  have h1 : MR (set2 M 34 4 (nI row)) 31 181 40 := h.keep (set2_ne _ _ _ (by decide))
  unfold F_X6_noteIn F_X1_empty
  rw [wr_eq, s2_hit, f_isRow h1 hr (by decide), bd_some, if_neg (by decide), dl_33, gi_ok hr (by decide), nI_clamp (by omega), wr_eq, bd_some]
theorem noteIn_WK {M : Mem} {row : Nat} {now : Nat → Int32} (hr : row < 181) (hw : ∀ i, i < 14 → M 35 i = now i) : WK (set2 (set2 M 34 4 (nI row)) 33 row 0) row (now, []) := by
  refine ⟨by rw [s2_oth _ _ _ _ (by decide), s2_hit], hr, fun i hi => by rw [s2_oth _ _ _ _ (by decide), s2_oth _ _ _ _ (by decide)]; exact hw i hi, by rw [s2_hit]; rfl, fun i h1 h2 => by simp at h2⟩
theorem noteIn_rw {M : Mem} {row : Nat} : rwF row M (set2 (set2 M 34 4 (nI row)) 33 row 0) := ⟨fun r hr => by rw [s2_pl _ _ _ hr, s2_oth _ _ _ _ (by decide)], fun q _ => by rw [s2_oth _ _ _ _ (by decide), s2_oth _ _ _ _ (by decide)]⟩
theorem noteIn_agr {M : Mem} {row : Nat} : agr [32, 33, 34, 35] M (set2 (set2 M 34 4 (nI row)) 33 row 0) := (agr.set (by decide)).tr (agr.set (by decide))
theorem st_w {L : List Nat} {M M' : Mem} (h : agr L M M') (hL : L = [32, 33, 34, 35] ∨ L = [30, 36] ∨ L = [35] ∨ L = [32, 33, 35] ∨ L = [37] ∨ L = [30]) : stF M M' := by
  refine stF.of h (fun a ha => ?_)
  rcases hL with e | e | e | e | e | e <;> subst e <;> simp only [List.mem_cons, List.not_mem_nil, or_false] at ha <;> omega
theorem rwF.tr {row : Nat} {M M1 M2 : Mem} (h : rwF row M M1) (g : rwF row M1 M2) : rwF row M M2 := ⟨fun r hr => (g.1 r hr).trans (h.1 r hr), fun q hq => (g.2 q hq).trans (h.2 q hq)⟩
theorem sW.agr4 {row : Nat} {M M' : Mem} (h : sW row M M') : agr [32, 33, 34, 35] M M' := h.1.mono (fun a ha => by simp only [List.mem_cons, List.not_mem_nil, or_false] at ha ⊢; omega)
theorem f_receive {M : Mem} {c : Ch} {em lm : Nat → List Int32} {u : Ru} {row ev : Nat} {now : Nat → Int32} (hr : row < 181) (he : ev < 6) (hg : nowOK c now) (hw : ∀ i, i < 14 → M 35 i = now i) (hS : SC M c em lm) (hR : RC M c u) : ∃ M', F_X6_receive (nI ev) (nI row) M = some M' ∧ (∀ i, i < 14 → M' 35 i = (ofA c em lm u ev 9 0 (now, [])).2.1 i) ∧ TR M' row (ofA c em lm u ev 9 0 (now, [])).2.2 ∧ nowOK c (ofA c em lm u ev 9 0 (now, [])).2.1 ∧ agr [32, 33, 34, 35] M M' ∧ rwF row M M' := by
  have hc := hS.1.1
  have e1 : stF M (set2 (set2 M 34 4 (nI row)) 33 row 0) := st_w noteIn_agr (Or.inl rfl)
  obtain ⟨M', f1, f2, f3, f4, -⟩ := f_offer (em := em) (lm := lm) (u := u) (row := row) hc he 9 0 (now, []) _ hc.1 (by omega) hg (noteIn_WK hr hw) (hS.st e1) (hR.st e1)
  refine ⟨M', ?_, f2.2.2.1, f2.2.2.2, f3, noteIn_agr.tr f4.agr4, noteIn_rw.tr f4.2⟩
  unfold F_X6_receive
  rw [f_noteIn hS.2.1 hr, bd_some, show (0 : Int32) = nI 0 from rfl]
  rw [hc.2.2.1] at f1
  rw [show F_X6_offer 10 (nI 0) (nI ev) (nI 0) (set2 (set2 M 34 4 (nI row)) 33 row (nI 0)) = _ from f1, bd2_some]
theorem h_start {c : Ch} {em lm : Nat → List Int32} : ∀ (m j n : Nat) (M : Mem), j + m = 14 → m < n → (∀ i, i < j → M 35 i = now0 c i) → SC M c em lm → ∃ M', H_X6_start_2 n (nI 180) (nI j) M = some M' ∧ (∀ i, i < 14 → M' 35 i = (enA c em none 9 0 (now0 c, [])).1 i) ∧ TR M' 180 (enA c em none 9 0 (now0 c, [])).2 ∧ nowOK c (enA c em none 9 0 (now0 c, [])).1 ∧ agr [32, 33, 34, 35] M M' ∧ rwF 180 M M' := by
  intro m
  induction m with
  | zero =>
    intro j n M hj hn hw hS
    cases n with
    | zero => omega
    | succ n =>
      have hc := hS.1.1
      have e1 : stF M (set2 (set2 M 34 4 (nI 180)) 33 180 0) := st_w noteIn_agr (Or.inl rfl)
      obtain ⟨M', f1, f2, f3, f4⟩ := f_enter (em := em) (lm := lm) (t := none) (row := 180) hc (fun k e => by cases e) 9 0 (now0 c, []) _ hc.1 (by omega) (now0_ok c) (noteIn_WK (by omega) (fun i hi => hw i (by omega))) (hS.st e1)
      refine ⟨M', ?_, f2.2.2.1, f2.2.2.2, f3, noteIn_agr.tr f4.agr4, noteIn_rw.tr f4.2⟩
      show B_X6_start_2 _ _ _ _ = _
      unfold B_X6_start_2
      rw [if_pos (show (14 : Int32) ≤ nI j from nI_le (a := 14) (by omega) (by omega)), f_noteIn hS.2.1 (by omega), bd_some]
      rw [hc.2.2.1] at f1
      rw [show F_X6_enter 10 (0 : Int32) (-1) (0 : Int32) (set2 (set2 M 34 4 (nI 180)) 33 180 0) = _ from f1, bd_some]
  | succ m ih =>
    intro j n M hj hn hw hS
    cases n with
    | zero => omega
    | succ n =>
      have e1 : stF M (set2 M 35 j (now0 c j)) := st_w (L := [35]) (agr.set (by decide)) (by simp)
      obtain ⟨M', f1, f2, f3, f4, f5, f6⟩ := ih (j + 1) n (set2 M 35 j (now0 c j)) (by omega) (by omega) (fun i hi => by
        by_cases z : i = j
        · subst z; exact s2_hit _ _ _ _
        · rw [s2_pl _ _ _ z]; exact hw i (by omega)) (hS.st e1)
      refine ⟨M', ?_, f2, f3, f4, (agr.set (by decide)).tr f5, rwF.tr ⟨fun r _ => s2_oth _ _ _ _ (by decide), fun q _ => s2_oth _ _ _ _ (by decide)⟩ f6⟩
      show B_X6_start_2 _ _ _ _ = _
      unfold B_X6_start_2
      have e2 : F_X4_currentAtFirst (nI j) M = some (now0 c j) := by
        unfold now0
        by_cases z : j < cN c
        · rw [if_pos z]; exact f_currentAtFirst hS.1 z
        · rw [if_neg z]; exact f_currentAtFirst_out hS.1 (by omega) (by omega)
      rw [if_neg (show ¬ (14 : Int32) ≤ nI j from nI_ge (b := 14) (by omega) (by omega)), e2, bd_some, gi_ok (show j < 14 by omega) (by decide), nI_clamp (by omega), wr_eq, nm_eq, show nI j + 1 = nI (j + 1) from nI_1 j]
      exact f1
/-- while it is built: what is done of the table -/
def BI (M : Mem) (c : Ch) (em lm : Nat → List Int32) (u : Ru) (nE : Nat) (D : Nat → Prop) (A : Tb) : Prop := SC M c em lm ∧ RC M c u ∧ M 18 9 = nI nE ∧ TCs M (cN c) A.1 ∧ (∀ a, a ∈ A.1 → nowOK c a) ∧ (∀ q, D q → M 37 q = nI (A.2.1 q) ∧ TR M q (A.2.2 q)) ∧ TR M 180 (A.2.2 180)
theorem f_cellOf {M : Mem} {n nE : Nat} {cs : List (Nat → Int32)} (hT : TCs M n cs) (hE : M 18 9 = nI nE) (hE6 : nE ≤ 6) {k e : Nat} (hk : k < cs.length) (he : e < nE) : F_X5_cellOf (nI k) (nI e) M = some (nI (k * 6 + e)) := by
  have := hT.1
  unfold F_X5_cellOf F_X3_isEvent
  rw [f_isConf hT hk, bd_some, if_neg (by decide), if_neg (nI_lt0 (by omega)), hE, if_neg (nI_ge he (by omega)), bd_some, if_neg (by decide), show (6 : Int32) = nI 6 from rfl, pk_mul, nI_add]
/-- one cell of the table -/
theorem b_step {c : Ch} {em lm : Nat → List Int32} {u : Ru} {nE k e : Nat} {D : Nat → Prop} {A : Tb} {M : Mem} (hE6 : nE ≤ 6) (hB : BI M c em lm u nE D A) (hk : k < A.1.length) (he : e < nE) (kh22 : Int32 → Mem → Option (Int32 × Mem)) (kh38 : Int32 → Int32 → Mem → Option (Int32 × Mem)) : (∀ A', stA c em lm u k e A = some A' → ∃ M', B_X5_build_38 kh22 kh38 (nI k) (nI e) M = kh38 (nI k) (nI (e + 1)) M' ∧ BI M' c em lm u nE (fun q => D q ∨ q = k * 6 + e) A' ∧ A.1.length ≤ A'.1.length ∧ stF M M') ∧ (stA c em lm u k e A = none → ∃ M', B_X5_build_38 kh22 kh38 (nI k) (nI e) M = some (0, M') ∧ M' 30 6 = 0 ∧ stF M M') := by
  obtain ⟨hS, hR, hE, hT, hcs, hD, h180⟩ := hB
  have h30 := hT.1
  have hc := hS.1.1
  obtain ⟨a, ea⟩ : ∃ a, A.1[k]? = some a := ⟨_, List.getElem?_eq_getElem hk⟩
  have ha : nowOK c a := hcs a (List.mem_of_getElem? ea)
  obtain ⟨M1, a1, a2, a3⟩ := f_setWalk hS.1 hT ea ha
  have e1 : stF M M1 := st_w a2 (by simp)
  obtain ⟨M2, b1, b2, b3, b4, b5, b6⟩ := f_receive (row := k * 6 + e) (ev := e) (by omega) (by omega) ha a3 (hS.st e1) (hR.st e1)
  have e2 : stF M M2 := e1.tr (st_w b5 (by simp))
  have hT2 : TCs M2 (cN c) A.1 := ⟨hT.1, by rw [b5 30 (by decide), a2 30 (by decide)]; exact hT.2.1, fun k a hk i hi => by rw [b5 36 (by decide), a2 36 (by decide)]; exact hT.2.2 k a hk i hi⟩
  obtain ⟨n1, n2⟩ := f_number (hS.1.st e2) hT2 hcs b4 b2
  have head : B_X5_build_38 kh22 kh38 (nI k) (nI e) M = bd2 (F_X5_numberOfWalk M2) fun r_11 M_13 => (if nI (k * 6 + e) = (-1 : Int32) then B_X5_build_93 M_13 else (if r_11 = (-1 : Int32) then B_X5_build_93 M_13 else gi 180 (nI (k * 6 + e)) (wr M_13 37 (nI (k * 6 + e)).toNatClampNeg r_11 fun M_15 => nm (nI e + (1 : Int32)) fun x2_17 => kh38 (nI k) x2_17 M_15))) := by
    unfold B_X5_build_38 F_X3_events
    rw [if_neg (show ¬ (6 : Int32) ≤ nI e from nI_ge (b := 6) (by omega) (by omega)), hE, bd_some, if_neg (nI_ge he (by omega)), f_cellOf hT hE hE6 hk he, bd_some, a1, bd_some, b1, bd_some]
  rw [head]
  unfold stA
  rw [ea]
  dsimp only
  cases hnum : numA (cN c) A.1 (ofA c em lm u e 9 0 (a, [])).2.1 with
  | none =>
    refine ⟨fun A' q => (by cases q), fun _ => ?_⟩
    rw [n2 hnum, bd2_some, if_neg (nI_ne_m1 (by omega)), if_pos rfl]
    unfold B_X5_build_93
    rw [wr_eq]
    exact ⟨_, rfl, s2_hit _ _ _ _, e2.tr (st_w (L := [30]) (agr.set (by decide)) (by simp))⟩
  | some q =>
    refine ⟨fun A' q2 => ?_, fun q => (by cases q)⟩
    cases q2
    obtain ⟨i, cs'⟩ := q
    obtain ⟨M3, c1, c2, c3, c4, c5, c6, c7⟩ := n1 i cs' hnum
    have hl' := c2.1
    rw [c1, bd2_some, if_neg (nI_ne_m1 (by omega)), if_neg (nI_ne_m1 (by omega)), gi_ok (show k * 6 + e < 180 by omega) (by decide), nI_clamp (by omega), wr_eq, nm_eq, show nI e + 1 = nI (e + 1) from nI_1 e]
    have e3 : stF M (set2 M3 37 (k * 6 + e) (nI i)) := e2.tr ((st_w c6 (by simp)).tr (st_w (L := [37]) (agr.set (by decide)) (by simp)))
    have tk : ∀ q tr, TR M3 q tr → TR (set2 M3 37 (k * 6 + e) (nI i)) q tr := fun q tr h => h.keep (set2_ne _ _ _ (by decide)) (set2_ne _ _ _ (by decide))
    have tk2 : ∀ q tr, TR M2 q tr → TR M3 q tr := fun q tr h => h.keep (c6 32 (by decide)) (c6 33 (by decide))
    have tk1 : ∀ q tr, q ≠ k * 6 + e → TR M q tr → TR M2 q tr := fun q tr hq h => b6.TR hq (h.keep (a2 32 (by decide)) (a2 33 (by decide)))
    refine ⟨_, rfl, ⟨hS.st e3, hR.st e3, by rw [e3 18 (by omega) (by omega)]; exact hE, ⟨c2.1, by rw [s2_oth _ _ _ _ (by decide)]; exact c2.2.1, fun k a hk i hi => by rw [s2_oth _ _ _ _ (by decide)]; exact c2.2.2 k a hk i hi⟩, c3, fun q hq => ?_, ?_⟩, c5, e3⟩
    · by_cases z : q = k * 6 + e
      · subst z
        dsimp only
        rw [s2_hit, if_pos rfl, if_pos rfl]
        exact ⟨rfl, tk _ _ (tk2 _ _ b3)⟩
      · have hq2 : D q := hq.elim id (fun y => absurd y z)
        obtain ⟨d1, d2⟩ := hD q hq2
        dsimp only
        rw [s2_pl _ _ _ z, if_neg z, if_neg z]
        exact ⟨by rw [c6 37 (by decide), b5 37 (by decide), a2 37 (by decide)]; exact d1, tk _ _ (tk2 _ _ (tk1 _ _ z d2))⟩
    · dsimp only
      rw [if_neg (by omega)]
      exact tk _ _ (tk2 _ _ (tk1 _ _ (by omega) h180))
/-- the events of one configuration -/
theorem b_inner {c : Ch} {em lm : Nat → List Int32} {u : Ru} {nE k : Nat} (hE6 : nE ≤ 6) (kh22 : Int32 → Mem → Option (Int32 × Mem)) : ∀ (m e n : Nat) (D : Nat → Prop) (A : Tb) (M : Mem), e + m = nE → m < n → BI M c em lm u nE D A → k < A.1.length → (∀ A', inA c em lm u k m e A = some A' → ∃ M', H_X5_build_38 kh22 n (nI k) (nI e) M = kh22 (nI (k + 1)) M' ∧ BI M' c em lm u nE (fun q => D q ∨ ∃ x, e ≤ x ∧ x < nE ∧ q = k * 6 + x) A' ∧ A.1.length ≤ A'.1.length ∧ stF M M') ∧ (inA c em lm u k m e A = none → ∃ M', H_X5_build_38 kh22 n (nI k) (nI e) M = some (0, M') ∧ M' 30 6 = 0 ∧ stF M M') := by
  intro m
  induction m with
  | zero =>
    intro e n D A M he hn hB hk
    cases n with
    | zero => omega
    | succ n =>
      have h30 := hB.2.2.2.1.1
      refine ⟨fun A' q => ?_, fun q => (by cases q)⟩
      cases q
      refine ⟨M, ?_, ?_, Nat.le_refl _, stF.rf⟩
      · show B_X5_build_38 _ _ _ _ _ = _
        unfold B_X5_build_38 F_X3_events B_X5_build_114
        rw [hB.2.2.1, bd_some, if_pos (nI_le (show nE ≤ e by omega) (by omega)), nm_eq, show nI k + 1 = nI (k + 1) from nI_1 k]
        exact ite_self _
      · obtain ⟨b1, b2, b3, b4, b5, b6, b7⟩ := hB
        exact ⟨b1, b2, b3, b4, b5, fun q hq => b6 q (hq.elim id (fun ⟨x, y, z, _⟩ => by omega)), b7⟩
  | succ m ih =>
    intro e n D A M he hn hB hk
    cases n with
    | zero => omega
    | succ n =>
      obtain ⟨s1, s2⟩ := b_step hE6 hB hk (show e < nE by omega) kh22 (H_X5_build_38 kh22 n)
      simp only [inA]
      cases hst : stA c em lm u k e A with
      | none =>
        refine ⟨fun A' q => (by cases q), fun _ => ?_⟩
        exact s2 hst
      | some A1 =>
        obtain ⟨M1, f1, f2, f3, f4⟩ := s1 A1 hst
        obtain ⟨i1, i2⟩ := ih (e + 1) n _ A1 M1 (by omega) (by omega) f2 (by omega)
        refine ⟨fun A' q => ?_, fun q => ?_⟩
        · obtain ⟨M', g1, g2, g3, g4⟩ := i1 A' q
          refine ⟨M', ?_, ?_, by omega, f4.tr g4⟩
          · show B_X5_build_38 _ _ _ _ _ = _
            rw [f1]; exact g1
          · obtain ⟨b1, b2, b3, b4, b5, b6, b7⟩ := g2
            refine ⟨b1, b2, b3, b4, b5, fun q hq => b6 q ?_, b7⟩
            rcases hq with y | ⟨x, y, z, w⟩
            · exact Or.inl (Or.inl y)
            · rcases Nat.eq_or_lt_of_le y with t | t
              · exact Or.inl (Or.inr (by rw [w, t]))
              · exact Or.inr ⟨x, t, z, w⟩
        · obtain ⟨M', g1, g2, g3⟩ := i2 q
          refine ⟨M', ?_, g2, f4.tr g3⟩
          show B_X5_build_38 _ _ _ _ _ = _
          rw [f1]; exact g1
theorem f_sizeOf31 {M : Mem} {row : Nat} {tr : List Int32} (h : MR M 31 181 40) (hr : row < 181) (ht : TR M row tr) : F_X1_sizeOf 31 (nI row) M = some (nI (min 40 tr.length)) := by
  unfold F_X1_sizeOf
  rw [f_isRow h hr (by decide), bd_some, if_neg (by decide), dl_33, gi_ok hr (by decide), nI_clamp (by omega)]
  show some (M 33 row) = _
  rw [ht.1]
/-- the whole table -/
theorem b_outer {c : Ch} {em lm : Nat → List Int32} {u : Ru} {nE : Nat} (hE6 : nE ≤ 6) : ∀ (m k n : Nat) (A : Tb) (M : Mem), k + m = 31 → m < n → BI M c em lm u nE (fun q => ∃ x y, x < k ∧ y < nE ∧ q = x * 6 + y) A → k ≤ A.1.length → (∀ A', ouA c em lm u nE m k A = some A' → ∃ M', H_X5_build_22 n (nI k) M = some (1, M') ∧ BI M' c em lm u nE (fun q => ∃ x y, x < A'.1.length ∧ y < nE ∧ q = x * 6 + y) A' ∧ A.1.length ≤ A'.1.length ∧ M' 30 7 = 0 ∧ M' 30 8 = nI (min 40 (A'.2.2 180).length) ∧ stF M M') ∧ (ouA c em lm u nE m k A = none → ∃ M', H_X5_build_22 n (nI k) M = some (0, M') ∧ M' 30 6 = 0 ∧ stF M M') := by
  have fin : ∀ (M : Mem) (A : Tb) (D : Nat → Prop), BI M c em lm u nE D A → ∃ M', B_X5_build_120 M = some (1, M') ∧ BI M' c em lm u nE D A ∧ M' 30 7 = 0 ∧ M' 30 8 = nI (min 40 (A.2.2 180).length) ∧ stF M M' := by
    intro M A D hB
    obtain ⟨b1, b2, b3, b4, b5, b6, b7⟩ := hB
    have e1 : stF M (set2 M 30 7 0) := st_w (L := [30]) (agr.set (by decide)) (by simp)
    have t1 : TR (set2 M 30 7 0) 180 (A.2.2 180) := b7.keep (set2_ne _ _ _ (by decide)) (set2_ne _ _ _ (by decide))
    have e2 : stF M (set2 (set2 M 30 7 0) 30 8 (nI (min 40 (A.2.2 180).length))) := e1.tr (st_w (L := [30]) (agr.set (by decide)) (by simp))
    refine ⟨set2 (set2 M 30 7 0) 30 8 (nI (min 40 (A.2.2 180).length)), ?_, ⟨b1.st e2, b2.st e2, by rw [e2 18 (by omega) (by omega)]; exact b3, ⟨b4.1, by rw [s2_pl _ _ _ (by decide), s2_pl _ _ _ (by decide)]; exact b4.2.1, fun k a hk i hi => by rw [s2_oth _ _ _ _ (by decide), s2_oth _ _ _ _ (by decide)]; exact b4.2.2 k a hk i hi⟩, b5, fun q hq => ⟨by rw [s2_oth _ _ _ _ (by decide), s2_oth _ _ _ _ (by decide)]; exact (b6 q hq).1, (b6 q hq).2.keep (by rw [set2_ne _ _ _ (by decide), set2_ne _ _ _ (by decide)]) (by rw [set2_ne _ _ _ (by decide), set2_ne _ _ _ (by decide)])⟩, t1.keep (set2_ne _ _ _ (by decide)) (set2_ne _ _ _ (by decide))⟩, by rw [s2_pl _ _ _ (by decide), s2_hit], s2_hit _ _ _ _, e2⟩
    unfold B_X5_build_120
    rw [wr_eq, show (180 : Int32) = nI 180 from rfl, f_sizeOf31 (b1.st e1).2.1 (by omega) t1, bd_some, wr_eq]
  intro m
  induction m with
  | zero =>
    intro k n A M hk hn hB hkl
    have := hB.2.2.2.1.1
    omega
  | succ m ih =>
    intro k n A M hk hn hB hkl
    cases n with
    | zero => omega
    | succ n =>
      have h30 := hB.2.2.2.1.1
      simp only [ouA]
      by_cases q : k < A.1.length
      · rw [if_pos q]
        have head : H_X5_build_22 (n + 1) (nI k) M = H_X5_build_38 (H_X5_build_22 n) 100 (nI k) (nI 0) M := by
          show B_X5_build_22 _ _ _ = _
          unfold B_X5_build_22
          rw [if_neg (show ¬ (30 : Int32) ≤ nI k from nI_ge (b := 30) (by omega) (by omega)), hB.2.2.2.1.2.1, if_neg (nI_ge q (by omega))]
          rfl
        obtain ⟨i1, i2⟩ := b_inner (k := k) hE6 (H_X5_build_22 n) nE 0 100 _ A M (by omega) (by omega) hB q
        rw [head]
        cases hin : inA c em lm u k nE 0 A with
        | none => exact ⟨fun A' z => (by cases z), fun _ => i2 hin⟩
        | some A1 =>
          obtain ⟨M1, f1, f2, f3, f4⟩ := i1 A1 hin
          have hB1 : BI M1 c em lm u nE (fun q => ∃ x y, x < k + 1 ∧ y < nE ∧ q = x * 6 + y) A1 := by
            obtain ⟨b1, b2, b3, b4, b5, b6, b7⟩ := f2
            refine ⟨b1, b2, b3, b4, b5, fun q hq => b6 q ?_, b7⟩
            obtain ⟨x, y, z, w, t⟩ := hq
            rcases Nat.lt_or_ge x k with v | v
            · exact Or.inl ⟨x, y, v, w, t⟩
            · have hx : x = k := by omega
              subst hx
              exact Or.inr ⟨y, Nat.zero_le _, w, t⟩
          obtain ⟨j1, j2⟩ := ih (k + 1) n A1 M1 (by omega) (by omega) hB1 (by omega)
          dsimp only
          rw [f1]
          refine ⟨fun A' z => ?_, fun z => ?_⟩
          · obtain ⟨M', g1, g2, g3, g4, g5, g6⟩ := j1 A' z
            exact ⟨M', g1, g2, by omega, g4, g5, f4.tr g6⟩
          · obtain ⟨M', g1, g2, g3⟩ := j2 z
            exact ⟨M', g1, g2, f4.tr g3⟩
      · rw [if_neg q]
        refine ⟨fun A' z => ?_, fun z => (by cases z)⟩
        cases z
        obtain ⟨M', f1, f2, f3, f4, f5⟩ := fin M A _ hB
        have hk2 : k = A.1.length := by omega
        refine ⟨M', ?_, by rw [hk2] at f2; exact f2, Nat.le_refl _, f3, f4, f5⟩
        show B_X5_build_22 _ _ _ = _
        unfold B_X5_build_22
        rw [hB.2.2.2.1.2.1, if_pos (show nI A.1.length ≤ nI k from nI_le (by omega) (by omega)), f1]
        exact ite_self _
theorem f_build {M : Mem} {c : Ch} {em lm : Nat → List Int32} {u : Ru} {nE : Nat} (hE6 : nE ≤ 6) (hS : SC M c em lm) (hR : RC M c u) (hE : M 18 9 = nI nE) : (∀ A, comA c em lm u nE = some A → ∃ M', F_X5_build M = some (1, M') ∧ BI M' c em lm u nE (fun q => ∃ x y, x < A.1.length ∧ y < nE ∧ q = x * 6 + y) A ∧ 1 ≤ A.1.length ∧ M' 30 7 = 0 ∧ M' 30 8 = nI (min 40 (A.2.2 180).length) ∧ stF M M') ∧ (comA c em lm u nE = none → ∃ M', F_X5_build M = some (0, M') ∧ M' 30 6 = 0 ∧ stF M M') := by
  have e1 : stF M (set2 M 30 6 0) := st_w (L := [30]) (agr.set (by decide)) (by simp)
  have hS1 := hS.st e1
  obtain ⟨M2, f1, f2, f3, f4, f5, f6⟩ := h_start 14 0 100 (set2 M 30 6 0) (by omega) (by omega) (fun i hi => by omega) hS1
  have e2 : stF M M2 := e1.tr (st_w f5 (by simp))
  have hT2 : TCs M2 (cN c) [] := ⟨by simp, by rw [f5 30 (by decide), s2_hit]; rfl, fun k a hk => by simp at hk⟩
  obtain ⟨n1, -⟩ := f_number (hS.1.st e2) hT2 (fun a ha => by cases ha) f4 f2
  obtain ⟨M3, g1, g2, g3, g4, g5, g6, g7⟩ := n1 0 [(enA c em none 9 0 (now0 c, [])).1] (by simp [numA, fnd])
  have e3 : stF M M3 := e2.tr (st_w g6 (by simp))
  have hB : BI M3 c em lm u nE (fun q => ∃ x y, x < 0 ∧ y < nE ∧ q = x * 6 + y) (tab0 c em) := ⟨hS.st e3, hR.st e3, by rw [e3 18 (by omega) (by omega)]; exact hE, g2, g3, fun q ⟨x, y, z, _⟩ => by omega, f3.keep (g6 32 (by decide)) (g6 33 (by decide))⟩
  obtain ⟨o1, o2⟩ := b_outer hE6 31 0 100 (tab0 c em) M3 (by omega) (by omega) hB (Nat.zero_le _)
  have head : F_X5_build M = H_X5_build_22 100 (nI 0) M3 := by
    unfold F_X5_build F_X6_start
    rw [wr_eq, show (180 : Int32) = nI 180 from rfl, show (0 : Int32) = nI 0 from rfl]
    rw [show H_X6_start_2 100 (nI 180) (nI 0) (set2 M 30 6 (nI 0)) = _ from f1, bd_some, g1, bd2_some]
  rw [head]
  refine ⟨fun A q => ?_, fun q => ?_⟩
  · obtain ⟨M', h1, h2, h3, h4, h5, h6⟩ := o1 A q
    exact ⟨M', h1, h2, h3, h4, h5, e3.tr h6⟩
  · obtain ⟨M', h1, h2, h3⟩ := o2 q
    exact ⟨M', h1, h2, e3.tr h3⟩
