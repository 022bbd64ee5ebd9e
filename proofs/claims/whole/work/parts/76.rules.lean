/-! Which states are active, scopes, rules; the class's. -/
def ac (c : Ch) (now : Nat → Int32) : Nat → Nat → Bool
  | 0, x => decide (x = 0)
  | f + 1, x => if x = 0 then true else (cW c (cP c x) || decide (now (cP c x) = nI x)) && ac c now f (cP c x)
def act (c : Ch) (now : Nat → Int32) (x : Nat) : Bool := ac c now x x
theorem ac_fuel {c : Ch} (h : wf c) {now : Nat → Int32} : ∀ (f g x : Nat), x < cN c → x ≤ f → x ≤ g → ac c now f x = ac c now g x
  | 0, 0, x, _, _, _ => rfl
  | 0, g + 1, x, hx, hf, _ => by
    have e : x = 0 := by omega
    subst e; simp [ac]
  | f + 1, 0, x, hx, _, hg => by
    have e : x = 0 := by omega
    subst e; simp [ac]
  | f + 1, g + 1, x, hx, hf, hg => by
    simp only [ac]
    by_cases q : x = 0
    · rw [if_pos q, if_pos q]
    · have hp := h.par (s := x) (by omega) hx
      rw [if_neg q, if_neg q, ac_fuel h f g (cP c x) (by omega) (by omega) (by omega)]
theorem act_0 {c : Ch} {now : Nat → Int32} : act c now 0 = true := by simp [act, ac]
theorem act_up {c : Ch} (h : wf c) {now : Nat → Int32} {x : Nat} (h0 : 0 < x) (hx : x < cN c) : act c now x = ((cW c (cP c x) || decide (now (cP c x) = nI x)) && act c now (cP c x)) := by
  unfold act
  cases x with
  | zero => omega
  | succ x =>
    have hp := h.par h0 hx
    rw [show ac c now (x + 1) (x + 1) = ((cW c (cP c (x + 1)) || decide (now (cP c (x + 1)) = nI (x + 1))) && ac c now x (cP c (x + 1))) by simp only [ac]; rw [if_neg (by omega)]]
    rw [ac_fuel h x (cP c (x + 1)) (cP c (x + 1)) (by omega) (by omega) (Nat.le_refl _)]
theorem h_isActive {M : Mem} {c : Ch} {now : Nat → Int32} (h : CC M c) (hw : ∀ i, i < 14 → M 35 i = now i) : ∀ (k x i n : Nat), x ≤ k → x < cN c → i + cD c x ≤ 6 → cD c x + 1 ≤ n → H_X6_isActive_4 M n (nI x) (nI i) = some (bI (act c now x)) := by
  intro k
  induction k with
  | zero =>
    intro x i n hk hx hi hn
    have e0 : x = 0 := by omega
    subst e0
    cases n with
    | zero => omega
    | succ n =>
      show B_X6_isActive_4 _ _ _ _ = _
      unfold B_X6_isActive_4
      rw [if_neg (show ¬ (6 : Int32) < nI i from nI_nlt (a := 6) (by omega) (by omega)), if_pos (by decide), act_0]
      rfl
  | succ k ih =>
    intro x i n hk hx hi hn
    rcases Nat.eq_zero_or_pos x with e0 | e0
    · exact ih x i n (by omega) hx hi hn
    · cases n with
      | zero => omega
      | succ n =>
        have hp := h.1.par e0 hx
        have hd := h.1.dep e0 hx
        have h14 := h.1.n14
        have hpn : cP c x < cN c := by omega
        have fin : B_X6_isActive_48 (H_X6_isActive_4 M n) M (nI i) (nI (cP c x)) = some (bI (act c now (cP c x))) := by
          unfold B_X6_isActive_48
          rw [nm_eq, show nI i + 1 = nI (i + 1) from nI_1 i]
          exact ih (cP c x) (i + 1) n (by omega) hpn (by omega) (by omega)
        show B_X6_isActive_4 _ _ _ _ = _
        unfold B_X6_isActive_4
        rw [if_neg (show ¬ (6 : Int32) < nI i from nI_nlt (a := 6) (by omega) (by omega)), if_neg (nI_nle e0 (by omega)), f_parentOf h e0 hx, bd_some, f_isWhole h hpn, bd_some, act_up h.1 e0 hx]
        cases hwp : cW c (cP c x)
        · rw [if_pos (by decide), f_currentChild (by omega), bd_some, hw _ (by omega)]
          by_cases q : now (cP c x) = nI x
          · rw [if_pos q, fin]; simp [q]
          · rw [if_neg q]; simp [q, bI]
        · rw [if_neg (by decide), fin]; simp
theorem f_isActive {M : Mem} {c : Ch} {now : Nat → Int32} (h : CC M c) (hw : ∀ i, i < 14 → M 35 i = now i) {x : Nat} (hx : x < cN c) : F_X6_isActive (nI x) M = some (bI (act c now x)) := by
  have := h.1.dep6 hx
  unfold F_X6_isActive
  exact h_isActive h hw x x 0 100 (Nat.le_refl _) hx (by omega) (by omega)
/-- the scope of a rule to t, from above p -/
def sp (c : Ch) (t : Nat) : Nat → Nat → Nat
  | 0, _ => 0
  | f + 1, p => if p = 0 then 0 else if cW c p = false ∧ (twd c p t).isSome = true then p else sp c t f (cP c p)
def scp (c : Ch) (fr t : Nat) : Nat := sp c t (cP c fr) (cP c fr)
theorem sp_fuel {c : Ch} (h : wf c) {t : Nat} : ∀ (f g p : Nat), p < cN c → p ≤ f → p ≤ g → sp c t f p = sp c t g p
  | 0, 0, p, _, _, _ => rfl
  | 0, g + 1, p, _, hf, _ => by
    have e : p = 0 := by omega
    subst e; simp [sp]
  | f + 1, 0, p, _, _, hg => by
    have e : p = 0 := by omega
    subst e; simp [sp]
  | f + 1, g + 1, p, hp, hf, hg => by
    simp only [sp]
    by_cases q : p = 0
    · rw [if_pos q, if_pos q]
    · have hq := h.par (s := p) (by omega) hp
      rw [if_neg q, if_neg q, sp_fuel h f g (cP c p) (by omega) (by omega) (by omega)]
theorem sp_0 {c : Ch} {t f : Nat} : sp c t f 0 = 0 := by cases f <;> simp [sp]
theorem sp_step {c : Ch} (h : wf c) {t p : Nat} (h0 : 0 < p) (hp : p < cN c) : sp c t p p = if cW c p = false ∧ (twd c p t).isSome = true then p else sp c t (cP c p) (cP c p) := by
  have hq := h.par h0 hp
  obtain ⟨p1, e⟩ : ∃ p1, p = p1 + 1 := ⟨p - 1, by omega⟩
  have e2 : sp c t p p = if cW c p = false ∧ (twd c p t).isSome = true then p else sp c t p1 (cP c p) := by
    rw [e]; simp only [sp]; rw [if_neg (by omega)]
  rw [e2, sp_fuel h p1 (cP c p) (cP c p) (by omega) (by omega) (Nat.le_refl _)]
/-- a scope isn't whole, t is below it, and it is above what it was sought from -/
theorem sp_ok {c : Ch} (h : wf c) {t : Nat} (t0 : 0 < t) (tn : t < cN c) : ∀ (k p : Nat), p ≤ k → p < cN c → sp c t p p < cN c ∧ cW c (sp c t p p) = false ∧ (twd c (sp c t p p) t).isSome = true ∧ sp c t p p ≤ p := by
  have top : (twd c 0 t).isSome = true := (twd_iff h t t (Nat.le_refl _) tn).mpr ⟨win_top h t t (Nat.le_refl _) tn, by omega⟩
  intro k
  induction k with
  | zero =>
    intro p hk hp
    have e : p = 0 := by omega
    subst e
    rw [sp_0]
    exact ⟨hp, h.2.2.2.1, top, Nat.le_refl _⟩
  | succ k ih =>
    intro p hk hp
    rcases Nat.eq_zero_or_pos p with e | e
    · subst e
      rw [sp_0]
      exact ⟨hp, h.2.2.2.1, top, Nat.le_refl _⟩
    · have hq := h.par e hp
      rw [sp_step h e hp]
      by_cases q : cW c p = false ∧ (twd c p t).isSome = true
      · rw [if_pos q]
        exact ⟨hp, q.1, q.2, Nat.le_refl _⟩
      · rw [if_neg q]
        obtain ⟨a, b, d, e⟩ := ih (cP c p) (by omega) (by omega)
        exact ⟨a, b, d, by omega⟩
theorem scp_ok {c : Ch} (h : wf c) {fr t : Nat} (f0 : 0 < fr) (fn : fr < cN c) (t0 : 0 < t) (tn : t < cN c) : scp c fr t < cN c ∧ cW c (scp c fr t) = false ∧ (twd c (scp c fr t) t).isSome = true := by
  have hp := h.par f0 fn
  obtain ⟨a, b, d, -⟩ := sp_ok h t0 tn (cP c fr) (cP c fr) (Nat.le_refl _) (by omega)
  exact ⟨a, b, d⟩
theorem h_scopeOf {M : Mem} {c : Ch} (h : CC M c) {t : Nat} (tn : t < cN c) : ∀ (k p i n : Nat), p ≤ k → p < cN c → i + cD c p ≤ 6 → cD c p + 1 ≤ n → H_X4_scopeOf_9 M n (nI t) (nI p) (nI i) = some (nI (sp c t p p)) := by
  intro k
  induction k with
  | zero =>
    intro p i n hk hp hi hn
    have e : p = 0 := by omega
    subst e
    cases n with
    | zero => omega
    | succ n =>
      show B_X4_scopeOf_9 _ _ _ _ _ = _
      unfold B_X4_scopeOf_9
      rw [if_neg (show ¬ (6 : Int32) < nI i from nI_nlt (a := 6) (by omega) (by omega)), if_pos (by decide), sp_0]
      rfl
  | succ k ih =>
    intro p i n hk hp hi hn
    rcases Nat.eq_zero_or_pos p with e | e
    · exact ih p i n (by omega) hp hi hn
    · cases n with
      | zero => omega
      | succ n =>
        have hq := h.1.par e hp
        have hd := h.1.dep e hp
        have h14 := h.1.n14
        have fin : B_X4_scopeOf_40 (H_X4_scopeOf_9 M n) M (nI t) (nI p) (nI i) = some (nI (sp c t (cP c p) (cP c p))) := by
          unfold B_X4_scopeOf_40
          rw [f_parentOf h e hp, bd_some, nm_eq, show nI i + 1 = nI (i + 1) from nI_1 i]
          exact ih (cP c p) (i + 1) n (by omega) (by omega) (by omega) (by omega)
        show B_X4_scopeOf_9 _ _ _ _ _ = _
        unfold B_X4_scopeOf_9
        rw [if_neg (show ¬ (6 : Int32) < nI i from nI_nlt (a := 6) (by omega) (by omega)), if_neg (nI_nle e (by omega)), f_isWhole h hp, bd_some, sp_step h.1 e hp]
        cases hwp : cW c p
        · rw [if_pos (by decide), f_childToward h hp tn, bd_some]
          cases ht : twd c p t with
          | none =>
            rw [if_pos (show oI none = -1 from rfl), fin, if_neg (fun z => by cases z.2)]
          | some y =>
            obtain ⟨-, yn, -⟩ := twd_some h.1 t t y (Nat.le_refl _) tn ht
            rw [if_neg (show ¬ oI (some y) = -1 from nI_ne_m1 (by omega)), if_pos ⟨rfl, rfl⟩]
        · rw [if_neg (by decide), fin, if_neg (fun z => by cases z.1)]
theorem f_scopeOf {M : Mem} {c : Ch} (h : CC M c) {fr t : Nat} (f0 : 0 < fr) (fn : fr < cN c) (tn : t < cN c) : F_X4_scopeOf (nI fr) (nI t) M = some (nI (scp c fr t)) := by
  have hp := h.1.par f0 fn
  have := h.1.dep6 (s := cP c fr) (by omega)
  unfold F_X4_scopeOf scp
  rw [f_parentOf h f0 fn, bd_some]
  exact h_scopeOf h tn (cP c fr) (cP c fr) 0 100 (Nat.le_refl _) (by omega) (by omega) (by omega)
/-- the rules: how many, event, from, target, asked state, wanted active, marks -/
abbrev Ru : Type := Nat × (Nat → Nat) × (Nat → Nat) × (Nat → Nat) × (Nat → Nat) × (Nat → Bool) × (Nat → List Int32)
def rN (u : Ru) : Nat := u.1
def rE (u : Ru) : Nat → Nat := u.2.1
def rF (u : Ru) : Nat → Nat := u.2.2.1
def rT (u : Ru) : Nat → Nat := u.2.2.2.1
def rA (u : Ru) : Nat → Nat := u.2.2.2.2.1
def rW (u : Ru) : Nat → Bool := u.2.2.2.2.2.1
def rM (u : Ru) : Nat → List Int32 := u.2.2.2.2.2.2
def ruOK (c : Ch) (u : Ru) : Prop := rN u ≤ 20 ∧ ∀ r, r < rN u → 0 < rF u r ∧ rF u r < cN c ∧ 0 < rT u r ∧ rT u r < cN c ∧ rA u r < cN c ∧ rE u r < 6
def RC (M : Mem) (c : Ch) (u : Ru) : Prop := ruOK c u ∧ M 18 8 = nI (rN u) ∧ ∀ r, r < rN u → M 20 r = nI (rE u r) ∧ M 21 r = nI (rF u r) ∧ M 22 r = nI (rT u r) ∧ M 23 r = nI (scp c (rF u r) (rT u r)) ∧ M 24 r = nI (rA u r) ∧ M 25 r = bI (rW u r) ∧ MKs M 26 3 r (rM u r)
theorem RC.keep {M M' : Mem} {c : Ch} {u : Ru} {L : List Nat} (h : RC M c u) (ha : agr L M M') (hL : ∀ a, a ∈ L → 31 < a) : RC M' c u := by
  have e : ∀ a, a ≤ 31 → M' a = M a := fun a q => ha a (fun z => by have := hL a z; omega)
  obtain ⟨h1, h2, h3⟩ := h
  refine ⟨h1, by rw [e 18 (by omega)]; exact h2, fun r hr => ?_⟩
  rw [e 20 (by omega), e 21 (by omega), e 22 (by omega), e 23 (by omega), e 24 (by omega), e 25 (by omega)]
  obtain ⟨a, b, d, f, g, i, j⟩ := h3 r hr
  exact ⟨a, b, d, f, g, i, j.keep (e _ (by omega)) (e _ (by omega))⟩
theorem RC.w {M M' : Mem} {c : Ch} {u : Ru} {row : Nat} (h : RC M c u) (g : sW row M M') : RC M' c u := h.keep g.1 (fun a ha => by simp only [List.mem_cons, List.not_mem_nil, or_false] at ha; omega)
theorem f_isRule {M : Mem} {c : Ch} {u : Ru} (h : RC M c u) {r : Nat} (hr : r < rN u) : F_X3_isRule (nI r) M = some 1 := by
  have := h.1.1
  unfold F_X3_isRule
  rw [if_neg (nI_lt0 (by omega)), h.2.1, if_neg (nI_ge hr (by omega))]
theorem f_isRule_m1 {M : Mem} : F_X3_isRule (-1) M = some 0 := by
  unfold F_X3_isRule
  rw [if_pos m1_lt0]
/-- the first own rule of s for ev, from r on -/
def ow (c : Ch) (u : Ru) (now : Nat → Int32) (s ev : Nat) : Nat → Nat → Option Nat
  | 0, _ => none
  | m + 1, r => if rE u r = ev ∧ rF u r = s ∧ act c now (rA u r) = rW u r then some r else ow c u now s ev m (r + 1)
def own (c : Ch) (u : Ru) (now : Nat → Int32) (s ev : Nat) : Option Nat := ow c u now s ev (rN u) 0
theorem ow_some {c : Ch} {u : Ru} {now : Nat → Int32} {s ev : Nat} : ∀ (m r x : Nat), ow c u now s ev m r = some x → r ≤ x ∧ x < r + m ∧ rF u x = s
  | 0, r, x, h => by cases h
  | m + 1, r, x, h => by
    simp only [ow] at h
    by_cases q : rE u r = ev ∧ rF u r = s ∧ act c now (rA u r) = rW u r
    · rw [if_pos q] at h
      cases h
      exact ⟨Nat.le_refl _, by omega, q.2.1⟩
    · rw [if_neg q] at h
      have := ow_some m (r + 1) x h
      exact ⟨by omega, by omega, this.2.2⟩
theorem bI_eq {a b : Bool} : (bI a = bI b) ↔ a = b := by cases a <;> cases b <;> decide
theorem h_ownRule {M : Mem} {c : Ch} {u : Ru} {now : Nat → Int32} (h : CC M c) (hR : RC M c u) (hw : ∀ i, i < 14 → M 35 i = now i) {s ev : Nat} (hs : s < cN c) (he : ev < 6) : ∀ (m r n : Nat), r + m = rN u → m < n → H_X6_ownRule_2 M n (nI s) (nI ev) (nI r) = some (oI (ow c u now s ev m r)) := by
  have h14 := h.1.n14
  have h20 := hR.1.1
  intro m
  induction m with
  | zero =>
    intro r n hr hn
    cases n with
    | zero => omega
    | succ n =>
      show B_X6_ownRule_2 _ _ _ _ _ = _
      unfold B_X6_ownRule_2 F_X3_made
      rw [hR.2.1, bd_some, if_pos (nI_le (by omega) (by omega))]
      rfl
  | succ m ih =>
    intro r n hr hn
    cases n with
    | zero => omega
    | succ n =>
      have hrn : r < rN u := by omega
      obtain ⟨a1, a2, a3, a4, a5, a6, -⟩ := hR.2.2 r hrn
      obtain ⟨b1, b2, b3, b4, b5, b6⟩ := hR.1.2 r hrn
      have fin : B_X6_ownRule_51 (H_X6_ownRule_2 M n) M (nI s) (nI ev) (nI r) = some (oI (ow c u now s ev m (r + 1))) := by
        unfold B_X6_ownRule_51
        rw [nm_eq, show nI r + 1 = nI (r + 1) from nI_1 r]
        exact ih (r + 1) n (by omega) (by omega)
      show B_X6_ownRule_2 _ _ _ _ _ = _
      unfold B_X6_ownRule_2 F_X3_made F_X3_isFor F_X3_askedOf F_X3_isWantedActive
      rw [hR.2.1, bd_some, if_neg (nI_ge hrn (by omega)), f_isRule hR hrn, bd_some, if_neg (by decide), gi_ok (show r < 20 by omega) (by decide), nI_clamp (by omega), a1]
      simp only [ow]
      by_cases q1 : rE u r = ev
      · rw [if_pos (by rw [q1]), gi_ok (show r < 20 by omega) (by decide), a2]
        by_cases q2 : rF u r = s
        · rw [if_pos (by rw [q2]), bd_some, if_neg (by decide), bd_some, if_neg (by decide), gi_ok (show r < 20 by omega) (by decide), a5, bd_some, f_isActive h hw b5, bd_some, gi_ok (show r < 20 by omega) (by decide), a6]
          have e : (if bI (rW u r) = 0 then some (0 : Int32) else some 1) = some (bI (rW u r)) := by cases rW u r <;> rfl
          rw [bd_some, if_neg (by decide), e, bd_some]
          by_cases q3 : act c now (rA u r) = rW u r
          · rw [if_pos (bI_eq.mpr q3), if_pos ⟨q1, q2, q3⟩]
            rfl
          · rw [if_neg (fun z => q3 (bI_eq.mp z)), fin, if_neg (fun z => q3 z.2.2)]
        · rw [if_neg (fun z => q2 (nI_inj (by omega) (by omega) z)), bd_some, if_pos rfl, fin, if_neg (fun z => q2 z.2.1)]
      · rw [if_neg (fun z => q1 (nI_inj (by omega) (by omega) z)), bd_some, if_pos rfl, fin, if_neg (fun z => q1 z.1)]
theorem f_ownRule {M : Mem} {c : Ch} {u : Ru} {now : Nat → Int32} (h : CC M c) (hR : RC M c u) (hw : ∀ i, i < 14 → M 35 i = now i) {s ev : Nat} (hs : s < cN c) (he : ev < 6) : F_X6_ownRule (nI s) (nI ev) M = some (oI (own c u now s ev)) := by
  have h20 := hR.1.1
  unfold F_X6_ownRule own
  exact h_ownRule h hR hw hs he (rN u) 0 100 (by omega) (by omega)
