/-! The chart: how many states, parent, depth, whole, remember. -/
abbrev Ch : Type := Nat × (Nat → Nat) × (Nat → Nat) × (Nat → Bool) × (Nat → Bool)
def cN (c : Ch) : Nat := c.1
def cP (c : Ch) : Nat → Nat := c.2.1
def cD (c : Ch) : Nat → Nat := c.2.2.1
def cW (c : Ch) : Nat → Bool := c.2.2.2.1
def cR (c : Ch) : Nat → Bool := c.2.2.2.2
def wf (c : Ch) : Prop := 1 ≤ cN c ∧ cN c ≤ 14 ∧ cD c 0 = 0 ∧ cW c 0 = false ∧ ∀ s, 0 < s → s < cN c → cP c s < s ∧ cD c s = cD c (cP c s) + 1 ∧ cD c s ≤ 6
theorem wf.par {c : Ch} (h : wf c) {s : Nat} (h0 : 0 < s) (hs : s < cN c) : cP c s < s := (h.2.2.2.2 s h0 hs).1
theorem wf.dep {c : Ch} (h : wf c) {s : Nat} (h0 : 0 < s) (hs : s < cN c) : cD c s = cD c (cP c s) + 1 := (h.2.2.2.2 s h0 hs).2.1
theorem wf.dep6 {c : Ch} (h : wf c) {s : Nat} (hs : s < cN c) : cD c s ≤ 6 := by
  rcases Nat.eq_zero_or_pos s with e | e
  · rw [e, h.2.2.1]; omega
  · exact (h.2.2.2.2 s e hs).2.2
theorem wf.n14 {c : Ch} (h : wf c) : cN c ≤ 14 := h.2.1
/-- a is x, or above it -/
def wi (c : Ch) : Nat → Nat → Nat → Bool
  | 0, x, a => decide (x = a)
  | f + 1, x, a => if x ≤ a then decide (x = a) else wi c f (cP c x) a
def win (c : Ch) (x a : Nat) : Bool := wi c x x a
theorem wi_fuel {c : Ch} (h : wf c) : ∀ (f g x a : Nat), x < cN c → x ≤ f → x ≤ g → wi c f x a = wi c g x a
  | 0, 0, x, a, _, _, _ => rfl
  | 0, g + 1, x, a, hx, hf, _ => by
    have e : x = 0 := by omega
    subst e
    simp [wi]
  | f + 1, 0, x, a, hx, _, hg => by
    have e : x = 0 := by omega
    subst e
    simp [wi]
  | f + 1, g + 1, x, a, hx, hf, hg => by
    simp only [wi]
    by_cases q : x ≤ a
    · rw [if_pos q, if_pos q]
    · rw [if_neg q, if_neg q]
      have hp := h.par (s := x) (by omega) hx
      exact wi_fuel h f g (cP c x) a (by omega) (by omega) (by omega)
theorem win_le {c : Ch} {x a : Nat} (h : x ≤ a) : win c x a = decide (x = a) := by
  unfold win
  cases x with
  | zero => rfl
  | succ x => simp only [wi]; rw [if_pos h]
theorem win_gt {c : Ch} (h : wf c) {x a : Nat} (hx : x < cN c) (ha : a < x) : win c x a = win c (cP c x) a := by
  unfold win
  cases x with
  | zero => omega
  | succ x =>
    simp only [wi]
    rw [if_neg (by omega)]
    have hp := h.par (s := x + 1) (by omega) hx
    exact wi_fuel h _ _ _ _ (by omega) (by omega) (by omega)
theorem win_self {c : Ch} (x : Nat) : win c x x = true := by rw [win_le (Nat.le_refl _)]; simp
theorem win_lt {c : Ch} {x a : Nat} (h : x < a) : win c x a = false := by rw [win_le (by omega)]; simp; omega
theorem win_top {c : Ch} (h : wf c) : ∀ (k x : Nat), x ≤ k → x < cN c → win c x 0 = true
  | 0, x, hk, _ => by
    have e : x = 0 := by omega
    subst e; exact win_self 0
  | k + 1, x, hk, hx => by
    rcases Nat.eq_zero_or_pos x with e | e
    · subst e; exact win_self 0
    · rw [win_gt h hx e]
      have hp := h.par e hx
      exact win_top h k _ (by omega) (by omega)
theorem win_ge {c : Ch} {x a : Nat} (h : win c x a = true) : a ≤ x := by
  rcases Nat.lt_or_ge x a with q | q
  · rw [win_lt q] at h; cases h
  · exact q
/-- above is a partial order -/
theorem win_trans {c : Ch} (h : wf c) : ∀ (k x a b : Nat), x ≤ k → x < cN c → win c x a = true → win c a b = true → win c x b = true
  | 0, x, a, b, hk, hx, h1, h2 => by
    have e := win_ge h1
    have e2 : x = a := by omega
    rw [e2]; exact h2
  | k + 1, x, a, b, hk, hx, h1, h2 => by
    have e := win_ge h1
    rcases Nat.lt_or_ge a x with q | q
    · rw [win_gt h hx q] at h1
      have hp := h.par (s := x) (by omega) hx
      have h3 := win_trans h k (cP c x) a b (by omega) (by omega) h1 h2
      have hb := win_ge h2
      rw [win_gt h hx (by omega)]
      exact h3
    · have e2 : x = a := by omega
      rw [e2]; exact h2
/-- two that are above x are above one another -/
theorem win_lin {c : Ch} (h : wf c) : ∀ (k x a b : Nat), x ≤ k → x < cN c → win c x a = true → win c x b = true → b ≤ a → win c a b = true
  | 0, x, a, b, hk, hx, h1, h2, hab => by
    have e := win_ge h1
    have e2 : x = a := by omega
    rw [← e2]; exact h2
  | k + 1, x, a, b, hk, hx, h1, h2, hab => by
    have e := win_ge h1
    rcases Nat.lt_or_ge a x with q | q
    · rw [win_gt h hx q] at h1
      rw [win_gt h hx (by omega)] at h2
      have hp := h.par (s := x) (by omega) hx
      exact win_lin h k _ a b (by omega) (by omega) h1 h2 hab
    · have e2 : x = a := by omega
      rw [← e2]; exact h2
/-- the child of s that is t, or has it below -/
def tw (c : Ch) : Nat → Nat → Nat → Option Nat
  | 0, _, _ => none
  | f + 1, s, x => if x = 0 then none else if cP c x = s then some x else tw c f s (cP c x)
def twd (c : Ch) (s x : Nat) : Option Nat := tw c (x + 1) s x
theorem tw_fuel {c : Ch} (h : wf c) : ∀ (f g s x : Nat), x < cN c → x < f → x < g → tw c f s x = tw c g s x
  | 0, _, _, x, _, hf, _ => by omega
  | f + 1, 0, _, x, _, _, hg => by omega
  | f + 1, g + 1, s, x, hx, hf, hg => by
    simp only [tw]
    by_cases q : x = 0
    · rw [if_pos q, if_pos q]
    · rw [if_neg q, if_neg q]
      by_cases r : cP c x = s
      · rw [if_pos r, if_pos r]
      · rw [if_neg r, if_neg r]
        have hp := h.par (s := x) (by omega) hx
        exact tw_fuel h f g s _ (by omega) (by omega) (by omega)
theorem twd_0 {c : Ch} (s : Nat) : twd c s 0 = none := by simp [twd, tw]
theorem twd_hit {c : Ch} {s x : Nat} (h0 : 0 < x) (hp : cP c x = s) : twd c s x = some x := by
  unfold twd; simp only [tw]; rw [if_neg (by omega), if_pos hp]
theorem twd_up {c : Ch} (h : wf c) {s x : Nat} (h0 : 0 < x) (hx : x < cN c) (hp : ¬ cP c x = s) : twd c s x = twd c s (cP c x) := by
  unfold twd
  have hq := h.par h0 hx
  rw [show tw c (x + 1) s x = tw c x s (cP c x) by simp only [tw]; rw [if_neg (by omega), if_neg hp]]
  exact tw_fuel h _ _ _ _ (by omega) (by omega) (by omega)
/-- toward tells a child of s above t -/
theorem twd_some {c : Ch} (h : wf c) {s : Nat} : ∀ (k x y : Nat), x ≤ k → x < cN c → twd c s x = some y → 0 < y ∧ y < cN c ∧ cP c y = s ∧ win c x y = true
  | 0, x, y, hk, hx, e => by
    have e0 : x = 0 := by omega
    subst e0; rw [twd_0] at e; cases e
  | k + 1, x, y, hk, hx, e => by
    rcases Nat.eq_zero_or_pos x with q | q
    · subst q; rw [twd_0] at e; cases e
    · by_cases r : cP c x = s
      · rw [twd_hit q r] at e
        cases e
        exact ⟨q, hx, r, win_self x⟩
      · rw [twd_up h q hx r] at e
        have hp := h.par q hx
        obtain ⟨a, b, d, g⟩ := twd_some h k (cP c x) y (by omega) (by omega) e
        have hy := win_ge g
        refine ⟨a, b, d, ?_⟩
        rw [win_gt h hx (by omega)]
        exact g
theorem twd_none {c : Ch} (h : wf c) {s : Nat} : ∀ (k x y : Nat), x ≤ k → x < cN c → 0 < y → y < cN c → cP c y = s → win c x y = true → twd c s x = some y
  | 0, x, y, hk, hx, hy, _, _, g => by
    have := win_ge g
    omega
  | k + 1, x, y, hk, hx, hy, hyn, hp, g => by
    have hxy := win_ge g
    have hx0 : 0 < x := by omega
    rcases Nat.lt_or_ge y x with q | q
    · have g2 := g
      rw [win_gt h hx q] at g2
      have hpx := h.par hx0 hx
      have hyp := win_ge g2
      have hsy : s < y := by rw [← hp]; exact h.par hy hyn
      rw [twd_up h hx0 hx (by omega)]
      exact twd_none h k (cP c x) y (by omega) (by omega) hy hyn hp g2
    · have e2 : x = y := by omega
      rw [e2]; exact twd_hit hy hp
/-- s is above t, and another one: there is such a child -/
theorem twd_iff {c : Ch} (h : wf c) {s : Nat} : ∀ (k x : Nat), x ≤ k → x < cN c → ((twd c s x).isSome = true ↔ (win c x s = true ∧ x ≠ s))
  | 0, x, hk, hx => by
    have e0 : x = 0 := by omega
    subst e0
    rw [twd_0]
    constructor
    · intro q; cases q
    · intro q
      have := win_ge q.1
      exact absurd (by omega) q.2
  | k + 1, x, hk, hx => by
    rcases Nat.eq_zero_or_pos x with q | q
    · subst q
      rw [twd_0]
      constructor
      · intro q; cases q
      · intro q
        have := win_ge q.1
        exact absurd (by omega) q.2
    · have hp := h.par q hx
      by_cases r : cP c x = s
      · rw [twd_hit q r]
        refine ⟨fun _ => ⟨?_, by omega⟩, fun _ => rfl⟩
        rw [win_gt h hx (by omega), r]; exact win_self s
      · rw [twd_up h q hx r, twd_iff h k (cP c x) (by omega) (by omega)]
        constructor
        · intro ⟨a, b⟩
          have := win_ge a
          exact ⟨by rw [win_gt h hx (by omega)]; exact a, by omega⟩
        · intro ⟨a, b⟩
          have hs := win_ge a
          rw [win_gt h hx (by omega)] at a
          exact ⟨a, r⟩
/-- a child of s above x is the only one -/
theorem kid_one {c : Ch} (h : wf c) {x y z s : Nat} (hx : x < cN c) (hy : 0 < y) (hz : 0 < z) (hyn : y < cN c) (hzn : z < cN c) (py : cP c y = s) (pz : cP c z = s) (gy : win c x y = true) (gz : win c x z = true) : y = z := by
  have a := twd_none h x x y (Nat.le_refl _) hx hy hyn py gy
  have b := twd_none h x x z (Nat.le_refl _) hx hz hzn pz gz
  rw [a] at b
  exact Option.some.inj b
/-- the children of s from k on, m numbers long -/
def kf (c : Ch) (s : Nat) : Nat → Nat → List Nat
  | 0, _ => []
  | m + 1, k => if cP c k = s then k :: kf c s m (k + 1) else kf c s m (k + 1)
def kids (c : Ch) (s : Nat) : List Nat := kf c s (cN c - (s + 1)) (s + 1)
theorem kf_mem {c : Ch} {s : Nat} : ∀ (m k x : Nat), x ∈ kf c s m k ↔ (k ≤ x ∧ x < k + m ∧ cP c x = s)
  | 0, k, x => by
    simp only [kf, List.not_mem_nil, false_iff]
    omega
  | m + 1, k, x => by
    simp only [kf]
    by_cases q : cP c k = s
    · rw [if_pos q, List.mem_cons, kf_mem m (k + 1) x]
      constructor
      · rintro (e | ⟨a, b, d⟩)
        · subst e; exact ⟨Nat.le_refl _, by omega, q⟩
        · exact ⟨by omega, by omega, d⟩
      · rintro ⟨a, b, d⟩
        rcases Nat.eq_or_lt_of_le a with e | e
        · exact Or.inl e.symm
        · exact Or.inr ⟨by omega, by omega, d⟩
    · rw [if_neg q, kf_mem m (k + 1) x]
      constructor
      · rintro ⟨a, b, d⟩; exact ⟨by omega, by omega, d⟩
      · rintro ⟨a, b, d⟩
        refine ⟨?_, by omega, d⟩
        rcases Nat.eq_or_lt_of_le a with e | e
        · subst e; exact absurd d q
        · exact e
theorem kids_mem {c : Ch} (h : wf c) {s x : Nat} (hs : s < cN c) : x ∈ kids c s ↔ (0 < x ∧ x < cN c ∧ cP c x = s) := by
  unfold kids
  rw [kf_mem]
  constructor
  · rintro ⟨a, b, d⟩; exact ⟨by omega, by omega, d⟩
  · rintro ⟨a, b, d⟩
    have := h.par a b
    exact ⟨by omega, by omega, d⟩
theorem kf_lt {c : Ch} {s : Nat} : ∀ (m k : Nat), (kf c s m k).Pairwise (· < ·)
  | 0, _ => List.Pairwise.nil
  | m + 1, k => by
    simp only [kf]
    by_cases q : cP c k = s
    · rw [if_pos q]
      refine List.Pairwise.cons (fun x hx => ?_) (kf_lt m (k + 1))
      have := (kf_mem m (k + 1) x).mp hx
      omega
    · rw [if_neg q]; exact kf_lt m (k + 1)
