/-! One state more. -/
def up {α : Type} (f : Nat → α) (n : Nat) (v : α) : Nat → α := fun k => if k = n then v else f k
theorem up_hit {α : Type} (f : Nat → α) (n : Nat) (v : α) : up f n v n = v := if_pos rfl
theorem up_ne {α : Type} (f : Nat → α) {n k : Nat} (v : α) (h : ¬ k = n) : up f n v k = f k := if_neg h
def gC (c : Ch) (p : Nat) (a r : Bool) : Ch := (cN c + 1, up (cP c) (cN c) p, up (cD c) (cN c) (cD c p + 1), up (cW c) (cN c) a, up (cR c) (cN c) r)
theorem gN (c : Ch) (p : Nat) (a r : Bool) : cN (gC c p a r) = cN c + 1 := rfl
theorem gP {c : Ch} {p : Nat} {a r : Bool} {s : Nat} (h : s < cN c) : cP (gC c p a r) s = cP c s := up_ne _ _ (by omega)
theorem gD {c : Ch} {p : Nat} {a r : Bool} {s : Nat} (h : s < cN c) : cD (gC c p a r) s = cD c s := up_ne _ _ (by omega)
theorem gW {c : Ch} {p : Nat} {a r : Bool} {s : Nat} (h : s < cN c) : cW (gC c p a r) s = cW c s := up_ne _ _ (by omega)
theorem gR {c : Ch} {p : Nat} {a r : Bool} {s : Nat} (h : s < cN c) : cR (gC c p a r) s = cR c s := up_ne _ _ (by omega)
theorem gP' {c : Ch} {p : Nat} {a r : Bool} : cP (gC c p a r) (cN c) = p := up_hit _ _ _
theorem gD' {c : Ch} {p : Nat} {a r : Bool} : cD (gC c p a r) (cN c) = cD c p + 1 := up_hit _ _ _
theorem gW' {c : Ch} {p : Nat} {a r : Bool} : cW (gC c p a r) (cN c) = a := up_hit _ _ _
theorem gR' {c : Ch} {p : Nat} {a r : Bool} : cR (gC c p a r) (cN c) = r := up_hit _ _ _
theorem gwf {c : Ch} {p : Nat} {a r : Bool} (h : wf c) (hp : p < cN c) (hn : cN c < 14) (hd : cD c p < 6) : wf (gC c p a r) := by
  have h1 := h.1
  refine ⟨by rw [gN]; omega, by rw [gN]; omega, by rw [gD (by omega)]; exact h.2.2.1, by rw [gW (by omega)]; exact h.2.2.2.1, fun s h0 hs => ?_⟩
  rw [gN] at hs
  by_cases q : s = cN c
  · subst q
    rw [gP', gD', gD hp]
    exact ⟨hp, rfl, by omega⟩
  · have hs2 : s < cN c := by omega
    have hp2 := h.par h0 hs2
    rw [gP hs2, gD hs2, gD (by omega)]
    exact h.2.2.2.2 s h0 hs2
theorem g_tw {c : Ch} {p : Nat} {a r : Bool} (h : wf c) {s : Nat} : ∀ (f x : Nat), x < cN c → tw (gC c p a r) f s x = tw c f s x
  | 0, _, _ => rfl
  | f + 1, x, hx => by
    simp only [tw]
    by_cases q : x = 0
    · rw [if_pos q, if_pos q]
    · have hp := h.par (s := x) (by omega) hx
      rw [if_neg q, if_neg q, gP hx, g_tw h f (cP c x) (by omega)]
theorem g_twd {c : Ch} {p : Nat} {a r : Bool} (h : wf c) {s x : Nat} (hx : x < cN c) : twd (gC c p a r) s x = twd c s x := g_tw h _ _ hx
theorem g_sp {c : Ch} {p : Nat} {a r : Bool} (h : wf c) {t : Nat} (ht : t < cN c) : ∀ (f x : Nat), x < cN c → sp (gC c p a r) t f x = sp c t f x
  | 0, _, _ => rfl
  | f + 1, x, hx => by
    simp only [sp]
    by_cases q : x = 0
    · rw [if_pos q, if_pos q]
    · have hp := h.par (s := x) (by omega) hx
      rw [if_neg q, if_neg q, gP hx, gW hx, g_twd h ht, g_sp h ht f (cP c x) (by omega)]
theorem g_scp {c : Ch} {p : Nat} {a r : Bool} (h : wf c) {fr t : Nat} (f0 : 0 < fr) (fn : fr < cN c) (tn : t < cN c) : scp (gC c p a r) fr t = scp c fr t := by
  have hp := h.par f0 fn
  unfold scp
  rw [gP fn, g_sp h tn _ _ (by omega)]
theorem g_kf {c : Ch} {p : Nat} {a r : Bool} {s : Nat} : ∀ (m k : Nat), k + m = cN c → kf (gC c p a r) s (m + 1) k = kf c s m k ++ (if p = s then [cN c] else [])
  | 0, k, h => by
    have e : k = cN c := by omega
    subst e
    simp only [kf, gP', List.nil_append]
  | m + 1, k, h => by
    have ih := g_kf (c := c) (p := p) (a := a) (r := r) (s := s) m (k + 1) (by omega)
    rw [show kf (gC c p a r) s (m + 1 + 1) k = if cP (gC c p a r) k = s then k :: kf (gC c p a r) s (m + 1) (k + 1) else kf (gC c p a r) s (m + 1) (k + 1) from rfl, gP (by omega), ih]
    simp only [kf]
    by_cases q : cP c k = s
    · rw [if_pos q, if_pos q, List.cons_append]
    · rw [if_neg q, if_neg q]
theorem g_kids {c : Ch} {p : Nat} {a r : Bool} {s : Nat} (hs : s < cN c) : kids (gC c p a r) s = kids c s ++ (if p = s then [cN c] else []) := by
  unfold kids
  rw [gN, show cN c + 1 - (s + 1) = (cN c - (s + 1)) + 1 by omega, g_kf _ _ (by omega)]
theorem g_kids' {c : Ch} {p : Nat} {a r : Bool} : kids (gC c p a r) (cN c) = [] := by
  unfold kids
  rw [gN, show cN c + 1 - (cN c + 1) = 0 by omega]
  rfl
theorem g_fst {c : Ch} {p : Nat} {a r : Bool} {s : Nat} (hs : s < cN c) (hn : cN c < 14) (h : wf c) : fstI (gC c p a r) s = if s = p ∧ fstI c p = -1 then nI (cN c) else fstI c s := by
  unfold fstI
  rw [g_kids hs]
  by_cases q : s = p
  · subst q
    rw [if_pos rfl]
    cases hk : kids c s with
    | nil => rw [if_pos ⟨rfl, rfl⟩]; rfl
    | cons y ys =>
      have hy := (kids_mem h hs).mp (hk ▸ List.mem_cons_self : y ∈ kids c s)
      rw [if_neg (fun z => nI_ne_m1 (by omega) z.2)]
      rfl
  · rw [if_neg (fun z => q z.symm), if_neg (fun z => q z.1), List.append_nil]
theorem g_fst' {c : Ch} {p : Nat} {a r : Bool} : fstI (gC c p a r) (cN c) = -1 := by unfold fstI; rw [g_kids']
theorem bI_nar (b : Bool) : vp_nar .boolean (bI b) = bI b := by cases b <;> decide
theorem bI_0 (b : Bool) : (bI b = 0) = (b = false) := by cases b <;> simp [bI]
theorem f_make {M : Mem} {c : Ch} (h : CC M c) {p : Nat} (hp : p < cN c) (hn : cN c < 14) (v : Int32) (a r : Bool) : ∃ M', F_X4_make v (nI p) (bI a) (bI r) M = some M' ∧ M' 5 8 = nI (cN c + 1) ∧ (∀ s, M' 6 s = if s = cN c then v else M 6 s) ∧ (∀ s, M' 7 s = if s = cN c then nI p else M 7 s) ∧ (∀ s, M' 8 s = if s = cN c then nI (cD c p + 1) else M 8 s) ∧ (∀ s, M' 9 s = if s = p ∧ M 9 p = -1 then nI (cN c) else if s = cN c then -1 else M 9 s) ∧ (∀ s, M' 10 s = if s = cN c then bI a else M 10 s) ∧ (∀ s, M' 11 s = if s = cN c then bI r else M 11 s) ∧ agr [5, 6, 7, 8, 9, 10, 11] M M' := by
  have hN := h.2.1
  have hpn : ¬ p = cN c := by omega
  have hclN : (nI (cN c)).toNatClampNeg = cN c := nI_clamp (by omega)
  have hclp : (nI p).toNatClampNeg = p := nI_clamp (by omega)
  have key : ∀ M1 : Mem, M1 5 8 = nI (cN c) → ∃ M', B_X4_make_104 M1 = some M' ∧ M' 5 8 = nI (cN c + 1) ∧ agr [5] M1 M' := fun M1 e => ⟨_, by unfold B_X4_make_104; rw [wr_eq], by rw [s2_hit, e, nI_1], agr.set (by decide)⟩
  unfold F_X4_make F_X4_isFull
  rw [hN, if_pos (show nI (cN c) < 14 from nI_lt (b := 14) hn (by omega)), bd_some, if_pos rfl, f_isState h hp, bd_some, if_neg (by decide), gi_ok hn (by decide), wr_eq, hclN]
  simp only [wr_eq]
  have e5 : ∀ (M1 : Mem) (k : Nat) (j : Nat) (v : Int32), ¬ k = 5 → set2 M1 k j v 5 8 = M1 5 8 := fun M1 k j v hk => s2_oth _ _ _ _ (fun z => hk z.symm)
  simp only [e5 _ 6 _ _ (by decide), e5 _ 7 _ _ (by decide), e5 _ 8 _ _ (by decide), e5 _ 9 _ _ (by decide), e5 _ 10 _ _ (by decide), e5 _ 11 _ _ (by decide), hN, gi_ok hn (show 14 < 2 ^ 31 by decide), gi_ok (show p < 14 by omega) (show 14 < 2 ^ 31 by decide), hclN, hclp, bI_nar]
  obtain ⟨M1, eM⟩ : ∃ M1, M1 = set2 (set2 (set2 (set2 (set2 (set2 M 6 (cN c) v) 7 (cN c) (nI p)) 8 (cN c) (set2 (set2 M 6 (cN c) v) 7 (cN c) (nI p) 8 p + 1)) 9 (cN c) (-1)) 10 (cN c) (bI a)) 11 (cN c) (bI r) := ⟨_, rfl⟩
  rw [← eM]
  have a5 : M1 5 8 = nI (cN c) := by rw [eM]; simp [s2]; exact hN
  have a6 : ∀ s, M1 6 s = if s = cN c then v else M 6 s := fun s => by rw [eM]; simp [s2]
  have a7 : ∀ s, M1 7 s = if s = cN c then nI p else M 7 s := fun s => by rw [eM]; simp [s2]
  have a8 : ∀ s, M1 8 s = if s = cN c then nI (cD c p + 1) else M 8 s := fun s => by rw [eM]; simp [s2]; rw [h.2.2.2.2.1 p hp, nI_1]
  have a9 : ∀ s, M1 9 s = if s = cN c then -1 else M 9 s := fun s => by rw [eM]; simp [s2]
  have a10 : ∀ s, M1 10 s = if s = cN c then bI a else M 10 s := fun s => by rw [eM]; simp [s2]
  have a11 : ∀ s, M1 11 s = if s = cN c then bI r else M 11 s := fun s => by rw [eM]; simp [s2]
  have aA : agr [5, 6, 7, 8, 9, 10, 11] M M1 := by
    intro x hx
    simp only [List.mem_cons, List.not_mem_nil, or_false, not_or] at hx
    rw [eM]
    funext j
    simp [s2, hx.2.1, hx.2.2.1, hx.2.2.2.1, hx.2.2.2.2.1, hx.2.2.2.2.2.1, hx.2.2.2.2.2.2]
  have o : ∀ (M2 M3 : Mem), agr [5] M2 M3 → ∀ x, ¬ x = 5 → M3 x = M2 x := fun M2 M3 e x hx => e x (by simp [hx])
  have m5 : ∀ (M2 M3 : Mem), agr [5] M2 M3 → agr [5, 6, 7, 8, 9, 10, 11] M2 M3 := fun M2 M3 e => e.mono (fun x hx => by simp at hx; subst hx; simp)
  rw [show M1 9 p = M 9 p by rw [a9, if_neg hpn]]
  by_cases q : M 9 p = -1
  · rw [if_pos q]
    obtain ⟨M', e1, e2, e3⟩ := key (set2 M1 9 p (nI (cN c))) (by rw [s2_oth _ _ _ _ (by decide)]; exact a5)
    refine ⟨M', e1, e2, fun s => ?_, fun s => ?_, fun s => ?_, fun s => ?_, fun s => ?_, fun s => ?_, aA.tr ((agr.set (by decide)).tr (m5 _ _ e3))⟩
    · rw [o _ _ e3 6 (by decide), s2_oth _ _ _ _ (by decide), a6]
    · rw [o _ _ e3 7 (by decide), s2_oth _ _ _ _ (by decide), a7]
    · rw [o _ _ e3 8 (by decide), s2_oth _ _ _ _ (by decide), a8]
    · rw [o _ _ e3 9 (by decide), s2, if_pos rfl]
      by_cases z : s = p
      · rw [if_pos z, if_pos ⟨z, q⟩]
      · rw [if_neg z, if_neg (fun y => z y.1), a9]
    · rw [o _ _ e3 10 (by decide), s2_oth _ _ _ _ (by decide), a10]
    · rw [o _ _ e3 11 (by decide), s2_oth _ _ _ _ (by decide), a11]
  · rw [if_neg q]
    obtain ⟨M', e1, e2, e3⟩ := key M1 a5
    refine ⟨M', e1, e2, fun s => ?_, fun s => ?_, fun s => ?_, fun s => ?_, fun s => ?_, fun s => ?_, aA.tr (m5 _ _ e3)⟩
    · rw [o _ _ e3 6 (by decide), a6]
    · rw [o _ _ e3 7 (by decide), a7]
    · rw [o _ _ e3 8 (by decide), a8]
    · rw [o _ _ e3 9 (by decide), if_neg (show ¬ (s = p ∧ M 9 p = -1) from fun y => q y.2), a9]
    · rw [o _ _ e3 10 (by decide), a10]
    · rw [o _ _ e3 11 (by decide), a11]
theorem grow_CC {M M' : Mem} {c : Ch} (h : CC M c) {p : Nat} (hp : p < cN c) (hn : cN c < 14) (hd : cD c p < 6) {a r : Bool} (m5 : M' 5 8 = nI (cN c + 1)) (m7 : ∀ s, M' 7 s = if s = cN c then nI p else M 7 s) (m8 : ∀ s, M' 8 s = if s = cN c then nI (cD c p + 1) else M 8 s) (m9 : ∀ s, M' 9 s = if s = p ∧ M 9 p = -1 then nI (cN c) else if s = cN c then -1 else M 9 s) (m10 : ∀ s, M' 10 s = if s = cN c then bI a else M 10 s) (m11 : ∀ s, M' 11 s = if s = cN c then bI r else M 11 s) : CC M' (gC c p a r) := by
  obtain ⟨h1, h2, h3, h4, h5, h6, h7, h8⟩ := h
  have hN1 := h1.1
  refine ⟨gwf h1 hp hn hd, m5, ?_, fun s h0 hs => ?_, fun s hs => ?_, fun s hs => ?_, fun s hs => ?_, fun s hs => ?_⟩
  · rw [m7, if_neg (by omega)]; exact h3
  all_goals rw [gN] at hs
  · rw [m7]
    by_cases q : s = cN c
    · rw [if_pos q, q, gP']
    · rw [if_neg q, gP (by omega)]; exact h4 s h0 (by omega)
  · rw [m8]
    by_cases q : s = cN c
    · rw [if_pos q, q, gD']
    · rw [if_neg q, gD (by omega)]; exact h5 s (by omega)
  · rw [m10]
    by_cases q : s = cN c
    · rw [if_pos q, q, gW']
    · rw [if_neg q, gW (by omega)]; exact h6 s (by omega)
  · rw [m11]
    by_cases q : s = cN c
    · rw [if_pos q, q, gR']
    · rw [if_neg q, gR (by omega)]; exact h7 s (by omega)
  · rw [m9]
    by_cases q : s = cN c
    · rw [if_neg (fun z => by omega), if_pos q, q, g_fst']
    · rw [g_fst (by omega) hn h1, h8 p hp, if_neg q, h8 s (by omega)]
