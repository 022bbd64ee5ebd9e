/-! The reference's leaving: the states from above to below, then back; it is the recursion. -/
def pre (c : Ch) (now : Nat → Int32) : Nat → Nat → List Nat
  | 0, _ => []
  | f + 1, s => s :: (if cW c s = true then ((kids c s).map (pre c now f)).flatten else if now s = -1 then [] else pre c now f (now s).toNatClampNeg)
theorem pre_w {c : Ch} {now : Nat → Int32} {f s : Nat} (h : cW c s = true) : pre c now (f + 1) s = s :: ((kids c s).map (pre c now f)).flatten := by simp only [pre]; rw [if_pos h]
theorem pre_0 {c : Ch} {now : Nat → Int32} {f s : Nat} (h : cW c s = false) (e : now s = -1) : pre c now (f + 1) s = [s] := by simp only [pre]; rw [if_neg (by rw [h]; decide), if_pos e]
theorem pre_1 {c : Ch} {now : Nat → Int32} {f s k : Nat} (h : cW c s = false) (hk : k < 2 ^ 31) (e : now s = nI k) : pre c now (f + 1) s = s :: pre c now f k := by simp only [pre]; rw [if_neg (by rw [h]; decide), e, if_neg (nI_ne_m1 hk), nI_clamp hk]
theorem pre_win {c : Ch} (hc : wf c) {now : Nat → Int32} (hg : nowOK c now) : ∀ (f s : Nat), s < cN c → ∀ x, x ∈ pre c now f s → x < cN c ∧ win c x s = true := by
  intro f
  induction f with
  | zero => intro s hs x hx; cases hx
  | succ f ih =>
    intro s hs x hx
    have up : ∀ k, k ∈ kids c s → x ∈ pre c now f k → x < cN c ∧ win c x s = true := by
      intro k hk hx
      obtain ⟨a, b⟩ := ih k (kid_facts hc hs hk).2.1 x hx
      exact ⟨a, win_trans hc x x k s (Nat.le_refl _) a b (kid_win hc hs hk)⟩
    cases hw : cW c s
    · rcases (hg s).1 hs with ⟨e, -⟩ | ⟨-, k, hk, e⟩
      · rw [pre_0 hw e, List.mem_singleton] at hx
        rw [hx]; exact ⟨hs, win_self s⟩
      · rw [pre_1 hw (kids_31 hc hs k hk) e] at hx
        rcases List.mem_cons.mp hx with q | q
        · rw [q]; exact ⟨hs, win_self s⟩
        · exact up k hk q
    · rw [pre_w hw] at hx
      rcases List.mem_cons.mp hx with q | q
      · rw [q]; exact ⟨hs, win_self s⟩
      · obtain ⟨l, h1, h2⟩ := List.mem_flatten.mp q
        obtain ⟨k, hk, e⟩ := List.mem_map.mp h1
        rw [← e] at h2
        exact up k hk h2
/-- what is written stays outside of what is below the others -/
theorem inc.app {c : Ch} (hc : wf c) {now : Nat → Int32} (hg : nowOK c now) {V : List Nat} {f s k k2 : Nat} (hs : s < cN c) (hk : k ∈ kids c s) (hk2 : k2 ∈ kids c s) (hne : k ≠ k2) (hv : inc c V k2) (hn : (V ++ pre c now f k).Nodup) : inc c (V ++ pre c now f k) k2 := by
  obtain ⟨k0, kn, kp, -, -⟩ := kid_facts hc hs hk
  obtain ⟨j0, jn, jp, -, -⟩ := kid_facts hc hs hk2
  refine ⟨hn, fun b hb => ?_⟩
  rcases List.mem_append.mp hb with q | q
  · exact hv.2 b q
  · obtain ⟨b1, b2⟩ := pre_win hc hg f k kn b q
    refine ⟨b1, ?_⟩
    cases hw : win c b k2
    · rfl
    · exact absurd (kid_one hc b1 k0 j0 kn jn kp jp b2 hw) hne
def Rw (R : Mem) (V : List Nat) : Prop := ∀ i x, V[i]? = some x → R 26 i = nI x
theorem Rw.push {R : Mem} {sk : List Nat} {s : Nat} (h : Rw R sk) : Rw (set2 R 26 sk.length (nI s)) (sk ++ [s]) := by
  intro i x hx
  rcases Nat.lt_or_ge i sk.length with q | q
  · rw [List.getElem?_append_left q] at hx
    rw [s2_pl _ _ _ (by omega)]
    exact h i x hx
  · rw [List.getElem?_append_right q] at hx
    have hz : i - sk.length < 1 := (List.getElem?_eq_some_iff.mp hx).1
    have e : i = sk.length := by omega
    subst e
    rw [Nat.sub_self] at hx
    cases hx
    exact s2_hit _ _ _ _
theorem l_push {c : Ch} {t : Int32} {s : Nat} {now : Nat → Int32} (hs : s < cN c) : ∀ (m n : Nat) (sk : List Nat) (R : Mem), s + m < cN c → m < n → CD R c → R 19 s = now s → Stk R sk → (sk ++ plF c now s m).length ≤ 20 → ∃ R', (∀ kh11 : Int32 → Int32 → Mem → Option Mem, H_X8_leave_45 kh11 n t (nI sk.length) (nI s) (nI (s + m)) R = kh11 t (nI (sk ++ plF c now s m).length) R') ∧ Stk R' (sk ++ plF c now s m) ∧ ∀ a, a ≠ 25 → R' a = R a := by
  intro m
  induction m with
  | zero =>
    intro n sk R hm hn h hw hk hl
    cases n with
    | zero => omega
    | succ n =>
      have h14 := h.1.n14
      have e : plF c now s 0 = [] := rfl
      rw [e, List.append_nil]
      refine ⟨R, fun kh9 => ?_, hk, fun _ _ => rfl⟩
      show B_X8_leave_45 _ _ _ _ _ _ _ = _
      unfold B_X8_leave_45
      rw [if_pos (nI_le (by omega) (by omega))]
  | succ m ih =>
    intro n sk R hm hn h hw hk hl
    cases n with
    | zero => omega
    | succ n =>
      have h14 := h.1.n14
      have hp := h.1.par (s := s + (m + 1)) (by omega) hm
      have skip : ∀ (sk : List Nat) (R : Mem), CD R c → R 19 s = now s → Stk R sk → (sk ++ plF c now s m).length ≤ 20 → ∃ R', (∀ kh11 : Int32 → Int32 → Mem → Option Mem, B_X8_leave_97 kh11 (H_X8_leave_45 kh11 n) t (nI sk.length) (nI s) (nI (s + (m + 1))) R = kh11 t (nI (sk ++ plF c now s m).length) R') ∧ Stk R' (sk ++ plF c now s m) ∧ ∀ a, a ≠ 25 → R' a = R a := by
        intro sk R a1 a2 a3 a4
        obtain ⟨R', f1, f2⟩ := ih n sk R (by omega) (by omega) a1 a2 a3 a4
        refine ⟨R', fun kh9 => ?_, f2⟩
        unfold B_X8_leave_97
        rw [nm_eq, show nI (s + (m + 1)) + -1 = nI (s + m) from pk_m1 (s + m)]
        exact f1 kh9
      rw [plF_succ] at hl ⊢
      have head : ∀ kh11 : Int32 → Int32 → Mem → Option Mem, H_X8_leave_45 kh11 (n + 1) t (nI sk.length) (nI s) (nI (s + (m + 1))) R = (if cP c (s + (m + 1)) = s ∧ (cW c s = true ∨ now s = nI (s + (m + 1))) then B_X8_leave_86 kh11 (H_X8_leave_45 kh11 n) t (nI sk.length) (nI s) (nI (s + (m + 1))) R else B_X8_leave_97 kh11 (H_X8_leave_45 kh11 n) t (nI sk.length) (nI s) (nI (s + (m + 1))) R) := by
        intro kh9
        show B_X8_leave_45 _ _ _ _ _ _ _ = _
        unfold B_X8_leave_45
        rw [if_neg (nI_ge (by omega) (by omega)), gi_ok (show s + (m + 1) < 14 by omega) (by decide), nI_clamp (by omega), h.2.2.2.1 _ (by omega) hm]
        by_cases q : cP c (s + (m + 1)) = s
        · rw [if_pos (by rw [q]), gi_ok (show s < 14 by omega) (by decide), nI_clamp (by omega), h.2.2.2.2.2.1 s hs]
          cases hwh : cW c s
          · rw [if_pos (by decide), gi_ok (show s < 14 by omega) (by decide), hw]
            by_cases z : now s = nI (s + (m + 1))
            · rw [if_pos z, if_pos ⟨q, Or.inr z⟩]
            · rw [if_neg z, if_neg (fun y => y.2.elim (fun w => by cases w) z)]
          · rw [if_neg (by decide), if_pos ⟨q, Or.inl rfl⟩]
        · rw [if_neg (fun z => q (nI_inj (by omega) (by omega) z)), if_neg (fun y => q y.1)]
      by_cases q : cP c (s + (m + 1)) = s ∧ (cW c s = true ∨ now s = nI (s + (m + 1)))
      · rw [if_pos q] at hl ⊢
        rw [← List.append_assoc] at hl ⊢
        have hl2 : sk.length < 20 := by
          rw [List.length_append, List.length_append] at hl
          simp only [List.length_cons, List.length_nil] at hl
          omega
        obtain ⟨R', f1, f2, f3⟩ := skip (sk ++ [s + (m + 1)]) (set2 R 25 sk.length (nI (s + (m + 1)))) (h.keep (fun a x y => set2_ne _ _ _ (by omega)) (s2_oth _ _ _ _ (by decide))) (by rw [s2_oth _ _ _ _ (by decide)]; exact hw) hk.push hl
        refine ⟨R', fun kh9 => ?_, f2, fun a ha => by rw [f3 a ha, set2_ne _ _ _ ha]⟩
        rw [head kh9, if_pos q]
        unfold B_X8_leave_86
        rw [gi_ok hl2 (by decide), nI_clamp (by omega), wr_eq, nm_eq, show nI sk.length + 1 = nI (sk ++ [s + (m + 1)]).length by rw [List.length_append]; exact nI_1 _]
        exact f1 kh9
      · rw [if_neg q] at hl ⊢
        rw [List.nil_append] at hl ⊢
        obtain ⟨R', f1, f2⟩ := skip sk R h hw hk hl
        exact ⟨R', fun kh9 => by rw [head kh9, if_neg q]; exact f1 kh9, f2⟩
theorem inc_len {c : Ch} (hc : wf c) {V : List Nat} {s : Nat} (h : inc c V s) : V.length ≤ 14 := by
  have := nd_len (cN c) V h.1 (fun x hx => (h.2 x hx).1)
  have := hc.n14
  omega
theorem l_pop {c : Ch} {s : Nat} {rest V : List Nat} {now : Nat → Int32} {R : Mem} (hs : s < cN c) (hi : inc c rest s) (hv : inc c V s) (h : CD R c) (hw : ∀ i, i < cN c → R 19 i = now i) (hk : Stk R (rest ++ [s])) (hr : Rw R V) : ∃ R', (∀ N, H_X8_leave_11 (N + 1) (nI V.length) (nI (rest.length + 1)) R = H_X8_leave_11 N (nI (V ++ [s]).length) (nI (rest ++ plA c now s).length) R') ∧ Stk R' (rest ++ plA c now s) ∧ Rw R' (V ++ [s]) ∧ ∀ a, a ≠ 25 → a ≠ 26 → R' a = R a := by
  have hc := h.1
  have h14 := hc.n14
  have hl := plA_len hc (now := now) hs hi
  have hvl := inc_len hc hv
  have hrl : rest.length ≤ 14 := by rw [List.length_append] at hl; omega
  obtain ⟨n1, en⟩ : ∃ n1, cN c = n1 + 1 := ⟨cN c - 1, by have := hc.1; omega⟩
  have epl : plF c now s (n1 - s) = plA c now s := by unfold plA; rw [en, show n1 + 1 - (s + 1) = n1 - s by omega]
  have hC1 : CD (set2 R 26 V.length (nI s)) c := h.keep (fun a x y => set2_ne _ _ _ (by omega)) (s2_oth _ _ _ _ (by decide))
  obtain ⟨R', i1, i2, i3⟩ := l_push (t := nI (V ++ [s]).length) (now := now) hs (n1 - s) 100 rest (set2 R 26 V.length (nI s)) (by omega) (by omega) hC1 (by rw [s2_oth _ _ _ _ (by decide)]; exact hw s hs) (hk.pre.keep (set2_ne _ _ _ (by decide))) (by rw [epl]; omega)
  rw [epl] at i1 i2
  refine ⟨R', fun N => ?_, i2, ?_, fun a h1 h2 => by rw [i3 a h1, set2_ne _ _ _ h2]⟩
  · show B_X8_leave_11 _ _ _ _ = _
    unfold B_X8_leave_11
    rw [if_neg (nI_nle (by omega) (by omega)), nm_eq, show nI (rest.length + 1) + -1 = nI rest.length from pk_m1 _, gi_ok (show rest.length < 20 by omega) (by decide), nm_eq, nI_clamp (n := rest.length) (by omega), hk.top, gi_ok (show V.length < 20 by omega) (by decide), nI_clamp (n := V.length) (by omega), wr_eq, nm_eq, nm_eq, hC1.2.1, en, show nI (n1 + 1) - 1 = nI n1 from nI_pred n1, show nI V.length + 1 = nI (V ++ [s]).length by rw [List.length_append]; exact nI_1 _]
    have := i1 (H_X8_leave_11 N)
    rw [show s + (n1 - s) = n1 by omega] at this
    exact this
  · unfold Rw; rw [i3 26 (by decide)]; exact hr.push
def LvR (c : Ch) (now : Nat → Int32) (f : Nat) : Prop := ∀ (s : Nat) (rest V : List Nat) (R : Mem), s < cN c → 7 ≤ f + cD c s → inc c rest s → inc c V s → CD R c → (∀ i, i < cN c → R 19 i = now i) → Stk R (rest ++ [s]) → Rw R V → ∃ j R', j ≤ Kc f ∧ (∀ N, H_X8_leave_11 (N + j) (nI V.length) (nI (rest.length + 1)) R = H_X8_leave_11 N (nI (V ++ pre c now f s).length) (nI rest.length) R') ∧ Stk R' rest ∧ Rw R' (V ++ pre c now f s) ∧ (V ++ pre c now f s).Nodup ∧ ∀ a, a ≠ 25 → a ≠ 26 → R' a = R a
theorem l_list {c : Ch} {now : Nat → Int32} {f s : Nat} (hr : LvR c now f) (hc : wf c) (hg : nowOK c now) (hs : s < cN c) (hf : 6 ≤ f + cD c s) : ∀ (ks rest V : List Nat) (R : Mem), (∀ x, x ∈ ks → x ∈ kids c s) → ks.Nodup → inc c rest s → V.Nodup → (∀ k, k ∈ ks → inc c V k) → CD R c → (∀ i, i < cN c → R 19 i = now i) → Stk R (rest ++ ks.reverse) → Rw R V → ∃ j R', j ≤ ks.length * Kc f ∧ (∀ N, H_X8_leave_11 (N + j) (nI V.length) (nI (rest ++ ks.reverse).length) R = H_X8_leave_11 N (nI (V ++ (ks.map (pre c now f)).flatten).length) (nI rest.length) R') ∧ Stk R' rest ∧ Rw R' (V ++ (ks.map (pre c now f)).flatten) ∧ (V ++ (ks.map (pre c now f)).flatten).Nodup ∧ ∀ a, a ≠ 25 → a ≠ 26 → R' a = R a := by
  intro ks
  induction ks with
  | nil =>
    intro rest V R hk hn hi hvn hv h hw hst hrw
    rw [List.reverse_nil, List.append_nil] at hst ⊢
    rw [show (List.map (pre c now f) []).flatten = [] from rfl, List.append_nil]
    exact ⟨0, R, Nat.zero_le _, fun N => rfl, hst, hrw, hvn, fun _ _ _ => rfl⟩
  | cons k ks ih =>
    intro rest V R hk hn hi hvn hv h hw hst hrw
    have hkk := hk k List.mem_cons_self
    obtain ⟨k0, kn, kp, kd, -⟩ := kid_facts hc hs hkk
    rw [List.reverse_cons, ← List.append_assoc] at hst ⊢
    obtain ⟨j1, R1, f0, f1, f2, f3, f4, f5⟩ := hr k (rest ++ ks.reverse) V R kn (by omega) (inc.kid hc hs hi hk hn) (hv k List.mem_cons_self) h hw hst hrw
    have hC1 : CD R1 c := h.keep (fun a x y => f5 a (by omega) (by omega)) (by rw [f5 0 (by decide) (by decide)])
    have hn2 := List.nodup_cons.mp hn
    obtain ⟨j2, R2, g0, g1, g2, g3, g4, g5⟩ := ih rest (V ++ pre c now f k) R1 (fun x hx => hk x (List.mem_cons_of_mem _ hx)) hn2.2 hi f4 (fun k2 hk2 => inc.app hc hg hs hkk (hk k2 (List.mem_cons_of_mem _ hk2)) (fun e => hn2.1 (e ▸ hk2)) (hv k2 (List.mem_cons_of_mem _ hk2)) f4) hC1 (fun i hi => by rw [f5 19 (by decide) (by decide)]; exact hw i hi) f2 f3
    rw [List.map_cons, List.flatten_cons, ← List.append_assoc]
    refine ⟨j2 + j1, R2, ?_, fun N => ?_, g2, g3, g4, fun a h1 h2 => (g5 a h1 h2).trans (f5 a h1 h2)⟩
    · rw [List.length_cons, Nat.add_mul, Nat.one_mul]; omega
    · rw [← Nat.add_assoc, List.length_append (as := rest ++ ks.reverse), show (rest ++ ks.reverse).length + [k].length = (rest ++ ks.reverse).length + 1 from rfl, f1 (N + j2)]
      exact g1 N
theorem g_leave1 {c : Ch} {now : Nat → Int32} (hc : wf c) (hg : nowOK c now) : ∀ f, LvR c now f := by
  intro f
  induction f with
  | zero =>
    intro s rest V R hs hf
    have := hc.dep6 hs
    omega
  | succ f ih =>
    intro s rest V R hs hf hi hv h hw hst hrw
    have h14 := hc.n14
    obtain ⟨R1, f1, f2, f3, f4⟩ := l_pop hs hi hv h hw hst hrw
    have hC1 : CD R1 c := h.keep (fun a x y => f4 a (by omega) (by omega)) (by rw [f4 0 (by decide) (by decide)])
    have hw1 : ∀ i, i < cN c → R1 19 i = now i := fun i hi => by rw [f4 19 (by decide) (by decide)]; exact hw i hi
    have hvs : (V ++ [s]).Nodup := List.nodup_append.mpr ⟨hv.1, List.nodup_cons.mpr ⟨List.not_mem_nil, List.nodup_nil⟩, fun a ha b hb e => by
      rw [List.mem_singleton.mp hb] at e
      subst e
      have := (hv.2 a ha).2
      rw [win_self] at this
      cases this⟩
    have hvk : ∀ k, k ∈ kids c s → inc c (V ++ [s]) k := by
      intro k hk
      obtain ⟨k0, kn, kp, -, ks⟩ := kid_facts hc hs hk
      refine ⟨hvs, fun b hb => ?_⟩
      rcases List.mem_append.mp hb with q | q
      · obtain ⟨b1, b2⟩ := hv.2 b q
        refine ⟨b1, ?_⟩
        cases hwb : win c b k
        · rfl
        · rw [win_trans hc b b k s (Nat.le_refl _) b1 hwb (kid_win hc hs hk)] at b2
          cases b2
      · rw [List.mem_singleton.mp q]
        exact ⟨hs, win_lt ks⟩
    cases hwh : cW c s
    · rcases (hg s).1 hs with ⟨e1, -⟩ | ⟨-, k, hk, e1⟩
      · rw [plA_0 hc hs hwh e1, List.append_nil] at f1 f2
        rw [pre_0 hwh e1]
        exact ⟨1, R1, by simp only [Kc]; omega, f1, f2, f3, hvs, f4⟩
      · obtain ⟨k0, kn, kp, kd, -⟩ := kid_facts hc hs hk
        rw [plA_1 hc hs hwh hk e1] at f1 f2
        have hi2 : inc c rest k := by
          have := inc.kid (ks := []) hc hs hi (fun x hx => by rw [List.mem_singleton.mp hx]; exact hk) (List.nodup_cons.mpr ⟨List.not_mem_nil, List.nodup_nil⟩)
          rw [List.reverse_nil, List.append_nil] at this
          exact this
        obtain ⟨j, R2, g0, g1, g2, g3, g4, g5⟩ := ih k rest (V ++ [s]) R1 kn (by omega) hi2 (hvk k hk) hC1 hw1 f2 f3
        rw [pre_1 hwh (by omega) e1, show V ++ s :: pre c now f k = V ++ [s] ++ pre c now f k by simp]
        refine ⟨j + 1, R2, by simp only [Kc]; omega, fun N => ?_, g2, g3, g4, fun a h1 h2 => (g5 a h1 h2).trans (f4 a h1 h2)⟩
        rw [← Nat.add_assoc, f1 (N + j), List.length_append (as := rest)]
        exact g1 N
    · rw [plA_w hwh] at f1 f2
      have hkn : (kids c s).Nodup := (kf_lt _ _).imp (fun h => by omega)
      obtain ⟨j, R2, g0, g1, g2, g3, g4, g5⟩ := l_list ih hc hg hs (by omega) (kids c s) rest (V ++ [s]) R1 (fun x hx => hx) hkn hi hvs hvk hC1 hw1 f2 f3
      have hkl : (kids c s).length ≤ 14 := by
        have := nd_len (cN c) _ hkn (fun x hx => (kid_facts hc hs hx).2.1)
        omega
      rw [pre_w hwh, show V ++ s :: ((kids c s).map (pre c now f)).flatten = V ++ [s] ++ ((kids c s).map (pre c now f)).flatten by simp]
      refine ⟨j + 1, R2, ?_, fun N => ?_, g2, g3, g4, fun a h1 h2 => (g5 a h1 h2).trans (f4 a h1 h2)⟩
      · simp only [Kc]
        have := Nat.mul_le_mul_right (Kc f) hkl
        omega
      · rw [← Nat.add_assoc, f1 (N + j)]
        exact g1 N
