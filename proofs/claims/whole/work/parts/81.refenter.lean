/-! The reference's entering, with its stack, is the recursion. -/
theorem nd_len : ∀ (n : Nat) (l : List Nat), l.Nodup → (∀ x, x ∈ l → x < n) → l.length ≤ n
  | 0, l, _, h => by
    cases l with
    | nil => exact Nat.le_refl _
    | cons a l => exact absurd (h a List.mem_cons_self) (by omega)
  | n + 1, l, hn, h => by
    by_cases q : n ∈ l
    · have h1 := nd_len n (l.erase n) (hn.erase n) (fun x hx => by
        have h2 := h x (List.mem_of_mem_erase hx)
        have h3 : x ≠ n := (List.Nodup.mem_erase_iff hn).mp hx |>.1
        omega)
      rw [List.length_erase_of_mem q] at h1
      omega
    · have h1 := nd_len n l hn (fun x hx => by
        have h2 := h x hx
        have h3 : x ≠ n := fun e => q (e ▸ hx)
        omega)
      omega
def Stk (R : Mem) (sk : List Nat) : Prop := ∀ i x, sk[i]? = some x → R 25 i = nI x
theorem Stk.keep {R R' : Mem} {sk : List Nat} (h : Stk R sk) (e : R' 25 = R 25) : Stk R' sk := by unfold Stk; rw [e]; exact h
theorem Stk.pre {R : Mem} {sk l : List Nat} (h : Stk R (sk ++ l)) : Stk R sk := fun i x hx => h i x (by
  have hl := (List.getElem?_eq_some_iff.mp hx).1
  rw [List.getElem?_append_left hl]; exact hx)
theorem Stk.top {R : Mem} {sk : List Nat} {s : Nat} (h : Stk R (sk ++ [s])) : R 25 sk.length = nI s := h sk.length s (by simp)
theorem Stk.push {R : Mem} {sk : List Nat} {s : Nat} (h : Stk R sk) : Stk (set2 R 25 sk.length (nI s)) (sk ++ [s]) := by
  intro i x hx
  rcases Nat.lt_or_ge i sk.length with q | q
  · rw [List.getElem?_append_left q] at hx
    rw [s2_pl _ _ _ (by omega)]
    exact h i x hx
  · rw [List.getElem?_append_right q] at hx
    have hz : i - sk.length < 1 := (List.getElem?_eq_some_iff.mp hx).1
    have e : i = sk.length := by omega
    subst e
    rw [Nat.sub_self] at hx
    cases hx
    exact s2_hit _ _ _ _
/-- rest lies outside of what is below s -/
def inc (c : Ch) (rest : List Nat) (s : Nat) : Prop := rest.Nodup ∧ ∀ b, b ∈ rest → b < cN c ∧ win c b s = false
theorem kid_win {c : Ch} (h : wf c) {s k : Nat} (hs : s < cN c) (hk : k ∈ kids c s) : win c k s = true := by
  obtain ⟨k0, kn, kp, -, ks⟩ := kid_facts h hs hk
  rw [win_gt h kn ks, kp]; exact win_self s
theorem inc.kid {c : Ch} (h : wf c) {rest ks : List Nat} {s k : Nat} (hs : s < cN c) (hi : inc c rest s) (hk : ∀ x, x ∈ k :: ks → x ∈ kids c s) (hn : (k :: ks).Nodup) : inc c (rest ++ ks.reverse) k := by
  have hkk := hk k List.mem_cons_self
  obtain ⟨k0, kn, kp, -, -⟩ := kid_facts h hs hkk
  have hn2 := List.nodup_cons.mp hn
  refine ⟨?_, fun b hb => ?_⟩
  · refine List.nodup_append.mpr ⟨hi.1, (List.pairwise_reverse.mpr (hn2.2.imp (fun h => h.symm))), fun a ha b hb e => ?_⟩
    subst e
    have h1 := (hi.2 a ha).2
    rw [kid_win h hs (hk a (List.mem_cons_of_mem _ (List.mem_reverse.mp hb)))] at h1
    cases h1
  · rcases List.mem_append.mp hb with q | q
    · obtain ⟨h1, h2⟩ := hi.2 b q
      refine ⟨h1, ?_⟩
      cases hw : win c b k
      · rfl
      · rw [win_trans h b b k s (Nat.le_refl _) h1 hw (kid_win h hs hkk)] at h2
        cases h2
    · have hb2 := hk b (List.mem_cons_of_mem _ (List.mem_reverse.mp q))
      obtain ⟨b0, bn, bp, -, -⟩ := kid_facts h hs hb2
      refine ⟨bn, ?_⟩
      cases hw : win c b k
      · rfl
      · have e := kid_one h bn b0 k0 bn kn bp kp (win_self b) hw
        subst e
        exact absurd (List.mem_reverse.mp q) hn2.1
/-- what is pushed -/
def plF (c : Ch) (now : Nat → Int32) (s m : Nat) : List Nat := ((kf c s m (s + 1)).filter (fun j => cW c s || decide (now s = nI j))).reverse
theorem plF_succ {c : Ch} {now : Nat → Int32} {s m : Nat} : plF c now s (m + 1) = (if cP c (s + (m + 1)) = s ∧ (cW c s = true ∨ now s = nI (s + (m + 1))) then [s + (m + 1)] else []) ++ plF c now s m := by
  unfold plF
  rw [kf_snoc, show s + 1 + m = s + (m + 1) by omega, List.filter_append, List.reverse_append]
  congr 1
  by_cases q : cP c (s + (m + 1)) = s
  · rw [if_pos q]
    by_cases z : cW c s = true ∨ now s = nI (s + (m + 1))
    · rw [if_pos ⟨q, z⟩]
      have : (cW c s || decide (now s = nI (s + (m + 1)))) = true := by simp only [Bool.or_eq_true, decide_eq_true_eq]; exact z
      simp [this]
    · rw [if_neg (fun y => z y.2)]
      have : (cW c s || decide (now s = nI (s + (m + 1)))) = false := by
        cases hw : cW c s
        · simp only [Bool.false_or, decide_eq_false_iff_not]; exact fun y => z (Or.inr y)
        · exact absurd (Or.inl hw) z
      simp [this]
  · rw [if_neg q, if_neg (fun y => q y.1)]; rfl
theorem e_push {c : Ch} {t : Int32} {s : Nat} {now : Nat → Int32} (hs : s < cN c) : ∀ (m n : Nat) (sk : List Nat) (R : Mem), s + m < cN c → m < n → CD R c → R 19 s = now s → Stk R sk → (sk ++ plF c now s m).length ≤ 20 → ∃ R', (∀ kh9 : Int32 → Int32 → Mem → Option Mem, H_X8_enter_146 kh9 n t (nI sk.length) (nI s) (nI (s + m)) R = kh9 t (nI (sk ++ plF c now s m).length) R') ∧ Stk R' (sk ++ plF c now s m) ∧ ∀ a, a ≠ 25 → R' a = R a := by
  intro m
  induction m with
  | zero =>
    intro n sk R hm hn h hw hk hl
    cases n with
    | zero => omega
    | succ n =>
      have h14 := h.1.n14
      have e : plF c now s 0 = [] := rfl
      rw [e, List.append_nil]
      refine ⟨R, fun kh9 => ?_, hk, fun _ _ => rfl⟩
      show B_X8_enter_146 _ _ _ _ _ _ _ = _
      unfold B_X8_enter_146
      rw [if_pos (nI_le (by omega) (by omega))]
  | succ m ih =>
    intro n sk R hm hn h hw hk hl
    cases n with
    | zero => omega
    | succ n =>
      have h14 := h.1.n14
      have hp := h.1.par (s := s + (m + 1)) (by omega) hm
      have skip : ∀ (sk : List Nat) (R : Mem), CD R c → R 19 s = now s → Stk R sk → (sk ++ plF c now s m).length ≤ 20 → ∃ R', (∀ kh9 : Int32 → Int32 → Mem → Option Mem, B_X8_enter_198 kh9 (H_X8_enter_146 kh9 n) t (nI sk.length) (nI s) (nI (s + (m + 1))) R = kh9 t (nI (sk ++ plF c now s m).length) R') ∧ Stk R' (sk ++ plF c now s m) ∧ ∀ a, a ≠ 25 → R' a = R a := by
        intro sk R a1 a2 a3 a4
        obtain ⟨R', f1, f2⟩ := ih n sk R (by omega) (by omega) a1 a2 a3 a4
        refine ⟨R', fun kh9 => ?_, f2⟩
        unfold B_X8_enter_198
        rw [nm_eq, show nI (s + (m + 1)) + -1 = nI (s + m) from pk_m1 (s + m)]
        exact f1 kh9
      rw [plF_succ] at hl ⊢
      have head : ∀ kh9 : Int32 → Int32 → Mem → Option Mem, H_X8_enter_146 kh9 (n + 1) t (nI sk.length) (nI s) (nI (s + (m + 1))) R = (if cP c (s + (m + 1)) = s ∧ (cW c s = true ∨ now s = nI (s + (m + 1))) then B_X8_enter_187 kh9 (H_X8_enter_146 kh9 n) t (nI sk.length) (nI s) (nI (s + (m + 1))) R else B_X8_enter_198 kh9 (H_X8_enter_146 kh9 n) t (nI sk.length) (nI s) (nI (s + (m + 1))) R) := by
        intro kh9
        show B_X8_enter_146 _ _ _ _ _ _ _ = _
        unfold B_X8_enter_146
        rw [if_neg (nI_ge (by omega) (by omega)), gi_ok (show s + (m + 1) < 14 by omega) (by decide), nI_clamp (by omega), h.2.2.2.1 _ (by omega) hm]
        by_cases q : cP c (s + (m + 1)) = s
        · rw [if_pos (by rw [q]), gi_ok (show s < 14 by omega) (by decide), nI_clamp (by omega), h.2.2.2.2.2.1 s hs]
          cases hwh : cW c s
          · rw [if_pos (by decide), gi_ok (show s < 14 by omega) (by decide), hw]
            by_cases z : now s = nI (s + (m + 1))
            · rw [if_pos z, if_pos ⟨q, Or.inr z⟩]
            · rw [if_neg z, if_neg (fun y => y.2.elim (fun w => by cases w) z)]
          · rw [if_neg (by decide), if_pos ⟨q, Or.inl rfl⟩]
        · rw [if_neg (fun z => q (nI_inj (by omega) (by omega) z)), if_neg (fun y => q y.1)]
      by_cases q : cP c (s + (m + 1)) = s ∧ (cW c s = true ∨ now s = nI (s + (m + 1)))
      · rw [if_pos q] at hl ⊢
        rw [← List.append_assoc] at hl ⊢
        have hl2 : sk.length < 20 := by
          rw [List.length_append, List.length_append] at hl
          simp only [List.length_cons, List.length_nil] at hl
          omega
        obtain ⟨R', f1, f2, f3⟩ := skip (sk ++ [s + (m + 1)]) (set2 R 25 sk.length (nI (s + (m + 1)))) (h.keep (fun a x y => set2_ne _ _ _ (by omega)) (s2_oth _ _ _ _ (by decide))) (by rw [s2_oth _ _ _ _ (by decide)]; exact hw) hk.push hl
        refine ⟨R', fun kh9 => ?_, f2, fun a ha => by rw [f3 a ha, set2_ne _ _ _ ha]⟩
        rw [head kh9, if_pos q]
        unfold B_X8_enter_187
        rw [gi_ok hl2 (by decide), nI_clamp (by omega), wr_eq, nm_eq, show nI sk.length + 1 = nI (sk ++ [s + (m + 1)]).length by rw [List.length_append]; exact nI_1 _]
        exact f1 kh9
      · rw [if_neg q] at hl ⊢
        rw [List.nil_append] at hl ⊢
        obtain ⟨R', f1, f2⟩ := skip sk R h hw hk hl
        exact ⟨R', fun kh9 => by rw [head kh9, if_neg q]; exact f1 kh9, f2⟩
/-- the current child while the children from s + m down to s are looked at -/
def nwM (c : Ch) (tb : Option Nat) (now : Nat → Int32) (s m : Nat) : Nat → Int32 := match tb with
  | some y => if cW c s = false ∧ y ≤ s + m then upd now s (nI y) else now
  | none => now
/-- the target is below j -/
def tfl (c : Ch) (t : Option Nat) (b : Bool) (j : Nat) : Bool := match t with | some k => b && win c k j | none => false
theorem e_now {c : Ch} {t tb : Option Nat} {s : Nat} {now : Nat → Int32} {tr : List Int32} (hs : s < cN c) (htb : tb = t.bind (twd c s)) (ht : ∀ k, t = some k → k < cN c) (top : Int32) : ∀ (m n : Nat) (R : Mem), s + m < cN c → m < n → CD R c → (∃ nw, WR R c (nw, tr) ∧ nwM c tb nw s m = nwM c tb now s (cN c)) → ∃ R', (∀ kh9 : Int32 → Int32 → Mem → Option Mem, H_X8_enter_67 kh9 n (oI t) top (nI s) (bI tb.isSome) (nI (s + m)) R = (nm ((R' 0 6) - (1 : Int32)) fun x6_1 => H_X8_enter_146 kh9 100 (oI t) top (nI s) x6_1 R')) ∧ WR R' c (nwM c tb now s (cN c), tr) ∧ ∀ a, a ≠ 19 → R' a = R a := by
  intro m
  induction m with
  | zero =>
    intro n R hm hn h hw
    cases n with
    | zero => omega
    | succ n =>
      have h14 := h.1.n14
      obtain ⟨nw, w1, w2⟩ := hw
      refine ⟨R, fun kh9 => ?_, ?_, fun _ _ => rfl⟩
      · show B_X8_enter_67 _ _ _ _ _ _ _ _ = _
        unfold B_X8_enter_67
        rw [if_pos (nI_le (by omega) (by omega))]
      · have e : nwM c tb nw s 0 = nw := by
          cases hb : tb with
          | none => rfl
          | some y =>
            unfold nwM
            dsimp only
            have hy : s < y := by
              cases t with
              | none => rw [htb] at hb; cases hb
              | some k =>
                obtain ⟨y0, yn, yp, -⟩ := twd_some h.1 k k y (Nat.le_refl _) (ht k rfl) (by rw [htb] at hb; exact hb)
                rw [← yp]; exact h.1.par y0 yn
            rw [if_neg (fun z => by omega)]
        rw [← w2, e]; exact w1
  | succ m ih =>
    intro n R hm hn h hw
    cases n with
    | zero => omega
    | succ n =>
      have h14 := h.1.n14
      have hp := h.1.par (s := s + (m + 1)) (by omega) hm
      obtain ⟨nw, w1, w2⟩ := hw
      have next : ∀ (R1 : Mem) (nw1 : Nat → Int32), CD R1 c → WR R1 c (nw1, tr) → nwM c tb nw1 s m = nwM c tb now s (cN c) → ∃ R', (∀ kh9 : Int32 → Int32 → Mem → Option Mem, B_X8_enter_132 kh9 (H_X8_enter_67 kh9 n) (oI t) top (nI s) (bI tb.isSome) (nI (s + (m + 1))) R1 = (nm ((R' 0 6) - (1 : Int32)) fun x6_1 => H_X8_enter_146 kh9 100 (oI t) top (nI s) x6_1 R')) ∧ WR R' c (nwM c tb now s (cN c), tr) ∧ ∀ a, a ≠ 19 → R' a = R1 a := by
        intro R1 nw1 a1 a2 a3
        obtain ⟨R', f1, f2⟩ := ih n R1 (by omega) (by omega) a1 ⟨nw1, a2, a3⟩
        refine ⟨R', fun kh9 => ?_, f2⟩
        unfold B_X8_enter_132
        rw [nm_eq, show nI (s + (m + 1)) + -1 = nI (s + m) from pk_m1 (s + m)]
        exact f1 kh9
      have b94 : ∀ (kh9 : Int32 → Int32 → Mem → Option Mem) (fl : Bool), B_X8_enter_94 kh9 (H_X8_enter_67 kh9 n) (oI t) top (nI s) (bI tb.isSome) (nI (s + (m + 1))) (bI fl) R = B_X8_enter_132 kh9 (H_X8_enter_67 kh9 n) (oI t) top (nI s) (bI tb.isSome) (nI (s + (m + 1))) (if cP c (s + (m + 1)) = s ∧ cW c s = false ∧ fl = true then set2 R 19 s (nI (s + (m + 1))) else R) := by
        intro kh9 fl
        unfold B_X8_enter_94
        rw [gi_ok (show s + (m + 1) < 14 by omega) (by decide), nI_clamp (by omega), h.2.2.2.1 _ (by omega) hm]
        by_cases q : cP c (s + (m + 1)) = s
        · rw [if_pos (by rw [q]), gi_ok (show s < 14 by omega) (by decide), nI_clamp (by omega), h.2.2.2.2.2.1 s hs]
          cases hwh : cW c s
          · rw [if_pos (by decide)]
            cases fl
            · rw [if_pos (by decide), if_neg (fun y => by cases y.2.2)]
            · rw [if_neg (by decide), gi_ok (show s < 14 by omega) (by decide), wr_eq, if_pos ⟨q, rfl, rfl⟩]
          · rw [if_neg (by decide), if_neg (fun y => by cases y.2.1)]
        · rw [if_neg (fun z => q (nI_inj (by omega) (by omega) z)), if_neg (fun y => q y.1)]
      have nostep : (∀ y, tb = some y → cW c s = false → y ≠ s + (m + 1)) → nwM c tb nw s m = nwM c tb nw s (m + 1) := by
        intro hy
        cases hb : tb with
        | none => rfl
        | some y =>
          unfold nwM
          dsimp only
          by_cases z : cW c s = false
          · have := hy y hb z
            by_cases v : y ≤ s + m
            · rw [if_pos ⟨z, v⟩, if_pos ⟨z, by omega⟩]
            · rw [if_neg (fun w => v w.2), if_neg (fun w => by have := w.2; omega)]
          · rw [if_neg (fun w => z w.1), if_neg (fun w => z w.1)]
      have head0 : ∀ kh9 : Int32 → Int32 → Mem → Option Mem, H_X8_enter_67 kh9 (n + 1) (oI t) top (nI s) (bI tb.isSome) (nI (s + (m + 1))) R = B_X8_enter_94 kh9 (H_X8_enter_67 kh9 n) (oI t) top (nI s) (bI tb.isSome) (nI (s + (m + 1))) (bI (tfl c t tb.isSome (s + (m + 1)))) R := by
        intro kh9
        show B_X8_enter_67 _ _ _ _ _ _ _ _ = _
        unfold B_X8_enter_67
        rw [if_neg (nI_ge (by omega) (by omega))]
        cases hb : tb.isSome
        · rw [if_pos (by decide)]
          unfold B_X8_enter_93
          cases t <;> rfl
        · rw [if_neg (by decide)]
          cases t with
          | none => rw [htb] at hb; cases hb
          | some k =>
            show _ = B_X8_enter_94 kh9 (H_X8_enter_67 kh9 n) (oI (some k)) top (nI s) (bI true) (nI (s + (m + 1))) (bI (true && win c k (s + (m + 1)))) R
            rw [show oI (some k) = nI k from rfl, g_within h hm (ht k rfl), bd_some, Bool.true_and]
            cases hwk : win c k (s + (m + 1))
            · rw [if_pos (by decide)]; rfl
            · rw [if_neg (by decide)]; rfl
      by_cases q : cP c (s + (m + 1)) = s ∧ cW c s = false ∧ (tfl c t tb.isSome (s + (m + 1))) = true
      · cases t with
        | none => cases q.2.2
        | some k =>
          obtain ⟨q1, q2, q3⟩ := q
          replace q3 : (tb.isSome && win c k (s + (m + 1))) = true := q3
          rw [Bool.and_eq_true] at q3
          have ey : tb = some (s + (m + 1)) := by
            rw [htb]
            exact twd_none h.1 k k _ (Nat.le_refl _) (ht k rfl) (by omega) hm q1 q3.2
          obtain ⟨R', f1, f2, f3⟩ := next (set2 R 19 s (nI (s + (m + 1)))) (upd nw s (nI (s + (m + 1)))) (h.keep (fun a x y => set2_ne _ _ _ (by omega)) (s2_oth _ _ _ _ (by decide))) w1.set (by
            rw [← w2, ey]
            unfold nwM
            dsimp only
            rw [if_neg (fun z => by have := z.2; omega), if_pos ⟨q2, Nat.le_refl _⟩])
          refine ⟨R', fun kh9 => ?_, f2, fun a ha => by rw [f3 a ha, set2_ne _ _ _ ha]⟩
          rw [head0 kh9, b94, if_pos ⟨q1, q2, by show (tb.isSome && win c k (s + (m + 1))) = true; rw [q3.1, q3.2]; rfl⟩]
          exact f1 kh9
      · obtain ⟨R', f1, f2⟩ := next R nw h w1 (by
          rw [← w2]
          refine nostep (fun y hy hw2 e => q ?_)
          cases t with
          | none => rw [htb] at hy; cases hy
          | some k =>
            subst e
            obtain ⟨y0, yn, yp, yw⟩ := twd_some h.1 k k _ (Nat.le_refl _) (ht k rfl) (by rw [htb] at hy; exact hy)
            exact ⟨yp, hw2, by show (tb.isSome && win c k (s + (m + 1))) = true; rw [hy, yw]; rfl⟩)
        refine ⟨R', fun kh9 => ?_, f2⟩
        rw [head0 kh9, b94, if_neg q]
        exact f1 kh9
