/-! The law's own rows: its two systems side by side, and the cell of its answer. -/
def LFx (s : State) (D : va_G) (cA : Nat → ClassId) (cL : ClassId) (ad bd : Nat → Nat) (o : Nat) (adK adV adT : Nat → Nat) : Prop :=
  wd_K D cA s ∧ ArrOfT s cL .long ∧ SW adK adV (cnA s.heap.size) s s.heap ∧ XW adT (cnA s.heap.size) s s.heap ∧ (wd_inj ad dsC.length ∧ wd_inj bd dsM.length) ∧ ((∀ i j, i < dsC.length → j < dsM.length → ad i ≠ bd j) ∧ (∀ k, k < dsC.length → o ≠ ad k) ∧ (∀ k, k < dsM.length → o ≠ bd k)) ∧ ((∀ k, k < dsC.length → s.heap.size ≤ ad k) ∧ (∀ k, k < dsM.length → s.heap.size ≤ bd k) ∧ s.heap.size ≤ o)
def LT (s : State) (D : va_G) (cA : Nat → ClassId) (cL : ClassId) (ad bd : Nat → Nat) (o : Nat) (M N : Mem) (f : Nat → Int64) (H : Heap) (locs : List Loc) : Prop := wd_P D cA ad dsC M H ∧ wd_P D cA bd dsM N H ∧ H[o]? = some (vp_cell cL (1, .inr (.inl f))) ∧ va_S (cnA s.heap.size) s.heap H locs
section LC
variable {p : Program} {l : Launch} {e : Env} {R : Room} {s : State} {m : MethodId} {args : Array Value} {below : List Frame} {meth : Method} {c : Code} {H : Heap} {locs : List Loc} {cells slots : Nat} {Q : State → Prop}
variable {cc : ByteArray} {nL : Nat} {pc : Nat} {ls : Array Slot} {rest : List Value} {D : va_G} {cA : Nat → ClassId} {ad bd : Nat → Nat} {M M' N N' : Mem} {Ts : List Cond} {own : String} {adK adV adT : Nat → Nat} {cL : ClassId} {o : Nat} {f : Nat → Int64}
variable {y : MethodName} {bytes : ByteArray} {maxL n index : Nat} {ret : Option FieldType} {ws : List Cond} {rm : Room} {st0 : List Value} {r : Int32} {v : Int64}
theorem lc_i (S : CallFix p m c cc nL s args Ts own) (F : LFx s D cA cL ad bd o adK adV adT) (h : LT s D cA cL ad bd o M N f H locs) (As rest : List Value) (hM : wm_i l y ws rm D cA ad dsC M (.ref (ad 0) :: As) r M') (cw : CallW R s args own RX7 index y bytes maxL ret ws rm 0 0 n) (hn : As.length = n) (hsz : ls.size = nL) (hst : st0 = As.reverse ++ .ref (ad 0) :: rest) (hWd : (rest.map fun v => v.category).sum ≤ 8) (hdg : decode cc pc = .ok (.invokevirtual index, 3)) (hR : cells ≤ R.cells ∧ slots ≤ R.slots)
    (kk : ∀ (H1 : Heap) (locs1 : List Loc), LT s D cA cL ad bd o M' N f H1 locs1 → W p l e R s m args below meth c H1 locs1 cells slots Q (F0 m (pc + 3) ls (.int r :: rest))) : W p l e R s m args below meth c H locs cells slots Q (F0 m pc ls st0) := by
  obtain ⟨hK, -, -, -, ⟨jC, jM⟩, ⟨nAB, nA, nB⟩, bA, bB, bo⟩ := F
  obtain ⟨hP, hQ, ho, hS⟩ := h
  have hpre : PreV s H RX7 (ad 0) (wm_Pc D cA ad dsC M (.ref (ad 0) :: As)) As := ⟨wd_blind M _, va_recv (q := (RX7, TX7, 5)) hK hP rfl (wd_cell dC_0), fun U hU hW => ⟨rfl, by show wd_P D cA ad dsC M U.heap; rw [hU]; exact hP, va_K.moved hW.alike hK⟩⟩
  refine va_calli (va_runV (As := As) (rest := rest) S hM cw hpre rfl hn hsz hst (lv_room hWd) hdg hR) hS (fun q _ h => by obtain ⟨k, hk, e⟩ := h; show s.heap.size ≤ q; rw [e]; exact bA k hk) (fun q h => by obtain ⟨k, hk, e⟩ := h; show s.heap.size ≤ q; rw [e]; exact bA k hk) (fun r1 u t H1 locs1 ht hvm hp hB _ hk hS1 => ?_)
  obtain ⟨rfl, rfl⟩ := hp
  refine kk H1 locs1 ⟨by rw [← ht]; exact hB.1, hQ.kept (fun k q hq => hk _ (vx_lt hQ hq) (fun h => ?_)), (hk o ((Array.getElem?_eq_some_iff.mp ho).1) (fun h => ?_)).trans ho, hS1⟩
  · obtain ⟨i, hi, e⟩ := h
    exact nAB i k hi (wd_at hq).1 (e.symm.trans (wd_at hq).2)
  · obtain ⟨i, hi, e⟩ := h
    exact nA i hi e
theorem lc_m (S : CallFix p m c cc nL s args Ts own) (F : LFx s D cA cL ad bd o adK adV adT) (h : LT s D cA cL ad bd o M N f H locs) (As rest : List Value) (hM : wm_i l y ws rm D cA bd dsM N (.ref (bd 0) :: As) r N') (cw : CallW R s args own RX8 index y bytes maxL ret ws rm 0 0 n) (hn : As.length = n) (hsz : ls.size = nL) (hst : st0 = As.reverse ++ .ref (bd 0) :: rest) (hWd : (rest.map fun v => v.category).sum ≤ 8) (hdg : decode cc pc = .ok (.invokevirtual index, 3)) (hR : cells ≤ R.cells ∧ slots ≤ R.slots)
    (kk : ∀ (H1 : Heap) (locs1 : List Loc), LT s D cA cL ad bd o M N' f H1 locs1 → W p l e R s m args below meth c H1 locs1 cells slots Q (F0 m (pc + 3) ls (.int r :: rest))) : W p l e R s m args below meth c H locs cells slots Q (F0 m pc ls st0) := by
  obtain ⟨hK, -, -, -, ⟨jC, jM⟩, ⟨nAB, nA, nB⟩, bA, bB, bo⟩ := F
  obtain ⟨hP, hQ, ho, hS⟩ := h
  have hpre : PreV s H RX8 (bd 0) (wm_Pc D cA bd dsM N (.ref (bd 0) :: As)) As := ⟨wd_blind N _, va_recv (q := (RX8, TX8, 39)) hK hQ rfl (wd_cell dM_0), fun U hU hW => ⟨rfl, by show wd_P D cA bd dsM N U.heap; rw [hU]; exact hQ, va_K.moved hW.alike hK⟩⟩
  refine va_calli (va_runV (As := As) (rest := rest) S hM cw hpre rfl hn hsz hst (lv_room hWd) hdg hR) hS (fun q _ h => by obtain ⟨k, hk, e⟩ := h; show s.heap.size ≤ q; rw [e]; exact bB k hk) (fun q h => by obtain ⟨k, hk, e⟩ := h; show s.heap.size ≤ q; rw [e]; exact bB k hk) (fun r1 u t H1 locs1 ht hvm hp hB _ hk hS1 => ?_)
  obtain ⟨rfl, rfl⟩ := hp
  refine kk H1 locs1 ⟨hP.kept (fun k q hq => hk _ (vx_lt hP hq) (fun h => ?_)), by rw [← ht]; exact hB.1, (hk o ((Array.getElem?_eq_some_iff.mp ho).1) (fun h => ?_)).trans ho, hS1⟩
  · obtain ⟨i, hi, e⟩ := h
    exact nAB k i (wd_at hq).1 hi ((wd_at hq).2.symm.trans e)
  · obtain ⟨i, hi, e⟩ := h
    exact nB i hi e
theorem lc_l {hh : List (Nat × Nat × Nat × Nat)} (S : CallFix p m c cc nL s args Ts own) (F : LFx s D cA cL ad bd o adK adV adT) (h : LT s D cA cL ad bd o M N f H locs) (As rest : List Value) (hM : lm l y ws rm adK adV adT D cA ad cL o M f As r M' v) (cw : vx_CSW R s args own index y bytes maxL ret hh ws rm 1 6 n) (hn : As.length = n) (hsz : ls.size = nL) (hst : st0 = As.reverse ++ rest) (hWd : (rest.map fun v => v.category).sum ≤ 8) (hdg : decode cc pc = .ok (.invokestatic index, 3)) (hR : cells + 1 ≤ R.cells ∧ slots + 6 ≤ R.slots)
    (kk : ∀ (f1 : Nat → Int64) (H1 : Heap) (locs1 : List Loc), (r = 0 → f1 0 = v) → LT s D cA cL ad bd o M' N f1 H1 locs1 → W p l e R s m args below meth c H1 locs1 (cells + 1) (slots + 6) Q (F0 m (pc + 3) ls (.int r :: rest))) : W p l e R s m args below meth c H locs cells slots Q (F0 m pc ls st0) := by
  obtain ⟨hK, hAr, hSW, hXW, ⟨jC, jM⟩, ⟨nAB, nA, nB⟩, bA, bB, bo⟩ := F
  obtain ⟨hP, hQ, ho, hS⟩ := h
  have sub : ∀ q, lA ad o q → cnA s.heap.size q := fun q h => by
    rcases h with ⟨k, hk, e⟩ | e
    · show s.heap.size ≤ q; rw [e]; exact bA k hk
    · show s.heap.size ≤ q; rw [e]; exact bo
  have hpre : PreS s H (lm_Pc adK adV adT D cA ad cL o M f As) As := ⟨ld_blind M _, fun U hU hW => ⟨rfl, ⟨by show wd_P D cA ad dsC M U.heap; rw [hU]; exact hP, va_K.moved hW.alike hK, by rw [hU]; exact ho⟩, arrOfT_moved hW.alike hAr, by rw [hU]; exact ((SW.warm hW (hSW.kept hS.2.1)).narrow sub), by rw [hU]; exact ((XW.warm hW (hXW.kept hS.2.1)).narrow sub)⟩⟩
  refine va_calli (vx_runSW (As := As) (rest := rest) S hM cw hpre rfl hn hsz hst (lv_room hWd) hdg hR) hS (fun q _ h => sub q h) (fun q h => sub q h) (fun r1 u t H1 locs1 ht hvm hp hB _ hk hS1 => ?_)
  obtain ⟨u1, u2⟩ := u
  obtain ⟨rfl, hu1, hu2⟩ := hp
  obtain rfl : u1 = M' := hu1
  obtain ⟨hB1, -, hB3⟩ := hB
  rw [ht] at hB1 hB3
  refine kk u2 H1 locs1 hu2 ⟨hB1, hQ.kept (fun k q hq => hk _ (vx_lt hQ hq) (fun h => ?_)), hB3, hS1⟩
  rcases h with ⟨i, hi, e⟩ | e
  · exact nAB i k hi (wd_at hq).1 (e.symm.trans (wd_at hq).2)
  · exact nB k (wd_at hq).1 (e.symm.trans (wd_at hq).2)
variable {b L i : Nat} {xs : Nat → Int32} {lv : List (Nat × Value)}
theorem lk_arg (hx : p.tables.exec = Jvm.exec) (hb : c.code = cc) (hX : va_X b L xs s s.heap) (hbl : b < s.heap.size) (h : LT s D cA cL ad bd o M N f H locs) (hL : L ≤ 2048) (h0 : ls[0]? = some (.val (.ref b))) (h4 : ls[4]? = some (.val (.int (nI i)))) (j : Nat) (hij : i + j < L) {jz : Int} (hj : Int32.ofInt jz = nI j)
    (d0 : decode cc pc = .ok (.aload_n 0, 1)) (d1 : decode cc (pc + 1) = .ok (.iload 4, 2)) (d3 : decode cc (pc + 3) = .ok (.iconst jz, 1)) (d4 : decode cc (pc + 4) = .ok (.iadd, 1)) (d5 : decode cc (pc + 5) = .ok (.iaload, 1))
    (kk : W p l e R s m args below meth c H locs cells slots Q (F0 m (pc + 6) ls (.int (xs (i + j)) :: rest))) : W p l e R s m args below meth c H locs cells slots Q (F0 m pc ls rest) := by
  have hbA : ¬ cnA s.heap.size b := Nat.not_le.mpr hbl
  refine lv_aload_n hx hb d0 rfl h0 ?_
  refine lv_iload hx hb d1 h4 ?_
  refine lv_iconst (v := nI j) hx hb d3 hj ?_
  refine lv_iadd hx hb d4 ?_
  rw [nI_add]
  refine va_sld hx hb hX hbl hbA h.2.2.2 (vp_in_nI hij (by omega)) d5 ?_
  rw [nI_clamp (by omega)]
  exact kk
end LC
theorem ne_IA : ¬ (nIA : String) = nIS := by decide
theorem ne_IS : ¬ (nIS : String) = nIA := by decide
theorem s_line (l : Launch) (hlt : l.stackTraces = false) (D : va_G) (cA : Nat → ClassId) (ad : Nat → Nat) (hj : wd_inj ad dsC.length) (cL : ClassId) (o : Nat) (hno : ∀ k, k < dsC.length → o ≠ ad k) (adK adV adT : Nat → Nat) {M N : Mem} (f : Nat → Int64) (h : Rel M N) : ∃ r M' b N', lm l yL_line wsL_line rm_L_line adK adV adT D cA ad cL o M f [.ref (ad 0), .ref o] r M' b.toInt64 ∧ F_X8_line  N = some (b, N') ∧ N' 0 0 = r ∧ Rel M' N' := by
  obtain ⟨k, M1, b, N', h1, h2, h3⟩ := p_line h
  rcases h3 with ⟨rfl, rfl, h4, h5⟩ | ⟨rfl, h4, h5⟩ | ⟨rfl, h4, h5⟩ | ⟨j, j1, j3, rfl, rfl, h4, h5⟩
  · exact ⟨0, M1, 0, N', c_L_line l D cA ad cL o hno adK adV adT M f (res := .inl 0) (r := 0) (c_X7_line l hlt D cA ad hj adK adV adT M h1 (by rw [if_neg (by decide), if_neg (by decide)]) (if_pos (Or.inr (Or.inr rfl))).symm) (fun y q => ⟨rfl, by rw [← Sum.inl.inj q]⟩) (fun E q => nomatch q) (fun q => nomatch q) (fun q => nomatch q), h2, h4, h5⟩
  · exact ⟨1, M1, b, N', c_L_line l D cA ad cL o hno adK adV adT M f (res := .inr nIA) (r := 1) (c_X7_line l hlt D cA ad hj adK adV adT M h1 (if_pos rfl).symm (if_pos (Or.inl rfl)).symm) (fun y q => nomatch q) (fun E q => Or.inl (Sum.inr.inj q).symm) (fun _ => rfl) (fun q => absurd (Sum.inr.inj q) ne_IA), h2, h4, h5⟩
  · exact ⟨2, M1, b, N', c_L_line l D cA ad cL o hno adK adV adT M f (res := .inr nIS) (r := 2) (c_X7_line l hlt D cA ad hj adK adV adT M h1 (by rw [if_neg (by decide), if_pos rfl]) (if_pos (Or.inr (Or.inl rfl))).symm) (fun y q => nomatch q) (fun E q => Or.inr (Sum.inr.inj q).symm) (fun q => absurd (Sum.inr.inj q) ne_IS) (fun _ => rfl), h2, h4, h5⟩
  · have q1 : ¬ nI j = -1 := nI_ne_m1 (by omega)
    have q2 : ¬ nI j = -2 := fun q => by
      have := congrArg Int32.toInt q
      rw [nI_toInt (by omega)] at this
      have e2 : (-2 : Int32).toInt = -2 := by decide
      omega
    have q0 : ¬ nI j = 0 := nI_ne0 (by omega) (by omega)
    exact ⟨0, set2 M1 30 6 0, nI j, N', c_L_line l D cA ad cL o hno adK adV adT M f (res := .inl (nI j)) (r := 0) (c_X7_line l hlt D cA ad hj adK adV adT M h1 (by rw [if_neg q1, if_neg q2]) (if_neg (fun q => q.elim q1 (fun q => q.elim q2 q0))).symm) (fun y q => ⟨rfl, by rw [← Sum.inl.inj q]⟩) (fun E q => nomatch q) (fun q => nomatch q) (fun q => nomatch q), h2, h4, h5⟩
theorem s_compile (l : Launch) (hlt : l.stackTraces = false) (D : va_G) (cA : Nat → ClassId) (ad : Nat → Nat) (hj : wd_inj ad dsC.length) (cL : ClassId) (o : Nat) (hno : ∀ k, k < dsC.length → o ≠ ad k) (adK adV adT : Nat → Nat) {M N : Mem} (f : Nat → Int64) (h : Rel M N) : ∃ r M' b N', lm l yL_compile wsL_compile rm_L_compile adK adV adT D cA ad cL o M f [.ref (ad 0), .ref o] r M' b.toInt64 ∧ F_X8_compile  N = some (b, N') ∧ N' 0 0 = r ∧ Rel M' N' := by
  obtain ⟨k, M1, b, N', h1, h2, h3, h5⟩ := p_compile h
  rcases h3 with ⟨rfl, h4, h6⟩ | ⟨rfl, h4⟩
  · exact ⟨0, M1, b, N', c_L_compile l D cA ad cL o hno adK adV adT M f (res := .inl b) (r := 0) (c_X7_compile l hlt D cA ad hj adK adV adT M h1 (by rw [if_neg (by decide), h6])) (fun y q => ⟨rfl, by rw [← Sum.inl.inj q]⟩) (fun E q => nomatch q) (fun q => nomatch q), h2, h4, h5⟩
  · exact ⟨1, M1, b, N', c_L_compile l D cA ad cL o hno adK adV adT M f (res := .inr nIS) (r := 1) (c_X7_compile l hlt D cA ad hj adK adV adT M h1 (if_pos rfl).symm) (fun y q => nomatch q) (fun E q => (Sum.inr.inj q).symm) (fun _ => rfl), h2, h4, h5⟩
theorem s_named (l : Launch) (hlt : l.stackTraces = false) (D : va_G) (cA : Nat → ClassId) (ad : Nat → Nat) (hj : wd_inj ad dsC.length) (cL : ClassId) (o : Nat) (hno : ∀ k, k < dsC.length → o ≠ ad k) (adK adV adT : Nat → Nat) {M N : Mem} (f : Nat → Int64) (h : Rel M N) : ∃ r M' b N', lm l yL_named wsN_Lnamed rm_L_named adK adV adT D cA ad cL o M f [.ref (ad 0), .ref o] r M' b.toInt64 ∧ F_X8_named  N = some (b, N') ∧ N' 0 0 = r ∧ Rel M' N' := by
  obtain ⟨M1, n, k, b, N', h1, h2, h3, h4, h6, h7, h8, h5⟩ := p_named h
  have g2 : nI n = 1 → ∃ v, F_X0_nameAt 0 M1 = some v ∧ F_X4_find v M1 = some k := fun q => h4 (nI_inj (by omega) (by omega) q)
  have g3 : ¬ nI n = 1 → k = -1 := fun q => h6 (fun e => q (by rw [e]; rfl))
  rcases h8 with ⟨hk, h9⟩ | ⟨hk, rfl, h9⟩
  · exact ⟨1, M1, b, N', c_L_named l D cA ad cL o hno adK adV adT M f (res := .inr nNS) (r := 1) (c_X7_named l hlt D cA ad hj adK adV adT M h1 h2 g2 g3 (if_pos hk).symm) (fun y q => nomatch q) (fun E q => (Sum.inr.inj q).symm) (fun _ => rfl), h7, h9, h5⟩
  · exact ⟨0, M1, b, N', c_L_named l D cA ad cL o hno adK adV adT M f (res := .inl b) (r := 0) (c_X7_named l hlt D cA ad hj adK adV adT M h1 h2 g2 g3 (if_neg hk).symm) (fun y q => ⟨rfl, by rw [← Sum.inl.inj q]⟩) (fun E q => nomatch q) (fun q => nomatch q), h7, h9, h5⟩
theorem s_next (l : Launch) (hlt : l.stackTraces = false) (D : va_G) (cA : Nat → ClassId) (ad : Nat → Nat) (hj : wd_inj ad dsC.length) (cL : ClassId) (o : Nat) (hno : ∀ k, k < dsC.length → o ≠ ad k) (adK adV adT : Nat → Nat) (x y : Int32) {M N : Mem} (f : Nat → Int64) (h : Rel M N) : ∃ r M' b N', lm l yL_next wsN_Lnext rm_L_next adK adV adT D cA ad cL o M f [.ref (ad 0), .int x, .int y, .ref o] r M' b.toInt64 ∧ F_X8_next x y N = some (b, N') ∧ N' 0 0 = r ∧ Rel M' N' := by
  obtain ⟨k, b, N', h1, h2, h3, h5⟩ := p_next x y h
  rcases h3 with ⟨hk, h9⟩ | ⟨hk, rfl, h9⟩
  · exact ⟨1, M, b, N', c_L_next l D cA ad cL o hno adK adV adT x y M f (res := .inr nNS) (r := 1) (c_X7_next l hlt D cA ad hj adK adV adT x y M h1 rfl (if_pos hk).symm) (fun y q => nomatch q) (fun E q => (Sum.inr.inj q).symm) (fun _ => rfl), h2, h9, h5⟩
  · exact ⟨0, M, b, N', c_L_next l D cA ad cL o hno adK adV adT x y M f (res := .inl b) (r := 0) (c_X7_next l hlt D cA ad hj adK adV adT x y M h1 rfl (if_neg hk).symm) (fun y q => ⟨rfl, by rw [← Sum.inl.inj q]⟩) (fun E q => nomatch q) (fun q => nomatch q), h2, h9, h5⟩
theorem s_event (l : Launch) (hlt : l.stackTraces = false) (D : va_G) (cA : Nat → ClassId) (ad : Nat → Nat) (hj : wd_inj ad dsC.length) (cL : ClassId) (o : Nat) (hno : ∀ k, k < dsC.length → o ≠ ad k) (adK adV adT : Nat → Nat) (x : Int32) {M N : Mem} (f : Nat → Int64) (h : Rel M N) : ∃ r M' b N', lm l yL_event wsL_event rm_L_event adK adV adT D cA ad cL o M f [.ref (ad 0), .int x, .ref o] r M' b.toInt64 ∧ F_X8_event x N = some (b, N') ∧ N' 0 0 = r ∧ Rel M' N' := by
  obtain ⟨b, N', h2, h3⟩ := p_event x h
  rcases h3 with ⟨a1, h9, h5⟩ | ⟨a1, a2, h9, h5⟩ | ⟨a1, a2, M1, a3, h9, h5⟩
  · exact ⟨1, M, b, N', c_L_event l D cA ad cL o hno adK adV adT x M f (res := .inr nIS) (r := 1) (c_X7_event l hlt D cA ad hj adK adV adT x M (Or.inl ⟨a1, rfl, rfl⟩)) (fun y q => nomatch q) (fun E q => Or.inl (Sum.inr.inj q).symm) (fun _ => rfl) (fun q => absurd (Sum.inr.inj q) ne_IS), h2, h9, h5⟩
  · exact ⟨2, M, b, N', c_L_event l D cA ad cL o hno adK adV adT x M f (res := .inr nIA) (r := 2) (c_X7_event l hlt D cA ad hj adK adV adT x M (Or.inr (Or.inl ⟨a1, a2, rfl, rfl⟩))) (fun y q => nomatch q) (fun E q => Or.inr (Sum.inr.inj q).symm) (fun q => absurd (Sum.inr.inj q) ne_IA) (fun _ => rfl), h2, h9, h5⟩
  · exact ⟨0, M1, b, N', c_L_event l D cA ad cL o hno adK adV adT x M f (res := .inl b) (r := 0) (c_X7_event l hlt D cA ad hj adK adV adT x M (Or.inr (Or.inr ⟨a1, a2, b, a3, rfl⟩))) (fun y q => ⟨rfl, by rw [← Sum.inl.inj q]⟩) (fun E q => nomatch q) (fun q => nomatch q) (fun q => nomatch q), h2, h9, h5⟩
