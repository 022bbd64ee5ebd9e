def dsC : List wd_D := [.inr (7, [some 1, some 5, some 18, some 29, some 30]), .inr (0, [some 2, some 3, some 4, none, none]), .inl (1, 50), .inl (0, 25), .inl (0, 25), .inr (4, [some 6, some 7, some 8, some 9, some 10, some 11, some 12, some 15, none]), .inl (0, 14), .inl (0, 14), .inl (0, 14), .inl (0, 14), .inl (2, 14), .inl (2, 14), .inr (1, [none, none, some 13, some 14]), .inl (1, 84), .inl (0, 14), .inr (1, [none, none, some 16, some 17]), .inl (1, 84), .inl (0, 14), .inr (3, [some 19, some 20, some 21, some 22, some 23, some 24, some 25, some 26, none, none]), .inl (0, 6), .inl (0, 20), .inl (0, 20), .inl (0, 20), .inl (0, 20), .inl (0, 20), .inl (2, 20), .inr (1, [none, none, some 27, some 28]), .inl (1, 60), .inl (0, 20), .inr (2, [some 1, some 5, some 18]), .inr (5, [some 5, some 18, some 31, some 34, some 36, some 37, none, none, none]), .inr (1, [none, none, some 32, some 33]), .inl (1, 7240), .inl (0, 181), .inr (6, [some 5, some 18, some 31, some 35, none]), .inl (0, 14), .inl (0, 420), .inl (0, 180)]
theorem dC_0 : dsC[0]? = some (.inr (7, [some 1, some 5, some 18, some 29, some 30])) := rfl
theorem dC_1 : dsC[1]? = some (.inr (0, [some 2, some 3, some 4, none, none])) := rfl
theorem dC_2 : dsC[2]? = some (.inl (1, 50)) := rfl
theorem dC_3 : dsC[3]? = some (.inl (0, 25)) := rfl
theorem dC_4 : dsC[4]? = some (.inl (0, 25)) := rfl
theorem dC_5 : dsC[5]? = some (.inr (4, [some 6, some 7, some 8, some 9, some 10, some 11, some 12, some 15, none])) := rfl
theorem dC_6 : dsC[6]? = some (.inl (0, 14)) := rfl
theorem dC_7 : dsC[7]? = some (.inl (0, 14)) := rfl
theorem dC_8 : dsC[8]? = some (.inl (0, 14)) := rfl
theorem dC_9 : dsC[9]? = some (.inl (0, 14)) := rfl
theorem dC_10 : dsC[10]? = some (.inl (2, 14)) := rfl
theorem dC_11 : dsC[11]? = some (.inl (2, 14)) := rfl
theorem dC_12 : dsC[12]? = some (.inr (1, [none, none, some 13, some 14])) := rfl
theorem dC_13 : dsC[13]? = some (.inl (1, 84)) := rfl
theorem dC_14 : dsC[14]? = some (.inl (0, 14)) := rfl
theorem dC_15 : dsC[15]? = some (.inr (1, [none, none, some 16, some 17])) := rfl
theorem dC_16 : dsC[16]? = some (.inl (1, 84)) := rfl
theorem dC_17 : dsC[17]? = some (.inl (0, 14)) := rfl
theorem dC_18 : dsC[18]? = some (.inr (3, [some 19, some 20, some 21, some 22, some 23, some 24, some 25, some 26, none, none])) := rfl
theorem dC_19 : dsC[19]? = some (.inl (0, 6)) := rfl
theorem dC_20 : dsC[20]? = some (.inl (0, 20)) := rfl
theorem dC_21 : dsC[21]? = some (.inl (0, 20)) := rfl
theorem dC_22 : dsC[22]? = some (.inl (0, 20)) := rfl
theorem dC_23 : dsC[23]? = some (.inl (0, 20)) := rfl
theorem dC_24 : dsC[24]? = some (.inl (0, 20)) := rfl
theorem dC_25 : dsC[25]? = some (.inl (2, 20)) := rfl
theorem dC_26 : dsC[26]? = some (.inr (1, [none, none, some 27, some 28])) := rfl
theorem dC_27 : dsC[27]? = some (.inl (1, 60)) := rfl
theorem dC_28 : dsC[28]? = some (.inl (0, 20)) := rfl
theorem dC_29 : dsC[29]? = some (.inr (2, [some 1, some 5, some 18])) := rfl
theorem dC_30 : dsC[30]? = some (.inr (5, [some 5, some 18, some 31, some 34, some 36, some 37, none, none, none])) := rfl
theorem dC_31 : dsC[31]? = some (.inr (1, [none, none, some 32, some 33])) := rfl
theorem dC_32 : dsC[32]? = some (.inl (1, 7240)) := rfl
theorem dC_33 : dsC[33]? = some (.inl (0, 181)) := rfl
theorem dC_34 : dsC[34]? = some (.inr (6, [some 5, some 18, some 31, some 35, none])) := rfl
theorem dC_35 : dsC[35]? = some (.inl (0, 14)) := rfl
theorem dC_36 : dsC[36]? = some (.inl (0, 420)) := rfl
theorem dC_37 : dsC[37]? = some (.inl (0, 180)) := rfl
def dsM : List wd_D := [.inr (8, [none, some 1, none, none, some 2, some 3, none, some 4, some 5, some 6, some 7, some 8, some 9, some 10, none, none, some 11, some 12, some 13, some 14, some 15, some 16, some 17, some 18, some 19, some 20, none, none, none, none, some 21, some 22, some 23, some 24, some 25, some 26, some 27, some 28, some 29]), .inl (1, 50), .inl (0, 26), .inl (0, 26), .inl (1, 56), .inl (1, 168), .inl (0, 14), .inl (0, 14), .inl (0, 28), .inl (2, 14), .inl (2, 14), .inl (1, 24), .inl (1, 60), .inl (0, 20), .inl (0, 20), .inl (0, 20), .inl (0, 20), .inl (0, 20), .inl (0, 20), .inl (0, 14), .inl (1, 40), .inl (0, 420), .inl (0, 180), .inl (0, 181), .inl (1, 7240), .inl (0, 20), .inl (0, 20), .inl (0, 10), .inl (0, 10), .inl (0, 10)]
theorem dM_0 : dsM[0]? = some (.inr (8, [none, some 1, none, none, some 2, some 3, none, some 4, some 5, some 6, some 7, some 8, some 9, some 10, none, none, some 11, some 12, some 13, some 14, some 15, some 16, some 17, some 18, some 19, some 20, none, none, none, none, some 21, some 22, some 23, some 24, some 25, some 26, some 27, some 28, some 29])) := rfl
theorem dM_1 : dsM[1]? = some (.inl (1, 50)) := rfl
theorem dM_2 : dsM[2]? = some (.inl (0, 26)) := rfl
theorem dM_3 : dsM[3]? = some (.inl (0, 26)) := rfl
theorem dM_4 : dsM[4]? = some (.inl (1, 56)) := rfl
theorem dM_5 : dsM[5]? = some (.inl (1, 168)) := rfl
theorem dM_6 : dsM[6]? = some (.inl (0, 14)) := rfl
theorem dM_7 : dsM[7]? = some (.inl (0, 14)) := rfl
theorem dM_8 : dsM[8]? = some (.inl (0, 28)) := rfl
theorem dM_9 : dsM[9]? = some (.inl (2, 14)) := rfl
theorem dM_10 : dsM[10]? = some (.inl (2, 14)) := rfl
theorem dM_11 : dsM[11]? = some (.inl (1, 24)) := rfl
theorem dM_12 : dsM[12]? = some (.inl (1, 60)) := rfl
theorem dM_13 : dsM[13]? = some (.inl (0, 20)) := rfl
theorem dM_14 : dsM[14]? = some (.inl (0, 20)) := rfl
theorem dM_15 : dsM[15]? = some (.inl (0, 20)) := rfl
theorem dM_16 : dsM[16]? = some (.inl (0, 20)) := rfl
theorem dM_17 : dsM[17]? = some (.inl (0, 20)) := rfl
theorem dM_18 : dsM[18]? = some (.inl (0, 20)) := rfl
theorem dM_19 : dsM[19]? = some (.inl (0, 14)) := rfl
theorem dM_20 : dsM[20]? = some (.inl (1, 40)) := rfl
theorem dM_21 : dsM[21]? = some (.inl (0, 420)) := rfl
theorem dM_22 : dsM[22]? = some (.inl (0, 180)) := rfl
theorem dM_23 : dsM[23]? = some (.inl (0, 181)) := rfl
theorem dM_24 : dsM[24]? = some (.inl (1, 7240)) := rfl
theorem dM_25 : dsM[25]? = some (.inl (0, 20)) := rfl
theorem dM_26 : dsM[26]? = some (.inl (0, 20)) := rfl
theorem dM_27 : dsM[27]? = some (.inl (0, 10)) := rfl
theorem dM_28 : dsM[28]? = some (.inl (0, 10)) := rfl
theorem dM_29 : dsM[29]? = some (.inl (0, 10)) := rfl
def dl_C (k : Nat) : Nat := match dsC[k]? with | some (.inl (_, n)) => n | _ => 0
/-- a cell that is a MarkRows -/
def mr_ok (o : Nat) : Prop := dsC[o]? = some (.inr (1, [none, none, some (o + 1), some (o + 2)])) ∧ dsC[o + 1]? = some (.inl (1, dl_C (o + 1))) ∧ dsC[o + 2]? = some (.inl (0, dl_C (o + 2)))
theorem mr_12 : mr_ok 12 := ⟨rfl, rfl, rfl⟩
theorem mr_15 : mr_ok 15 := ⟨rfl, rfl, rfl⟩
theorem mr_26 : mr_ok 26 := ⟨rfl, rfl, rfl⟩
theorem mr_31 : mr_ok 31 := ⟨rfl, rfl, rfl⟩
def gi {α : Type} (n : Nat) (i : Int32) (k : Option α) : Option α := if i < 0 ∨ n ≤ i.toNatClampNeg then none else k
theorem gi_c {α : Type} {n : Nat} {i : Int32} {k : Option α} {r : α} (h : gi n i k = some r) : vp_in i n ∧ k = some r := by
  unfold gi at h
  by_cases q : i < 0 ∨ n ≤ i.toNatClampNeg
  · rw [if_pos q] at h; cases h
  · rw [if_neg q] at h; exact ⟨q, h⟩
def gz {α : Type} (v : Int32) (k : Option α) : Option α := if vp_nar .boolean v = v then k else none
theorem gz_c {α : Type} {v : Int32} {k : Option α} {r : α} (h : gz v k = some r) : narrow .boolean (.int v) = .int v ∧ k = some r := by
  unfold gz at h
  by_cases q : vp_nar .boolean v = v
  · rw [if_pos q] at h; exact ⟨congrArg Value.int q, h⟩
  · rw [if_neg q] at h; cases h
def gc {α : Type} (v : Int32) (k : Option α) : Option α := if vp_nar .char v = v then k else none
theorem gc_c {α : Type} {v : Int32} {k : Option α} {r : α} (h : gc v k = some r) : narrow .char (.int v) = .int v ∧ k = some r := by
  unfold gc at h
  by_cases q : vp_nar .char v = v
  · rw [if_pos q] at h; exact ⟨congrArg Value.int q, h⟩
  · rw [if_neg q] at h; cases h
def bd2 {α : Type} (a : Option (Int32 × Mem)) (k : Int32 → Mem → Option α) : Option α := match a with | none => none | some x => k x.1 x.2
theorem bd2_c {α : Type} {a : Option (Int32 × Mem)} {k : Int32 → Mem → Option α} {r : α} (h : bd2 a k = some r) : ∃ x M, a = some (x, M) ∧ k x M = some r := by
  cases a with
  | none => cases h
  | some x => exact ⟨x.1, x.2, rfl, h⟩
def nm {α : Type} (v : Int32) (K : Int32 → α) : α := K v
theorem nm_c {α : Type} {v : Int32} {K : Int32 → Option α} {r : α} (h : nm v K = some r) : ∃ x, x = v ∧ K x = some r := ⟨_, rfl, h⟩
theorem sw_out (x : Int32) (h0 : ¬ x = 0) (h1 : ¬ x = 1) (h2 : ¬ x = 2) (h3 : ¬ x = 3) : x.toInt < 0 ∨ 3 < x.toInt := by
  have a : ∀ y : Int32, ¬ x = y → ¬ x.toInt = y.toInt := fun y h q => h (Int32.toInt_inj.mp q)
  have b0 := a 0 h0
  have b1 := a 1 h1
  have b2 := a 2 h2
  have b3 := a 3 h3
  have e0 : (0 : Int32).toInt = 0 := by decide
  have e1 : (1 : Int32).toInt = 1 := by decide
  have e2 : (2 : Int32).toInt = 2 := by decide
  have e3 : (3 : Int32).toInt = 3 := by decide
  omega
theorem wd_top {p : Program} {l : Launch} {e : Env} {R : Room} {s : State} {m : MethodId} {args : Array Value} {below : List Frame} {meth : Method} {c : Code} {H : Heap} {locs : List Loc} {cells slots : Nat} {Q : State → Prop} {pc : Nat} {ls : Array Slot} {rest : List Value} {x v : Int32} (h : x = v) (k : W p l e R s m args below meth c H locs cells slots Q (F0 m pc ls (.int x :: rest))) : W p l e R s m args below meth c H locs cells slots Q (F0 m pc ls (.int v :: rest)) := h ▸ k
