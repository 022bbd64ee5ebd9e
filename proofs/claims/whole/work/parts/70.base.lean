/-! THE PURE PART. Numbers: nI n of small naturals, and -1. -/
theorem bd_some {α β : Type} (x : α) (k : α → Option β) : bd (some x) k = k x := rfl
theorem bd2_some {α : Type} (x : Int32) (M : Mem) (k : Int32 → Mem → Option α) : bd2 (some (x, M)) k = k x M := rfl
theorem nm_eq {α : Type} (v : Int32) (K : Int32 → α) : nm v K = K v := rfl
theorem wr_eq {α : Type} (M : Mem) (k j : Nat) (v : Int32) (K : Mem → α) : wr M k j v K = K (set2 M k j v) := rfl
theorem gi_ok {α : Type} {n i : Nat} {k : Option α} (h : i < n) (hn : n < 2 ^ 31) : gi n (nI i) k = k := by
  unfold gi
  rw [if_neg (nI_in h hn)]
theorem gi_of {α : Type} {n i : Nat} {x : Int32} {k : Option α} (hx : x = nI i) (h : i < n) (hn : n < 2 ^ 31) : gi n x k = k := by
  rw [hx]; exact gi_ok h hn
theorem nI_ltP {a b : Nat} (ha : a < 2 ^ 31) (hb : b < 2 ^ 31) : (nI a < nI b) = (a < b) := propext (nI_ltI ha hb)
theorem nI_leP {a b : Nat} (ha : a < 2 ^ 31) (hb : b < 2 ^ 31) : (nI a ≤ nI b) = (a ≤ b) := propext (nI_leI ha hb)
theorem nI_eqP {a b : Nat} (ha : a < 2 ^ 31) (hb : b < 2 ^ 31) : (nI a = nI b) = (a = b) := propext (nI_eq ha hb)
theorem m1_int : (-1 : Int32).toInt = -1 := by decide
theorem nI_ne_m1 {a : Nat} (h : a < 2 ^ 31) : ¬ nI a = -1 := fun q => by
  have e := congrArg Int32.toInt q
  rw [nI_toInt h, m1_int] at e
  omega
theorem m1_ne_nI {a : Nat} (h : a < 2 ^ 31) : ¬ (-1 : Int32) = nI a := fun q => nI_ne_m1 h q.symm
theorem m1_lt0 : (-1 : Int32) < 0 := by decide
theorem m1_le0 : (-1 : Int32) ≤ 0 := by decide
theorem m1_lt_nI {a : Nat} (h : a < 2 ^ 31) : (-1 : Int32) < nI a := by
  rw [Int32.lt_iff_toInt_lt, nI_toInt h, m1_int]; omega
theorem nI_le0 {a : Nat} (h : a < 2 ^ 31) : (nI a ≤ 0) = (a = 0) := propext (by
  rw [Int32.le_iff_toInt_le, nI_toInt h, Int32.toInt_zero]; omega)
theorem nI_0le {a : Nat} (h : a < 2 ^ 31) : 0 ≤ nI a := nI_pos' h
theorem nI_lt0 {a : Nat} (h : a < 2 ^ 31) : ¬ nI a < 0 := nI_pos h
theorem nI_inj {a b : Nat} (ha : a < 2 ^ 31) (hb : b < 2 ^ 31) (h : nI a = nI b) : a = b := (nI_eq ha hb).mp h
/-- reads of a written memory -/
theorem s2 (M : Mem) (k j : Nat) (v : Int32) (a b : Nat) : set2 M k j v a b = if a = k then (if b = j then v else M a b) else M a b := by
  unfold set2 upd
  by_cases h : a = k
  · rw [if_pos h, if_pos h]
  · rw [if_neg h, if_neg h]
theorem s2_hit (M : Mem) (k j : Nat) (v : Int32) : set2 M k j v k j = v := by rw [s2, if_pos rfl, if_pos rfl]
theorem s2_oth (M : Mem) {k a : Nat} (j : Nat) (v : Int32) (b : Nat) (h : ¬ a = k) : set2 M k j v a b = M a b := by rw [s2, if_neg h]
theorem s2_pl (M : Mem) (k : Nat) {j b : Nat} (v : Int32) (h : ¬ b = j) : set2 M k j v k b = M k b := by rw [s2, if_pos rfl, if_neg h]
/-- only the cells of L may differ -/
def agr (L : List Nat) (M M' : Mem) : Prop := ∀ a, a ∉ L → M' a = M a
theorem agr.rf {L : List Nat} {M : Mem} : agr L M M := fun _ _ => rfl
theorem agr.tr {L : List Nat} {M M1 M2 : Mem} (h : agr L M M1) (g : agr L M1 M2) : agr L M M2 := fun a ha => (g a ha).trans (h a ha)
theorem agr.mono {L K : List Nat} {M M' : Mem} (h : agr L M M') (hs : ∀ a, a ∈ L → a ∈ K) : agr K M M' := fun a ha => h a (fun z => ha (hs a z))
theorem agr.set {L : List Nat} {M : Mem} {k j : Nat} {v : Int32} (h : k ∈ L) : agr L M (set2 M k j v) := fun a ha => set2_ne M j v (fun e => ha (e ▸ h))
