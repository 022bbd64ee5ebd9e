/-! The constructors. -/
theorem cn_ha_int (N : Nat) (cx : ClassId) : vp_cell cx (N, .inl (fun _ => 0)) = arrV cx N (fun _ => defaultValue .int) := rfl
theorem cn_ha_char (N : Nat) (cx : ClassId) : vp_cell cx (N, .inl (fun _ => 0)) = arrV cx N (fun _ => defaultValue .char) := rfl
theorem cn_ha_boolean (N : Nat) (cx : ClassId) : vp_cell cx (N, .inl (fun _ => 0)) = arrV cx N (fun _ => defaultValue .boolean) := rfl
/-! X0_init ()V -/
def rm_X0_init : Room := { frames := 1, cells := 3, slots := 100, locals := 12 }
theorem in_X0_init_X0 : ∀ w ∈ u_ws RX0 TX0 5, w ∈ wsX0_init := by decide +kernel
set_option maxHeartbeats 4000000 in
set_option maxRecDepth 100000 in
theorem c_X0_init (l : Launch) (D : va_G) (cA : Nat → ClassId) (base : Nat) (pre : va_W) (a : Nat)  : cn_m l yX0_init wsX0_init rm_X0_init base D cA (pre ++ [(a, .inr (0, [.null, .null, .null, .int 0, .int 0]))]) [.ref a] (fun w1 => ∃ q1 q2 q3 : Nat, w1 = pre ++ [(a, .inr (0, [.ref q1, .ref q2, .ref q3, .int 0, .int 0])), (q1, .inl (cA 1, 50, .inl (fun _ => 0))), (q2, .inl (cA 0, 25, .inl (fun _ => 0))), (q3, .inl (cA 0, 25, .inl (fun _ => 0)))]) 3 (100) := by
  refine Met.ofW (cc := cX0_init) (maxL := 1) (ret := none) (by decide) rfl ?_
  intro p e s m args below meth c s₁ B hml hv
  obtain ⟨rfl, hbs, hP, hK, hD⟩ := hv
  have X : cn_X p s m _ meth c cX0_init 1 wsX0_init RX0 D cA base := ⟨⟨B.exec, B.bytes, hml, findClass_of_methodNamed B.named, atoms_spec (ws := wsX0_init) B.pre⟩, hK, hbs, B.notSynchronized, B.returns⟩
  have hin2 : meth.name = "<init>" := (name_of_methodNamed B.named B.method).1
  have hl := lv_entry ([.ref a]) (n := 1) (Nat.le_of_ble_eq_true rfl)
  rw [lg_entry_eq]
  generalize (lg_sl ([.ref a]) ++ List.replicate (1 - (lg_sl ([.ref a])).length) Slot.unset).toArray = ls at hl ⊢
  have hl : lv_has ls 1 [(0, .ref a)] := hl
  have hS : va_S (cnA base) s.heap s.heap [] := va_S.rf
  have hx := X.1.1
  have hb := X.1.2.1
  have hts := X.1.2.2.2.2
  refine lv_aload_n hx hb dX0_init_0 rfl (lv_at hl 0 rfl) ?_
  refine W.objInit hx hb X.1.2.2.2.1 (hts (.methodLink RX0 3 objectInit) (by decide +kernel)) (hts (.instanceMethod objectInit) (by decide +kernel)) (hts _ (by decide +kernel)) rfl (by rw [hml]; exact hl.1) rfl dX0_init_1 (by show _ ≤ _; first | exact Nat.le_of_ble_eq_true rfl | (simp [headSpec, rm_X0_init]; omega) | omega) (by show _ ≤ _; first | exact Nat.le_of_ble_eq_true rfl | (simp [headSpec, rm_X0_init]; omega) | omega) ?_
  refine W.eq (g2 := F0 m 4 ls []) rfl ?_
  refine lv_aload_n hx hb dX0_init_4 rfl (lv_at hl 0 rfl) ?_
  refine lv_bipush (v := (50 : Int32)) hx hb dX0_init_5 (by decide) ?_
  refine cn_newa (atype := .char) (ty := .char) X hP hD hS 1 rfl rfl (fun _ => rfl) (by decide +kernel) (50) (cn_ha_char _) (by decide) (by decide) (by show 50 * 2 ≤ 536870912; decide) (by show _ ≤ _; first | exact Nat.le_of_ble_eq_true rfl | (simp [headSpec, rm_X0_init]; omega) | omega) (by show _ ≤ _; first | exact Nat.le_of_ble_eq_true rfl | (simp [headSpec, rm_X0_init]; omega) | omega) dX0_init_7 (fun q1 H hP hD hS => ?_)
  have hP : va_P D vwCl (pre ++ [(a, .inr (0, [.null, .null, .null, .int 0, .int 0])), (q1, .inl (cA 1, 50, .inl (fun _ => 0)))]) H := hP
  have hD : va_D (cnA base) (pre ++ [(a, .inr (0, [.null, .null, .null, .int 0, .int 0])), (q1, .inl (cA 1, 50, .inl (fun _ => 0)))]) := hD
  refine cn_putF X hin2 hP hD hS 0 rfl rfl in_X0_init_X0 tyX0_ok nmX0 0 (by decide) (by decide +kernel) rfl rfl (v := .ref q1) (tyX0_ok 0 (by decide)) rfl rfl (Nat.le_of_ble_eq_true rfl) dX0_init_9 (fun H locs hP hD hS => ?_)
  have hP : va_P D vwCl (pre ++ [(a, .inr (0, [.ref q1, .null, .null, .int 0, .int 0])), (q1, .inl (cA 1, 50, .inl (fun _ => 0)))]) H := hP
  have hD : va_D (cnA base) (pre ++ [(a, .inr (0, [.ref q1, .null, .null, .int 0, .int 0])), (q1, .inl (cA 1, 50, .inl (fun _ => 0)))]) := hD
  refine lv_aload_n hx hb dX0_init_12 rfl (lv_at hl 0 rfl) ?_
  refine lv_bipush (v := (25 : Int32)) hx hb dX0_init_13 (by decide) ?_
  refine cn_newa (atype := .int) (ty := .int) X hP hD hS 0 rfl rfl (fun _ => rfl) (by decide +kernel) (25) (cn_ha_int _) (by decide) (by decide) (by show 25 * 4 ≤ 536870912; decide) (by show _ ≤ _; first | exact Nat.le_of_ble_eq_true rfl | (simp [headSpec, rm_X0_init]; omega) | omega) (by show _ ≤ _; first | exact Nat.le_of_ble_eq_true rfl | (simp [headSpec, rm_X0_init]; omega) | omega) dX0_init_15 (fun q2 H hP hD hS => ?_)
  have hP : va_P D vwCl (pre ++ [(a, .inr (0, [.ref q1, .null, .null, .int 0, .int 0])), (q1, .inl (cA 1, 50, .inl (fun _ => 0))), (q2, .inl (cA 0, 25, .inl (fun _ => 0)))]) H := hP
  have hD : va_D (cnA base) (pre ++ [(a, .inr (0, [.ref q1, .null, .null, .int 0, .int 0])), (q1, .inl (cA 1, 50, .inl (fun _ => 0))), (q2, .inl (cA 0, 25, .inl (fun _ => 0)))]) := hD
  refine cn_putF X hin2 hP hD hS 0 rfl rfl in_X0_init_X0 tyX0_ok nmX0 1 (by decide) (by decide +kernel) rfl rfl (v := .ref q2) (tyX0_ok 1 (by decide)) rfl rfl (Nat.le_of_ble_eq_true rfl) dX0_init_17 (fun H locs hP hD hS => ?_)
  have hP : va_P D vwCl (pre ++ [(a, .inr (0, [.ref q1, .ref q2, .null, .int 0, .int 0])), (q1, .inl (cA 1, 50, .inl (fun _ => 0))), (q2, .inl (cA 0, 25, .inl (fun _ => 0)))]) H := hP
  have hD : va_D (cnA base) (pre ++ [(a, .inr (0, [.ref q1, .ref q2, .null, .int 0, .int 0])), (q1, .inl (cA 1, 50, .inl (fun _ => 0))), (q2, .inl (cA 0, 25, .inl (fun _ => 0)))]) := hD
  refine lv_aload_n hx hb dX0_init_20 rfl (lv_at hl 0 rfl) ?_
  refine lv_bipush (v := (25 : Int32)) hx hb dX0_init_21 (by decide) ?_
  refine cn_newa (atype := .int) (ty := .int) X hP hD hS 0 rfl rfl (fun _ => rfl) (by decide +kernel) (25) (cn_ha_int _) (by decide) (by decide) (by show 25 * 4 ≤ 536870912; decide) (by show _ ≤ _; first | exact Nat.le_of_ble_eq_true rfl | (simp [headSpec, rm_X0_init]; omega) | omega) (by show _ ≤ _; first | exact Nat.le_of_ble_eq_true rfl | (simp [headSpec, rm_X0_init]; omega) | omega) dX0_init_23 (fun q3 H hP hD hS => ?_)
  have hP : va_P D vwCl (pre ++ [(a, .inr (0, [.ref q1, .ref q2, .null, .int 0, .int 0])), (q1, .inl (cA 1, 50, .inl (fun _ => 0))), (q2, .inl (cA 0, 25, .inl (fun _ => 0))), (q3, .inl (cA 0, 25, .inl (fun _ => 0)))]) H := hP
  have hD : va_D (cnA base) (pre ++ [(a, .inr (0, [.ref q1, .ref q2, .null, .int 0, .int 0])), (q1, .inl (cA 1, 50, .inl (fun _ => 0))), (q2, .inl (cA 0, 25, .inl (fun _ => 0))), (q3, .inl (cA 0, 25, .inl (fun _ => 0)))]) := hD
  refine cn_putF X hin2 hP hD hS 0 rfl rfl in_X0_init_X0 tyX0_ok nmX0 2 (by decide) (by decide +kernel) rfl rfl (v := .ref q3) (tyX0_ok 2 (by decide)) rfl rfl (Nat.le_of_ble_eq_true rfl) dX0_init_25 (fun H locs hP hD hS => ?_)
  have hP : va_P D vwCl (pre ++ [(a, .inr (0, [.ref q1, .ref q2, .ref q3, .int 0, .int 0])), (q1, .inl (cA 1, 50, .inl (fun _ => 0))), (q2, .inl (cA 0, 25, .inl (fun _ => 0))), (q3, .inl (cA 0, 25, .inl (fun _ => 0)))]) H := hP
  have hD : va_D (cnA base) (pre ++ [(a, .inr (0, [.ref q1, .ref q2, .ref q3, .int 0, .int 0])), (q1, .inl (cA 1, 50, .inl (fun _ => 0))), (q2, .inl (cA 0, 25, .inl (fun _ => 0))), (q3, .inl (cA 0, 25, .inl (fun _ => 0)))]) := hD
  refine W.widen (k := 3) (n := 100) (by show _ ≤ _; first | exact Nat.le_of_ble_eq_true rfl | omega) (by show _ ≤ _; first | exact Nat.le_of_ble_eq_true rfl | omega) ?_
  exact cn_ret X hP hD hS ⟨q1, q2, q3, rfl⟩ dX0_init_28
/-! X1_init (II)V -/
def rm_X1_init (r w : Nat) : Room := { frames := 1, cells := 2, slots := (r * w) + r, locals := 30 }
theorem in_X1_init_X1 : ∀ w ∈ u_ws RX1 TX1 4, w ∈ wsX1_init := by decide +kernel
set_option maxHeartbeats 4000000 in
set_option maxRecDepth 100000 in
theorem c_X1_init (l : Launch) (D : va_G) (cA : Nat → ClassId) (base : Nat) (pre : va_W) (a : Nat) (r : Nat) (w : Nat) (hrw : r ≤ 181 ∧ w ≤ 40 ∧ r * w ≤ 7240) : cn_m l yX1_init wsX1_init (rm_X1_init r w) base D cA (pre ++ [(a, .inr (1, [.int 0, .int 0, .null, .null]))]) [.ref a, .int (nI r), .int (nI w)] (fun w1 => ∃ q1 q2 : Nat, w1 = pre ++ [(a, .inr (1, [.int (nI r), .int (nI w), .ref q1, .ref q2])), (q1, .inl (cA 1, (r * w), .inl (fun _ => 0))), (q2, .inl (cA 0, r, .inl (fun _ => 0)))]) 2 ((r * w) + r) := by
  refine Met.ofW (cc := cX1_init) (maxL := 3) (ret := none) (by decide) rfl ?_
  intro p e s m args below meth c s₁ B hml hv
  obtain ⟨rfl, hbs, hP, hK, hD⟩ := hv
  have X : cn_X p s m _ meth c cX1_init 3 wsX1_init RX1 D cA base := ⟨⟨B.exec, B.bytes, hml, findClass_of_methodNamed B.named, atoms_spec (ws := wsX1_init) B.pre⟩, hK, hbs, B.notSynchronized, B.returns⟩
  have hin2 : meth.name = "<init>" := (name_of_methodNamed B.named B.method).1
  have hl := lv_entry ([.ref a, .int (nI r), .int (nI w)]) (n := 3) (Nat.le_of_ble_eq_true rfl)
  rw [lg_entry_eq]
  generalize (lg_sl ([.ref a, .int (nI r), .int (nI w)]) ++ List.replicate (3 - (lg_sl ([.ref a, .int (nI r), .int (nI w)])).length) Slot.unset).toArray = ls at hl ⊢
  have hl : lv_has ls 3 [(0, .ref a), (1, .int (nI r)), (2, .int (nI w))] := hl
  have hS : va_S (cnA base) s.heap s.heap [] := va_S.rf
  have hx := X.1.1
  have hb := X.1.2.1
  have hts := X.1.2.2.2.2
  refine lv_aload_n hx hb dX1_init_0 rfl (lv_at hl 0 rfl) ?_
  refine W.objInit hx hb X.1.2.2.2.1 (hts (.methodLink RX1 3 objectInit) (by decide +kernel)) (hts (.instanceMethod objectInit) (by decide +kernel)) (hts _ (by decide +kernel)) rfl (by rw [hml]; exact hl.1) rfl dX1_init_1 (by show _ ≤ _; first | exact Nat.le_of_ble_eq_true rfl | (simp [headSpec, rm_X1_init]; omega) | omega) (by show _ ≤ _; first | exact Nat.le_of_ble_eq_true rfl | (simp [headSpec, rm_X1_init]; omega) | omega) ?_
  refine W.eq (g2 := F0 m 4 ls []) rfl ?_
  refine lv_aload_n hx hb dX1_init_4 rfl (lv_at hl 0 rfl) ?_
  refine lv_iload_n hx hb dX1_init_5 rfl (lv_at hl 1 rfl) ?_
  refine lv_iconst (v := (0 : Int32)) hx hb dX1_init_6 (by decide) ?_
  refine va_mmax hx hb (X.1.2.2.1.trans hl.1.symm) X.1.2.2.2.1 (hts _ (by decide +kernel)) (hts _ (by decide +kernel)) (hts _ (by decide +kernel)) (hts _ (by decide +kernel)) (by show _ ≤ _; first | exact Nat.le_of_ble_eq_true rfl | (simp [headSpec, rm_X1_init]; omega) | omega) (by show _ ≤ _; first | exact Nat.le_of_ble_eq_true rfl | (simp [headSpec, rm_X1_init]; omega) | omega) (Nat.zero_le _) (Nat.zero_le _) dX1_init_7 ?_
  rw [if_neg (nI_lt0 (by omega))]
  refine cn_putF X hin2 hP hD hS 0 rfl rfl in_X1_init_X1 tyX1_ok nmX1 0 (by decide) (by decide +kernel) rfl rfl (v := .int (nI r)) (tyX1_ok 0 (by decide)) rfl rfl (Nat.le_of_ble_eq_true rfl) dX1_init_10 (fun H locs hP hD hS => ?_)
  have hP : va_P D vwCl (pre ++ [(a, .inr (1, [.int (nI r), .int 0, .null, .null]))]) H := hP
  have hD : va_D (cnA base) (pre ++ [(a, .inr (1, [.int (nI r), .int 0, .null, .null]))]) := hD
  refine lv_aload_n hx hb dX1_init_13 rfl (lv_at hl 0 rfl) ?_
  refine lv_iload_n hx hb dX1_init_14 rfl (lv_at hl 2 rfl) ?_
  refine lv_iconst (v := (0 : Int32)) hx hb dX1_init_15 (by decide) ?_
  refine va_mmax hx hb (X.1.2.2.1.trans hl.1.symm) X.1.2.2.2.1 (hts _ (by decide +kernel)) (hts _ (by decide +kernel)) (hts _ (by decide +kernel)) (hts _ (by decide +kernel)) (by show _ ≤ _; first | exact Nat.le_of_ble_eq_true rfl | (simp [headSpec, rm_X1_init]; omega) | omega) (by show _ ≤ _; first | exact Nat.le_of_ble_eq_true rfl | (simp [headSpec, rm_X1_init]; omega) | omega) (Nat.zero_le _) (Nat.zero_le _) dX1_init_16 ?_
  rw [if_neg (nI_lt0 (by omega))]
  refine cn_putF X hin2 hP hD hS 0 rfl rfl in_X1_init_X1 tyX1_ok nmX1 1 (by decide) (by decide +kernel) rfl rfl (v := .int (nI w)) (tyX1_ok 1 (by decide)) rfl rfl (Nat.le_of_ble_eq_true rfl) dX1_init_19 (fun H locs hP hD hS => ?_)
  have hP : va_P D vwCl (pre ++ [(a, .inr (1, [.int (nI r), .int (nI w), .null, .null]))]) H := hP
  have hD : va_D (cnA base) (pre ++ [(a, .inr (1, [.int (nI r), .int (nI w), .null, .null]))]) := hD
  refine lv_aload_n hx hb dX1_init_22 rfl (lv_at hl 0 rfl) ?_
  refine lv_aload_n hx hb dX1_init_23 rfl (lv_at hl 0 rfl) ?_
  refine cn_get (v := .int (nI r)) X hP 0 rfl rfl in_X1_init_X1 0 (by decide) (by decide +kernel) rfl dX1_init_24 ?_
  refine lv_aload_n hx hb dX1_init_27 rfl (lv_at hl 0 rfl) ?_
  refine cn_get (v := .int (nI w)) X hP 0 rfl rfl in_X1_init_X1 1 (by decide) (by decide +kernel) rfl dX1_init_28 ?_
  refine lv_imul hx hb dX1_init_31 ?_
  rw [pk_mul]
  refine lv_iconst (v := (0 : Int32)) hx hb dX1_init_32 (by decide) ?_
  refine va_mmax hx hb (X.1.2.2.1.trans hl.1.symm) X.1.2.2.2.1 (hts _ (by decide +kernel)) (hts _ (by decide +kernel)) (hts _ (by decide +kernel)) (hts _ (by decide +kernel)) (by show _ ≤ _; first | exact Nat.le_of_ble_eq_true rfl | (simp [headSpec, rm_X1_init]; omega) | omega) (by show _ ≤ _; first | exact Nat.le_of_ble_eq_true rfl | (simp [headSpec, rm_X1_init]; omega) | omega) (Nat.zero_le _) (Nat.zero_le _) dX1_init_33 ?_
  rw [if_neg (nI_lt0 (by omega))]
  refine cn_newa (atype := .char) (ty := .char) X hP hD hS 1 rfl rfl (fun _ => rfl) (by decide +kernel) ((r * w)) (cn_ha_char _) (nI_lt0 (by omega)) (nI_clamp (by omega)) (by show _ * 2 ≤ _; omega) (by show _ ≤ _; first | exact Nat.le_of_ble_eq_true rfl | (simp [headSpec, rm_X1_init]; omega) | omega) (by show 0 + (r * w) ≤ (r * w) + r; omega) dX1_init_36 (fun q1 H hP hD hS => ?_)
  have hP : va_P D vwCl (pre ++ [(a, .inr (1, [.int (nI r), .int (nI w), .null, .null])), (q1, .inl (cA 1, (r * w), .inl (fun _ => 0)))]) H := hP
  have hD : va_D (cnA base) (pre ++ [(a, .inr (1, [.int (nI r), .int (nI w), .null, .null])), (q1, .inl (cA 1, (r * w), .inl (fun _ => 0)))]) := hD
  refine cn_putF X hin2 hP hD hS 0 rfl rfl in_X1_init_X1 tyX1_ok nmX1 2 (by decide) (by decide +kernel) rfl rfl (v := .ref q1) (tyX1_ok 2 (by decide)) rfl rfl (Nat.le_of_ble_eq_true rfl) dX1_init_38 (fun H locs hP hD hS => ?_)
  have hP : va_P D vwCl (pre ++ [(a, .inr (1, [.int (nI r), .int (nI w), .ref q1, .null])), (q1, .inl (cA 1, (r * w), .inl (fun _ => 0)))]) H := hP
  have hD : va_D (cnA base) (pre ++ [(a, .inr (1, [.int (nI r), .int (nI w), .ref q1, .null])), (q1, .inl (cA 1, (r * w), .inl (fun _ => 0)))]) := hD
  refine lv_aload_n hx hb dX1_init_41 rfl (lv_at hl 0 rfl) ?_
  refine lv_aload_n hx hb dX1_init_42 rfl (lv_at hl 0 rfl) ?_
  refine cn_get (v := .int (nI r)) X hP 0 rfl rfl in_X1_init_X1 0 (by decide) (by decide +kernel) rfl dX1_init_43 ?_
  refine cn_newa (atype := .int) (ty := .int) X hP hD hS 0 rfl rfl (fun _ => rfl) (by decide +kernel) (r) (cn_ha_int _) (nI_lt0 (by omega)) (nI_clamp (by omega)) (by show _ * 4 ≤ _; omega) (by show _ ≤ _; first | exact Nat.le_of_ble_eq_true rfl | (simp [headSpec, rm_X1_init]; omega) | omega) (by show 0 + (r * w) + r ≤ (r * w) + r; omega) dX1_init_46 (fun q2 H hP hD hS => ?_)
  have hP : va_P D vwCl (pre ++ [(a, .inr (1, [.int (nI r), .int (nI w), .ref q1, .null])), (q1, .inl (cA 1, (r * w), .inl (fun _ => 0))), (q2, .inl (cA 0, r, .inl (fun _ => 0)))]) H := hP
  have hD : va_D (cnA base) (pre ++ [(a, .inr (1, [.int (nI r), .int (nI w), .ref q1, .null])), (q1, .inl (cA 1, (r * w), .inl (fun _ => 0))), (q2, .inl (cA 0, r, .inl (fun _ => 0)))]) := hD
  refine cn_putF X hin2 hP hD hS 0 rfl rfl in_X1_init_X1 tyX1_ok nmX1 3 (by decide) (by decide +kernel) rfl rfl (v := .ref q2) (tyX1_ok 3 (by decide)) rfl rfl (Nat.le_of_ble_eq_true rfl) dX1_init_48 (fun H locs hP hD hS => ?_)
  have hP : va_P D vwCl (pre ++ [(a, .inr (1, [.int (nI r), .int (nI w), .ref q1, .ref q2])), (q1, .inl (cA 1, (r * w), .inl (fun _ => 0))), (q2, .inl (cA 0, r, .inl (fun _ => 0)))]) H := hP
  have hD : va_D (cnA base) (pre ++ [(a, .inr (1, [.int (nI r), .int (nI w), .ref q1, .ref q2])), (q1, .inl (cA 1, (r * w), .inl (fun _ => 0))), (q2, .inl (cA 0, r, .inl (fun _ => 0)))]) := hD
  refine W.widen (k := 2) (n := (r * w) + r) (by show _ ≤ _; first | exact Nat.le_of_ble_eq_true rfl | omega) (by show _ ≤ _; first | exact Nat.le_of_ble_eq_true rfl | omega) ?_
  exact cn_ret X hP hD hS ⟨q1, q2, rfl⟩ dX1_init_51
/-! X2_init (LChartTable$Line;LChartTable$States;LChartTable$Rules;)V -/
def rm_X2_init : Room := { frames := 1, cells := 0, slots := 0, locals := 12 }
theorem in_X2_init_X2 : ∀ w ∈ u_ws RX2 TX2 3, w ∈ wsX2_init := by decide +kernel
set_option maxHeartbeats 4000000 in
set_option maxRecDepth 100000 in
theorem c_X2_init (l : Launch) (D : va_G) (cA : Nat → ClassId) (base : Nat) (pre : va_W) (a : Nat) (t1 : Nat) (t2 : Nat) (t3 : Nat) : cn_m l yX2_init wsX2_init rm_X2_init base D cA (pre ++ [(a, .inr (2, [.null, .null, .null]))]) [.ref a, .ref t1, .ref t2, .ref t3] (fun w1 => w1 = pre ++ [(a, .inr (2, [.ref t1, .ref t2, .ref t3]))]) 0 (0) := by
  refine Met.ofW (cc := cX2_init) (maxL := 4) (ret := none) (by decide) rfl ?_
  intro p e s m args below meth c s₁ B hml hv
  obtain ⟨rfl, hbs, hP, hK, hD⟩ := hv
  have X : cn_X p s m _ meth c cX2_init 4 wsX2_init RX2 D cA base := ⟨⟨B.exec, B.bytes, hml, findClass_of_methodNamed B.named, atoms_spec (ws := wsX2_init) B.pre⟩, hK, hbs, B.notSynchronized, B.returns⟩
  have hin2 : meth.name = "<init>" := (name_of_methodNamed B.named B.method).1
  have hl := lv_entry ([.ref a, .ref t1, .ref t2, .ref t3]) (n := 4) (Nat.le_of_ble_eq_true rfl)
  rw [lg_entry_eq]
  generalize (lg_sl ([.ref a, .ref t1, .ref t2, .ref t3]) ++ List.replicate (4 - (lg_sl ([.ref a, .ref t1, .ref t2, .ref t3])).length) Slot.unset).toArray = ls at hl ⊢
  have hl : lv_has ls 4 [(0, .ref a), (1, .ref t1), (2, .ref t2), (3, .ref t3)] := hl
  have hS : va_S (cnA base) s.heap s.heap [] := va_S.rf
  have hx := X.1.1
  have hb := X.1.2.1
  have hts := X.1.2.2.2.2
  refine lv_aload_n hx hb dX2_init_0 rfl (lv_at hl 0 rfl) ?_
  refine W.objInit hx hb X.1.2.2.2.1 (hts (.methodLink RX2 3 objectInit) (by decide +kernel)) (hts (.instanceMethod objectInit) (by decide +kernel)) (hts _ (by decide +kernel)) rfl (by rw [hml]; exact hl.1) rfl dX2_init_1 (by show _ ≤ _; first | exact Nat.le_of_ble_eq_true rfl | (simp [headSpec, rm_X2_init]; omega) | omega) (by show _ ≤ _; first | exact Nat.le_of_ble_eq_true rfl | (simp [headSpec, rm_X2_init]; omega) | omega) ?_
  refine W.eq (g2 := F0 m 4 ls []) rfl ?_
  refine lv_aload_n hx hb dX2_init_4 rfl (lv_at hl 0 rfl) ?_
  refine lv_aload_n hx hb dX2_init_5 rfl (lv_at hl 1 rfl) ?_
  refine cn_putF X hin2 hP hD hS 0 rfl rfl in_X2_init_X2 tyX2_ok nmX2 0 (by decide) (by decide +kernel) rfl rfl (v := .ref t1) (tyX2_ok 0 (by decide)) rfl rfl (Nat.le_of_ble_eq_true rfl) dX2_init_6 (fun H locs hP hD hS => ?_)
  have hP : va_P D vwCl (pre ++ [(a, .inr (2, [.ref t1, .null, .null]))]) H := hP
  have hD : va_D (cnA base) (pre ++ [(a, .inr (2, [.ref t1, .null, .null]))]) := hD
  refine lv_aload_n hx hb dX2_init_9 rfl (lv_at hl 0 rfl) ?_
  refine lv_aload_n hx hb dX2_init_10 rfl (lv_at hl 2 rfl) ?_
  refine cn_putF X hin2 hP hD hS 0 rfl rfl in_X2_init_X2 tyX2_ok nmX2 1 (by decide) (by decide +kernel) rfl rfl (v := .ref t2) (tyX2_ok 1 (by decide)) rfl rfl (Nat.le_of_ble_eq_true rfl) dX2_init_11 (fun H locs hP hD hS => ?_)
  have hP : va_P D vwCl (pre ++ [(a, .inr (2, [.ref t1, .ref t2, .null]))]) H := hP
  have hD : va_D (cnA base) (pre ++ [(a, .inr (2, [.ref t1, .ref t2, .null]))]) := hD
  refine lv_aload_n hx hb dX2_init_14 rfl (lv_at hl 0 rfl) ?_
  refine lv_aload_n hx hb dX2_init_15 rfl (lv_at hl 3 rfl) ?_
  refine cn_putF X hin2 hP hD hS 0 rfl rfl in_X2_init_X2 tyX2_ok nmX2 2 (by decide) (by decide +kernel) rfl rfl (v := .ref t3) (tyX2_ok 2 (by decide)) rfl rfl (Nat.le_of_ble_eq_true rfl) dX2_init_16 (fun H locs hP hD hS => ?_)
  have hP : va_P D vwCl (pre ++ [(a, .inr (2, [.ref t1, .ref t2, .ref t3]))]) H := hP
  have hD : va_D (cnA base) (pre ++ [(a, .inr (2, [.ref t1, .ref t2, .ref t3]))]) := hD
  refine W.widen (k := 0) (n := 0) (by show _ ≤ _; first | exact Nat.le_of_ble_eq_true rfl | omega) (by show _ ≤ _; first | exact Nat.le_of_ble_eq_true rfl | omega) ?_
  exact cn_ret X hP hD hS rfl dX2_init_19
