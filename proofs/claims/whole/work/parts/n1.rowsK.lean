/-! The law's own rows. -/
def wsN_law : List Cond := wsL_law0 ++ (vx_atS RX7 60 "java/lang/IllegalArgumentException" ["java/lang/RuntimeException", "java/lang/Exception"]).filter goodWord ++ (vx_atS RX7 67 "java/lang/IllegalStateException" ["java/lang/RuntimeException", "java/lang/Exception"]).filter goodWord ++ (mx_atS RX7 107 nNS nRT 13 rxN [nEX]).filter goodWord
def lw_cs : List (List Cond) := [wsL_law0_r1, wsL_law0_r2, wsL_law0_r3, wsL_law0_r4, wsL_law0_r5, wsL_law0_r6, wsL_law0_r7, wsL_law0_r8, wsL_law0_r9, wsL_law0_r10, wsL_law0_r11, wsL_law0_r12, wsL_law0_r13, wsL_law0_r14, wsL_law0_r15, wsL_law0_r16, wsL_law0_r17, wsL_law0_r18, wsL_law0_r19, wsL_law0_r20, wsL_law0_r21, wsL_law0_r22, wsL_law0_r23, wsL_law0_r24, wsL_law0_r25, wsL_law0_r26, wsL_law0_r27, wsL_law0_r28, wsL_law0_r29, wsL_law0_r30, wsL_law0_r31, wsL_law0_r32, wsL_law0_r33, wsX70, wsX80, wsX00, wsX40, wsX30, wsX20, wsX50, wsX10, wsX60]
theorem ap_l {a b : List Cond} {w : Cond} (h : w ∈ a) : w ∈ a ++ b := List.mem_append_left _ h
theorem ap_r {a b : List Cond} {w : Cond} (h : w ∈ b) : w ∈ a ++ b := List.mem_append_right _ h
theorem goodIn_c {big : List Cond} (cs : List (List Cond)) (hb : ∀ c ∈ cs, ∀ w ∈ c, w ∈ big) (ws : List Cond) (ps : List (Nat × Nat)) (hp : ws = ps.filterMap (fun q => (cs.getD q.1 [])[q.2]?)) (h : ws.all goodWord = true) : GoodIn big ws := by
  intro w hw
  have h1 := List.all_eq_true.mp h w hw
  rw [hp] at hw
  obtain ⟨q, -, hq⟩ := List.mem_filterMap.mp hw
  have hm := List.mem_of_getElem? hq
  have hc : cs.getD q.1 [] ∈ cs := by
    rw [List.getD_eq_getElem?_getD] at hm ⊢
    cases e : cs[q.1]? with
    | none => rw [e] at hm; cases hm
    | some c => exact List.mem_of_getElem? e
  exact ⟨hb _ hc w hm, good_of_word h1⟩
theorem lw_cs_0 : ∀ w ∈ wsL_law0_r1, w ∈ wsN_law := fun w h => ap_l (ap_l (ap_l (ap_l (ap_l (ap_l (ap_l (ap_l (ap_l (ap_l (ap_l (ap_l (ap_l (ap_l (h))))))))))))))
theorem lw_cs_1 : ∀ w ∈ wsL_law0_r2, w ∈ wsN_law := fun w h => ap_l (ap_l (ap_l (ap_l (ap_l (ap_l (ap_l (ap_l (ap_l (ap_l (ap_l (ap_l (ap_l (ap_r (ap_l (h)))))))))))))))
theorem lw_cs_2 : ∀ w ∈ wsL_law0_r3, w ∈ wsN_law := fun w h => ap_l (ap_l (ap_l (ap_l (ap_l (ap_l (ap_l (ap_l (ap_l (ap_l (ap_l (ap_l (ap_l (ap_r (ap_r (ap_l (h))))))))))))))))
theorem lw_cs_3 : ∀ w ∈ wsL_law0_r4, w ∈ wsN_law := fun w h => ap_l (ap_l (ap_l (ap_l (ap_l (ap_l (ap_l (ap_l (ap_l (ap_l (ap_l (ap_l (ap_l (ap_r (ap_r (ap_r (ap_l (h)))))))))))))))))
theorem lw_cs_4 : ∀ w ∈ wsL_law0_r5, w ∈ wsN_law := fun w h => ap_l (ap_l (ap_l (ap_l (ap_l (ap_l (ap_l (ap_l (ap_l (ap_l (ap_l (ap_l (ap_l (ap_r (ap_r (ap_r (ap_r (ap_l (h))))))))))))))))))
theorem lw_cs_5 : ∀ w ∈ wsL_law0_r6, w ∈ wsN_law := fun w h => ap_l (ap_l (ap_l (ap_l (ap_l (ap_l (ap_l (ap_l (ap_l (ap_l (ap_l (ap_l (ap_l (ap_r (ap_r (ap_r (ap_r (ap_r (ap_l (h)))))))))))))))))))
theorem lw_cs_6 : ∀ w ∈ wsL_law0_r7, w ∈ wsN_law := fun w h => ap_l (ap_l (ap_l (ap_l (ap_l (ap_l (ap_l (ap_l (ap_l (ap_l (ap_l (ap_l (ap_l (ap_r (ap_r (ap_r (ap_r (ap_r (ap_r (ap_l (h))))))))))))))))))))
theorem lw_cs_7 : ∀ w ∈ wsL_law0_r8, w ∈ wsN_law := fun w h => ap_l (ap_l (ap_l (ap_l (ap_l (ap_l (ap_l (ap_l (ap_l (ap_l (ap_l (ap_l (ap_l (ap_r (ap_r (ap_r (ap_r (ap_r (ap_r (ap_r (ap_l (h)))))))))))))))))))))
theorem lw_cs_8 : ∀ w ∈ wsL_law0_r9, w ∈ wsN_law := fun w h => ap_l (ap_l (ap_l (ap_l (ap_l (ap_l (ap_l (ap_l (ap_l (ap_l (ap_l (ap_l (ap_l (ap_r (ap_r (ap_r (ap_r (ap_r (ap_r (ap_r (ap_r (ap_l (h))))))))))))))))))))))
theorem lw_cs_9 : ∀ w ∈ wsL_law0_r10, w ∈ wsN_law := fun w h => ap_l (ap_l (ap_l (ap_l (ap_l (ap_l (ap_l (ap_l (ap_l (ap_l (ap_l (ap_l (ap_l (ap_r (ap_r (ap_r (ap_r (ap_r (ap_r (ap_r (ap_r (ap_r (ap_l (h)))))))))))))))))))))))
theorem lw_cs_10 : ∀ w ∈ wsL_law0_r11, w ∈ wsN_law := fun w h => ap_l (ap_l (ap_l (ap_l (ap_l (ap_l (ap_l (ap_l (ap_l (ap_l (ap_l (ap_l (ap_l (ap_r (ap_r (ap_r (ap_r (ap_r (ap_r (ap_r (ap_r (ap_r (ap_r (ap_l (h))))))))))))))))))))))))
theorem lw_cs_11 : ∀ w ∈ wsL_law0_r12, w ∈ wsN_law := fun w h => ap_l (ap_l (ap_l (ap_l (ap_l (ap_l (ap_l (ap_l (ap_l (ap_l (ap_l (ap_l (ap_l (ap_r (ap_r (ap_r (ap_r (ap_r (ap_r (ap_r (ap_r (ap_r (ap_r (ap_r (ap_l (h)))))))))))))))))))))))))
theorem lw_cs_12 : ∀ w ∈ wsL_law0_r13, w ∈ wsN_law := fun w h => ap_l (ap_l (ap_l (ap_l (ap_l (ap_l (ap_l (ap_l (ap_l (ap_l (ap_l (ap_l (ap_l (ap_r (ap_r (ap_r (ap_r (ap_r (ap_r (ap_r (ap_r (ap_r (ap_r (ap_r (ap_r (ap_l (h))))))))))))))))))))))))))
theorem lw_cs_13 : ∀ w ∈ wsL_law0_r14, w ∈ wsN_law := fun w h => ap_l (ap_l (ap_l (ap_l (ap_l (ap_l (ap_l (ap_l (ap_l (ap_l (ap_l (ap_l (ap_l (ap_r (ap_r (ap_r (ap_r (ap_r (ap_r (ap_r (ap_r (ap_r (ap_r (ap_r (ap_r (ap_r (ap_l (h)))))))))))))))))))))))))))
theorem lw_cs_14 : ∀ w ∈ wsL_law0_r15, w ∈ wsN_law := fun w h => ap_l (ap_l (ap_l (ap_l (ap_l (ap_l (ap_l (ap_l (ap_l (ap_l (ap_l (ap_l (ap_l (ap_r (ap_r (ap_r (ap_r (ap_r (ap_r (ap_r (ap_r (ap_r (ap_r (ap_r (ap_r (ap_r (ap_r (ap_l (h))))))))))))))))))))))))))))
theorem lw_cs_15 : ∀ w ∈ wsL_law0_r16, w ∈ wsN_law := fun w h => ap_l (ap_l (ap_l (ap_l (ap_l (ap_l (ap_l (ap_l (ap_l (ap_l (ap_l (ap_l (ap_l (ap_r (ap_r (ap_r (ap_r (ap_r (ap_r (ap_r (ap_r (ap_r (ap_r (ap_r (ap_r (ap_r (ap_r (ap_r (ap_l (h)))))))))))))))))))))))))))))
theorem lw_cs_16 : ∀ w ∈ wsL_law0_r17, w ∈ wsN_law := fun w h => ap_l (ap_l (ap_l (ap_l (ap_l (ap_l (ap_l (ap_l (ap_l (ap_l (ap_l (ap_l (ap_l (ap_r (ap_r (ap_r (ap_r (ap_r (ap_r (ap_r (ap_r (ap_r (ap_r (ap_r (ap_r (ap_r (ap_r (ap_r (ap_r (ap_l (h))))))))))))))))))))))))))))))
theorem lw_cs_17 : ∀ w ∈ wsL_law0_r18, w ∈ wsN_law := fun w h => ap_l (ap_l (ap_l (ap_l (ap_l (ap_l (ap_l (ap_l (ap_l (ap_l (ap_l (ap_l (ap_l (ap_r (ap_r (ap_r (ap_r (ap_r (ap_r (ap_r (ap_r (ap_r (ap_r (ap_r (ap_r (ap_r (ap_r (ap_r (ap_r (ap_r (ap_l (h)))))))))))))))))))))))))))))))
theorem lw_cs_18 : ∀ w ∈ wsL_law0_r19, w ∈ wsN_law := fun w h => ap_l (ap_l (ap_l (ap_l (ap_l (ap_l (ap_l (ap_l (ap_l (ap_l (ap_l (ap_l (ap_l (ap_r (ap_r (ap_r (ap_r (ap_r (ap_r (ap_r (ap_r (ap_r (ap_r (ap_r (ap_r (ap_r (ap_r (ap_r (ap_r (ap_r (ap_r (ap_l (h))))))))))))))))))))))))))))))))
theorem lw_cs_19 : ∀ w ∈ wsL_law0_r20, w ∈ wsN_law := fun w h => ap_l (ap_l (ap_l (ap_l (ap_l (ap_l (ap_l (ap_l (ap_l (ap_l (ap_l (ap_l (ap_l (ap_r (ap_r (ap_r (ap_r (ap_r (ap_r (ap_r (ap_r (ap_r (ap_r (ap_r (ap_r (ap_r (ap_r (ap_r (ap_r (ap_r (ap_r (ap_r (ap_l (h)))))))))))))))))))))))))))))))))
theorem lw_cs_20 : ∀ w ∈ wsL_law0_r21, w ∈ wsN_law := fun w h => ap_l (ap_l (ap_l (ap_l (ap_l (ap_l (ap_l (ap_l (ap_l (ap_l (ap_l (ap_l (ap_l (ap_r (ap_r (ap_r (ap_r (ap_r (ap_r (ap_r (ap_r (ap_r (ap_r (ap_r (ap_r (ap_r (ap_r (ap_r (ap_r (ap_r (ap_r (ap_r (ap_r (ap_l (h))))))))))))))))))))))))))))))))))
theorem lw_cs_21 : ∀ w ∈ wsL_law0_r22, w ∈ wsN_law := fun w h => ap_l (ap_l (ap_l (ap_l (ap_l (ap_l (ap_l (ap_l (ap_l (ap_l (ap_l (ap_l (ap_l (ap_r (ap_r (ap_r (ap_r (ap_r (ap_r (ap_r (ap_r (ap_r (ap_r (ap_r (ap_r (ap_r (ap_r (ap_r (ap_r (ap_r (ap_r (ap_r (ap_r (ap_r (ap_l (h)))))))))))))))))))))))))))))))))))
theorem lw_cs_22 : ∀ w ∈ wsL_law0_r23, w ∈ wsN_law := fun w h => ap_l (ap_l (ap_l (ap_l (ap_l (ap_l (ap_l (ap_l (ap_l (ap_l (ap_l (ap_l (ap_l (ap_r (ap_r (ap_r (ap_r (ap_r (ap_r (ap_r (ap_r (ap_r (ap_r (ap_r (ap_r (ap_r (ap_r (ap_r (ap_r (ap_r (ap_r (ap_r (ap_r (ap_r (ap_r (ap_l (h))))))))))))))))))))))))))))))))))))
theorem lw_cs_23 : ∀ w ∈ wsL_law0_r24, w ∈ wsN_law := fun w h => ap_l (ap_l (ap_l (ap_l (ap_l (ap_l (ap_l (ap_l (ap_l (ap_l (ap_l (ap_l (ap_l (ap_r (ap_r (ap_r (ap_r (ap_r (ap_r (ap_r (ap_r (ap_r (ap_r (ap_r (ap_r (ap_r (ap_r (ap_r (ap_r (ap_r (ap_r (ap_r (ap_r (ap_r (ap_r (ap_r (ap_l (h)))))))))))))))))))))))))))))))))))))
theorem lw_cs_24 : ∀ w ∈ wsL_law0_r25, w ∈ wsN_law := fun w h => ap_l (ap_l (ap_l (ap_l (ap_l (ap_l (ap_l (ap_l (ap_l (ap_l (ap_l (ap_l (ap_l (ap_r (ap_r (ap_r (ap_r (ap_r (ap_r (ap_r (ap_r (ap_r (ap_r (ap_r (ap_r (ap_r (ap_r (ap_r (ap_r (ap_r (ap_r (ap_r (ap_r (ap_r (ap_r (ap_r (ap_r (ap_l (h))))))))))))))))))))))))))))))))))))))
theorem lw_cs_25 : ∀ w ∈ wsL_law0_r26, w ∈ wsN_law := fun w h => ap_l (ap_l (ap_l (ap_l (ap_l (ap_l (ap_l (ap_l (ap_l (ap_l (ap_l (ap_l (ap_l (ap_r (ap_r (ap_r (ap_r (ap_r (ap_r (ap_r (ap_r (ap_r (ap_r (ap_r (ap_r (ap_r (ap_r (ap_r (ap_r (ap_r (ap_r (ap_r (ap_r (ap_r (ap_r (ap_r (ap_r (ap_r (ap_l (h)))))))))))))))))))))))))))))))))))))))
theorem lw_cs_26 : ∀ w ∈ wsL_law0_r27, w ∈ wsN_law := fun w h => ap_l (ap_l (ap_l (ap_l (ap_l (ap_l (ap_l (ap_l (ap_l (ap_l (ap_l (ap_l (ap_l (ap_r (ap_r (ap_r (ap_r (ap_r (ap_r (ap_r (ap_r (ap_r (ap_r (ap_r (ap_r (ap_r (ap_r (ap_r (ap_r (ap_r (ap_r (ap_r (ap_r (ap_r (ap_r (ap_r (ap_r (ap_r (ap_r (ap_l (h))))))))))))))))))))))))))))))))))))))))
theorem lw_cs_27 : ∀ w ∈ wsL_law0_r28, w ∈ wsN_law := fun w h => ap_l (ap_l (ap_l (ap_l (ap_l (ap_l (ap_l (ap_l (ap_l (ap_l (ap_l (ap_l (ap_l (ap_r (ap_r (ap_r (ap_r (ap_r (ap_r (ap_r (ap_r (ap_r (ap_r (ap_r (ap_r (ap_r (ap_r (ap_r (ap_r (ap_r (ap_r (ap_r (ap_r (ap_r (ap_r (ap_r (ap_r (ap_r (ap_r (ap_r (ap_l (h)))))))))))))))))))))))))))))))))))))))))
theorem lw_cs_28 : ∀ w ∈ wsL_law0_r29, w ∈ wsN_law := fun w h => ap_l (ap_l (ap_l (ap_l (ap_l (ap_l (ap_l (ap_l (ap_l (ap_l (ap_l (ap_l (ap_l (ap_r (ap_r (ap_r (ap_r (ap_r (ap_r (ap_r (ap_r (ap_r (ap_r (ap_r (ap_r (ap_r (ap_r (ap_r (ap_r (ap_r (ap_r (ap_r (ap_r (ap_r (ap_r (ap_r (ap_r (ap_r (ap_r (ap_r (ap_r (ap_l (h))))))))))))))))))))))))))))))))))))))))))
theorem lw_cs_29 : ∀ w ∈ wsL_law0_r30, w ∈ wsN_law := fun w h => ap_l (ap_l (ap_l (ap_l (ap_l (ap_l (ap_l (ap_l (ap_l (ap_l (ap_l (ap_l (ap_l (ap_r (ap_r (ap_r (ap_r (ap_r (ap_r (ap_r (ap_r (ap_r (ap_r (ap_r (ap_r (ap_r (ap_r (ap_r (ap_r (ap_r (ap_r (ap_r (ap_r (ap_r (ap_r (ap_r (ap_r (ap_r (ap_r (ap_r (ap_r (ap_r (ap_l (h)))))))))))))))))))))))))))))))))))))))))))
theorem lw_cs_30 : ∀ w ∈ wsL_law0_r31, w ∈ wsN_law := fun w h => ap_l (ap_l (ap_l (ap_l (ap_l (ap_l (ap_l (ap_l (ap_l (ap_l (ap_l (ap_l (ap_l (ap_r (ap_r (ap_r (ap_r (ap_r (ap_r (ap_r (ap_r (ap_r (ap_r (ap_r (ap_r (ap_r (ap_r (ap_r (ap_r (ap_r (ap_r (ap_r (ap_r (ap_r (ap_r (ap_r (ap_r (ap_r (ap_r (ap_r (ap_r (ap_r (ap_r (ap_l (h))))))))))))))))))))))))))))))))))))))))))))
theorem lw_cs_31 : ∀ w ∈ wsL_law0_r32, w ∈ wsN_law := fun w h => ap_l (ap_l (ap_l (ap_l (ap_l (ap_l (ap_l (ap_l (ap_l (ap_l (ap_l (ap_l (ap_l (ap_r (ap_r (ap_r (ap_r (ap_r (ap_r (ap_r (ap_r (ap_r (ap_r (ap_r (ap_r (ap_r (ap_r (ap_r (ap_r (ap_r (ap_r (ap_r (ap_r (ap_r (ap_r (ap_r (ap_r (ap_r (ap_r (ap_r (ap_r (ap_r (ap_r (ap_r (ap_l (h)))))))))))))))))))))))))))))))))))))))))))))
theorem lw_cs_32 : ∀ w ∈ wsL_law0_r33, w ∈ wsN_law := fun w h => ap_l (ap_l (ap_l (ap_l (ap_l (ap_l (ap_l (ap_l (ap_l (ap_l (ap_l (ap_l (ap_l (ap_r (ap_r (ap_r (ap_r (ap_r (ap_r (ap_r (ap_r (ap_r (ap_r (ap_r (ap_r (ap_r (ap_r (ap_r (ap_r (ap_r (ap_r (ap_r (ap_r (ap_r (ap_r (ap_r (ap_r (ap_r (ap_r (ap_r (ap_r (ap_r (ap_r (ap_r (ap_r (h)))))))))))))))))))))))))))))))))))))))))))))
theorem lw_cs_33 : ∀ w ∈ wsX70, w ∈ wsN_law := fun w h => ap_l (ap_l (ap_l (ap_l (ap_l (ap_l (ap_l (ap_l (ap_l (ap_l (ap_l (ap_l (ap_r (h)))))))))))))
theorem lw_cs_34 : ∀ w ∈ wsX80, w ∈ wsN_law := fun w h => ap_l (ap_l (ap_l (ap_l (ap_l (ap_l (ap_l (ap_l (ap_l (ap_l (ap_l (ap_r (h))))))))))))
theorem lw_cs_35 : ∀ w ∈ wsX00, w ∈ wsN_law := fun w h => ap_l (ap_l (ap_l (ap_l (ap_l (ap_l (ap_l (ap_l (ap_l (ap_l (ap_r (h)))))))))))
theorem lw_cs_36 : ∀ w ∈ wsX40, w ∈ wsN_law := fun w h => ap_l (ap_l (ap_l (ap_l (ap_l (ap_l (ap_l (ap_l (ap_l (ap_r (h))))))))))
theorem lw_cs_37 : ∀ w ∈ wsX30, w ∈ wsN_law := fun w h => ap_l (ap_l (ap_l (ap_l (ap_l (ap_l (ap_l (ap_l (ap_r (h)))))))))
theorem lw_cs_38 : ∀ w ∈ wsX20, w ∈ wsN_law := fun w h => ap_l (ap_l (ap_l (ap_l (ap_l (ap_l (ap_l (ap_r (h))))))))
theorem lw_cs_39 : ∀ w ∈ wsX50, w ∈ wsN_law := fun w h => ap_l (ap_l (ap_l (ap_l (ap_l (ap_l (ap_r (h)))))))
theorem lw_cs_40 : ∀ w ∈ wsX10, w ∈ wsN_law := fun w h => ap_l (ap_l (ap_l (ap_l (ap_l (ap_r (h))))))
theorem lw_cs_41 : ∀ w ∈ wsX60, w ∈ wsN_law := fun w h => ap_l (ap_l (ap_l (ap_l (ap_r (h)))))
theorem lw_cs_in : ∀ c ∈ lw_cs, ∀ w ∈ c, w ∈ wsN_law := List.forall_mem_cons.mpr ⟨lw_cs_0, List.forall_mem_cons.mpr ⟨lw_cs_1, List.forall_mem_cons.mpr ⟨lw_cs_2, List.forall_mem_cons.mpr ⟨lw_cs_3, List.forall_mem_cons.mpr ⟨lw_cs_4, List.forall_mem_cons.mpr ⟨lw_cs_5, List.forall_mem_cons.mpr ⟨lw_cs_6, List.forall_mem_cons.mpr ⟨lw_cs_7, List.forall_mem_cons.mpr ⟨lw_cs_8, List.forall_mem_cons.mpr ⟨lw_cs_9, List.forall_mem_cons.mpr ⟨lw_cs_10, List.forall_mem_cons.mpr ⟨lw_cs_11, List.forall_mem_cons.mpr ⟨lw_cs_12, List.forall_mem_cons.mpr ⟨lw_cs_13, List.forall_mem_cons.mpr ⟨lw_cs_14, List.forall_mem_cons.mpr ⟨lw_cs_15, List.forall_mem_cons.mpr ⟨lw_cs_16, List.forall_mem_cons.mpr ⟨lw_cs_17, List.forall_mem_cons.mpr ⟨lw_cs_18, List.forall_mem_cons.mpr ⟨lw_cs_19, List.forall_mem_cons.mpr ⟨lw_cs_20, List.forall_mem_cons.mpr ⟨lw_cs_21, List.forall_mem_cons.mpr ⟨lw_cs_22, List.forall_mem_cons.mpr ⟨lw_cs_23, List.forall_mem_cons.mpr ⟨lw_cs_24, List.forall_mem_cons.mpr ⟨lw_cs_25, List.forall_mem_cons.mpr ⟨lw_cs_26, List.forall_mem_cons.mpr ⟨lw_cs_27, List.forall_mem_cons.mpr ⟨lw_cs_28, List.forall_mem_cons.mpr ⟨lw_cs_29, List.forall_mem_cons.mpr ⟨lw_cs_30, List.forall_mem_cons.mpr ⟨lw_cs_31, List.forall_mem_cons.mpr ⟨lw_cs_32, List.forall_mem_cons.mpr ⟨lw_cs_33, List.forall_mem_cons.mpr ⟨lw_cs_34, List.forall_mem_cons.mpr ⟨lw_cs_35, List.forall_mem_cons.mpr ⟨lw_cs_36, List.forall_mem_cons.mpr ⟨lw_cs_37, List.forall_mem_cons.mpr ⟨lw_cs_38, List.forall_mem_cons.mpr ⟨lw_cs_39, List.forall_mem_cons.mpr ⟨lw_cs_40, List.forall_mem_cons.mpr ⟨lw_cs_41, fun _ h => absurd h List.not_mem_nil⟩⟩⟩⟩⟩⟩⟩⟩⟩⟩⟩⟩⟩⟩⟩⟩⟩⟩⟩⟩⟩⟩⟩⟩⟩⟩⟩⟩⟩⟩⟩⟩⟩⟩⟩⟩⟩⟩⟩⟩⟩⟩
set_option maxRecDepth 20000 in
theorem ggL_law_X7_init : GoodIn wsN_law wsX7_init := goodIn_c lw_cs lw_cs_in _ [(0, 9), (0, 10), (0, 11), (0, 12), (0, 13), (0, 14), (0, 15), (0, 16), (0, 17), (0, 18), (0, 19), (0, 20), (0, 21), (0, 22), (0, 23), (1, 0), (1, 1), (1, 2), (1, 3), (1, 4), (1, 5), (1, 6), (1, 7), (1, 8), (1, 9), (1, 10), (1, 11), (1, 12), (1, 13), (1, 14), (1, 15), (1, 16), (1, 17), (1, 18), (1, 19), (1, 20), (1, 21), (1, 22), (1, 23), (2, 0), (2, 1), (2, 2), (2, 3), (2, 4), (2, 5), (2, 6), (2, 7), (2, 8), (2, 9), (2, 10), (2, 11), (2, 12), (2, 13), (2, 14), (2, 15), (2, 16), (2, 17), (2, 18), (2, 19), (2, 20), (2, 21), (2, 22), (2, 23), (3, 0), (3, 1), (3, 2), (3, 3), (3, 4), (3, 5), (3, 6), (3, 7), (3, 8), (3, 9), (3, 10), (3, 11), (3, 12), (3, 13), (3, 14), (3, 15), (3, 16), (3, 17), (3, 18), (3, 19), (3, 20), (3, 21), (3, 22), (3, 23), (4, 0), (4, 1), (4, 2), (4, 3), (4, 4), (4, 5), (4, 6), (4, 7), (4, 8), (4, 9), (4, 10), (4, 11), (4, 12), (4, 13), (4, 14), (4, 15), (4, 16), (35, 0), (35, 1), (35, 2), (35, 3), (35, 4), (33, 0), (33, 1), (33, 2), (33, 3), (33, 4), (36, 0), (36, 1), (36, 2), (36, 3), (36, 4), (36, 5), (36, 6), (36, 7), (36, 8), (37, 0), (37, 1), (37, 2), (37, 3), (37, 4), (37, 5), (37, 6), (37, 7), (37, 8), (37, 9), (38, 0), (38, 1), (38, 2), (39, 0), (39, 1), (39, 2), (39, 3), (39, 4), (39, 5), (39, 6), (39, 7), (39, 8), (40, 0), (40, 1), (40, 2), (40, 3), (41, 0), (41, 1), (41, 2), (41, 3), (41, 4)] (by first | rfl | decide +kernel) (by decide +kernel)
set_option maxRecDepth 20000 in
theorem gL_law_X7_init : GoodIn wsN_law (wsX7_init) := ggL_law_X7_init
set_option maxRecDepth 20000 in
theorem ggL_law_X8_init : GoodIn wsN_law wsX8_init := goodIn_c lw_cs lw_cs_in _ [(4, 19), (4, 20), (0, 11), (0, 12), (1, 12), (4, 21), (1, 14), (4, 22), (4, 23), (5, 0), (5, 1), (5, 2), (5, 3), (5, 4), (5, 5), (2, 1), (5, 6), (5, 7), (5, 8), (5, 9), (5, 10), (5, 11), (5, 12), (5, 13), (5, 14), (5, 15), (5, 16), (5, 17), (5, 18), (5, 19), (5, 20), (5, 21), (5, 22), (5, 23), (6, 0), (6, 1), (6, 2), (34, 0), (34, 1), (34, 2), (34, 3), (34, 4), (34, 5), (34, 6), (34, 7), (34, 8), (34, 9), (34, 10), (34, 11), (34, 12), (34, 13), (34, 14), (34, 15), (34, 16), (34, 17), (34, 18), (34, 19), (34, 20), (34, 21), (34, 22), (34, 23), (34, 24), (34, 25), (34, 26), (34, 27), (34, 28), (34, 29), (34, 30), (34, 31), (34, 32), (34, 33), (34, 34), (34, 35), (34, 36), (34, 37), (34, 38)] (by first | rfl | decide +kernel) (by decide +kernel)
set_option maxRecDepth 20000 in
theorem gL_law_X8_init : GoodIn wsN_law (wsX8_init) := ggL_law_X8_init
set_option maxRecDepth 20000 in
theorem ggL_law_X7_write : GoodIn wsN_law wsX7_write := goodIn_c lw_cs lw_cs_in _ [(6, 6), (0, 16), (6, 7), (6, 8), (6, 9), (0, 15), (6, 10), (6, 11), (1, 13), (33, 0), (33, 1), (33, 2), (33, 3), (33, 4), (35, 0), (35, 1), (35, 2), (35, 3), (35, 4)] (by first | rfl | decide +kernel) (by decide +kernel)
set_option maxRecDepth 20000 in
theorem gL_law_X7_write : GoodIn wsN_law (wsV RL 37 RX7 yX7_write wsX7_write) := goodIn_app (goodIn_of _ (by decide +kernel)) ggL_law_X7_write
set_option maxRecDepth 20000 in
theorem ggL_law_X8_write : GoodIn wsN_law wsX8_write := goodIn_c lw_cs lw_cs_in _ [(6, 15), (6, 16), (6, 17), (4, 21), (34, 0), (34, 1), (34, 2), (34, 3), (34, 4), (34, 5), (34, 6), (34, 7), (34, 8), (34, 9), (34, 10), (34, 11), (34, 12), (34, 13), (34, 14), (34, 15), (34, 16), (34, 17), (34, 18), (34, 19), (34, 20), (34, 21), (34, 22), (34, 23), (34, 24), (34, 25), (34, 26), (34, 27), (34, 28), (34, 29), (34, 30), (34, 31), (34, 32), (34, 33), (34, 34), (34, 35), (34, 36), (34, 37), (34, 38)] (by first | rfl | decide +kernel) (by decide +kernel)
set_option maxRecDepth 20000 in
theorem gL_law_X8_write : GoodIn wsN_law (wsV RL 41 RX8 yX8_write wsX8_write) := goodIn_app (goodIn_of _ (by decide +kernel)) ggL_law_X8_write
set_option maxRecDepth 20000 in
theorem ggL_law_L_line : GoodIn wsN_law wsL_line := goodIn_ca (goodIn_ca (goodIn_c lw_cs lw_cs_in _ [(6, 21), (6, 22), (6, 23), (7, 0), (7, 1), (7, 2), (0, 2), (7, 3), (7, 4), (7, 5), (7, 6), (7, 7), (1, 4), (1, 8), (7, 8), (7, 9), (7, 10), (1, 3), (7, 11), (3, 15), (3, 16), (7, 12), (7, 13), (7, 14), (0, 15), (7, 15), (7, 16), (6, 11), (1, 13), (1, 15), (1, 16), (7, 17), (7, 18), (7, 19), (7, 20), (7, 21), (7, 22), (7, 23), (8, 0), (8, 1), (8, 2), (8, 3), (8, 4), (8, 5), (8, 6), (8, 7), (8, 8), (8, 9), (8, 10), (8, 11), (8, 12), (8, 13), (8, 14), (8, 15), (8, 16), (8, 17), (8, 18), (8, 19), (8, 20), (8, 21), (8, 22), (8, 23), (9, 0), (9, 1), (9, 2), (9, 3), (9, 4), (9, 5), (9, 6), (9, 7), (9, 8), (9, 9), (9, 10), (9, 11), (9, 12), (9, 13), (9, 14), (9, 15), (9, 16), (9, 17), (9, 18), (9, 19), (9, 20), (9, 21), (9, 22), (9, 23), (10, 0), (10, 1), (10, 2), (10, 3), (10, 4), (10, 5), (10, 6), (10, 7), (10, 8), (10, 9), (10, 10), (10, 11), (10, 12), (10, 13), (10, 14), (10, 15), (10, 16), (10, 17), (10, 18), (10, 19), (10, 20), (10, 21), (10, 22), (10, 23), (11, 0), (0, 19), (11, 1), (2, 9), (1, 21), (11, 2), (11, 3), (11, 4), (11, 5), (1, 23), (11, 6), (11, 7), (11, 8), (11, 9), (11, 10), (11, 11), (11, 12), (11, 13), (11, 14), (11, 15), (11, 16), (11, 17), (1, 22), (2, 0), (2, 2), (2, 3), (11, 18), (11, 19), (11, 20), (11, 21), (11, 22), (2, 7), (11, 23), (12, 0), (12, 1), (12, 2), (12, 3), (12, 4), (12, 5), (12, 6), (12, 7), (2, 6), (12, 8), (2, 19), (2, 21), (12, 9), (12, 10), (12, 11), (12, 12), (2, 18), (12, 13), (12, 14), (12, 15), (12, 16), (12, 17), (12, 18), (12, 19), (12, 20), (12, 21), (2, 20), (12, 22), (12, 23), (13, 0), (13, 1), (2, 8), (13, 2), (13, 3), (13, 4), (13, 5), (3, 17), (13, 6), (13, 7), (13, 8), (13, 9), (13, 10), (13, 11), (13, 12), (0, 23), (13, 13), (13, 14), (13, 15), (13, 16), (13, 17), (13, 18), (13, 19), (3, 1), (13, 20), (13, 21), (13, 22), (13, 23), (14, 0), (14, 1), (14, 2), (14, 3), (14, 4), (14, 5), (14, 6), (14, 7), (14, 8), (14, 9), (14, 10), (14, 11), (14, 12), (14, 13), (14, 14), (14, 15), (3, 2), (3, 3), (3, 4), (3, 5), (3, 6), (3, 7), (14, 16), (14, 17), (14, 18), (14, 19), (14, 20), (3, 9), (14, 21), (14, 22), (14, 23), (15, 0), (15, 1), (15, 2), (15, 3), (1, 7), (15, 4), (15, 5), (33, 0), (33, 1), (33, 2), (33, 3), (33, 4), (38, 0), (38, 1), (38, 2), (35, 0), (35, 1), (35, 2), (35, 3), (35, 4), (36, 0), (36, 1), (36, 2), (36, 3), (36, 4), (36, 5), (36, 6), (36, 7), (36, 8), (40, 0), (40, 1), (40, 2), (40, 3), (37, 0), (37, 1), (37, 2), (37, 3), (37, 4), (37, 5), (37, 6), (37, 7), (37, 8), (37, 9), (39, 0), (39, 1), (39, 2), (39, 3), (39, 4), (39, 5), (39, 6), (39, 7), (39, 8)] (by first | rfl | decide +kernel) (by decide +kernel)) (goodIn_sub (fun _ h => List.mem_append_left _ (List.mem_append_left _ (List.mem_append_right _ h))) (by decide +kernel))) (goodIn_sub (fun _ h => List.mem_append_left _ (List.mem_append_right _ h)) (by decide +kernel))
set_option maxRecDepth 20000 in
theorem gL_law_L_line : GoodIn wsN_law (va_wsS RL 42 yL_line wsL_line) := goodIn_app (goodIn_of _ (by decide +kernel)) ggL_law_L_line
set_option maxRecDepth 20000 in
theorem ggL_law_X8_line : GoodIn wsN_law wsX8_line := goodIn_c lw_cs lw_cs_in _ [(15, 9), (6, 16), (6, 17), (15, 10), (15, 11), (15, 12), (15, 13), (15, 14), (0, 5), (15, 15), (4, 21), (4, 22), (4, 23), (15, 16), (15, 17), (15, 18), (15, 19), (15, 20), (15, 21), (15, 22), (15, 23), (16, 0), (16, 1), (16, 2), (16, 3), (16, 4), (16, 5), (16, 6), (16, 7), (5, 4), (5, 0), (5, 1), (5, 3), (5, 6), (5, 7), (16, 8), (16, 9), (16, 10), (16, 11), (16, 12), (16, 13), (16, 14), (16, 15), (16, 16), (16, 17), (16, 18), (16, 19), (5, 5), (5, 2), (16, 20), (16, 21), (16, 22), (16, 23), (17, 0), (17, 1), (5, 8), (5, 10), (5, 11), (5, 12), (5, 13), (5, 14), (5, 15), (5, 9), (17, 2), (17, 3), (17, 4), (17, 5), (17, 6), (17, 7), (17, 8), (17, 9), (34, 0), (34, 1), (34, 2), (34, 3), (34, 4), (34, 5), (34, 6), (34, 7), (34, 8), (34, 9), (34, 10), (34, 11), (34, 12), (34, 13), (34, 14), (34, 15), (34, 16), (34, 17), (34, 18), (34, 19), (34, 20), (34, 21), (34, 22), (34, 23), (34, 24), (34, 25), (34, 26), (34, 27), (34, 28), (34, 29), (34, 30), (34, 31), (34, 32), (34, 33), (34, 34), (34, 35), (34, 36), (34, 37), (34, 38)] (by first | rfl | decide +kernel) (by decide +kernel)
set_option maxRecDepth 20000 in
theorem gL_law_X8_line : GoodIn wsN_law (wsV RL 47 RX8 yX8_line wsX8_line) := goodIn_app (goodIn_of _ (by decide +kernel)) ggL_law_X8_line
set_option maxRecDepth 20000 in
theorem ggL_law_X8_thrown : GoodIn wsN_law wsX8_thrown := goodIn_c lw_cs lw_cs_in _ [(17, 13), (6, 16), (34, 0), (34, 1), (34, 2), (34, 3), (34, 4), (34, 5), (34, 6), (34, 7), (34, 8), (34, 9), (34, 10), (34, 11), (34, 12), (34, 13), (34, 14), (34, 15), (34, 16), (34, 17), (34, 18), (34, 19), (34, 20), (34, 21), (34, 22), (34, 23), (34, 24), (34, 25), (34, 26), (34, 27), (34, 28), (34, 29), (34, 30), (34, 31), (34, 32), (34, 33), (34, 34), (34, 35), (34, 36), (34, 37), (34, 38)] (by first | rfl | decide +kernel) (by decide +kernel)
set_option maxRecDepth 20000 in
theorem gL_law_X8_thrown : GoodIn wsN_law (wsV RL 48 RX8 yX8_thrown wsX8_thrown) := goodIn_app (goodIn_of _ (by decide +kernel)) ggL_law_X8_thrown
set_option maxRecDepth 20000 in
theorem ggL_law_L_compile : GoodIn wsN_law wsL_compile := goodIn_ca (goodIn_c lw_cs lw_cs_in _ [(17, 16), (6, 23), (17, 17), (17, 18), (17, 19), (0, 2), (17, 20), (7, 6), (7, 7), (1, 8), (17, 21), (17, 22), (17, 23), (1, 7), (18, 0), (15, 5), (4, 7), (4, 3), (4, 1), (18, 1), (3, 23), (18, 2), (18, 3), (18, 4), (18, 5), (4, 6), (18, 6), (4, 13), (4, 14), (18, 7), (18, 8), (18, 9), (0, 19), (18, 10), (2, 2), (2, 0), (11, 6), (11, 7), (11, 8), (11, 9), (2, 9), (18, 11), (18, 12), (18, 13), (18, 14), (18, 15), (4, 16), (18, 16), (18, 17), (18, 18), (2, 6), (18, 19), (2, 21), (12, 9), (12, 10), (12, 11), (12, 12), (2, 18), (18, 20), (18, 21), (18, 22), (18, 23), (19, 0), (19, 1), (11, 20), (11, 21), (11, 22), (2, 7), (19, 2), (19, 3), (19, 4), (19, 5), (2, 19), (19, 6), (19, 7), (2, 16), (19, 8), (2, 20), (19, 9), (14, 5), (14, 6), (14, 7), (19, 10), (19, 11), (19, 12), (19, 13), (19, 14), (14, 1), (14, 2), (14, 3), (1, 22), (19, 15), (14, 9), (14, 10), (14, 11), (19, 16), (19, 17), (19, 18), (19, 19), (19, 20), (19, 21), (19, 22), (19, 23), (20, 0), (20, 1), (20, 2), (20, 3), (4, 0), (20, 4), (20, 5), (20, 6), (20, 7), (20, 8), (20, 9), (20, 10), (20, 11), (4, 2), (20, 12), (20, 13), (20, 14), (20, 15), (20, 16), (20, 17), (20, 18), (20, 19), (20, 20), (0, 23), (20, 21), (13, 15), (20, 22), (20, 23), (21, 0), (21, 1), (21, 2), (21, 3), (21, 4), (21, 5), (21, 6), (21, 7), (21, 8), (21, 9), (21, 10), (21, 11), (21, 12), (21, 13), (21, 14), (21, 15), (21, 16), (21, 17), (21, 18), (21, 19), (21, 20), (21, 21), (21, 22), (21, 23), (4, 15), (22, 0), (14, 22), (14, 23), (15, 0), (13, 14), (22, 1), (22, 2), (22, 3), (22, 4), (3, 2), (3, 3), (22, 5), (22, 6), (22, 7), (22, 8), (22, 9), (22, 10), (22, 11), (22, 12), (3, 6), (22, 13), (22, 14), (22, 15), (22, 16), (22, 17), (22, 18), (22, 19), (22, 20), (3, 7), (22, 21), (22, 22), (22, 23), (23, 0), (23, 1), (23, 2), (23, 3), (23, 4), (23, 5), (3, 5), (23, 6), (23, 7), (23, 8), (23, 9), (3, 4), (23, 10), (11, 3), (11, 4), (11, 5), (1, 23), (23, 11), (23, 12), (23, 13), (23, 14), (23, 15), (12, 23), (13, 0), (13, 1), (2, 8), (23, 16), (23, 17), (23, 18), (23, 19), (2, 3), (23, 20), (14, 18), (14, 19), (14, 20), (3, 9), (23, 21), (23, 22), (23, 23), (24, 0), (24, 1), (24, 2), (24, 3), (24, 4), (33, 0), (33, 1), (33, 2), (33, 3), (33, 4), (39, 0), (39, 1), (39, 2), (39, 3), (39, 4), (39, 5), (39, 6), (39, 7), (39, 8), (41, 0), (41, 1), (41, 2), (41, 3), (41, 4), (36, 0), (36, 1), (36, 2), (36, 3), (36, 4), (36, 5), (36, 6), (36, 7), (36, 8), (40, 0), (40, 1), (40, 2), (40, 3), (37, 0), (37, 1), (37, 2), (37, 3), (37, 4), (37, 5), (37, 6), (37, 7), (37, 8), (37, 9)] (by first | rfl | decide +kernel) (by decide +kernel)) (goodIn_sub (fun _ h => List.mem_append_left _ (List.mem_append_right _ h)) (by decide +kernel))
set_option maxRecDepth 20000 in
theorem gL_law_L_compile : GoodIn wsN_law (va_wsS RL 51 yL_compile wsL_compile) := goodIn_app (goodIn_of _ (by decide +kernel)) ggL_law_L_compile
set_option maxRecDepth 20000 in
theorem ggL_law_X8_compile : GoodIn wsN_law wsX8_compile := goodIn_c lw_cs lw_cs_in _ [(24, 8), (6, 16), (15, 11), (24, 9), (5, 0), (5, 16), (17, 1), (5, 19), (24, 10), (5, 20), (24, 11), (24, 12), (24, 13), (24, 14), (0, 5), (24, 15), (5, 6), (24, 16), (24, 17), (24, 18), (24, 19), (5, 3), (24, 20), (24, 21), (24, 22), (24, 23), (5, 22), (25, 0), (25, 1), (25, 2), (25, 3), (5, 5), (5, 2), (25, 4), (25, 5), (25, 6), (25, 7), (5, 17), (25, 8), (25, 9), (25, 10), (25, 11), (25, 12), (25, 13), (25, 14), (25, 15), (5, 21), (25, 16), (25, 17), (25, 18), (25, 19), (5, 18), (25, 20), (25, 21), (25, 22), (25, 23), (26, 0), (26, 1), (26, 2), (26, 3), (6, 0), (6, 1), (6, 2), (5, 4), (26, 4), (26, 5), (26, 6), (26, 7), (26, 8), (26, 9), (26, 10), (26, 11), (17, 0), (5, 13), (5, 14), (5, 11), (5, 10), (26, 12), (26, 13), (26, 14), (26, 15), (26, 16), (26, 17), (26, 18), (26, 19), (5, 12), (5, 15), (5, 9), (26, 20), (26, 21), (26, 22), (26, 23), (5, 23), (5, 7), (17, 6), (17, 7), (17, 8), (17, 9), (34, 0), (34, 1), (34, 2), (34, 3), (34, 4), (34, 5), (34, 6), (34, 7), (34, 8), (34, 9), (34, 10), (34, 11), (34, 12), (34, 13), (34, 14), (34, 15), (34, 16), (34, 17), (34, 18), (34, 19), (34, 20), (34, 21), (34, 22), (34, 23), (34, 24), (34, 25), (34, 26), (34, 27), (34, 28), (34, 29), (34, 30), (34, 31), (34, 32), (34, 33), (34, 34), (34, 35), (34, 36), (34, 37), (34, 38)] (by first | rfl | decide +kernel) (by decide +kernel)
set_option maxRecDepth 20000 in
theorem gL_law_X8_compile : GoodIn wsN_law (wsV RL 53 RX8 yX8_compile wsX8_compile) := goodIn_app (goodIn_of _ (by decide +kernel)) ggL_law_X8_compile
set_option maxRecDepth 20000 in
theorem ggL_law_X7_configurations : GoodIn wsN_law wsX7_configurations := goodIn_c lw_cs lw_cs_in _ [(27, 3), (1, 8), (24, 1), (24, 2), (24, 3), (1, 7), (24, 4), (15, 5), (33, 0), (33, 1), (33, 2), (33, 3), (33, 4), (39, 0), (39, 1), (39, 2), (39, 3), (39, 4), (39, 5), (39, 6), (39, 7), (39, 8)] (by first | rfl | decide +kernel) (by decide +kernel)
set_option maxRecDepth 20000 in
theorem gL_law_X7_configurations : GoodIn wsN_law (wsV RL 54 RX7 yX7_configurations wsX7_configurations) := goodIn_app (goodIn_of _ (by decide +kernel)) ggL_law_X7_configurations
set_option maxRecDepth 20000 in
theorem ggL_law_X8_configurations : GoodIn wsN_law wsX8_configurations := goodIn_c lw_cs lw_cs_in _ [(27, 7), (6, 16), (15, 11), (34, 0), (34, 1), (34, 2), (34, 3), (34, 4), (34, 5), (34, 6), (34, 7), (34, 8), (34, 9), (34, 10), (34, 11), (34, 12), (34, 13), (34, 14), (34, 15), (34, 16), (34, 17), (34, 18), (34, 19), (34, 20), (34, 21), (34, 22), (34, 23), (34, 24), (34, 25), (34, 26), (34, 27), (34, 28), (34, 29), (34, 30), (34, 31), (34, 32), (34, 33), (34, 34), (34, 35), (34, 36), (34, 37), (34, 38)] (by first | rfl | decide +kernel) (by decide +kernel)
set_option maxRecDepth 20000 in
theorem gL_law_X8_configurations : GoodIn wsN_law (wsV RL 57 RX8 yX8_configurations wsX8_configurations) := goodIn_app (goodIn_of _ (by decide +kernel)) ggL_law_X8_configurations
set_option maxRecDepth 20000 in
theorem ggL_law_X7_count : GoodIn wsN_law wsX7_count := goodIn_c lw_cs lw_cs_in _ [(27, 11), (0, 20), (1, 0), (1, 8), (27, 12), (19, 11), (19, 12), (0, 19), (19, 13), (2, 9), (27, 13), (14, 22), (14, 23), (0, 23), (15, 0), (13, 14), (27, 14), (20, 19), (20, 20), (20, 21), (13, 15), (27, 15), (27, 16), (27, 17), (1, 7), (27, 18), (15, 5), (18, 1), (33, 0), (33, 1), (33, 2), (33, 3), (33, 4), (36, 0), (36, 1), (36, 2), (36, 3), (36, 4), (36, 5), (36, 6), (36, 7), (36, 8), (37, 0), (37, 1), (37, 2), (37, 3), (37, 4), (37, 5), (37, 6), (37, 7), (37, 8), (37, 9), (39, 0), (39, 1), (39, 2), (39, 3), (39, 4), (39, 5), (39, 6), (39, 7), (39, 8)] (by first | rfl | decide +kernel) (by decide +kernel)
set_option maxRecDepth 20000 in
theorem gL_law_X7_count : GoodIn wsN_law (wsV RL 58 RX7 yX7_count wsX7_count) := goodIn_app (goodIn_of _ (by decide +kernel)) ggL_law_X7_count
set_option maxRecDepth 20000 in
theorem ggL_law_X8_count : GoodIn wsN_law wsX8_count := goodIn_c lw_cs lw_cs_in _ [(27, 22), (6, 16), (15, 11), (24, 10), (5, 0), (17, 0), (17, 1), (34, 0), (34, 1), (34, 2), (34, 3), (34, 4), (34, 5), (34, 6), (34, 7), (34, 8), (34, 9), (34, 10), (34, 11), (34, 12), (34, 13), (34, 14), (34, 15), (34, 16), (34, 17), (34, 18), (34, 19), (34, 20), (34, 21), (34, 22), (34, 23), (34, 24), (34, 25), (34, 26), (34, 27), (34, 28), (34, 29), (34, 30), (34, 31), (34, 32), (34, 33), (34, 34), (34, 35), (34, 36), (34, 37), (34, 38)] (by first | rfl | decide +kernel) (by decide +kernel)
set_option maxRecDepth 20000 in
theorem gL_law_X8_count : GoodIn wsN_law (wsV RL 61 RX8 yX8_count wsX8_count) := goodIn_app (goodIn_of _ (by decide +kernel)) ggL_law_X8_count
set_option maxRecDepth 20000 in
theorem ggL_law_L_named : GoodIn wsN_law wsN_Lnamed := goodIn_ca (goodIn_c lw_cs lw_cs_in _ [(28, 1), (28, 2), (28, 3), (28, 4), (28, 5), (0, 2), (28, 6), (28, 7), (28, 8), (0, 16), (0, 20), (28, 9), (7, 13), (7, 14), (0, 15), (7, 15), (7, 16), (6, 11), (1, 13), (1, 15), (1, 16), (28, 10), (7, 18), (7, 19), (7, 20), (28, 11), (10, 15), (10, 16), (10, 17), (10, 18), (10, 19), (10, 20), (10, 21), (8, 1), (8, 2), (8, 3), (8, 4), (8, 17), (8, 18), (8, 19), (8, 20), (28, 12), (10, 23), (11, 0), (0, 19), (11, 1), (2, 9), (1, 21), (33, 0), (33, 1), (33, 2), (33, 3), (33, 4), (35, 0), (35, 1), (35, 2), (35, 3), (35, 4), (36, 0), (36, 1), (36, 2), (36, 3), (36, 4), (36, 5), (36, 6), (36, 7), (36, 8)] (by first | rfl | decide +kernel) (by decide +kernel)) (goodIn_sub (fun _ h => List.mem_append_right _ h) (by decide +kernel))
set_option maxRecDepth 20000 in
theorem gL_law_L_named : GoodIn wsN_law (va_wsS RL 62 yL_named wsN_Lnamed) := goodIn_app (goodIn_of _ (by decide +kernel)) ggL_law_L_named
set_option maxRecDepth 20000 in
theorem ggL_law_X8_named : GoodIn wsN_law wsX8_named := goodIn_c lw_cs lw_cs_in _ [(28, 16), (6, 16), (6, 17), (15, 10), (15, 12), (15, 13), (15, 14), (0, 5), (15, 15), (4, 21), (4, 22), (4, 23), (16, 12), (16, 13), (16, 14), (16, 15), (5, 0), (5, 1), (16, 0), (16, 1), (16, 2), (16, 3), (15, 20), (15, 21), (15, 22), (15, 23), (17, 6), (17, 7), (17, 8), (17, 9), (34, 0), (34, 1), (34, 2), (34, 3), (34, 4), (34, 5), (34, 6), (34, 7), (34, 8), (34, 9), (34, 10), (34, 11), (34, 12), (34, 13), (34, 14), (34, 15), (34, 16), (34, 17), (34, 18), (34, 19), (34, 20), (34, 21), (34, 22), (34, 23), (34, 24), (34, 25), (34, 26), (34, 27), (34, 28), (34, 29), (34, 30), (34, 31), (34, 32), (34, 33), (34, 34), (34, 35), (34, 36), (34, 37), (34, 38)] (by first | rfl | decide +kernel) (by decide +kernel)
set_option maxRecDepth 20000 in
theorem gL_law_X8_named : GoodIn wsN_law (wsV RL 64 RX8 yX8_named wsX8_named) := goodIn_app (goodIn_of _ (by decide +kernel)) ggL_law_X8_named
set_option maxRecDepth 20000 in
theorem ggL_law_L_next : GoodIn wsN_law wsN_Lnext := goodIn_ca (goodIn_c lw_cs lw_cs_in _ [(28, 19), (28, 2), (28, 20), (28, 21), (28, 22), (0, 2), (28, 23), (28, 7), (28, 8), (1, 8), (29, 0), (29, 1), (29, 2), (1, 7), (29, 3), (4, 1), (20, 22), (20, 23), (21, 0), (21, 1), (4, 3), (20, 12), (20, 13), (20, 14), (20, 15), (15, 5), (21, 2), (21, 3), (21, 4), (0, 23), (21, 5), (13, 15), (33, 0), (33, 1), (33, 2), (33, 3), (33, 4), (39, 0), (39, 1), (39, 2), (39, 3), (39, 4), (39, 5), (39, 6), (39, 7), (39, 8), (37, 0), (37, 1), (37, 2), (37, 3), (37, 4), (37, 5), (37, 6), (37, 7), (37, 8), (37, 9)] (by first | rfl | decide +kernel) (by decide +kernel)) (goodIn_sub (fun _ h => List.mem_append_right _ h) (by decide +kernel))
set_option maxRecDepth 20000 in
theorem gL_law_L_next : GoodIn wsN_law (va_wsS RL 65 yL_next wsN_Lnext) := goodIn_app (goodIn_of _ (by decide +kernel)) ggL_law_L_next
set_option maxRecDepth 20000 in
theorem ggL_law_X8_next : GoodIn wsN_law wsX8_next := goodIn_c lw_cs lw_cs_in _ [(29, 7), (6, 16), (5, 19), (29, 8), (29, 9), (29, 10), (0, 5), (29, 11), (15, 11), (17, 1), (17, 6), (17, 7), (17, 8), (17, 9), (34, 0), (34, 1), (34, 2), (34, 3), (34, 4), (34, 5), (34, 6), (34, 7), (34, 8), (34, 9), (34, 10), (34, 11), (34, 12), (34, 13), (34, 14), (34, 15), (34, 16), (34, 17), (34, 18), (34, 19), (34, 20), (34, 21), (34, 22), (34, 23), (34, 24), (34, 25), (34, 26), (34, 27), (34, 28), (34, 29), (34, 30), (34, 31), (34, 32), (34, 33), (34, 34), (34, 35), (34, 36), (34, 37), (34, 38)] (by first | rfl | decide +kernel) (by decide +kernel)
set_option maxRecDepth 20000 in
theorem gL_law_X8_next : GoodIn wsN_law (wsV RL 68 RX8 yX8_next wsX8_next) := goodIn_app (goodIn_of _ (by decide +kernel)) ggL_law_X8_next
set_option maxRecDepth 20000 in
theorem ggL_law_X7_trace : GoodIn wsN_law wsX7_trace := goodIn_c lw_cs lw_cs_in _ [(29, 15), (1, 8), (29, 16), (29, 17), (29, 18), (1, 7), (29, 19), (15, 5), (3, 23), (20, 22), (20, 23), (21, 0), (21, 1), (4, 3), (20, 12), (20, 13), (20, 14), (20, 15), (21, 2), (21, 3), (21, 4), (0, 23), (21, 5), (13, 15), (29, 20), (29, 21), (29, 22), (2, 6), (29, 23), (2, 20), (2, 19), (30, 0), (23, 22), (23, 23), (24, 0), (2, 21), (12, 9), (12, 10), (12, 11), (12, 12), (2, 18), (33, 0), (33, 1), (33, 2), (33, 3), (33, 4), (39, 0), (39, 1), (39, 2), (39, 3), (39, 4), (39, 5), (39, 6), (39, 7), (39, 8), (37, 0), (37, 1), (37, 2), (37, 3), (37, 4), (37, 5), (37, 6), (37, 7), (37, 8), (37, 9), (40, 0), (40, 1), (40, 2), (40, 3)] (by first | rfl | decide +kernel) (by decide +kernel)
set_option maxRecDepth 20000 in
theorem gL_law_X7_trace : GoodIn wsN_law (wsV RL 69 RX7 yX7_trace wsX7_trace) := goodIn_app (goodIn_of _ (by decide +kernel)) ggL_law_X7_trace
set_option maxRecDepth 20000 in
theorem ggL_law_X8_trace : GoodIn wsN_law wsX8_trace := goodIn_c lw_cs lw_cs_in _ [(30, 4), (6, 16), (15, 11), (5, 20), (5, 21), (29, 8), (29, 9), (29, 10), (0, 5), (29, 11), (17, 1), (34, 0), (34, 1), (34, 2), (34, 3), (34, 4), (34, 5), (34, 6), (34, 7), (34, 8), (34, 9), (34, 10), (34, 11), (34, 12), (34, 13), (34, 14), (34, 15), (34, 16), (34, 17), (34, 18), (34, 19), (34, 20), (34, 21), (34, 22), (34, 23), (34, 24), (34, 25), (34, 26), (34, 27), (34, 28), (34, 29), (34, 30), (34, 31), (34, 32), (34, 33), (34, 34), (34, 35), (34, 36), (34, 37), (34, 38)] (by first | rfl | decide +kernel) (by decide +kernel)
set_option maxRecDepth 20000 in
theorem gL_law_X8_trace : GoodIn wsN_law (wsV RL 73 RX8 yX8_trace wsX8_trace) := goodIn_app (goodIn_of _ (by decide +kernel)) ggL_law_X8_trace
set_option maxRecDepth 20000 in
theorem ggL_law_X7_active : GoodIn wsN_law wsX7_active := goodIn_c lw_cs lw_cs_in _ [(30, 8), (1, 8), (30, 9), (30, 10), (30, 11), (1, 7), (30, 12), (4, 2), (4, 7), (20, 12), (20, 13), (20, 14), (20, 15), (15, 5), (20, 16), (11, 7), (11, 8), (0, 19), (11, 9), (2, 9), (21, 6), (21, 7), (21, 8), (21, 9), (20, 8), (20, 9), (20, 10), (20, 11), (4, 0), (21, 10), (19, 17), (19, 18), (4, 6), (19, 19), (4, 13), (30, 13), (22, 14), (22, 15), (22, 16), (4, 14), (19, 14), (14, 1), (14, 2), (14, 3), (1, 22), (11, 6), (19, 9), (14, 5), (14, 6), (14, 7), (2, 2), (19, 20), (19, 21), (19, 22), (19, 23), (33, 0), (33, 1), (33, 2), (33, 3), (33, 4), (39, 0), (39, 1), (39, 2), (39, 3), (39, 4), (39, 5), (39, 6), (39, 7), (39, 8), (36, 0), (36, 1), (36, 2), (36, 3), (36, 4), (36, 5), (36, 6), (36, 7), (36, 8), (41, 0), (41, 1), (41, 2), (41, 3), (41, 4)] (by first | rfl | decide +kernel) (by decide +kernel)
set_option maxRecDepth 20000 in
theorem gL_law_X7_active : GoodIn wsN_law (wsV RL 74 RX7 yX7_active wsX7_active) := goodIn_app (goodIn_of _ (by decide +kernel)) ggL_law_X7_active
set_option maxRecDepth 20000 in
theorem ggL_law_X8_active : GoodIn wsN_law wsX8_active := goodIn_c lw_cs lw_cs_in _ [(30, 17), (6, 16), (15, 11), (5, 0), (5, 16), (5, 18), (26, 12), (26, 13), (26, 14), (0, 5), (26, 15), (5, 6), (5, 3), (34, 0), (34, 1), (34, 2), (34, 3), (34, 4), (34, 5), (34, 6), (34, 7), (34, 8), (34, 9), (34, 10), (34, 11), (34, 12), (34, 13), (34, 14), (34, 15), (34, 16), (34, 17), (34, 18), (34, 19), (34, 20), (34, 21), (34, 22), (34, 23), (34, 24), (34, 25), (34, 26), (34, 27), (34, 28), (34, 29), (34, 30), (34, 31), (34, 32), (34, 33), (34, 34), (34, 35), (34, 36), (34, 37), (34, 38)] (by first | rfl | decide +kernel) (by decide +kernel)
set_option maxRecDepth 20000 in
theorem gL_law_X8_active : GoodIn wsN_law (wsV RL 78 RX8 yX8_active wsX8_active) := goodIn_app (goodIn_of _ (by decide +kernel)) ggL_law_X8_active
set_option maxRecDepth 20000 in
theorem ggL_law_X7_current : GoodIn wsN_law wsX7_current := goodIn_c lw_cs lw_cs_in _ [(30, 21), (1, 8), (30, 22), (20, 9), (20, 10), (1, 7), (20, 11), (4, 2), (4, 0), (20, 12), (20, 13), (20, 14), (20, 15), (15, 5), (20, 16), (11, 7), (11, 8), (0, 19), (11, 9), (2, 9), (33, 0), (33, 1), (33, 2), (33, 3), (33, 4), (39, 0), (39, 1), (39, 2), (39, 3), (39, 4), (39, 5), (39, 6), (39, 7), (39, 8), (36, 0), (36, 1), (36, 2), (36, 3), (36, 4), (36, 5), (36, 6), (36, 7), (36, 8)] (by first | rfl | decide +kernel) (by decide +kernel)
set_option maxRecDepth 20000 in
theorem gL_law_X7_current : GoodIn wsN_law (wsV RL 79 RX7 yX7_current wsX7_current) := goodIn_app (goodIn_of _ (by decide +kernel)) ggL_law_X7_current
set_option maxRecDepth 20000 in
theorem ggL_law_X8_current : GoodIn wsN_law wsX8_current := goodIn_c lw_cs lw_cs_in _ [(31, 2), (6, 16), (15, 11), (5, 0), (5, 18), (34, 0), (34, 1), (34, 2), (34, 3), (34, 4), (34, 5), (34, 6), (34, 7), (34, 8), (34, 9), (34, 10), (34, 11), (34, 12), (34, 13), (34, 14), (34, 15), (34, 16), (34, 17), (34, 18), (34, 19), (34, 20), (34, 21), (34, 22), (34, 23), (34, 24), (34, 25), (34, 26), (34, 27), (34, 28), (34, 29), (34, 30), (34, 31), (34, 32), (34, 33), (34, 34), (34, 35), (34, 36), (34, 37), (34, 38)] (by first | rfl | decide +kernel) (by decide +kernel)
set_option maxRecDepth 20000 in
theorem gL_law_X8_current : GoodIn wsN_law (wsV RL 82 RX8 yX8_current wsX8_current) := goodIn_app (goodIn_of _ (by decide +kernel)) ggL_law_X8_current
set_option maxRecDepth 20000 in
theorem ggL_law_L_event : GoodIn wsN_law wsL_event := goodIn_ca (goodIn_ca (goodIn_c lw_cs lw_cs_in _ [(31, 5), (6, 23), (6, 22), (31, 6), (31, 7), (31, 8), (0, 2), (31, 9), (7, 6), (7, 7), (7, 4), (7, 5), (1, 8), (1, 0), (24, 1), (24, 2), (24, 3), (1, 7), (24, 4), (15, 5), (31, 10), (21, 3), (21, 4), (0, 23), (21, 5), (13, 15), (31, 11), (31, 12), (31, 13), (31, 14), (18, 1), (4, 1), (18, 2), (3, 23), (20, 22), (20, 23), (21, 0), (21, 1), (4, 3), (20, 12), (20, 13), (20, 14), (20, 15), (21, 2), (23, 21), (23, 22), (23, 23), (2, 6), (24, 0), (2, 21), (12, 9), (12, 10), (12, 11), (12, 12), (2, 18), (33, 0), (33, 1), (33, 2), (33, 3), (33, 4), (39, 0), (39, 1), (39, 2), (39, 3), (39, 4), (39, 5), (39, 6), (39, 7), (39, 8), (37, 0), (37, 1), (37, 2), (37, 3), (37, 4), (37, 5), (37, 6), (37, 7), (37, 8), (37, 9), (40, 0), (40, 1), (40, 2), (40, 3)] (by first | rfl | decide +kernel) (by decide +kernel)) (goodIn_sub (fun _ h => List.mem_append_left _ (List.mem_append_right _ h)) (by decide +kernel))) (goodIn_sub (fun _ h => List.mem_append_left _ (List.mem_append_left _ (List.mem_append_right _ h))) (by decide +kernel))
set_option maxRecDepth 20000 in
theorem gL_law_L_event : GoodIn wsN_law (va_wsS RL 83 yL_event wsL_event) := goodIn_app (goodIn_of _ (by decide +kernel)) ggL_law_L_event
set_option maxRecDepth 20000 in
theorem ggL_law_X8_event : GoodIn wsN_law wsX8_event := goodIn_c lw_cs lw_cs_in _ [(31, 18), (6, 16), (15, 11), (17, 1), (24, 11), (5, 20), (24, 10), (5, 19), (17, 6), (17, 7), (17, 8), (0, 5), (17, 9), (34, 0), (34, 1), (34, 2), (34, 3), (34, 4), (34, 5), (34, 6), (34, 7), (34, 8), (34, 9), (34, 10), (34, 11), (34, 12), (34, 13), (34, 14), (34, 15), (34, 16), (34, 17), (34, 18), (34, 19), (34, 20), (34, 21), (34, 22), (34, 23), (34, 24), (34, 25), (34, 26), (34, 27), (34, 28), (34, 29), (34, 30), (34, 31), (34, 32), (34, 33), (34, 34), (34, 35), (34, 36), (34, 37), (34, 38)] (by first | rfl | decide +kernel) (by decide +kernel)
set_option maxRecDepth 20000 in
theorem gL_law_X8_event : GoodIn wsN_law (wsV RL 86 RX8 yX8_event wsX8_event) := goodIn_app (goodIn_of _ (by decide +kernel)) ggL_law_X8_event
set_option maxRecDepth 20000 in
theorem ggL_law_X7_noted : GoodIn wsN_law wsX7_noted := goodIn_c lw_cs lw_cs_in _ [(31, 22), (1, 8), (31, 23), (32, 0), (32, 1), (1, 7), (32, 2), (15, 5), (18, 2), (33, 0), (33, 1), (33, 2), (33, 3), (33, 4), (39, 0), (39, 1), (39, 2), (39, 3), (39, 4), (39, 5), (39, 6), (39, 7), (39, 8)] (by first | rfl | decide +kernel) (by decide +kernel)
set_option maxRecDepth 20000 in
theorem gL_law_X7_noted : GoodIn wsN_law (wsV RL 87 RX7 yX7_noted wsX7_noted) := goodIn_app (goodIn_of _ (by decide +kernel)) ggL_law_X7_noted
set_option maxRecDepth 20000 in
theorem ggL_law_X8_noted : GoodIn wsN_law wsX8_noted := goodIn_c lw_cs lw_cs_in _ [(32, 6), (6, 16), (15, 11), (24, 11), (34, 0), (34, 1), (34, 2), (34, 3), (34, 4), (34, 5), (34, 6), (34, 7), (34, 8), (34, 9), (34, 10), (34, 11), (34, 12), (34, 13), (34, 14), (34, 15), (34, 16), (34, 17), (34, 18), (34, 19), (34, 20), (34, 21), (34, 22), (34, 23), (34, 24), (34, 25), (34, 26), (34, 27), (34, 28), (34, 29), (34, 30), (34, 31), (34, 32), (34, 33), (34, 34), (34, 35), (34, 36), (34, 37), (34, 38)] (by first | rfl | decide +kernel) (by decide +kernel)
set_option maxRecDepth 20000 in
theorem gL_law_X8_noted : GoodIn wsN_law (wsV RL 90 RX8 yX8_noted wsX8_noted) := goodIn_app (goodIn_of _ (by decide +kernel)) ggL_law_X8_noted
theorem dL_law_0 : decode cL_law 0 = .ok (.new 8, 3) := by decide +kernel
theorem dL_law_3 : decode cL_law 3 = .ok (.dup, 1) := by decide +kernel
theorem dL_law_4 : decode cL_law 4 = .ok (.invokespecial 33, 3) := by decide +kernel
theorem dL_law_7 : decode cL_law 7 = .ok (.astore_n 1, 1) := by decide +kernel
theorem dL_law_8 : decode cL_law 8 = .ok (.new 34, 3) := by decide +kernel
theorem dL_law_11 : decode cL_law 11 = .ok (.dup, 1) := by decide +kernel
theorem dL_law_12 : decode cL_law 12 = .ok (.invokespecial 36, 3) := by decide +kernel
theorem dL_law_15 : decode cL_law 15 = .ok (.astore_n 2, 1) := by decide +kernel
theorem dL_law_16 : decode cL_law 16 = .ok (.iconst 1, 1) := by decide +kernel
theorem dL_law_17 : decode cL_law 17 = .ok (.newarray .long, 2) := by decide +kernel
theorem dL_law_19 : decode cL_law 19 = .ok (.astore_n 3, 1) := by decide +kernel
theorem dL_law_20 : decode cL_law 20 = .ok (.iconst 0, 1) := by decide +kernel
theorem dL_law_21 : decode cL_law 21 = .ok (.istore 4, 2) := by decide +kernel
theorem dL_law_23 : decode cL_law 23 = .ok (.iload 4, 2) := by decide +kernel
theorem dL_law_25 : decode cL_law 25 = .ok (.aload_n 0, 1) := by decide +kernel
theorem dL_law_26 : decode cL_law 26 = .ok (.arraylength, 1) := by decide +kernel
theorem dL_law_27 : decode cL_law 27 = .ok (.iconst 4, 1) := by decide +kernel
theorem dL_law_28 : decode cL_law 28 = .ok (.isub, 1) := by decide +kernel
theorem dL_law_29 : decode cL_law 29 = .ok (.if_icmp .gt 534, 3) := by decide +kernel
theorem dL_law_32 : decode cL_law 32 = .ok (.aload_n 0, 1) := by decide +kernel
theorem dL_law_33 : decode cL_law 33 = .ok (.iload 4, 2) := by decide +kernel
theorem dL_law_35 : decode cL_law 35 = .ok (.iaload, 1) := by decide +kernel
theorem dL_law_36 : decode cL_law 36 = .ok (.bipush 15, 2) := by decide +kernel
theorem dL_law_38 : decode cL_law 38 = .ok (.iand, 1) := by decide +kernel
theorem dL_law_39 : decode cL_law 39 = .ok (.tableswitch 518 0 11 #[61, 88, 132, 176, 189, 214, 258, 326, 375, 412, 449, 505], 61) := by decide +kernel
theorem dL_law_100 : decode cL_law 100 = .ok (.aload_n 1, 1) := by decide +kernel
theorem dL_law_101 : decode cL_law 101 = .ok (.aload_n 0, 1) := by decide +kernel
theorem dL_law_102 : decode cL_law 102 = .ok (.iload 4, 2) := by decide +kernel
theorem dL_law_104 : decode cL_law 104 = .ok (.iconst 1, 1) := by decide +kernel
theorem dL_law_105 : decode cL_law 105 = .ok (.iadd, 1) := by decide +kernel
theorem dL_law_106 : decode cL_law 106 = .ok (.iaload, 1) := by decide +kernel
theorem dL_law_107 : decode cL_law 107 = .ok (.i2c, 1) := by decide +kernel
theorem dL_law_108 : decode cL_law 108 = .ok (.invokevirtual 37, 3) := by decide +kernel
theorem dL_law_111 : decode cL_law 111 = .ok (.aload_n 2, 1) := by decide +kernel
theorem dL_law_112 : decode cL_law 112 = .ok (.aload_n 0, 1) := by decide +kernel
theorem dL_law_113 : decode cL_law 113 = .ok (.iload 4, 2) := by decide +kernel
theorem dL_law_115 : decode cL_law 115 = .ok (.iconst 1, 1) := by decide +kernel
theorem dL_law_116 : decode cL_law 116 = .ok (.iadd, 1) := by decide +kernel
theorem dL_law_117 : decode cL_law 117 = .ok (.iaload, 1) := by decide +kernel
theorem dL_law_118 : decode cL_law 118 = .ok (.i2c, 1) := by decide +kernel
theorem dL_law_119 : decode cL_law 119 = .ok (.invokevirtual 41, 3) := by decide +kernel
theorem dL_law_122 : decode cL_law 122 = .ok (.if_icmp .eq 435, 3) := by decide +kernel
theorem dL_law_125 : decode cL_law 125 = .ok (.iconst 0, 1) := by decide +kernel
theorem dL_law_126 : decode cL_law 126 = .ok (.ireturn, 1) := by decide +kernel
theorem dL_law_127 : decode cL_law 127 = .ok (.aload_n 1, 1) := by decide +kernel
theorem dL_law_128 : decode cL_law 128 = .ok (.aload_n 3, 1) := by decide +kernel
theorem dL_law_129 : decode cL_law 129 = .ok (.invokestatic 42, 3) := by decide +kernel
theorem dL_law_132 : decode cL_law 132 = .ok (.istore 5, 2) := by decide +kernel
theorem dL_law_134 : decode cL_law 134 = .ok (.aload_n 2, 1) := by decide +kernel
theorem dL_law_135 : decode cL_law 135 = .ok (.invokevirtual 47, 3) := by decide +kernel
theorem dL_law_138 : decode cL_law 138 = .ok (.istore 6, 2) := by decide +kernel
theorem dL_law_140 : decode cL_law 140 = .ok (.aload_n 2, 1) := by decide +kernel
theorem dL_law_141 : decode cL_law 141 = .ok (.invokevirtual 48, 3) := by decide +kernel
theorem dL_law_144 : decode cL_law 144 = .ok (.iload 5, 2) := by decide +kernel
theorem dL_law_146 : decode cL_law 146 = .ok (.if_icmp .eq 5, 3) := by decide +kernel
theorem dL_law_149 : decode cL_law 149 = .ok (.iconst 0, 1) := by decide +kernel
theorem dL_law_150 : decode cL_law 150 = .ok (.ireturn, 1) := by decide +kernel
theorem dL_law_151 : decode cL_law 151 = .ok (.iload 5, 2) := by decide +kernel
theorem dL_law_153 : decode cL_law 153 = .ok (.ifCond .ne 15, 3) := by decide +kernel
theorem dL_law_156 : decode cL_law 156 = .ok (.aload_n 3, 1) := by decide +kernel
theorem dL_law_157 : decode cL_law 157 = .ok (.iconst 0, 1) := by decide +kernel
theorem dL_law_158 : decode cL_law 158 = .ok (.laload, 1) := by decide +kernel
theorem dL_law_159 : decode cL_law 159 = .ok (.iload 6, 2) := by decide +kernel
theorem dL_law_161 : decode cL_law 161 = .ok (.i2l, 1) := by decide +kernel
theorem dL_law_162 : decode cL_law 162 = .ok (.lcmp, 1) := by decide +kernel
theorem dL_law_163 : decode cL_law 163 = .ok (.ifCond .eq 5, 3) := by decide +kernel
theorem dL_law_166 : decode cL_law 166 = .ok (.iconst 0, 1) := by decide +kernel
theorem dL_law_167 : decode cL_law 167 = .ok (.ireturn, 1) := by decide +kernel
theorem dL_law_168 : decode cL_law 168 = .ok (.goto 389, 3) := by decide +kernel
theorem dL_law_171 : decode cL_law 171 = .ok (.aload_n 1, 1) := by decide +kernel
theorem dL_law_172 : decode cL_law 172 = .ok (.aload_n 3, 1) := by decide +kernel
theorem dL_law_173 : decode cL_law 173 = .ok (.invokestatic 51, 3) := by decide +kernel
theorem dL_law_176 : decode cL_law 176 = .ok (.istore 5, 2) := by decide +kernel
theorem dL_law_178 : decode cL_law 178 = .ok (.aload_n 2, 1) := by decide +kernel
theorem dL_law_179 : decode cL_law 179 = .ok (.invokevirtual 53, 3) := by decide +kernel
theorem dL_law_182 : decode cL_law 182 = .ok (.istore 6, 2) := by decide +kernel
theorem dL_law_184 : decode cL_law 184 = .ok (.aload_n 2, 1) := by decide +kernel
theorem dL_law_185 : decode cL_law 185 = .ok (.invokevirtual 48, 3) := by decide +kernel
theorem dL_law_188 : decode cL_law 188 = .ok (.iload 5, 2) := by decide +kernel
theorem dL_law_190 : decode cL_law 190 = .ok (.if_icmp .eq 5, 3) := by decide +kernel
theorem dL_law_193 : decode cL_law 193 = .ok (.iconst 0, 1) := by decide +kernel
theorem dL_law_194 : decode cL_law 194 = .ok (.ireturn, 1) := by decide +kernel
theorem dL_law_195 : decode cL_law 195 = .ok (.iload 5, 2) := by decide +kernel
theorem dL_law_197 : decode cL_law 197 = .ok (.ifCond .ne 15, 3) := by decide +kernel
theorem dL_law_200 : decode cL_law 200 = .ok (.aload_n 3, 1) := by decide +kernel
theorem dL_law_201 : decode cL_law 201 = .ok (.iconst 0, 1) := by decide +kernel
theorem dL_law_202 : decode cL_law 202 = .ok (.laload, 1) := by decide +kernel
theorem dL_law_203 : decode cL_law 203 = .ok (.iload 6, 2) := by decide +kernel
theorem dL_law_205 : decode cL_law 205 = .ok (.i2l, 1) := by decide +kernel
theorem dL_law_206 : decode cL_law 206 = .ok (.lcmp, 1) := by decide +kernel
theorem dL_law_207 : decode cL_law 207 = .ok (.ifCond .eq 5, 3) := by decide +kernel
theorem dL_law_210 : decode cL_law 210 = .ok (.iconst 0, 1) := by decide +kernel
theorem dL_law_211 : decode cL_law 211 = .ok (.ireturn, 1) := by decide +kernel
theorem dL_law_212 : decode cL_law 212 = .ok (.goto 345, 3) := by decide +kernel
theorem dL_law_215 : decode cL_law 215 = .ok (.aload_n 1, 1) := by decide +kernel
theorem dL_law_216 : decode cL_law 216 = .ok (.invokevirtual 54, 3) := by decide +kernel
theorem dL_law_219 : decode cL_law 219 = .ok (.aload_n 2, 1) := by decide +kernel
theorem dL_law_220 : decode cL_law 220 = .ok (.invokevirtual 57, 3) := by decide +kernel
theorem dL_law_223 : decode cL_law 223 = .ok (.if_icmp .eq 334, 3) := by decide +kernel
theorem dL_law_226 : decode cL_law 226 = .ok (.iconst 0, 1) := by decide +kernel
theorem dL_law_227 : decode cL_law 227 = .ok (.ireturn, 1) := by decide +kernel
theorem dL_law_228 : decode cL_law 228 = .ok (.aload_n 1, 1) := by decide +kernel
theorem dL_law_229 : decode cL_law 229 = .ok (.aload_n 0, 1) := by decide +kernel
theorem dL_law_230 : decode cL_law 230 = .ok (.iload 4, 2) := by decide +kernel
theorem dL_law_232 : decode cL_law 232 = .ok (.iconst 1, 1) := by decide +kernel
theorem dL_law_233 : decode cL_law 233 = .ok (.iadd, 1) := by decide +kernel
theorem dL_law_234 : decode cL_law 234 = .ok (.iaload, 1) := by decide +kernel
theorem dL_law_235 : decode cL_law 235 = .ok (.invokevirtual 58, 3) := by decide +kernel
theorem dL_law_238 : decode cL_law 238 = .ok (.aload_n 2, 1) := by decide +kernel
theorem dL_law_239 : decode cL_law 239 = .ok (.aload_n 0, 1) := by decide +kernel
theorem dL_law_240 : decode cL_law 240 = .ok (.iload 4, 2) := by decide +kernel
theorem dL_law_242 : decode cL_law 242 = .ok (.iconst 1, 1) := by decide +kernel
theorem dL_law_243 : decode cL_law 243 = .ok (.iadd, 1) := by decide +kernel
theorem dL_law_244 : decode cL_law 244 = .ok (.iaload, 1) := by decide +kernel
theorem dL_law_245 : decode cL_law 245 = .ok (.invokevirtual 61, 3) := by decide +kernel
theorem dL_law_248 : decode cL_law 248 = .ok (.if_icmp .eq 309, 3) := by decide +kernel
theorem dL_law_251 : decode cL_law 251 = .ok (.iconst 0, 1) := by decide +kernel
theorem dL_law_252 : decode cL_law 252 = .ok (.ireturn, 1) := by decide +kernel
theorem dL_law_253 : decode cL_law 253 = .ok (.aload_n 1, 1) := by decide +kernel
theorem dL_law_254 : decode cL_law 254 = .ok (.aload_n 3, 1) := by decide +kernel
theorem dL_law_255 : decode cL_law 255 = .ok (.invokestatic 62, 3) := by decide +kernel
theorem dL_law_258 : decode cL_law 258 = .ok (.istore 5, 2) := by decide +kernel
theorem dL_law_260 : decode cL_law 260 = .ok (.aload_n 2, 1) := by decide +kernel
theorem dL_law_261 : decode cL_law 261 = .ok (.invokevirtual 64, 3) := by decide +kernel
theorem dL_law_264 : decode cL_law 264 = .ok (.istore 6, 2) := by decide +kernel
theorem dL_law_266 : decode cL_law 266 = .ok (.aload_n 2, 1) := by decide +kernel
theorem dL_law_267 : decode cL_law 267 = .ok (.invokevirtual 48, 3) := by decide +kernel
theorem dL_law_270 : decode cL_law 270 = .ok (.iload 5, 2) := by decide +kernel
theorem dL_law_272 : decode cL_law 272 = .ok (.if_icmp .eq 5, 3) := by decide +kernel
theorem dL_law_275 : decode cL_law 275 = .ok (.iconst 0, 1) := by decide +kernel
theorem dL_law_276 : decode cL_law 276 = .ok (.ireturn, 1) := by decide +kernel
theorem dL_law_277 : decode cL_law 277 = .ok (.iload 5, 2) := by decide +kernel
theorem dL_law_279 : decode cL_law 279 = .ok (.ifCond .ne 15, 3) := by decide +kernel
theorem dL_law_282 : decode cL_law 282 = .ok (.aload_n 3, 1) := by decide +kernel
theorem dL_law_283 : decode cL_law 283 = .ok (.iconst 0, 1) := by decide +kernel
theorem dL_law_284 : decode cL_law 284 = .ok (.laload, 1) := by decide +kernel
theorem dL_law_285 : decode cL_law 285 = .ok (.iload 6, 2) := by decide +kernel
theorem dL_law_287 : decode cL_law 287 = .ok (.i2l, 1) := by decide +kernel
theorem dL_law_288 : decode cL_law 288 = .ok (.lcmp, 1) := by decide +kernel
theorem dL_law_289 : decode cL_law 289 = .ok (.ifCond .eq 5, 3) := by decide +kernel
theorem dL_law_292 : decode cL_law 292 = .ok (.iconst 0, 1) := by decide +kernel
theorem dL_law_293 : decode cL_law 293 = .ok (.ireturn, 1) := by decide +kernel
theorem dL_law_294 : decode cL_law 294 = .ok (.goto 263, 3) := by decide +kernel
theorem dL_law_297 : decode cL_law 297 = .ok (.aload_n 1, 1) := by decide +kernel
theorem dL_law_298 : decode cL_law 298 = .ok (.aload_n 0, 1) := by decide +kernel
theorem dL_law_299 : decode cL_law 299 = .ok (.iload 4, 2) := by decide +kernel
theorem dL_law_301 : decode cL_law 301 = .ok (.iconst 1, 1) := by decide +kernel
theorem dL_law_302 : decode cL_law 302 = .ok (.iadd, 1) := by decide +kernel
theorem dL_law_303 : decode cL_law 303 = .ok (.iaload, 1) := by decide +kernel
theorem dL_law_304 : decode cL_law 304 = .ok (.aload_n 0, 1) := by decide +kernel
theorem dL_law_305 : decode cL_law 305 = .ok (.iload 4, 2) := by decide +kernel
theorem dL_law_307 : decode cL_law 307 = .ok (.iconst 2, 1) := by decide +kernel
theorem dL_law_308 : decode cL_law 308 = .ok (.iadd, 1) := by decide +kernel
theorem dL_law_309 : decode cL_law 309 = .ok (.iaload, 1) := by decide +kernel
theorem dL_law_310 : decode cL_law 310 = .ok (.aload_n 3, 1) := by decide +kernel
theorem dL_law_311 : decode cL_law 311 = .ok (.invokestatic 65, 3) := by decide +kernel
theorem dL_law_314 : decode cL_law 314 = .ok (.istore 5, 2) := by decide +kernel
theorem dL_law_316 : decode cL_law 316 = .ok (.aload_n 2, 1) := by decide +kernel
theorem dL_law_317 : decode cL_law 317 = .ok (.aload_n 0, 1) := by decide +kernel
theorem dL_law_318 : decode cL_law 318 = .ok (.iload 4, 2) := by decide +kernel
theorem dL_law_320 : decode cL_law 320 = .ok (.iconst 1, 1) := by decide +kernel
theorem dL_law_321 : decode cL_law 321 = .ok (.iadd, 1) := by decide +kernel
theorem dL_law_322 : decode cL_law 322 = .ok (.iaload, 1) := by decide +kernel
theorem dL_law_323 : decode cL_law 323 = .ok (.aload_n 0, 1) := by decide +kernel
theorem dL_law_324 : decode cL_law 324 = .ok (.iload 4, 2) := by decide +kernel
theorem dL_law_326 : decode cL_law 326 = .ok (.iconst 2, 1) := by decide +kernel
theorem dL_law_327 : decode cL_law 327 = .ok (.iadd, 1) := by decide +kernel
theorem dL_law_328 : decode cL_law 328 = .ok (.iaload, 1) := by decide +kernel
theorem dL_law_329 : decode cL_law 329 = .ok (.invokevirtual 68, 3) := by decide +kernel
theorem dL_law_332 : decode cL_law 332 = .ok (.istore 6, 2) := by decide +kernel
theorem dL_law_334 : decode cL_law 334 = .ok (.aload_n 2, 1) := by decide +kernel
theorem dL_law_335 : decode cL_law 335 = .ok (.invokevirtual 48, 3) := by decide +kernel
theorem dL_law_338 : decode cL_law 338 = .ok (.iload 5, 2) := by decide +kernel
theorem dL_law_340 : decode cL_law 340 = .ok (.if_icmp .eq 5, 3) := by decide +kernel
theorem dL_law_343 : decode cL_law 343 = .ok (.iconst 0, 1) := by decide +kernel
theorem dL_law_344 : decode cL_law 344 = .ok (.ireturn, 1) := by decide +kernel
theorem dL_law_345 : decode cL_law 345 = .ok (.iload 5, 2) := by decide +kernel
theorem dL_law_347 : decode cL_law 347 = .ok (.ifCond .ne 15, 3) := by decide +kernel
theorem dL_law_350 : decode cL_law 350 = .ok (.aload_n 3, 1) := by decide +kernel
theorem dL_law_351 : decode cL_law 351 = .ok (.iconst 0, 1) := by decide +kernel
theorem dL_law_352 : decode cL_law 352 = .ok (.laload, 1) := by decide +kernel
theorem dL_law_353 : decode cL_law 353 = .ok (.iload 6, 2) := by decide +kernel
theorem dL_law_355 : decode cL_law 355 = .ok (.i2l, 1) := by decide +kernel
theorem dL_law_356 : decode cL_law 356 = .ok (.lcmp, 1) := by decide +kernel
theorem dL_law_357 : decode cL_law 357 = .ok (.ifCond .eq 5, 3) := by decide +kernel
theorem dL_law_360 : decode cL_law 360 = .ok (.iconst 0, 1) := by decide +kernel
theorem dL_law_361 : decode cL_law 361 = .ok (.ireturn, 1) := by decide +kernel
theorem dL_law_362 : decode cL_law 362 = .ok (.goto 195, 3) := by decide +kernel
theorem dL_law_365 : decode cL_law 365 = .ok (.aload_n 1, 1) := by decide +kernel
theorem dL_law_366 : decode cL_law 366 = .ok (.aload_n 0, 1) := by decide +kernel
theorem dL_law_367 : decode cL_law 367 = .ok (.iload 4, 2) := by decide +kernel
theorem dL_law_369 : decode cL_law 369 = .ok (.iconst 1, 1) := by decide +kernel
theorem dL_law_370 : decode cL_law 370 = .ok (.iadd, 1) := by decide +kernel
theorem dL_law_371 : decode cL_law 371 = .ok (.iaload, 1) := by decide +kernel
theorem dL_law_372 : decode cL_law 372 = .ok (.aload_n 0, 1) := by decide +kernel
theorem dL_law_373 : decode cL_law 373 = .ok (.iload 4, 2) := by decide +kernel
theorem dL_law_375 : decode cL_law 375 = .ok (.iconst 2, 1) := by decide +kernel
theorem dL_law_376 : decode cL_law 376 = .ok (.iadd, 1) := by decide +kernel
theorem dL_law_377 : decode cL_law 377 = .ok (.iaload, 1) := by decide +kernel
theorem dL_law_378 : decode cL_law 378 = .ok (.aload_n 0, 1) := by decide +kernel
theorem dL_law_379 : decode cL_law 379 = .ok (.iload 4, 2) := by decide +kernel
theorem dL_law_381 : decode cL_law 381 = .ok (.iconst 3, 1) := by decide +kernel
theorem dL_law_382 : decode cL_law 382 = .ok (.iadd, 1) := by decide +kernel
theorem dL_law_383 : decode cL_law 383 = .ok (.iaload, 1) := by decide +kernel
theorem dL_law_384 : decode cL_law 384 = .ok (.invokevirtual 69, 3) := by decide +kernel
theorem dL_law_387 : decode cL_law 387 = .ok (.aload_n 2, 1) := by decide +kernel
theorem dL_law_388 : decode cL_law 388 = .ok (.aload_n 0, 1) := by decide +kernel
theorem dL_law_389 : decode cL_law 389 = .ok (.iload 4, 2) := by decide +kernel
theorem dL_law_391 : decode cL_law 391 = .ok (.iconst 1, 1) := by decide +kernel
theorem dL_law_392 : decode cL_law 392 = .ok (.iadd, 1) := by decide +kernel
theorem dL_law_393 : decode cL_law 393 = .ok (.iaload, 1) := by decide +kernel
theorem dL_law_394 : decode cL_law 394 = .ok (.aload_n 0, 1) := by decide +kernel
theorem dL_law_395 : decode cL_law 395 = .ok (.iload 4, 2) := by decide +kernel
theorem dL_law_397 : decode cL_law 397 = .ok (.iconst 2, 1) := by decide +kernel
theorem dL_law_398 : decode cL_law 398 = .ok (.iadd, 1) := by decide +kernel
theorem dL_law_399 : decode cL_law 399 = .ok (.iaload, 1) := by decide +kernel
theorem dL_law_400 : decode cL_law 400 = .ok (.aload_n 0, 1) := by decide +kernel
theorem dL_law_401 : decode cL_law 401 = .ok (.iload 4, 2) := by decide +kernel
theorem dL_law_403 : decode cL_law 403 = .ok (.iconst 3, 1) := by decide +kernel
theorem dL_law_404 : decode cL_law 404 = .ok (.iadd, 1) := by decide +kernel
theorem dL_law_405 : decode cL_law 405 = .ok (.iaload, 1) := by decide +kernel
theorem dL_law_406 : decode cL_law 406 = .ok (.invokevirtual 73, 3) := by decide +kernel
theorem dL_law_409 : decode cL_law 409 = .ok (.if_icmp .eq 148, 3) := by decide +kernel
theorem dL_law_412 : decode cL_law 412 = .ok (.iconst 0, 1) := by decide +kernel
theorem dL_law_413 : decode cL_law 413 = .ok (.ireturn, 1) := by decide +kernel
theorem dL_law_414 : decode cL_law 414 = .ok (.aload_n 1, 1) := by decide +kernel
theorem dL_law_415 : decode cL_law 415 = .ok (.aload_n 0, 1) := by decide +kernel
theorem dL_law_416 : decode cL_law 416 = .ok (.iload 4, 2) := by decide +kernel
theorem dL_law_418 : decode cL_law 418 = .ok (.iconst 1, 1) := by decide +kernel
theorem dL_law_419 : decode cL_law 419 = .ok (.iadd, 1) := by decide +kernel
theorem dL_law_420 : decode cL_law 420 = .ok (.iaload, 1) := by decide +kernel
theorem dL_law_421 : decode cL_law 421 = .ok (.aload_n 0, 1) := by decide +kernel
theorem dL_law_422 : decode cL_law 422 = .ok (.iload 4, 2) := by decide +kernel
theorem dL_law_424 : decode cL_law 424 = .ok (.iconst 2, 1) := by decide +kernel
theorem dL_law_425 : decode cL_law 425 = .ok (.iadd, 1) := by decide +kernel
theorem dL_law_426 : decode cL_law 426 = .ok (.iaload, 1) := by decide +kernel
theorem dL_law_427 : decode cL_law 427 = .ok (.invokevirtual 74, 3) := by decide +kernel
theorem dL_law_430 : decode cL_law 430 = .ok (.aload_n 2, 1) := by decide +kernel
theorem dL_law_431 : decode cL_law 431 = .ok (.aload_n 0, 1) := by decide +kernel
theorem dL_law_432 : decode cL_law 432 = .ok (.iload 4, 2) := by decide +kernel
theorem dL_law_434 : decode cL_law 434 = .ok (.iconst 1, 1) := by decide +kernel
theorem dL_law_435 : decode cL_law 435 = .ok (.iadd, 1) := by decide +kernel
theorem dL_law_436 : decode cL_law 436 = .ok (.iaload, 1) := by decide +kernel
theorem dL_law_437 : decode cL_law 437 = .ok (.aload_n 0, 1) := by decide +kernel
theorem dL_law_438 : decode cL_law 438 = .ok (.iload 4, 2) := by decide +kernel
theorem dL_law_440 : decode cL_law 440 = .ok (.iconst 2, 1) := by decide +kernel
theorem dL_law_441 : decode cL_law 441 = .ok (.iadd, 1) := by decide +kernel
theorem dL_law_442 : decode cL_law 442 = .ok (.iaload, 1) := by decide +kernel
theorem dL_law_443 : decode cL_law 443 = .ok (.invokevirtual 78, 3) := by decide +kernel
theorem dL_law_446 : decode cL_law 446 = .ok (.if_icmp .eq 111, 3) := by decide +kernel
theorem dL_law_449 : decode cL_law 449 = .ok (.iconst 0, 1) := by decide +kernel
theorem dL_law_450 : decode cL_law 450 = .ok (.ireturn, 1) := by decide +kernel
theorem dL_law_451 : decode cL_law 451 = .ok (.aload_n 1, 1) := by decide +kernel
theorem dL_law_452 : decode cL_law 452 = .ok (.aload_n 0, 1) := by decide +kernel
theorem dL_law_453 : decode cL_law 453 = .ok (.iload 4, 2) := by decide +kernel
theorem dL_law_455 : decode cL_law 455 = .ok (.iconst 1, 1) := by decide +kernel
theorem dL_law_456 : decode cL_law 456 = .ok (.iadd, 1) := by decide +kernel
theorem dL_law_457 : decode cL_law 457 = .ok (.iaload, 1) := by decide +kernel
theorem dL_law_458 : decode cL_law 458 = .ok (.aload_n 0, 1) := by decide +kernel
theorem dL_law_459 : decode cL_law 459 = .ok (.iload 4, 2) := by decide +kernel
theorem dL_law_461 : decode cL_law 461 = .ok (.iconst 2, 1) := by decide +kernel
theorem dL_law_462 : decode cL_law 462 = .ok (.iadd, 1) := by decide +kernel
theorem dL_law_463 : decode cL_law 463 = .ok (.iaload, 1) := by decide +kernel
theorem dL_law_464 : decode cL_law 464 = .ok (.invokevirtual 79, 3) := by decide +kernel
theorem dL_law_467 : decode cL_law 467 = .ok (.aload_n 2, 1) := by decide +kernel
theorem dL_law_468 : decode cL_law 468 = .ok (.aload_n 0, 1) := by decide +kernel
theorem dL_law_469 : decode cL_law 469 = .ok (.iload 4, 2) := by decide +kernel
theorem dL_law_471 : decode cL_law 471 = .ok (.iconst 1, 1) := by decide +kernel
theorem dL_law_472 : decode cL_law 472 = .ok (.iadd, 1) := by decide +kernel
theorem dL_law_473 : decode cL_law 473 = .ok (.iaload, 1) := by decide +kernel
theorem dL_law_474 : decode cL_law 474 = .ok (.aload_n 0, 1) := by decide +kernel
theorem dL_law_475 : decode cL_law 475 = .ok (.iload 4, 2) := by decide +kernel
theorem dL_law_477 : decode cL_law 477 = .ok (.iconst 2, 1) := by decide +kernel
theorem dL_law_478 : decode cL_law 478 = .ok (.iadd, 1) := by decide +kernel
theorem dL_law_479 : decode cL_law 479 = .ok (.iaload, 1) := by decide +kernel
theorem dL_law_480 : decode cL_law 480 = .ok (.invokevirtual 82, 3) := by decide +kernel
theorem dL_law_483 : decode cL_law 483 = .ok (.if_icmp .eq 74, 3) := by decide +kernel
theorem dL_law_486 : decode cL_law 486 = .ok (.iconst 0, 1) := by decide +kernel
theorem dL_law_487 : decode cL_law 487 = .ok (.ireturn, 1) := by decide +kernel
theorem dL_law_488 : decode cL_law 488 = .ok (.aload_n 1, 1) := by decide +kernel
theorem dL_law_489 : decode cL_law 489 = .ok (.aload_n 0, 1) := by decide +kernel
theorem dL_law_490 : decode cL_law 490 = .ok (.iload 4, 2) := by decide +kernel
theorem dL_law_492 : decode cL_law 492 = .ok (.iconst 1, 1) := by decide +kernel
theorem dL_law_493 : decode cL_law 493 = .ok (.iadd, 1) := by decide +kernel
theorem dL_law_494 : decode cL_law 494 = .ok (.iaload, 1) := by decide +kernel
theorem dL_law_495 : decode cL_law 495 = .ok (.aload_n 3, 1) := by decide +kernel
theorem dL_law_496 : decode cL_law 496 = .ok (.invokestatic 83, 3) := by decide +kernel
theorem dL_law_499 : decode cL_law 499 = .ok (.istore 5, 2) := by decide +kernel
theorem dL_law_501 : decode cL_law 501 = .ok (.aload_n 2, 1) := by decide +kernel
theorem dL_law_502 : decode cL_law 502 = .ok (.aload_n 0, 1) := by decide +kernel
theorem dL_law_503 : decode cL_law 503 = .ok (.iload 4, 2) := by decide +kernel
theorem dL_law_505 : decode cL_law 505 = .ok (.iconst 1, 1) := by decide +kernel
theorem dL_law_506 : decode cL_law 506 = .ok (.iadd, 1) := by decide +kernel
theorem dL_law_507 : decode cL_law 507 = .ok (.iaload, 1) := by decide +kernel
theorem dL_law_508 : decode cL_law 508 = .ok (.invokevirtual 86, 3) := by decide +kernel
theorem dL_law_511 : decode cL_law 511 = .ok (.istore 6, 2) := by decide +kernel
theorem dL_law_513 : decode cL_law 513 = .ok (.aload_n 2, 1) := by decide +kernel
theorem dL_law_514 : decode cL_law 514 = .ok (.invokevirtual 48, 3) := by decide +kernel
theorem dL_law_517 : decode cL_law 517 = .ok (.iload 5, 2) := by decide +kernel
theorem dL_law_519 : decode cL_law 519 = .ok (.if_icmp .eq 5, 3) := by decide +kernel
theorem dL_law_522 : decode cL_law 522 = .ok (.iconst 0, 1) := by decide +kernel
theorem dL_law_523 : decode cL_law 523 = .ok (.ireturn, 1) := by decide +kernel
theorem dL_law_524 : decode cL_law 524 = .ok (.iload 5, 2) := by decide +kernel
theorem dL_law_526 : decode cL_law 526 = .ok (.ifCond .ne 15, 3) := by decide +kernel
theorem dL_law_529 : decode cL_law 529 = .ok (.aload_n 3, 1) := by decide +kernel
theorem dL_law_530 : decode cL_law 530 = .ok (.iconst 0, 1) := by decide +kernel
theorem dL_law_531 : decode cL_law 531 = .ok (.laload, 1) := by decide +kernel
theorem dL_law_532 : decode cL_law 532 = .ok (.iload 6, 2) := by decide +kernel
theorem dL_law_534 : decode cL_law 534 = .ok (.i2l, 1) := by decide +kernel
theorem dL_law_535 : decode cL_law 535 = .ok (.lcmp, 1) := by decide +kernel
theorem dL_law_536 : decode cL_law 536 = .ok (.ifCond .eq 5, 3) := by decide +kernel
theorem dL_law_539 : decode cL_law 539 = .ok (.iconst 0, 1) := by decide +kernel
theorem dL_law_540 : decode cL_law 540 = .ok (.ireturn, 1) := by decide +kernel
theorem dL_law_541 : decode cL_law 541 = .ok (.goto 16, 3) := by decide +kernel
theorem dL_law_544 : decode cL_law 544 = .ok (.aload_n 1, 1) := by decide +kernel
theorem dL_law_545 : decode cL_law 545 = .ok (.invokevirtual 87, 3) := by decide +kernel
theorem dL_law_548 : decode cL_law 548 = .ok (.aload_n 2, 1) := by decide +kernel
theorem dL_law_549 : decode cL_law 549 = .ok (.invokevirtual 90, 3) := by decide +kernel
theorem dL_law_552 : decode cL_law 552 = .ok (.if_icmp .eq 5, 3) := by decide +kernel
theorem dL_law_555 : decode cL_law 555 = .ok (.iconst 0, 1) := by decide +kernel
theorem dL_law_556 : decode cL_law 556 = .ok (.ireturn, 1) := by decide +kernel
theorem dL_law_557 : decode cL_law 557 = .ok (.iinc 4 4, 3) := by decide +kernel
theorem dL_law_560 : decode cL_law 560 = .ok (.goto (-537), 3) := by decide +kernel
theorem dL_law_563 : decode cL_law 563 = .ok (.iconst 1, 1) := by decide +kernel
theorem dL_law_564 : decode cL_law 564 = .ok (.ireturn, 1) := by decide +kernel
