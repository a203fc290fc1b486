def f_X2_init (ad : gA) (σ : gS) (o : Nat) (a1 : Int32) (a2 : Int32) (a3 : Int32) (a4 : Int32) (a5 : Int32) (a6 : Int32) : Option gS := (g_let (g_up σ 102 o 0 a1) fun σ1 => (g_let (g_up σ1 102 o 1 a2) fun σ2 => (g_let (g_up σ2 102 o 2 a3) fun σ3 => (g_let (g_up σ3 102 o 3 a4) fun σ4 => (g_let (g_up σ4 102 o 4 a5) fun σ5 => (g_let (g_up σ5 102 o 5 a6) fun σ6 => (some σ6)))))))
theorem hd_X2_init : yX2_init.cls ≠ "java/lang/invoke/MethodHandle" ∧ yX2_init.cls ≠ "java/lang/invoke/VarHandle" ∧ (parseMethodDescriptor yX2_init.desc).map (fun d => d.parameters.length) = some 6 := by decide +kernel
set_option maxHeartbeats 40000000 in
set_option maxRecDepth 100000 in
theorem c_X2_init (l : Launch) (D : va_G) (cy : Nat → ClassId) (A : Nat → Prop) (ad : gA) (L : gL) (σ : gS) (h : Nat) (o : Nat) (a1 : Int32) (a2 : Int32) (a3 : Int32) (a4 : Int32) (a5 : Int32) (a6 : Int32) (hT : (102, o) ∈ L)  (σ0 : gS) (hf : f_X2_init ad σ o a1 a2 a3 a4 a5 a6 = some σ0) : g_MA l yX2_init cX2_init 7 ({ frames := 1, cells := 0, slots := 0, locals := 12 } : Room) D cy A ad L σ h [.ref (ad 102 o), .int a1, .int a2, .int a3, .int a4, .int a5, .int a6] L σ0 0 0 := by
  refine g_metH (by decide) (Nat.le_of_ble_eq_true rfl) (fun p e s m below meth c C hr hlocks hnm hs G ls hl => ?_)
  have hl : lv_has ls 7 [(0, .ref (ad 102 o)), (1, .int a1), (2, .int a2), (3, .int a3), (4, .int a4), (5, .int a5), (6, .int a6)] := hl
  unfold f_X2_init at hf
  refine lv_aload_n C.x C.b dX2_init_0 rfl (lv_at hl 0 rfl) ?_
  refine g_objI C tw451 tw78 tw79 hl.1 dX2_init_1 (by decide) (by decide) ?_
  refine lv_aload_n C.x C.b dX2_init_4 rfl (lv_at hl 0 rfl) ?_
  refine lv_iload_n C.x C.b dX2_init_5 rfl (lv_at hl 1 rfl) ?_
  refine g_mput C G 2 o 0 a1 hT rfl ginX2 tyX2_ok nmX2 (by decide) (g_vci (by decide)) ⟨rfl, rfl⟩ hnm rfl tw452 dX2_init_6 (fun H locs G => ?_)
  obtain ⟨σ1, eσ1, hf⟩ := g_lt hf
  rw [← eσ1] at G
  refine lv_aload_n C.x C.b dX2_init_9 rfl (lv_at hl 0 rfl) ?_
  refine lv_iload_n C.x C.b dX2_init_10 rfl (lv_at hl 2 rfl) ?_
  refine g_mput C G 2 o 1 a2 hT rfl ginX2 tyX2_ok nmX2 (by decide) (g_vci (by decide)) ⟨rfl, rfl⟩ hnm rfl tw454 dX2_init_11 (fun H locs G => ?_)
  obtain ⟨σ2, eσ2, hf⟩ := g_lt hf
  rw [← eσ2] at G
  refine lv_aload_n C.x C.b dX2_init_14 rfl (lv_at hl 0 rfl) ?_
  refine lv_iload_n C.x C.b dX2_init_15 rfl (lv_at hl 3 rfl) ?_
  refine g_mput C G 2 o 2 a3 hT rfl ginX2 tyX2_ok nmX2 (by decide) (g_vci (by decide)) ⟨rfl, rfl⟩ hnm rfl tw456 dX2_init_16 (fun H locs G => ?_)
  obtain ⟨σ3, eσ3, hf⟩ := g_lt hf
  rw [← eσ3] at G
  refine lv_aload_n C.x C.b dX2_init_19 rfl (lv_at hl 0 rfl) ?_
  refine lv_iload C.x C.b dX2_init_20 (lv_at hl 4 rfl) ?_
  refine g_mput C G 2 o 3 a4 hT rfl ginX2 tyX2_ok nmX2 (by decide) (g_vci (by decide)) ⟨rfl, rfl⟩ hnm rfl tw457 dX2_init_22 (fun H locs G => ?_)
  obtain ⟨σ4, eσ4, hf⟩ := g_lt hf
  rw [← eσ4] at G
  refine lv_aload_n C.x C.b dX2_init_25 rfl (lv_at hl 0 rfl) ?_
  refine lv_iload C.x C.b dX2_init_26 (lv_at hl 5 rfl) ?_
  refine g_mput C G 2 o 4 a5 hT rfl ginX2 tyX2_ok nmX2 (by decide) (g_vci (by decide)) ⟨rfl, rfl⟩ hnm rfl tw458 dX2_init_28 (fun H locs G => ?_)
  obtain ⟨σ5, eσ5, hf⟩ := g_lt hf
  rw [← eσ5] at G
  refine lv_aload_n C.x C.b dX2_init_31 rfl (lv_at hl 0 rfl) ?_
  refine lv_iload C.x C.b dX2_init_32 (lv_at hl 6 rfl) ?_
  refine g_mput C G 2 o 5 a6 hT rfl ginX2 tyX2_ok nmX2 (by decide) (g_vci (by decide)) ⟨rfl, rfl⟩ hnm rfl tw460 dX2_init_34 (fun H locs G => ?_)
  obtain ⟨σ6, eσ6, hf⟩ := g_lt hf
  rw [← eσ6] at G
  refine W.widen (k := 0) (n := 0) (Nat.le_of_ble_eq_true rfl) (Nat.le_of_ble_eq_true rfl) ?_
  exact g_evi C G hr hlocks hf dX2_init_37
def f_X3_init (ad : gA) (σ : gS) (o : Nat) (a1 : Int32) (a2 : Int32) : Option gS := (g_let (g_up σ 103 o 0 a1) fun σ1 => (if g_bo a2 then (g_let (g_up σ1 103 o 1 a2) fun σ2 => (if ¬ ((200 : Int32) * a1) < 0 ∧ ((200 : Int32) * a1).toNatClampNeg = (ad 33 o) ∧ ((200 : Int32) * a1).toNatClampNeg ≤ 600 then (g_let (g_row σ2 23 o (fun _ => 0)) fun σ3 => (g_let (g_up σ3 103 o 2 (0 : Int32)) fun σ4 => (if σ4 103 o 2 < 0 then none else ((f_J7_fill_031fb ad σ4 23 o (ad 33 o) (-1 : Int32)).bind fun σ6 => (some σ6))))) else none)) else none))
theorem hd_X3_init : yX3_init.cls ≠ "java/lang/invoke/MethodHandle" ∧ yX3_init.cls ≠ "java/lang/invoke/VarHandle" ∧ (parseMethodDescriptor yX3_init.desc).map (fun d => d.parameters.length) = some 2 := by decide +kernel
set_option maxHeartbeats 40000000 in
set_option maxRecDepth 100000 in
theorem c_X3_init (l : Launch) (D : va_G) (cy : Nat → ClassId) (A : Nat → Prop) (ad : gA) (L : gL) (σ : gS) (h : Nat) (o : Nat) (a1 : Int32) (a2 : Int32) (hT : (103, o) ∈ L) (hd0 : ad 23 o = h + 0) (hf0 : (23, o) ∉ L) (σ0 : gS) (hf : f_X3_init ad σ o a1 a2 = some σ0) : g_MA l yX3_init cX3_init 3 ({ frames := 1, cells := 1, slots := 600, locals := 23 } : Room) D cy A ad L σ h [.ref (ad 103 o), .int a1, .int a2] (L ++ [(23, o)]) σ0 1 600 := by
  refine g_metH (by decide) (Nat.le_of_ble_eq_true rfl) (fun p e s m below meth c C hr hlocks hnm hs G ls hl => ?_)
  have hl : lv_has ls 3 [(0, .ref (ad 103 o)), (1, .int a1), (2, .int a2)] := hl
  unfold f_X3_init at hf
  refine lv_aload_n C.x C.b dX3_init_0 rfl (lv_at hl 0 rfl) ?_
  refine g_objI C tw309 tw78 tw79 hl.1 dX3_init_1 (by decide) (by decide) ?_
  refine lv_aload_n C.x C.b dX3_init_4 rfl (lv_at hl 0 rfl) ?_
  refine lv_iload_n C.x C.b dX3_init_5 rfl (lv_at hl 1 rfl) ?_
  refine g_mput C G 3 o 0 a1 hT rfl ginX3 tyX3_ok nmX3 (by decide) (g_vci (by decide)) ⟨rfl, rfl⟩ hnm rfl tw313 dX3_init_6 (fun H locs G => ?_)
  obtain ⟨σ1, eσ1, hf⟩ := g_lt hf
  rw [← eσ1] at G
  refine lv_aload_n C.x C.b dX3_init_9 rfl (lv_at hl 0 rfl) ?_
  refine lv_iload_n C.x C.b dX3_init_10 rfl (lv_at hl 2 rfl) ?_
  obtain ⟨hbo, hf⟩ := g_ok hf
  refine g_mput C G 3 o 1 a2 hT rfl ginX3 tyX3_ok nmX3 (by decide) (g_vci (by decide)) (g_bo_fit hbo) hnm rfl tw316 dX3_init_11 (fun H locs G => ?_)
  obtain ⟨σ2, eσ2, hf⟩ := g_lt hf
  rw [← eσ2] at G
  refine lv_aload_n C.x C.b dX3_init_14 rfl (lv_at hl 0 rfl) ?_
  refine lv_sipush (v := (200 : Int32)) C.x C.b dX3_init_15 (by decide) ?_
  refine lv_iload_n C.x C.b dX3_init_18 rfl (lv_at hl 1 rfl) ?_
  refine lv_imul C.x C.b dX3_init_19 ?_
  refine g_size (fun hle => ?_)
  have hsz := g_sz0 G hs hle
  obtain ⟨hch, hf⟩ := g_ok hf
  refine g_newa (atype := .byte) (ty := .byte) (N := (ad 33 o)) C G 23 o (t := 0) ⟨by decide, rfl, by decide⟩ ⟨rfl, rfl⟩ rfl (fun _ => rfl) tw283 hch.1 hch.2.1 rfl (by have := hch.2; show _ * 1 ≤ _; omega) (by simp [hf0]) (hd0.trans hsz.symm) (Nat.le_of_ble_eq_true rfl) (by show 0 + (ad 33 o) ≤ 600; have := hch.2; omega) dX3_init_20 (fun H G => ?_)
  have G : g_H D cy A ad (L ++ [(23, o)]) _ s.heap _ _ := G
  refine W.widen (k := 1) (n := 600) (Nat.le_of_ble_eq_true rfl) (by show 0 + (ad 33 o) ≤ 600; have := hch.2; omega) ?_
  obtain ⟨σ3, eσ3, hf⟩ := g_lt hf
  rw [← eσ3] at G
  refine g_mput C G 3 o 2 (0 : Int32) (g_ml hT) rfl ginX3 tyX3_ok nmX3 (by decide) (g_vcr (K' := 23) (by decide)) ⟨rfl, rfl⟩ hnm rfl tw318 dX3_init_22 (fun H locs G => ?_)
  obtain ⟨σ4, eσ4, hf⟩ := g_lt hf
  rw [← eσ4] at G
  refine lv_aload_n C.x C.b dX3_init_25 rfl (lv_at hl 0 rfl) ?_
  obtain ⟨hq5, hf⟩ := g_okn hf
  refine g_mget C G 3 o 2 (g_ml hT) rfl ginX3 (by decide) (g_vcgr (K' := 23) (by decide) hq5) tw318 dX3_init_26 ?_
  refine lv_iconst (v := (-1 : Int32)) C.x C.b dX3_init_29 (by decide) ?_
  obtain ⟨σ6, eσ6, hf⟩ := g_b hf
  refine g_callv G (g_runS (As := [.ref (ad 23 o), .int (-1 : Int32)]) (rest := []) C G (c_J7_fill_031fb l D cy A ad (L ++ [(23, o)]) σ4 23 o (ad 33 o) (by simp) (by decide) rfl (-1 : Int32) σ6 eσ6) ⟨tw312, tw62, tw310, tw311, hd_J7_fill_031fb⟩ (by decide) hl.1 rfl (Nat.le_of_ble_eq_true rfl) dX3_init_30 ⟨Nat.le_of_ble_eq_true rfl, Nat.le_of_ble_eq_true rfl⟩) (fun H locs G => ?_)
  refine W.widen (k := 1) (n := 600) (Nat.le_of_ble_eq_true rfl) (Nat.le_of_ble_eq_true rfl) ?_
  exact g_evi C G hr hlocks hf dX3_init_33
def f_X5_init (ad : gA) (σ : gS) (o : Nat) (a1 : Int32) (a2 : Int32) (a3 : Int32) (a4 : Int32) : Option gS := (g_let (g_row σ 24 o (fun _ => 0)) fun σ1 => (g_let (g_up σ1 105 o 2 (0 : Int32)) fun σ2 => (g_let (g_up σ2 105 o 5 (200 : Int32)) fun σ3 => (g_let (g_up σ3 105 o 6 (0 : Int32)) fun σ4 => (g_let (g_up σ4 105 o 7 (-1 : Int32)) fun σ5 => (g_let (g_up σ5 105 o 8 (0 : Int32)) fun σ6 => (g_let (g_up σ6 105 o 0 a1) fun σ7 => (g_let (g_up σ7 105 o 3 a2) fun σ8 => (g_let (g_up σ8 105 o 4 a3) fun σ9 => (g_let (g_up σ9 105 o 1 a4) fun σ10 => (if σ10 105 o 2 < 0 then none else ((f_J7_fill_031fb ad σ10 24 o 200 (-1 : Int32)).bind fun σ12 => (some σ12)))))))))))))
theorem hd_X5_init : yX5_init.cls ≠ "java/lang/invoke/MethodHandle" ∧ yX5_init.cls ≠ "java/lang/invoke/VarHandle" ∧ (parseMethodDescriptor yX5_init.desc).map (fun d => d.parameters.length) = some 4 := by decide +kernel
set_option maxHeartbeats 40000000 in
set_option maxRecDepth 100000 in
theorem c_X5_init (l : Launch) (D : va_G) (cy : Nat → ClassId) (A : Nat → Prop) (ad : gA) (L : gL) (σ : gS) (h : Nat) (o : Nat) (a1 : Int32) (a2 : Int32) (a3 : Int32) (a4 : Int32) (hT : (105, o) ∈ L) (hd0 : ad 24 o = h + 0) (hf0 : (24, o) ∉ L) (σ0 : gS) (hf : f_X5_init ad σ o a1 a2 a3 a4 = some σ0) : g_MA l yX5_init cX5_init 5 ({ frames := 1, cells := 1, slots := 200, locals := 23 } : Room) D cy A ad L σ h [.ref (ad 105 o), .int a1, .int a2, .int a3, .int a4] (L ++ [(24, o)]) σ0 1 200 := by
  refine g_metH (by decide) (Nat.le_of_ble_eq_true rfl) (fun p e s m below meth c C hr hlocks hnm hs G ls hl => ?_)
  have hl : lv_has ls 5 [(0, .ref (ad 105 o)), (1, .int a1), (2, .int a2), (3, .int a3), (4, .int a4)] := hl
  unfold f_X5_init at hf
  refine lv_aload_n C.x C.b dX5_init_0 rfl (lv_at hl 0 rfl) ?_
  refine g_objI C tw349 tw78 tw79 hl.1 dX5_init_1 (by decide) (by decide) ?_
  refine lv_aload_n C.x C.b dX5_init_4 rfl (lv_at hl 0 rfl) ?_
  refine lv_sipush (v := (200 : Int32)) C.x C.b dX5_init_5 (by decide) ?_
  refine g_size (fun hle => ?_)
  have hsz := g_sz0 G hs hle
  refine g_newa (atype := .byte) (ty := .byte) (N := 200) C G 24 o (t := 0) ⟨by decide, rfl, by decide⟩ ⟨rfl, rfl⟩ rfl (fun _ => rfl) tw283 (by decide) (by decide) rfl (by decide) (by simp [hf0]) (hd0.trans hsz.symm) (Nat.le_of_ble_eq_true rfl) (Nat.le_of_ble_eq_true rfl) dX5_init_8 (fun H G => ?_)
  have G : g_H D cy A ad (L ++ [(24, o)]) _ s.heap _ _ := G
  obtain ⟨σ1, eσ1, hf⟩ := g_lt hf
  rw [← eσ1] at G
  refine g_mput C G 5 o 2 (0 : Int32) (g_ml hT) rfl ginX5 tyX5_ok nmX5 (by decide) (g_vcr (K' := 24) (by decide)) ⟨rfl, rfl⟩ hnm rfl tw355 dX5_init_10 (fun H locs G => ?_)
  obtain ⟨σ2, eσ2, hf⟩ := g_lt hf
  rw [← eσ2] at G
  refine lv_aload_n C.x C.b dX5_init_13 rfl (lv_at hl 0 rfl) ?_
  refine lv_sipush (v := (200 : Int32)) C.x C.b dX5_init_14 (by decide) ?_
  refine g_mput C G 5 o 5 (200 : Int32) (g_ml hT) rfl ginX5 tyX5_ok nmX5 (by decide) (g_vci (by decide)) ⟨rfl, rfl⟩ hnm rfl tw368 dX5_init_17 (fun H locs G => ?_)
  obtain ⟨σ3, eσ3, hf⟩ := g_lt hf
  rw [← eσ3] at G
  refine lv_aload_n C.x C.b dX5_init_20 rfl (lv_at hl 0 rfl) ?_
  refine lv_iconst (v := (0 : Int32)) C.x C.b dX5_init_21 (by decide) ?_
  refine g_mput C G 5 o 6 (0 : Int32) (g_ml hT) rfl ginX5 tyX5_ok nmX5 (by decide) (g_vci (by decide)) ⟨rfl, rfl⟩ hnm rfl tw372 dX5_init_22 (fun H locs G => ?_)
  obtain ⟨σ4, eσ4, hf⟩ := g_lt hf
  rw [← eσ4] at G
  refine lv_aload_n C.x C.b dX5_init_25 rfl (lv_at hl 0 rfl) ?_
  refine lv_iconst (v := (-1 : Int32)) C.x C.b dX5_init_26 (by decide) ?_
  refine g_mput C G 5 o 7 (-1 : Int32) (g_ml hT) rfl ginX5 tyX5_ok nmX5 (by decide) (g_vci (by decide)) ⟨rfl, rfl⟩ hnm rfl tw375 dX5_init_27 (fun H locs G => ?_)
  obtain ⟨σ5, eσ5, hf⟩ := g_lt hf
  rw [← eσ5] at G
  refine lv_aload_n C.x C.b dX5_init_30 rfl (lv_at hl 0 rfl) ?_
  refine lv_iconst (v := (0 : Int32)) C.x C.b dX5_init_31 (by decide) ?_
  refine g_mput C G 5 o 8 (0 : Int32) (g_ml hT) rfl ginX5 tyX5_ok nmX5 (by decide) (g_vci (by decide)) ⟨rfl, rfl⟩ hnm rfl tw378 dX5_init_32 (fun H locs G => ?_)
  obtain ⟨σ6, eσ6, hf⟩ := g_lt hf
  rw [← eσ6] at G
  refine lv_aload_n C.x C.b dX5_init_35 rfl (lv_at hl 0 rfl) ?_
  refine lv_iload_n C.x C.b dX5_init_36 rfl (lv_at hl 1 rfl) ?_
  refine g_mput C G 5 o 0 a1 (g_ml hT) rfl ginX5 tyX5_ok nmX5 (by decide) (g_vci (by decide)) ⟨rfl, rfl⟩ hnm rfl tw351 dX5_init_37 (fun H locs G => ?_)
  obtain ⟨σ7, eσ7, hf⟩ := g_lt hf
  rw [← eσ7] at G
  refine lv_aload_n C.x C.b dX5_init_40 rfl (lv_at hl 0 rfl) ?_
  refine lv_iload_n C.x C.b dX5_init_41 rfl (lv_at hl 2 rfl) ?_
  refine g_mput C G 5 o 3 a2 (g_ml hT) rfl ginX5 tyX5_ok nmX5 (by decide) (g_vci (by decide)) ⟨rfl, rfl⟩ hnm rfl tw359 dX5_init_42 (fun H locs G => ?_)
  obtain ⟨σ8, eσ8, hf⟩ := g_lt hf
  rw [← eσ8] at G
  refine lv_aload_n C.x C.b dX5_init_45 rfl (lv_at hl 0 rfl) ?_
  refine lv_iload_n C.x C.b dX5_init_46 rfl (lv_at hl 3 rfl) ?_
  refine g_mput C G 5 o 4 a3 (g_ml hT) rfl ginX5 tyX5_ok nmX5 (by decide) (g_vci (by decide)) ⟨rfl, rfl⟩ hnm rfl tw364 dX5_init_47 (fun H locs G => ?_)
  obtain ⟨σ9, eσ9, hf⟩ := g_lt hf
  rw [← eσ9] at G
  refine lv_aload_n C.x C.b dX5_init_50 rfl (lv_at hl 0 rfl) ?_
  refine lv_iload C.x C.b dX5_init_51 (lv_at hl 4 rfl) ?_
  refine g_mput C G 5 o 1 a4 (g_ml hT) rfl ginX5 tyX5_ok nmX5 (by decide) (g_vci (by decide)) ⟨rfl, rfl⟩ hnm rfl tw353 dX5_init_53 (fun H locs G => ?_)
  obtain ⟨σ10, eσ10, hf⟩ := g_lt hf
  rw [← eσ10] at G
  refine lv_aload_n C.x C.b dX5_init_56 rfl (lv_at hl 0 rfl) ?_
  obtain ⟨hq11, hf⟩ := g_okn hf
  refine g_mget C G 5 o 2 (g_ml hT) rfl ginX5 (by decide) (g_vcgr (K' := 24) (by decide) hq11) tw355 dX5_init_57 ?_
  refine lv_iconst (v := (-1 : Int32)) C.x C.b dX5_init_60 (by decide) ?_
  obtain ⟨σ12, eσ12, hf⟩ := g_b hf
  refine g_callv G (g_runS (As := [.ref (ad 24 o), .int (-1 : Int32)]) (rest := []) C G (c_J7_fill_031fb l D cy A ad (L ++ [(24, o)]) σ10 24 o 200 (by simp) (by decide) rfl (-1 : Int32) σ12 eσ12) ⟨tw312, tw62, tw350, tw311, hd_J7_fill_031fb⟩ (by decide) hl.1 rfl (Nat.le_of_ble_eq_true rfl) dX5_init_61 ⟨Nat.le_of_ble_eq_true rfl, Nat.le_of_ble_eq_true rfl⟩) (fun H locs G => ?_)
  refine W.widen (k := 1) (n := 200) (Nat.le_of_ble_eq_true rfl) (Nat.le_of_ble_eq_true rfl) ?_
  exact g_evi C G hr hlocks hf dX5_init_64
def f_X4_init (ad : gA) (σ : gS) : Option gS := (some σ)
theorem hd_X4_init : yX4_init.cls ≠ "java/lang/invoke/MethodHandle" ∧ yX4_init.cls ≠ "java/lang/invoke/VarHandle" ∧ (parseMethodDescriptor yX4_init.desc).map (fun d => d.parameters.length) = some 0 := by decide +kernel
set_option maxHeartbeats 40000000 in
set_option maxRecDepth 100000 in
theorem c_X4_init (l : Launch) (D : va_G) (cy : Nat → ClassId) (A : Nat → Prop) (ad : gA) (L : gL) (σ : gS) (h : Nat)  (hT : (104, 0) ∈ L)  (σ0 : gS) (hf : f_X4_init ad σ = some σ0) : g_MA l yX4_init cX4_init 1 ({ frames := 1, cells := 0, slots := 0, locals := 12 } : Room) D cy A ad L σ h [.ref (ad 104 0)] L σ0 0 0 := by
  refine g_metH (by decide) (Nat.le_of_ble_eq_true rfl) (fun p e s m below meth c C hr hlocks hnm hs G ls hl => ?_)
  have hl : lv_has ls 1 [(0, .ref (ad 104 0))] := hl
  unfold f_X4_init at hf
  refine lv_aload_n C.x C.b dX4_init_0 rfl (lv_at hl 0 rfl) ?_
  refine g_objI C tw97 tw78 tw79 hl.1 dX4_init_1 (by decide) (by decide) ?_
  refine W.widen (k := 0) (n := 0) (Nat.le_of_ble_eq_true rfl) (Nat.le_of_ble_eq_true rfl) ?_
  exact g_evi C G hr hlocks hf dX4_init_4
def f_X6_init (ad : gA) (σ : gS) : Option gS := (g_let (g_row σ 25 0 (fun _ => -1)) fun σ1 => (g_let (g_up σ1 106 0 0 (0 : Int32)) fun σ2 => (g_let (g_row σ2 26 0 (fun _ => -1)) fun σ3 => (g_let (g_up σ3 106 0 1 (0 : Int32)) fun σ4 => (g_let (g_row σ4 27 0 (fun _ => -1)) fun σ5 => (g_let (g_up σ5 106 0 2 (0 : Int32)) fun σ6 => (g_let (g_up σ6 106 0 3 (0 : Int32)) fun σ7 => (g_let (g_up σ7 106 0 4 (0 : Int32)) fun σ8 => (g_let (g_up σ8 106 0 5 (0 : Int32)) fun σ9 => (g_let (g_up σ9 106 0 6 (0 : Int32)) fun σ10 => (g_let (g_up σ10 106 0 7 (0 : Int32)) fun σ11 => (g_let (g_row σ11 104 0 (g_z 4)) fun σ12 => ((f_X4_init ad σ12).bind fun σ13 => (if g_allset 4 (σ13 104 0) = true then (g_let (g_row σ13 4 0 (σ13 104 0)) fun σ15 => (g_let (g_up σ15 106 0 8 (0 : Int32)) fun σ16 => (some σ16))) else none))))))))))))))
theorem hd_X6_init : yX6_init.cls ≠ "java/lang/invoke/MethodHandle" ∧ yX6_init.cls ≠ "java/lang/invoke/VarHandle" ∧ (parseMethodDescriptor yX6_init.desc).map (fun d => d.parameters.length) = some 0 := by decide +kernel
set_option maxHeartbeats 40000000 in
set_option maxRecDepth 100000 in
theorem c_X6_init (l : Launch) (D : va_G) (cy : Nat → ClassId) (A : Nat → Prop) (ad : gA) (L : gL) (σ : gS) (h : Nat)  (hT : (106, 0) ∈ L) (hd0 : ad 25 0 = h + 0) (hd1 : ad 26 0 = h + 1) (hd2 : ad 27 0 = h + 2) (hd3 : ad 104 0 = h + 3) (hf0 : (25, 0) ∉ L) (hf1 : (26, 0) ∉ L) (hf2 : (27, 0) ∉ L) (hf3 : (104, 0) ∉ L) (hf4 : (4, 0) ∉ L) (hc0 : ad 4 0 = ad 104 0) (σ0 : gS) (hf : f_X6_init ad σ = some σ0) : g_MA l yX6_init cX6_init 1 ({ frames := 2, cells := 4, slots := 56, locals := 32 } : Room) D cy A ad L σ h [.ref (ad 106 0)] (L ++ [(25, 0), (26, 0), (27, 0), (4, 0)]) σ0 4 56 := by
  refine g_metH (by decide) (Nat.le_of_ble_eq_true rfl) (fun p e s m below meth c C hr hlocks hnm hs G ls hl => ?_)
  have hl : lv_has ls 1 [(0, .ref (ad 106 0))] := hl
  unfold f_X6_init at hf
  refine lv_aload_n C.x C.b dX6_init_0 rfl (lv_at hl 0 rfl) ?_
  refine g_objI C tw85 tw78 tw79 hl.1 dX6_init_1 (by decide) (by decide) ?_
  refine lv_aload_n C.x C.b dX6_init_4 rfl (lv_at hl 0 rfl) ?_
  refine lv_bipush (v := (8 : Int32)) C.x C.b dX6_init_5 (by decide) ?_
  refine g_size (fun hle => ?_)
  have hsz := g_sz0 G hs hle
  refine g_newq (N := 8) C G 25 0 (t := 4) ⟨by decide, rfl, by decide, by decide⟩ rfl tw86 C.2.1.2.2.2.1 (by decide) (by decide) rfl (by decide) (by simp [hf0, hf1, hf2, hf3, hf4]) (hd0.trans hsz.symm) (Nat.le_of_ble_eq_true rfl) (Nat.le_of_ble_eq_true rfl) dX6_init_7 (fun H G => ?_)
  have G : g_H D cy A ad (L ++ [(25, 0)]) _ s.heap _ _ := G
  obtain ⟨σ1, eσ1, hf⟩ := g_lt hf
  rw [← eσ1] at G
  refine g_mput C G 6 0 0 (0 : Int32) (g_ml hT) rfl ginX6 tyX6_ok nmX6 (by decide) (g_vcr (K' := 25) (by decide)) ⟨rfl, rfl⟩ hnm rfl tw115 dX6_init_10 (fun H locs G => ?_)
  obtain ⟨σ2, eσ2, hf⟩ := g_lt hf
  rw [← eσ2] at G
  refine lv_aload_n C.x C.b dX6_init_13 rfl (lv_at hl 0 rfl) ?_
  refine lv_bipush (v := (24 : Int32)) C.x C.b dX6_init_14 (by decide) ?_
  refine g_size (fun hle => ?_)
  have hsz := g_szk (k := 0) (K := 25) (i := 0) G (by simp) hs hd0 hle
  refine g_newq (N := 24) C G 26 0 (t := 5) ⟨by decide, rfl, by decide, by decide⟩ rfl tw88 C.2.1.2.2.2.2.1 (by decide) (by decide) rfl (by decide) (by simp [hf0, hf1, hf2, hf3, hf4]) (hd1.trans hsz.symm) (Nat.le_of_ble_eq_true rfl) (Nat.le_of_ble_eq_true rfl) dX6_init_16 (fun H G => ?_)
  rw [List.append_assoc] at G
  have G : g_H D cy A ad (L ++ [(25, 0), (26, 0)]) _ s.heap _ _ := G
  obtain ⟨σ3, eσ3, hf⟩ := g_lt hf
  rw [← eσ3] at G
  refine g_mput C G 6 0 1 (0 : Int32) (g_ml hT) rfl ginX6 tyX6_ok nmX6 (by decide) (g_vcr (K' := 26) (by decide)) ⟨rfl, rfl⟩ hnm rfl tw118 dX6_init_19 (fun H locs G => ?_)
  obtain ⟨σ4, eσ4, hf⟩ := g_lt hf
  rw [← eσ4] at G
  refine lv_aload_n C.x C.b dX6_init_22 rfl (lv_at hl 0 rfl) ?_
  refine lv_bipush (v := (20 : Int32)) C.x C.b dX6_init_23 (by decide) ?_
  refine g_size (fun hle => ?_)
  have hsz := g_szk (k := 1) (K := 26) (i := 0) G (by simp) hs hd1 hle
  refine g_newq (N := 20) C G 27 0 (t := 3) ⟨by decide, rfl, by decide, by decide⟩ rfl tw90 C.2.1.2.2.1 (by decide) (by decide) rfl (by decide) (by simp [hf0, hf1, hf2, hf3, hf4]) (hd2.trans hsz.symm) (Nat.le_of_ble_eq_true rfl) (Nat.le_of_ble_eq_true rfl) dX6_init_25 (fun H G => ?_)
  rw [List.append_assoc] at G
  have G : g_H D cy A ad (L ++ [(25, 0), (26, 0), (27, 0)]) _ s.heap _ _ := G
  obtain ⟨σ5, eσ5, hf⟩ := g_lt hf
  rw [← eσ5] at G
  refine g_mput C G 6 0 2 (0 : Int32) (g_ml hT) rfl ginX6 tyX6_ok nmX6 (by decide) (g_vcr (K' := 27) (by decide)) ⟨rfl, rfl⟩ hnm rfl tw121 dX6_init_28 (fun H locs G => ?_)
  obtain ⟨σ6, eσ6, hf⟩ := g_lt hf
  rw [← eσ6] at G
  refine lv_aload_n C.x C.b dX6_init_31 rfl (lv_at hl 0 rfl) ?_
  refine lv_iconst (v := (0 : Int32)) C.x C.b dX6_init_32 (by decide) ?_
  refine g_mput C G 6 0 3 (0 : Int32) (g_ml hT) rfl ginX6 tyX6_ok nmX6 (by decide) (g_vci (by decide)) ⟨rfl, rfl⟩ hnm rfl tw123 dX6_init_33 (fun H locs G => ?_)
  obtain ⟨σ7, eσ7, hf⟩ := g_lt hf
  rw [← eσ7] at G
  refine lv_aload_n C.x C.b dX6_init_36 rfl (lv_at hl 0 rfl) ?_
  refine lv_iconst (v := (0 : Int32)) C.x C.b dX6_init_37 (by decide) ?_
  refine g_mput C G 6 0 4 (0 : Int32) (g_ml hT) rfl ginX6 tyX6_ok nmX6 (by decide) (g_vci (by decide)) ⟨rfl, rfl⟩ hnm rfl tw126 dX6_init_38 (fun H locs G => ?_)
  obtain ⟨σ8, eσ8, hf⟩ := g_lt hf
  rw [← eσ8] at G
  refine lv_aload_n C.x C.b dX6_init_41 rfl (lv_at hl 0 rfl) ?_
  refine lv_iconst (v := (0 : Int32)) C.x C.b dX6_init_42 (by decide) ?_
  refine g_mput C G 6 0 5 (0 : Int32) (g_ml hT) rfl ginX6 tyX6_ok nmX6 (by decide) (g_vci (by decide)) ⟨rfl, rfl⟩ hnm rfl tw129 dX6_init_43 (fun H locs G => ?_)
  obtain ⟨σ9, eσ9, hf⟩ := g_lt hf
  rw [← eσ9] at G
  refine lv_aload_n C.x C.b dX6_init_46 rfl (lv_at hl 0 rfl) ?_
  refine lv_iconst (v := (0 : Int32)) C.x C.b dX6_init_47 (by decide) ?_
  refine g_mput C G 6 0 6 (0 : Int32) (g_ml hT) rfl ginX6 tyX6_ok nmX6 (by decide) (g_vci (by decide)) ⟨rfl, rfl⟩ hnm rfl tw131 dX6_init_48 (fun H locs G => ?_)
  obtain ⟨σ10, eσ10, hf⟩ := g_lt hf
  rw [← eσ10] at G
  refine lv_aload_n C.x C.b dX6_init_51 rfl (lv_at hl 0 rfl) ?_
  refine lv_iconst (v := (0 : Int32)) C.x C.b dX6_init_52 (by decide) ?_
  refine g_mput C G 6 0 7 (0 : Int32) (g_ml hT) rfl ginX6 tyX6_ok nmX6 (by decide) (g_vci (by decide)) ⟨rfl, rfl⟩ hnm rfl tw133 dX6_init_53 (fun H locs G => ?_)
  obtain ⟨σ11, eσ11, hf⟩ := g_lt hf
  rw [← eσ11] at G
  refine lv_aload_n C.x C.b dX6_init_56 rfl (lv_at hl 0 rfl) ?_
  refine g_size (fun hle => ?_)
  have hsz := g_szk (k := 2) (K := 27) (i := 0) G (by simp) hs hd2 hle
  refine g_new C G 4 0 rfl ginX4 tyX4_ok (by decide) (gz_X4 ad 0) tw92 tw93 tw56 (by simp [hf0, hf1, hf2, hf3, hf4]) (hd3.trans hsz.symm) (Nat.le_of_ble_eq_true rfl) (Nat.le_of_ble_eq_true rfl) dX6_init_57 (fun H G => ?_)
  rw [List.append_assoc] at G
  have G : g_H D cy A ad (L ++ [(25, 0), (26, 0), (27, 0), (104, 0)]) _ s.heap _ _ := G
  obtain ⟨σ12, eσ12, hf⟩ := g_lt hf
  rw [← eσ12] at G
  refine lv_dup C.x C.b dX6_init_60 rfl ?_
  refine g_size (fun hle => ?_)
  have hsz := g_szk (k := 3) (K := 104) (i := 0) G (by simp) hs hd3 hle
  obtain ⟨σ13, eσ13, hf⟩ := g_b hf
  refine g_callA G (g_runJ (As := []) (rest := [.ref (ad 104 0), .ref (ad 106 0)]) C G (ad 104 0) (c_X4_init l D cy A ad (L ++ [(25, 0), (26, 0), (27, 0), (104, 0)]) σ12 (h + 4) (by simp) σ13 eσ13) ⟨tw96, tw56, List.mem_of_getElem? (i := 1) rfl, ⟨rfl, tw95⟩, hd_X4_init⟩ (by decide) hsz hl.1 rfl (Nat.le_of_ble_eq_true rfl) dX6_init_61 ⟨Nat.le_of_ble_eq_true rfl, Nat.le_of_ble_eq_true rfl⟩) (fun H locs G => ?_)
  have G : g_H D cy A ad (L ++ [(25, 0), (26, 0), (27, 0), (104, 0)]) _ s.heap _ _ := G
  obtain ⟨hcv, hf⟩ := g_ok hf
  rw [show (L ++ [(25, 0), (26, 0), (27, 0), (104, 0)]) = (L ++ [(25, 0), (26, 0), (27, 0)]) ++ ((104, 0) :: []) from by simp] at G
  refine g_convW (k := 4) (i := 0) (L1 := (L ++ [(25, 0), (26, 0), (27, 0)])) (L2 := []) G (by decide) hc0 (by simp [hf0, hf1, hf2, hf3, hf4]) (g_allset_ok hcv) (fun h => absurd h (by decide)) ?_ (fun G => ?_)
  · intro j hj h2; have hj : j < 4 := hj; rcases (show j = 0 ∨ j = 1 ∨ j = 2 ∨ j = 3 by omega) with rfl | rfl | rfl | rfl <;> first | (exact absurd h2 (by decide)) | simp [g_tg, g_tgs]
  rw [List.append_assoc] at G
  have G : g_H D cy A ad (L ++ [(25, 0), (26, 0), (27, 0), (4, 0)]) _ s.heap _ _ := G
  obtain ⟨σ15, eσ15, hf⟩ := g_lt hf
  rw [← eσ15] at G
  refine W.eq (g2 := F0 m 64 ls [.ref (ad 4 0), .ref (ad 106 0)]) (by rw [hc0]) ?_
  refine g_mput C G 6 0 8 (0 : Int32) (g_ml hT) rfl ginX6 tyX6_ok nmX6 (by decide) (g_vcr (K' := 4) (by decide)) ⟨rfl, rfl⟩ hnm rfl tw135 dX6_init_64 (fun H locs G => ?_)
  obtain ⟨σ16, eσ16, hf⟩ := g_lt hf
  rw [← eσ16] at G
  refine W.widen (k := 4) (n := 56) (Nat.le_of_ble_eq_true rfl) (Nat.le_of_ble_eq_true rfl) ?_
  exact g_evi C G hr hlocks hf dX6_init_67
def f_X7_init (ad : gA) (σ : gS) (o : Nat) : Option gS := (g_let (g_up σ 107 o 0 (0 : Int32)) fun σ1 => (g_let (g_up σ1 107 o 1 (-1 : Int32)) fun σ2 => (g_let (g_up σ2 107 o 2 (0 : Int32)) fun σ3 => (g_let (g_row σ3 28 o (fun _ => 0)) fun σ4 => (g_let (g_up σ4 107 o 3 (0 : Int32)) fun σ5 => (g_let (g_row σ5 29 o (fun _ => 0)) fun σ6 => (g_let (g_up σ6 107 o 4 (0 : Int32)) fun σ7 => (some σ7))))))))
theorem hd_X7_init : yX7_init.cls ≠ "java/lang/invoke/MethodHandle" ∧ yX7_init.cls ≠ "java/lang/invoke/VarHandle" ∧ (parseMethodDescriptor yX7_init.desc).map (fun d => d.parameters.length) = some 0 := by decide +kernel
set_option maxHeartbeats 40000000 in
set_option maxRecDepth 100000 in
theorem c_X7_init (l : Launch) (D : va_G) (cy : Nat → ClassId) (A : Nat → Prop) (ad : gA) (L : gL) (σ : gS) (h : Nat) (o : Nat) (hT : (107, o) ∈ L) (hd0 : ad 28 o = h + 0) (hd1 : ad 29 o = h + 1) (hf0 : (28, o) ∉ L) (hf1 : (29, o) ∉ L) (σ0 : gS) (hf : f_X7_init ad σ o = some σ0) : g_MA l yX7_init cX7_init 1 ({ frames := 1, cells := 2, slots := 260, locals := 12 } : Room) D cy A ad L σ h [.ref (ad 107 o)] (L ++ [(28, o), (29, o)]) σ0 2 260 := by
  refine g_metH (by decide) (Nat.le_of_ble_eq_true rfl) (fun p e s m below meth c C hr hlocks hnm hs G ls hl => ?_)
  have hl : lv_has ls 1 [(0, .ref (ad 107 o))] := hl
  unfold f_X7_init at hf
  refine lv_aload_n C.x C.b dX7_init_0 rfl (lv_at hl 0 rfl) ?_
  refine g_objI C tw263 tw78 tw79 hl.1 dX7_init_1 (by decide) (by decide) ?_
  refine lv_aload_n C.x C.b dX7_init_4 rfl (lv_at hl 0 rfl) ?_
  refine lv_iconst (v := (0 : Int32)) C.x C.b dX7_init_5 (by decide) ?_
  refine g_mput C G 7 o 0 (0 : Int32) hT rfl ginX7 tyX7_ok nmX7 (by decide) (g_vci (by decide)) ⟨rfl, rfl⟩ hnm rfl tw264 dX7_init_6 (fun H locs G => ?_)
  obtain ⟨σ1, eσ1, hf⟩ := g_lt hf
  rw [← eσ1] at G
  refine lv_aload_n C.x C.b dX7_init_9 rfl (lv_at hl 0 rfl) ?_
  refine lv_null C.x C.b dX7_init_10 ?_
  refine g_mput C G 7 o 1 (-1 : Int32) hT rfl ginX7 tyX7_ok nmX7 (by decide) (g_vcn (by decide)) ⟨rfl, rfl⟩ hnm rfl tw266 dX7_init_11 (fun H locs G => ?_)
  obtain ⟨σ2, eσ2, hf⟩ := g_lt hf
  rw [← eσ2] at G
  refine lv_aload_n C.x C.b dX7_init_14 rfl (lv_at hl 0 rfl) ?_
  refine lv_iconst (v := (0 : Int32)) C.x C.b dX7_init_15 (by decide) ?_
  refine g_mput C G 7 o 2 (0 : Int32) hT rfl ginX7 tyX7_ok nmX7 (by decide) (g_vci (by decide)) ⟨rfl, rfl⟩ hnm rfl tw268 dX7_init_16 (fun H locs G => ?_)
  obtain ⟨σ3, eσ3, hf⟩ := g_lt hf
  rw [← eσ3] at G
  refine lv_aload_n C.x C.b dX7_init_19 rfl (lv_at hl 0 rfl) ?_
  refine lv_sipush (v := (200 : Int32)) C.x C.b dX7_init_20 (by decide) ?_
  refine g_size (fun hle => ?_)
  have hsz := g_sz0 G hs hle
  refine g_newa (atype := .byte) (ty := .byte) (N := 200) C G 28 o (t := 0) ⟨by decide, rfl, by decide⟩ ⟨rfl, rfl⟩ rfl (fun _ => rfl) tw283 (by decide) (by decide) rfl (by decide) (by simp [hf0, hf1]) (hd0.trans hsz.symm) (Nat.le_of_ble_eq_true rfl) (Nat.le_of_ble_eq_true rfl) dX7_init_23 (fun H G => ?_)
  have G : g_H D cy A ad (L ++ [(28, o)]) _ s.heap _ _ := G
  obtain ⟨σ4, eσ4, hf⟩ := g_lt hf
  rw [← eσ4] at G
  refine g_mput C G 7 o 3 (0 : Int32) (g_ml hT) rfl ginX7 tyX7_ok nmX7 (by decide) (g_vcr (K' := 28) (by decide)) ⟨rfl, rfl⟩ hnm rfl tw270 dX7_init_25 (fun H locs G => ?_)
  obtain ⟨σ5, eσ5, hf⟩ := g_lt hf
  rw [← eσ5] at G
  refine lv_aload_n C.x C.b dX7_init_28 rfl (lv_at hl 0 rfl) ?_
  refine lv_bipush (v := (60 : Int32)) C.x C.b dX7_init_29 (by decide) ?_
  refine g_size (fun hle => ?_)
  have hsz := g_szk (k := 0) (K := 28) (i := o) G (by simp) hs hd0 hle
  refine g_newa (atype := .int) (ty := .int) (N := 60) C G 29 o (t := 1) ⟨by decide, rfl, by decide⟩ ⟨rfl, rfl⟩ rfl (fun _ => rfl) tw211 (by decide) (by decide) rfl (by decide) (by simp [hf0, hf1]) (hd1.trans hsz.symm) (Nat.le_of_ble_eq_true rfl) (Nat.le_of_ble_eq_true rfl) dX7_init_31 (fun H G => ?_)
  rw [List.append_assoc] at G
  have G : g_H D cy A ad (L ++ [(28, o), (29, o)]) _ s.heap _ _ := G
  obtain ⟨σ6, eσ6, hf⟩ := g_lt hf
  rw [← eσ6] at G
  refine g_mput C G 7 o 4 (0 : Int32) (g_ml hT) rfl ginX7 tyX7_ok nmX7 (by decide) (g_vcr (K' := 29) (by decide)) ⟨rfl, rfl⟩ hnm rfl tw271 dX7_init_33 (fun H locs G => ?_)
  obtain ⟨σ7, eσ7, hf⟩ := g_lt hf
  rw [← eσ7] at G
  refine W.widen (k := 2) (n := 260) (Nat.le_of_ble_eq_true rfl) (Nat.le_of_ble_eq_true rfl) ?_
  exact g_evi C G hr hlocks hf dX7_init_36
def f_X1_init (ad : gA) (σ : gS) : Option gS := (g_let (g_row σ 17 0 (fun _ => 0)) fun σ1 => (g_let (g_up σ1 101 0 9 (0 : Int32)) fun σ2 => (g_let (g_row σ2 18 0 (fun _ => 0)) fun σ3 => (g_let (g_up σ3 101 0 10 (0 : Int32)) fun σ4 => (g_let (g_row σ4 19 0 (fun _ => 0)) fun σ5 => (g_let (g_up σ5 101 0 11 (0 : Int32)) fun σ6 => (g_let (g_row σ6 20 0 (fun _ => 0)) fun σ7 => (g_let (g_up σ7 101 0 12 (0 : Int32)) fun σ8 => (g_let (g_row σ8 21 0 (fun _ => 0)) fun σ9 => (g_let (g_up σ9 101 0 13 (0 : Int32)) fun σ10 => (g_let (g_row σ10 22 0 (fun _ => 0)) fun σ11 => (g_let (g_up σ11 101 0 14 (0 : Int32)) fun σ12 => (some σ12)))))))))))))
theorem hd_X1_init : yX1_init.cls ≠ "java/lang/invoke/MethodHandle" ∧ yX1_init.cls ≠ "java/lang/invoke/VarHandle" ∧ (parseMethodDescriptor yX1_init.desc).map (fun d => d.parameters.length) = some 0 := by decide +kernel
set_option maxHeartbeats 40000000 in
set_option maxRecDepth 100000 in
theorem c_X1_init (l : Launch) (D : va_G) (cy : Nat → ClassId) (A : Nat → Prop) (ad : gA) (L : gL) (σ : gS) (h : Nat)  (hT : (101, 0) ∈ L) (hd0 : ad 17 0 = h + 0) (hd1 : ad 18 0 = h + 1) (hd2 : ad 19 0 = h + 2) (hd3 : ad 20 0 = h + 3) (hd4 : ad 21 0 = h + 4) (hd5 : ad 22 0 = h + 5) (hf0 : (17, 0) ∉ L) (hf1 : (18, 0) ∉ L) (hf2 : (19, 0) ∉ L) (hf3 : (20, 0) ∉ L) (hf4 : (21, 0) ∉ L) (hf5 : (22, 0) ∉ L) (σ0 : gS) (hf : f_X1_init ad σ = some σ0) : g_MA l yX1_init cX1_init 1 ({ frames := 1, cells := 6, slots := 96, locals := 12 } : Room) D cy A ad L σ h [.ref (ad 101 0)] (L ++ [(17, 0), (18, 0), (19, 0), (20, 0), (21, 0), (22, 0)]) σ0 6 96 := by
  refine g_metH (by decide) (Nat.le_of_ble_eq_true rfl) (fun p e s m below meth c C hr hlocks hnm hs G ls hl => ?_)
  have hl : lv_has ls 1 [(0, .ref (ad 101 0))] := hl
  unfold f_X1_init at hf
  refine lv_aload_n C.x C.b dX1_init_0 rfl (lv_at hl 0 rfl) ?_
  refine g_objI C tw160 tw78 tw79 hl.1 dX1_init_1 (by decide) (by decide) ?_
  refine lv_aload_n C.x C.b dX1_init_4 rfl (lv_at hl 0 rfl) ?_
  refine lv_bipush (v := (24 : Int32)) C.x C.b dX1_init_5 (by decide) ?_
  refine g_size (fun hle => ?_)
  have hsz := g_sz0 G hs hle
  refine g_newa (atype := .int) (ty := .int) (N := 24) C G 17 0 (t := 1) ⟨by decide, rfl, by decide⟩ ⟨rfl, rfl⟩ rfl (fun _ => rfl) tw211 (by decide) (by decide) rfl (by decide) (by simp [hf0, hf1, hf2, hf3, hf4, hf5]) (hd0.trans hsz.symm) (Nat.le_of_ble_eq_true rfl) (Nat.le_of_ble_eq_true rfl) dX1_init_7 (fun H G => ?_)
  have G : g_H D cy A ad (L ++ [(17, 0)]) _ s.heap _ _ := G
  obtain ⟨σ1, eσ1, hf⟩ := g_lt hf
  rw [← eσ1] at G
  refine g_mput C G 1 0 9 (0 : Int32) (g_ml hT) rfl ginX1 tyX1_ok nmX1 (by decide) (g_vcr (K' := 17) (by decide)) ⟨rfl, rfl⟩ hnm rfl tw174 dX1_init_9 (fun H locs G => ?_)
  obtain ⟨σ2, eσ2, hf⟩ := g_lt hf
  rw [← eσ2] at G
  refine lv_aload_n C.x C.b dX1_init_12 rfl (lv_at hl 0 rfl) ?_
  refine lv_bipush (v := (24 : Int32)) C.x C.b dX1_init_13 (by decide) ?_
  refine g_size (fun hle => ?_)
  have hsz := g_szk (k := 0) (K := 17) (i := 0) G (by simp) hs hd0 hle
  refine g_newa (atype := .int) (ty := .int) (N := 24) C G 18 0 (t := 1) ⟨by decide, rfl, by decide⟩ ⟨rfl, rfl⟩ rfl (fun _ => rfl) tw211 (by decide) (by decide) rfl (by decide) (by simp [hf0, hf1, hf2, hf3, hf4, hf5]) (hd1.trans hsz.symm) (Nat.le_of_ble_eq_true rfl) (Nat.le_of_ble_eq_true rfl) dX1_init_15 (fun H G => ?_)
  rw [List.append_assoc] at G
  have G : g_H D cy A ad (L ++ [(17, 0), (18, 0)]) _ s.heap _ _ := G
  obtain ⟨σ3, eσ3, hf⟩ := g_lt hf
  rw [← eσ3] at G
  refine g_mput C G 1 0 10 (0 : Int32) (g_ml hT) rfl ginX1 tyX1_ok nmX1 (by decide) (g_vcr (K' := 18) (by decide)) ⟨rfl, rfl⟩ hnm rfl tw175 dX1_init_17 (fun H locs G => ?_)
  obtain ⟨σ4, eσ4, hf⟩ := g_lt hf
  rw [← eσ4] at G
  refine lv_aload_n C.x C.b dX1_init_20 rfl (lv_at hl 0 rfl) ?_
  refine lv_bipush (v := (24 : Int32)) C.x C.b dX1_init_21 (by decide) ?_
  refine g_size (fun hle => ?_)
  have hsz := g_szk (k := 1) (K := 18) (i := 0) G (by simp) hs hd1 hle
  refine g_newa (atype := .int) (ty := .int) (N := 24) C G 19 0 (t := 1) ⟨by decide, rfl, by decide⟩ ⟨rfl, rfl⟩ rfl (fun _ => rfl) tw211 (by decide) (by decide) rfl (by decide) (by simp [hf0, hf1, hf2, hf3, hf4, hf5]) (hd2.trans hsz.symm) (Nat.le_of_ble_eq_true rfl) (Nat.le_of_ble_eq_true rfl) dX1_init_23 (fun H G => ?_)
  rw [List.append_assoc] at G
  have G : g_H D cy A ad (L ++ [(17, 0), (18, 0), (19, 0)]) _ s.heap _ _ := G
  obtain ⟨σ5, eσ5, hf⟩ := g_lt hf
  rw [← eσ5] at G
  refine g_mput C G 1 0 11 (0 : Int32) (g_ml hT) rfl ginX1 tyX1_ok nmX1 (by decide) (g_vcr (K' := 19) (by decide)) ⟨rfl, rfl⟩ hnm rfl tw176 dX1_init_25 (fun H locs G => ?_)
  obtain ⟨σ6, eσ6, hf⟩ := g_lt hf
  rw [← eσ6] at G
  refine lv_aload_n C.x C.b dX1_init_28 rfl (lv_at hl 0 rfl) ?_
  refine lv_bipush (v := (8 : Int32)) C.x C.b dX1_init_29 (by decide) ?_
  refine g_size (fun hle => ?_)
  have hsz := g_szk (k := 2) (K := 19) (i := 0) G (by simp) hs hd2 hle
  refine g_newa (atype := .int) (ty := .int) (N := 8) C G 20 0 (t := 1) ⟨by decide, rfl, by decide⟩ ⟨rfl, rfl⟩ rfl (fun _ => rfl) tw211 (by decide) (by decide) rfl (by decide) (by simp [hf0, hf1, hf2, hf3, hf4, hf5]) (hd3.trans hsz.symm) (Nat.le_of_ble_eq_true rfl) (Nat.le_of_ble_eq_true rfl) dX1_init_31 (fun H G => ?_)
  rw [List.append_assoc] at G
  have G : g_H D cy A ad (L ++ [(17, 0), (18, 0), (19, 0), (20, 0)]) _ s.heap _ _ := G
  obtain ⟨σ7, eσ7, hf⟩ := g_lt hf
  rw [← eσ7] at G
  refine g_mput C G 1 0 12 (0 : Int32) (g_ml hT) rfl ginX1 tyX1_ok nmX1 (by decide) (g_vcr (K' := 20) (by decide)) ⟨rfl, rfl⟩ hnm rfl tw177 dX1_init_33 (fun H locs G => ?_)
  obtain ⟨σ8, eσ8, hf⟩ := g_lt hf
  rw [← eσ8] at G
  refine lv_aload_n C.x C.b dX1_init_36 rfl (lv_at hl 0 rfl) ?_
  refine lv_bipush (v := (8 : Int32)) C.x C.b dX1_init_37 (by decide) ?_
  refine g_size (fun hle => ?_)
  have hsz := g_szk (k := 3) (K := 20) (i := 0) G (by simp) hs hd3 hle
  refine g_newa (atype := .boolean) (ty := .boolean) (N := 8) C G 21 0 (t := 2) ⟨by decide, rfl, by decide⟩ ⟨rfl, rfl⟩ rfl (fun _ => rfl) tw212 (by decide) (by decide) rfl (by decide) (by simp [hf0, hf1, hf2, hf3, hf4, hf5]) (hd4.trans hsz.symm) (Nat.le_of_ble_eq_true rfl) (Nat.le_of_ble_eq_true rfl) dX1_init_39 (fun H G => ?_)
  rw [List.append_assoc] at G
  have G : g_H D cy A ad (L ++ [(17, 0), (18, 0), (19, 0), (20, 0), (21, 0)]) _ s.heap _ _ := G
  obtain ⟨σ9, eσ9, hf⟩ := g_lt hf
  rw [← eσ9] at G
  refine g_mput C G 1 0 13 (0 : Int32) (g_ml hT) rfl ginX1 tyX1_ok nmX1 (by decide) (g_vcr (K' := 21) (by decide)) ⟨rfl, rfl⟩ hnm rfl tw178 dX1_init_41 (fun H locs G => ?_)
  obtain ⟨σ10, eσ10, hf⟩ := g_lt hf
  rw [← eσ10] at G
  refine lv_aload_n C.x C.b dX1_init_44 rfl (lv_at hl 0 rfl) ?_
  refine lv_bipush (v := (8 : Int32)) C.x C.b dX1_init_45 (by decide) ?_
  refine g_size (fun hle => ?_)
  have hsz := g_szk (k := 4) (K := 21) (i := 0) G (by simp) hs hd4 hle
  refine g_newa (atype := .int) (ty := .int) (N := 8) C G 22 0 (t := 1) ⟨by decide, rfl, by decide⟩ ⟨rfl, rfl⟩ rfl (fun _ => rfl) tw211 (by decide) (by decide) rfl (by decide) (by simp [hf0, hf1, hf2, hf3, hf4, hf5]) (hd5.trans hsz.symm) (Nat.le_of_ble_eq_true rfl) (Nat.le_of_ble_eq_true rfl) dX1_init_47 (fun H G => ?_)
  rw [List.append_assoc] at G
  have G : g_H D cy A ad (L ++ [(17, 0), (18, 0), (19, 0), (20, 0), (21, 0), (22, 0)]) _ s.heap _ _ := G
  obtain ⟨σ11, eσ11, hf⟩ := g_lt hf
  rw [← eσ11] at G
  refine g_mput C G 1 0 14 (0 : Int32) (g_ml hT) rfl ginX1 tyX1_ok nmX1 (by decide) (g_vcr (K' := 22) (by decide)) ⟨rfl, rfl⟩ hnm rfl tw179 dX1_init_49 (fun H locs G => ?_)
  obtain ⟨σ12, eσ12, hf⟩ := g_lt hf
  rw [← eσ12] at G
  refine W.widen (k := 6) (n := 96) (Nat.le_of_ble_eq_true rfl) (Nat.le_of_ble_eq_true rfl) ?_
  exact g_evi C G hr hlocks hf dX1_init_52
def f_X0_init (ad : gA) (σ : gS) : Option gS := (g_let (g_up σ 100 0 0 (2 : Int32)) fun σ1 => (g_let (g_up σ1 100 0 1 (1 : Int32)) fun σ2 => (g_let (g_up σ2 100 0 2 (0 : Int32)) fun σ3 => (g_let (g_row σ3 10 0 (fun _ => 0)) fun σ4 => (g_let (g_up σ4 100 0 3 (0 : Int32)) fun σ5 => (g_let (g_row σ5 11 0 (fun _ => 0)) fun σ6 => (g_let (g_up σ6 100 0 4 (0 : Int32)) fun σ7 => (g_let (g_up σ7 100 0 5 (0 : Int32)) fun σ8 => (g_let (g_row σ8 12 0 (fun _ => 0)) fun σ9 => (g_let (g_up σ9 100 0 6 (0 : Int32)) fun σ10 => (g_let (g_row σ10 13 0 (fun _ => 0)) fun σ11 => (g_let (g_up σ11 100 0 7 (0 : Int32)) fun σ12 => (g_let (g_row σ12 14 0 (fun _ => 0)) fun σ13 => (g_let (g_up σ13 100 0 8 (0 : Int32)) fun σ14 => (g_let (g_row σ14 15 0 (fun _ => 0)) fun σ15 => (g_let (g_up σ15 100 0 9 (0 : Int32)) fun σ16 => (g_let (g_row σ16 16 0 (fun _ => 0)) fun σ17 => (g_let (g_up σ17 100 0 10 (0 : Int32)) fun σ18 => (some σ18)))))))))))))))))))
theorem hd_X0_init : yX0_init.cls ≠ "java/lang/invoke/MethodHandle" ∧ yX0_init.cls ≠ "java/lang/invoke/VarHandle" ∧ (parseMethodDescriptor yX0_init.desc).map (fun d => d.parameters.length) = some 0 := by decide +kernel
set_option maxHeartbeats 40000000 in
set_option maxRecDepth 100000 in
theorem c_X0_init (l : Launch) (D : va_G) (cy : Nat → ClassId) (A : Nat → Prop) (ad : gA) (L : gL) (σ : gS) (h : Nat)  (hT : (100, 0) ∈ L) (hd0 : ad 10 0 = h + 0) (hd1 : ad 11 0 = h + 1) (hd2 : ad 12 0 = h + 2) (hd3 : ad 13 0 = h + 3) (hd4 : ad 14 0 = h + 4) (hd5 : ad 15 0 = h + 5) (hd6 : ad 16 0 = h + 6) (hf0 : (10, 0) ∉ L) (hf1 : (11, 0) ∉ L) (hf2 : (12, 0) ∉ L) (hf3 : (13, 0) ∉ L) (hf4 : (14, 0) ∉ L) (hf5 : (15, 0) ∉ L) (hf6 : (16, 0) ∉ L) (σ0 : gS) (hf : f_X0_init ad σ = some σ0) : g_MA l yX0_init cX0_init 1 ({ frames := 1, cells := 7, slots := 86, locals := 12 } : Room) D cy A ad L σ h [.ref (ad 100 0)] (L ++ [(10, 0), (11, 0), (12, 0), (13, 0), (14, 0), (15, 0), (16, 0)]) σ0 7 86 := by
  refine g_metH (by decide) (Nat.le_of_ble_eq_true rfl) (fun p e s m below meth c C hr hlocks hnm hs G ls hl => ?_)
  have hl : lv_has ls 1 [(0, .ref (ad 100 0))] := hl
  unfold f_X0_init at hf
  refine lv_aload_n C.x C.b dX0_init_0 rfl (lv_at hl 0 rfl) ?_
  refine g_objI C tw218 tw78 tw79 hl.1 dX0_init_1 (by decide) (by decide) ?_
  refine lv_aload_n C.x C.b dX0_init_4 rfl (lv_at hl 0 rfl) ?_
  refine lv_iconst (v := (2 : Int32)) C.x C.b dX0_init_5 (by decide) ?_
  refine g_mput C G 0 0 0 (2 : Int32) hT rfl ginX0 tyX0_ok nmX0 (by decide) (g_vci (by decide)) ⟨rfl, rfl⟩ hnm rfl tw219 dX0_init_6 (fun H locs G => ?_)
  obtain ⟨σ1, eσ1, hf⟩ := g_lt hf
  rw [← eσ1] at G
  refine lv_aload_n C.x C.b dX0_init_9 rfl (lv_at hl 0 rfl) ?_
  refine lv_iconst (v := (1 : Int32)) C.x C.b dX0_init_10 (by decide) ?_
  refine g_mput C G 0 0 1 (1 : Int32) hT rfl ginX0 tyX0_ok nmX0 (by decide) (g_vci (by decide)) ⟨rfl, rfl⟩ hnm rfl tw220 dX0_init_11 (fun H locs G => ?_)
  obtain ⟨σ2, eσ2, hf⟩ := g_lt hf
  rw [← eσ2] at G
  refine lv_aload_n C.x C.b dX0_init_14 rfl (lv_at hl 0 rfl) ?_
  refine lv_iconst (v := (0 : Int32)) C.x C.b dX0_init_15 (by decide) ?_
  refine g_mput C G 0 0 2 (0 : Int32) hT rfl ginX0 tyX0_ok nmX0 (by decide) (g_vci (by decide)) ⟨rfl, rfl⟩ hnm rfl tw222 dX0_init_16 (fun H locs G => ?_)
  obtain ⟨σ3, eσ3, hf⟩ := g_lt hf
  rw [← eσ3] at G
  refine lv_aload_n C.x C.b dX0_init_19 rfl (lv_at hl 0 rfl) ?_
  refine lv_iconst (v := (2 : Int32)) C.x C.b dX0_init_20 (by decide) ?_
  refine g_size (fun hle => ?_)
  have hsz := g_sz0 G hs hle
  refine g_newa (atype := .int) (ty := .int) (N := 2) C G 10 0 (t := 1) ⟨by decide, rfl, by decide⟩ ⟨rfl, rfl⟩ rfl (fun _ => rfl) tw211 (by decide) (by decide) rfl (by decide) (by simp [hf0, hf1, hf2, hf3, hf4, hf5, hf6]) (hd0.trans hsz.symm) (Nat.le_of_ble_eq_true rfl) (Nat.le_of_ble_eq_true rfl) dX0_init_21 (fun H G => ?_)
  have G : g_H D cy A ad (L ++ [(10, 0)]) _ s.heap _ _ := G
  obtain ⟨σ4, eσ4, hf⟩ := g_lt hf
  rw [← eσ4] at G
  refine g_mput C G 0 0 3 (0 : Int32) (g_ml hT) rfl ginX0 tyX0_ok nmX0 (by decide) (g_vcr (K' := 10) (by decide)) ⟨rfl, rfl⟩ hnm rfl tw224 dX0_init_23 (fun H locs G => ?_)
  obtain ⟨σ5, eσ5, hf⟩ := g_lt hf
  rw [← eσ5] at G
  refine lv_aload_n C.x C.b dX0_init_26 rfl (lv_at hl 0 rfl) ?_
  refine lv_iconst (v := (2 : Int32)) C.x C.b dX0_init_27 (by decide) ?_
  refine g_size (fun hle => ?_)
  have hsz := g_szk (k := 0) (K := 10) (i := 0) G (by simp) hs hd0 hle
  refine g_newa (atype := .int) (ty := .int) (N := 2) C G 11 0 (t := 1) ⟨by decide, rfl, by decide⟩ ⟨rfl, rfl⟩ rfl (fun _ => rfl) tw211 (by decide) (by decide) rfl (by decide) (by simp [hf0, hf1, hf2, hf3, hf4, hf5, hf6]) (hd1.trans hsz.symm) (Nat.le_of_ble_eq_true rfl) (Nat.le_of_ble_eq_true rfl) dX0_init_28 (fun H G => ?_)
  rw [List.append_assoc] at G
  have G : g_H D cy A ad (L ++ [(10, 0), (11, 0)]) _ s.heap _ _ := G
  obtain ⟨σ6, eσ6, hf⟩ := g_lt hf
  rw [← eσ6] at G
  refine g_mput C G 0 0 4 (0 : Int32) (g_ml hT) rfl ginX0 tyX0_ok nmX0 (by decide) (g_vcr (K' := 11) (by decide)) ⟨rfl, rfl⟩ hnm rfl tw226 dX0_init_30 (fun H locs G => ?_)
  obtain ⟨σ7, eσ7, hf⟩ := g_lt hf
  rw [← eσ7] at G
  refine lv_aload_n C.x C.b dX0_init_33 rfl (lv_at hl 0 rfl) ?_
  refine lv_iconst (v := (0 : Int32)) C.x C.b dX0_init_34 (by decide) ?_
  refine g_mput C G 0 0 5 (0 : Int32) (g_ml hT) rfl ginX0 tyX0_ok nmX0 (by decide) (g_vci (by decide)) ⟨rfl, rfl⟩ hnm rfl tw228 dX0_init_35 (fun H locs G => ?_)
  obtain ⟨σ8, eσ8, hf⟩ := g_lt hf
  rw [← eσ8] at G
  refine lv_aload_n C.x C.b dX0_init_38 rfl (lv_at hl 0 rfl) ?_
  refine lv_bipush (v := (35 : Int32)) C.x C.b dX0_init_39 (by decide) ?_
  refine g_size (fun hle => ?_)
  have hsz := g_szk (k := 1) (K := 11) (i := 0) G (by simp) hs hd1 hle
  refine g_newa (atype := .int) (ty := .int) (N := 35) C G 12 0 (t := 1) ⟨by decide, rfl, by decide⟩ ⟨rfl, rfl⟩ rfl (fun _ => rfl) tw211 (by decide) (by decide) rfl (by decide) (by simp [hf0, hf1, hf2, hf3, hf4, hf5, hf6]) (hd2.trans hsz.symm) (Nat.le_of_ble_eq_true rfl) (Nat.le_of_ble_eq_true rfl) dX0_init_41 (fun H G => ?_)
  rw [List.append_assoc] at G
  have G : g_H D cy A ad (L ++ [(10, 0), (11, 0), (12, 0)]) _ s.heap _ _ := G
  obtain ⟨σ9, eσ9, hf⟩ := g_lt hf
  rw [← eσ9] at G
  refine g_mput C G 0 0 6 (0 : Int32) (g_ml hT) rfl ginX0 tyX0_ok nmX0 (by decide) (g_vcr (K' := 12) (by decide)) ⟨rfl, rfl⟩ hnm rfl tw229 dX0_init_43 (fun H locs G => ?_)
  obtain ⟨σ10, eσ10, hf⟩ := g_lt hf
  rw [← eσ10] at G
  refine lv_aload_n C.x C.b dX0_init_46 rfl (lv_at hl 0 rfl) ?_
  refine lv_bipush (v := (35 : Int32)) C.x C.b dX0_init_47 (by decide) ?_
  refine g_size (fun hle => ?_)
  have hsz := g_szk (k := 2) (K := 12) (i := 0) G (by simp) hs hd2 hle
  refine g_newa (atype := .int) (ty := .int) (N := 35) C G 13 0 (t := 1) ⟨by decide, rfl, by decide⟩ ⟨rfl, rfl⟩ rfl (fun _ => rfl) tw211 (by decide) (by decide) rfl (by decide) (by simp [hf0, hf1, hf2, hf3, hf4, hf5, hf6]) (hd3.trans hsz.symm) (Nat.le_of_ble_eq_true rfl) (Nat.le_of_ble_eq_true rfl) dX0_init_49 (fun H G => ?_)
  rw [List.append_assoc] at G
  have G : g_H D cy A ad (L ++ [(10, 0), (11, 0), (12, 0), (13, 0)]) _ s.heap _ _ := G
  obtain ⟨σ11, eσ11, hf⟩ := g_lt hf
  rw [← eσ11] at G
  refine g_mput C G 0 0 7 (0 : Int32) (g_ml hT) rfl ginX0 tyX0_ok nmX0 (by decide) (g_vcr (K' := 13) (by decide)) ⟨rfl, rfl⟩ hnm rfl tw230 dX0_init_51 (fun H locs G => ?_)
  obtain ⟨σ12, eσ12, hf⟩ := g_lt hf
  rw [← eσ12] at G
  refine lv_aload_n C.x C.b dX0_init_54 rfl (lv_at hl 0 rfl) ?_
  refine lv_iconst (v := (4 : Int32)) C.x C.b dX0_init_55 (by decide) ?_
  refine g_size (fun hle => ?_)
  have hsz := g_szk (k := 3) (K := 13) (i := 0) G (by simp) hs hd3 hle
  refine g_newa (atype := .int) (ty := .int) (N := 4) C G 14 0 (t := 1) ⟨by decide, rfl, by decide⟩ ⟨rfl, rfl⟩ rfl (fun _ => rfl) tw211 (by decide) (by decide) rfl (by decide) (by simp [hf0, hf1, hf2, hf3, hf4, hf5, hf6]) (hd4.trans hsz.symm) (Nat.le_of_ble_eq_true rfl) (Nat.le_of_ble_eq_true rfl) dX0_init_56 (fun H G => ?_)
  rw [List.append_assoc] at G
  have G : g_H D cy A ad (L ++ [(10, 0), (11, 0), (12, 0), (13, 0), (14, 0)]) _ s.heap _ _ := G
  obtain ⟨σ13, eσ13, hf⟩ := g_lt hf
  rw [← eσ13] at G
  refine g_mput C G 0 0 8 (0 : Int32) (g_ml hT) rfl ginX0 tyX0_ok nmX0 (by decide) (g_vcr (K' := 14) (by decide)) ⟨rfl, rfl⟩ hnm rfl tw231 dX0_init_58 (fun H locs G => ?_)
  obtain ⟨σ14, eσ14, hf⟩ := g_lt hf
  rw [← eσ14] at G
  refine lv_aload_n C.x C.b dX0_init_61 rfl (lv_at hl 0 rfl) ?_
  refine lv_iconst (v := (4 : Int32)) C.x C.b dX0_init_62 (by decide) ?_
  refine g_size (fun hle => ?_)
  have hsz := g_szk (k := 4) (K := 14) (i := 0) G (by simp) hs hd4 hle
  refine g_newa (atype := .int) (ty := .int) (N := 4) C G 15 0 (t := 1) ⟨by decide, rfl, by decide⟩ ⟨rfl, rfl⟩ rfl (fun _ => rfl) tw211 (by decide) (by decide) rfl (by decide) (by simp [hf0, hf1, hf2, hf3, hf4, hf5, hf6]) (hd5.trans hsz.symm) (Nat.le_of_ble_eq_true rfl) (Nat.le_of_ble_eq_true rfl) dX0_init_63 (fun H G => ?_)
  rw [List.append_assoc] at G
  have G : g_H D cy A ad (L ++ [(10, 0), (11, 0), (12, 0), (13, 0), (14, 0), (15, 0)]) _ s.heap _ _ := G
  obtain ⟨σ15, eσ15, hf⟩ := g_lt hf
  rw [← eσ15] at G
  refine g_mput C G 0 0 9 (0 : Int32) (g_ml hT) rfl ginX0 tyX0_ok nmX0 (by decide) (g_vcr (K' := 15) (by decide)) ⟨rfl, rfl⟩ hnm rfl tw232 dX0_init_65 (fun H locs G => ?_)
  obtain ⟨σ16, eσ16, hf⟩ := g_lt hf
  rw [← eσ16] at G
  refine lv_aload_n C.x C.b dX0_init_68 rfl (lv_at hl 0 rfl) ?_
  refine lv_iconst (v := (4 : Int32)) C.x C.b dX0_init_69 (by decide) ?_
  refine g_size (fun hle => ?_)
  have hsz := g_szk (k := 5) (K := 15) (i := 0) G (by simp) hs hd5 hle
  refine g_newa (atype := .int) (ty := .int) (N := 4) C G 16 0 (t := 1) ⟨by decide, rfl, by decide⟩ ⟨rfl, rfl⟩ rfl (fun _ => rfl) tw211 (by decide) (by decide) rfl (by decide) (by simp [hf0, hf1, hf2, hf3, hf4, hf5, hf6]) (hd6.trans hsz.symm) (Nat.le_of_ble_eq_true rfl) (Nat.le_of_ble_eq_true rfl) dX0_init_70 (fun H G => ?_)
  rw [List.append_assoc] at G
  have G : g_H D cy A ad (L ++ [(10, 0), (11, 0), (12, 0), (13, 0), (14, 0), (15, 0), (16, 0)]) _ s.heap _ _ := G
  obtain ⟨σ17, eσ17, hf⟩ := g_lt hf
  rw [← eσ17] at G
  refine g_mput C G 0 0 10 (0 : Int32) (g_ml hT) rfl ginX0 tyX0_ok nmX0 (by decide) (g_vcr (K' := 16) (by decide)) ⟨rfl, rfl⟩ hnm rfl tw233 dX0_init_72 (fun H locs G => ?_)
  obtain ⟨σ18, eσ18, hf⟩ := g_lt hf
  rw [← eσ18] at G
  refine W.widen (k := 7) (n := 86) (Nat.le_of_ble_eq_true rfl) (Nat.le_of_ble_eq_true rfl) ?_
  exact g_evi C G hr hlocks hf dX0_init_75
def f_X8_office (ad : gA) (σ : gS) (a1 : Int32) (a2 : Int32) (L : gL) (n : Nat) : Option (Int32 × gL × gS) := (if a1 < (1 : Int32) then (some ((-1 : Int32), L, σ)) else (if a1 ≤ (3 : Int32) then (if (σ 6 0 3) < (8 : Int32) then (g_let (g_row σ 103 n (g_z 3)) fun σ3 => ((f_X3_init ad σ3 n a1 a2).bind fun σ4 => (if g_allset 3 (σ4 103 n) = true then (g_let (g_row σ4 3 n (σ4 103 n)) fun σ6 => ((f_X6_addOffice ad σ6 n).bind fun q7 => (some (q7.1, (L ++ [(3, n), (23, n)]), q7.2)))) else none))) else (some ((-2 : Int32), L, σ))) else (some ((-1 : Int32), L, σ))))
theorem hd_X8_office : yX8_office.cls ≠ "java/lang/invoke/MethodHandle" ∧ yX8_office.cls ≠ "java/lang/invoke/VarHandle" ∧ (parseMethodDescriptor yX8_office.desc).map (fun d => d.parameters.length) = some 2 := by decide +kernel
set_option maxHeartbeats 4000000 in
set_option maxRecDepth 100000 in
theorem c_X8_office (l : Launch) (D : va_G) (cy : Nat → ClassId) (A : Nat → Prop) (ad : gA) (L : gL) (σ : gS) (h : Nat) (hT : (8, 0) ∈ L) (a1 : Int32) (a2 : Int32) (n : Nat) (hd0 : ad 103 n = h + 0) (hd1 : ad 23 n = h + 1) (hf0 : (103, n) ∉ L) (hf1 : (23, n) ∉ L) (hf2 : (3, n) ∉ L) (hc0 : ad 3 n = ad 103 n) (r0 : Int32) (L0 : gL) (σ0 : gS) (hf : f_X8_office ad σ a1 a2 L n = some (r0, L0, σ0)) : g_MB l yX8_office cX8_office 3 ({ frames := 2, cells := 2, slots := 603, locals := 45 } : Room) D cy A ad L σ h [.ref (ad 8 0), .int a1, .int a2] r0 L0 σ0 2 603 := by
  refine g_metH (by decide) (Nat.le_of_ble_eq_true rfl) (fun p e s m below meth c C hr hlocks hnm hs G ls hl => ?_)
  have hl : lv_has ls 3 [(0, .ref (ad 8 0)), (1, .int a1), (2, .int a2)] := hl
  unfold f_X8_office at hf
  refine lv_iload_n C.x C.b dX8_office_0 rfl (lv_at hl 1 rfl) ?_
  refine lv_iconst (v := (1 : Int32)) C.x C.b dX8_office_1 (by decide) ?_
  refine lv_icmp_lt (tgt := 10) C.x C.b dX8_office_2 (by decide) (fun cb => ?_) (fun cb => ?_)
  · have hf := g_t cb hf
    refine lv_iconst (v := (-1 : Int32)) C.x C.b dX8_office_10 (by decide) ?_
    refine W.widen (k := 2) (n := 603) (Nat.le_of_ble_eq_true rfl) (Nat.le_of_ble_eq_true rfl) ?_
    exact g_eB C G hr hlocks hf dX8_office_11
  · have hf := g_f cb hf
    refine lv_iload_n C.x C.b dX8_office_5 rfl (lv_at hl 1 rfl) ?_
    refine lv_iconst (v := (3 : Int32)) C.x C.b dX8_office_6 (by decide) ?_
    refine lv_icmp_le (tgt := 12) C.x C.b dX8_office_7 (by decide) (fun cb => ?_) (fun cb => ?_)
    · have hf := g_t cb hf
      refine lv_aload_n C.x C.b dX8_office_12 rfl (lv_at hl 0 rfl) ?_
      refine g_getr C G 8 0 0 6 hT rfl ginX8 (by decide) tw284 dX8_office_13 (fun hL1 => ?_)
      refine g_geti C G 6 0 3 hL1 rfl ginX6 (by decide) tw124 dX8_office_16 ?_
      refine lv_bipush (v := (8 : Int32)) C.x C.b dX8_office_19 (by decide) ?_
      refine lv_icmp_lt (tgt := 27) C.x C.b dX8_office_21 (by decide) (fun cb => ?_) (fun cb => ?_)
      · have hf := g_t cb hf
        refine lv_aload_n C.x C.b dX8_office_27 rfl (lv_at hl 0 rfl) ?_
        refine g_getr C G 8 0 0 6 hT rfl ginX8 (by decide) tw284 dX8_office_28 (fun hL2 => ?_)
        refine g_size (fun hle => ?_)
        have hsz := g_sz0 G hs hle
        refine g_new C G 3 n rfl ginX3 tyX3_ok (by decide) (gz_X3 ad n) tw304 tw305 tw61 (by simp [hf0, hf1, hf2]) (hd0.trans hsz.symm) (Nat.le_of_ble_eq_true rfl) (Nat.le_of_ble_eq_true rfl) dX8_office_31 (fun H G => ?_)
        have G : g_H D cy A ad (L ++ [(103, n)]) _ s.heap _ _ := G
        obtain ⟨σ3, eσ3, hf⟩ := g_lt hf
        rw [← eσ3] at G
        refine lv_dup C.x C.b dX8_office_34 rfl ?_
        refine lv_iload_n C.x C.b dX8_office_35 rfl (lv_at hl 1 rfl) ?_
        refine lv_iload_n C.x C.b dX8_office_36 rfl (lv_at hl 2 rfl) ?_
        refine g_size (fun hle => ?_)
        have hsz := g_szk (k := 0) (K := 103) (i := n) G (by simp) hs hd0 hle
        obtain ⟨σ4, eσ4, hf⟩ := g_b hf
        refine g_callA G (g_runI (As := [.int a1, .int a2]) (rest := [.ref (ad 103 n), .ref (ad 6 0)]) C G (ad 103 n) (c_X3_init l D cy A ad (L ++ [(103, n)]) σ3 (h + 1) n a1 a2 (by simp) hd1 (by simp [hf0, hf1, hf2]) σ4 eσ4) ⟨tw308, tw61, tw306, ⟨rfl, tw307⟩, hd_X3_init⟩ (by decide) hsz hl.1 rfl (Nat.le_of_ble_eq_true rfl) dX8_office_37 ⟨Nat.le_of_ble_eq_true rfl, Nat.le_of_ble_eq_true rfl⟩) (fun H locs G => ?_)
        rw [List.append_assoc] at G
        have G : g_H D cy A ad (L ++ [(103, n), (23, n)]) _ s.heap _ _ := G
        obtain ⟨hcv, hf⟩ := g_ok hf
        refine g_convW (k := 3) (i := n) (L1 := L) (L2 := [(23, n)]) G (by decide) hc0 (by simp [hf0, hf1, hf2]) (g_allset_ok hcv) (fun h => absurd h (by decide)) ?_ (fun G => ?_)
        · intro j hj h2; have hj : j < 3 := hj; rcases (show j = 0 ∨ j = 1 ∨ j = 2 by omega) with rfl | rfl | rfl <;> first | (exact absurd h2 (by decide)) | simp [g_tg, g_tgs]
        have G : g_H D cy A ad (L ++ [(3, n), (23, n)]) _ s.heap _ _ := G
        obtain ⟨σ6, eσ6, hf⟩ := g_lt hf
        rw [← eσ6] at G
        refine W.eq (g2 := F0 m 40 ls [.ref (ad 3 n), .ref (ad 6 0)]) (by rw [hc0]) ?_
        obtain ⟨q7, eq7, hf⟩ := g_b hf
        refine g_calli G (g_runV (As := [.ref (ad 3 n)]) (rest := []) C G 6 0 (c_X6_addOffice l D cy A ad (L ++ [(3, n), (23, n)]) σ6 (g_ml hL2) n (by simp) q7.1 q7.2 eq7) ⟨tw329, tw55, tw326, ⟨tw327, tw328⟩, hd_X6_addOffice⟩ (by decide) (g_ml hL2) rfl ⟨rfl, by decide⟩ hl.1 rfl (Nat.le_of_ble_eq_true rfl) dX8_office_40 ⟨Nat.le_of_ble_eq_true rfl, Nat.le_of_ble_eq_true rfl⟩) (fun H locs G => ?_)
        refine W.widen (k := 2) (n := 603) (Nat.le_of_ble_eq_true rfl) (Nat.le_of_ble_eq_true rfl) ?_
        exact g_eB C G hr hlocks hf dX8_office_43
      · have hf := g_f cb hf
        refine lv_bipush (v := (-2 : Int32)) C.x C.b dX8_office_24 (by decide) ?_
        refine W.widen (k := 2) (n := 603) (Nat.le_of_ble_eq_true rfl) (Nat.le_of_ble_eq_true rfl) ?_
        exact g_eB C G hr hlocks hf dX8_office_26
    · have hf := g_f cb hf
      refine lv_iconst (v := (-1 : Int32)) C.x C.b dX8_office_10 (by decide) ?_
      refine W.widen (k := 2) (n := 603) (Nat.le_of_ble_eq_true rfl) (Nat.le_of_ble_eq_true rfl) ?_
      exact g_eB C G hr hlocks hf dX8_office_11
def f_X8_person (ad : gA) (σ : gS) (a1 : Int32) (a2 : Int32) (a3 : Int32) (a4 : Int32) (L : gL) (n : Nat) : Option (Int32 × gL × gS) := ((f_X8_isOrder ad σ a1).bind fun q1 => (if q1 = 0 then (some ((-1 : Int32), L, σ)) else ((f_X8_isBirth ad σ a2 a3).bind fun q2 => (if q2 = 0 then (some ((-1 : Int32), L, σ)) else (if a4 = (-1 : Int32) then (if (σ 6 0 4) < (24 : Int32) then (g_let (g_row σ 105 n (g_z 5)) fun σ5 => ((f_X5_init ad σ5 n a1 a2 a3 a4).bind fun σ6 => (if g_allset 5 (σ6 105 n) = true then (g_let (g_row σ6 5 n (σ6 105 n)) fun σ8 => ((f_X6_addPerson ad σ8 n).bind fun q9 => (some (q9.1, (L ++ [(5, n), (24, n)]), q9.2)))) else none))) else (some ((-2 : Int32), L, σ))) else ((f_X6_hasPerson ad σ a4).bind fun q11 => (if q11 = 0 then (some ((-1 : Int32), L, σ)) else (if (σ 6 0 4) < (24 : Int32) then (g_let (g_row σ 105 n (g_z 5)) fun σ14 => ((f_X5_init ad σ14 n a1 a2 a3 a4).bind fun σ15 => (if g_allset 5 (σ15 105 n) = true then (g_let (g_row σ15 5 n (σ15 105 n)) fun σ17 => ((f_X6_addPerson ad σ17 n).bind fun q18 => (some (q18.1, (L ++ [(5, n), (24, n)]), q18.2)))) else none))) else (some ((-2 : Int32), L, σ))))))))))
theorem hd_X8_person : yX8_person.cls ≠ "java/lang/invoke/MethodHandle" ∧ yX8_person.cls ≠ "java/lang/invoke/VarHandle" ∧ (parseMethodDescriptor yX8_person.desc).map (fun d => d.parameters.length) = some 4 := by decide +kernel
set_option maxHeartbeats 4000000 in
set_option maxRecDepth 100000 in
theorem c_X8_person (l : Launch) (D : va_G) (cy : Nat → ClassId) (A : Nat → Prop) (ad : gA) (L : gL) (σ : gS) (h : Nat) (hT : (8, 0) ∈ L) (a1 : Int32) (a2 : Int32) (a3 : Int32) (a4 : Int32) (n : Nat) (hd0 : ad 105 n = h + 0) (hd1 : ad 24 n = h + 1) (hf0 : (105, n) ∉ L) (hf1 : (24, n) ∉ L) (hf2 : (5, n) ∉ L) (hc0 : ad 5 n = ad 105 n) (r0 : Int32) (L0 : gL) (σ0 : gS) (hf : f_X8_person ad σ a1 a2 a3 a4 L n = some (r0, L0, σ0)) : g_MB l yX8_person cX8_person 5 ({ frames := 2, cells := 2, slots := 209, locals := 47 } : Room) D cy A ad L σ h [.ref (ad 8 0), .int a1, .int a2, .int a3, .int a4] r0 L0 σ0 2 209 := by
  refine g_metH (by decide) (Nat.le_of_ble_eq_true rfl) (fun p e s m below meth c C hr hlocks hnm hs G ls hl => ?_)
  have hl : lv_has ls 5 [(0, .ref (ad 8 0)), (1, .int a1), (2, .int a2), (3, .int a3), (4, .int a4)] := hl
  unfold f_X8_person at hf
  refine lv_iload_n C.x C.b dX8_person_0 rfl (lv_at hl 1 rfl) ?_
  obtain ⟨q1, eq1, hf⟩ := g_b hf
  refine g_calli G (g_runS (As := [.int a1]) (rest := []) C G (c_X8_isOrder l D cy A ad L σ a1 q1 eq1) ⟨tw336, tw54, tw334, tw335, hd_X8_isOrder⟩ (by decide) hl.1 rfl (Nat.le_of_ble_eq_true rfl) dX8_person_1 ⟨Nat.le_of_ble_eq_true rfl, Nat.le_of_ble_eq_true rfl⟩) (fun H locs G => ?_)
  refine lv_if_eq (tgt := 15) C.x C.b dX8_person_4 (by decide) (fun cb => ?_) (fun cb => ?_)
  · have hf := g_t cb hf
    refine lv_iconst (v := (-1 : Int32)) C.x C.b dX8_person_15 (by decide) ?_
    refine W.widen (k := 2) (n := 209) (Nat.le_of_ble_eq_true rfl) (Nat.le_of_ble_eq_true rfl) ?_
    exact g_eB C G hr hlocks hf dX8_person_16
  · have hf := g_f cb hf
    refine lv_iload_n C.x C.b dX8_person_7 rfl (lv_at hl 2 rfl) ?_
    refine lv_iload_n C.x C.b dX8_person_8 rfl (lv_at hl 3 rfl) ?_
    obtain ⟨q2, eq2, hf⟩ := g_b hf
    refine g_calli G (g_runS (As := [.int a2, .int a3]) (rest := []) C G (c_X8_isBirth l D cy A ad L σ a2 a3 q2 eq2) ⟨tw339, tw54, tw337, tw338, hd_X8_isBirth⟩ (by decide) hl.1 rfl (Nat.le_of_ble_eq_true rfl) dX8_person_9 ⟨Nat.le_of_ble_eq_true rfl, Nat.le_of_ble_eq_true rfl⟩) (fun H locs G => ?_)
    refine lv_if_ne (tgt := 17) C.x C.b dX8_person_12 (by decide) (fun cb => ?_) (fun cb => ?_)
    · have hf := g_f cb hf
      refine lv_iload C.x C.b dX8_person_17 (lv_at hl 4 rfl) ?_
      refine lv_iconst (v := (-1 : Int32)) C.x C.b dX8_person_19 (by decide) ?_
      refine lv_icmp_eq (tgt := 37) C.x C.b dX8_person_20 (by decide) (fun cb => ?_) (fun cb => ?_)
      · have hf := g_t cb hf
        refine lv_aload_n C.x C.b dX8_person_37 rfl (lv_at hl 0 rfl) ?_
        refine g_getr C G 8 0 0 6 hT rfl ginX8 (by decide) tw284 dX8_person_38 (fun hL3 => ?_)
        refine g_geti C G 6 0 4 hL3 rfl ginX6 (by decide) tw127 dX8_person_41 ?_
        refine lv_bipush (v := (24 : Int32)) C.x C.b dX8_person_44 (by decide) ?_
        refine lv_icmp_lt (tgt := 52) C.x C.b dX8_person_46 (by decide) (fun cb => ?_) (fun cb => ?_)
        · have hf := g_t cb hf
          refine lv_aload_n C.x C.b dX8_person_52 rfl (lv_at hl 0 rfl) ?_
          refine g_getr C G 8 0 0 6 hT rfl ginX8 (by decide) tw284 dX8_person_53 (fun hL4 => ?_)
          refine g_size (fun hle => ?_)
          have hsz := g_sz0 G hs hle
          refine g_new C G 5 n rfl ginX5 tyX5_ok (by decide) (gz_X5 ad n) tw344 tw345 tw63 (by simp [hf0, hf1, hf2]) (hd0.trans hsz.symm) (Nat.le_of_ble_eq_true rfl) (Nat.le_of_ble_eq_true rfl) dX8_person_56 (fun H G => ?_)
          have G : g_H D cy A ad (L ++ [(105, n)]) _ s.heap _ _ := G
          obtain ⟨σ5, eσ5, hf⟩ := g_lt hf
          rw [← eσ5] at G
          refine lv_dup C.x C.b dX8_person_59 rfl ?_
          refine lv_iload_n C.x C.b dX8_person_60 rfl (lv_at hl 1 rfl) ?_
          refine lv_iload_n C.x C.b dX8_person_61 rfl (lv_at hl 2 rfl) ?_
          refine lv_iload_n C.x C.b dX8_person_62 rfl (lv_at hl 3 rfl) ?_
          refine lv_iload C.x C.b dX8_person_63 (lv_at hl 4 rfl) ?_
          refine g_size (fun hle => ?_)
          have hsz := g_szk (k := 0) (K := 105) (i := n) G (by simp) hs hd0 hle
          obtain ⟨σ6, eσ6, hf⟩ := g_b hf
          refine g_callA G (g_runI (As := [.int a1, .int a2, .int a3, .int a4]) (rest := [.ref (ad 105 n), .ref (ad 6 0)]) C G (ad 105 n) (c_X5_init l D cy A ad (L ++ [(105, n)]) σ5 (h + 1) n a1 a2 a3 a4 (by simp) hd1 (by simp [hf0, hf1, hf2]) σ6 eσ6) ⟨tw348, tw63, tw346, ⟨rfl, tw347⟩, hd_X5_init⟩ (by decide) hsz hl.1 rfl (Nat.le_of_ble_eq_true rfl) dX8_person_65 ⟨Nat.le_of_ble_eq_true rfl, Nat.le_of_ble_eq_true rfl⟩) (fun H locs G => ?_)
          rw [List.append_assoc] at G
          have G : g_H D cy A ad (L ++ [(105, n), (24, n)]) _ s.heap _ _ := G
          obtain ⟨hcv, hf⟩ := g_ok hf
          refine g_convW (k := 5) (i := n) (L1 := L) (L2 := [(24, n)]) G (by decide) hc0 (by simp [hf0, hf1, hf2]) (g_allset_ok hcv) (fun h => absurd h (by decide)) ?_ (fun G => ?_)
          · intro j hj h2; have hj : j < 9 := hj; rcases (show j = 0 ∨ j = 1 ∨ j = 2 ∨ j = 3 ∨ j = 4 ∨ j = 5 ∨ j = 6 ∨ j = 7 ∨ j = 8 by omega) with rfl | rfl | rfl | rfl | rfl | rfl | rfl | rfl | rfl <;> first | (exact absurd h2 (by decide)) | simp [g_tg, g_tgs]
          have G : g_H D cy A ad (L ++ [(5, n), (24, n)]) _ s.heap _ _ := G
          obtain ⟨σ8, eσ8, hf⟩ := g_lt hf
          rw [← eσ8] at G
          refine W.eq (g2 := F0 m 68 ls [.ref (ad 5 n), .ref (ad 6 0)]) (by rw [hc0]) ?_
          obtain ⟨q9, eq9, hf⟩ := g_b hf
          refine g_calli G (g_runV (As := [.ref (ad 5 n)]) (rest := []) C G 6 0 (c_X6_addPerson l D cy A ad (L ++ [(5, n), (24, n)]) σ8 (g_ml hL4) n (by simp) q9.1 q9.2 eq9) ⟨tw404, tw55, tw401, ⟨tw402, tw403⟩, hd_X6_addPerson⟩ (by decide) (g_ml hL4) rfl ⟨rfl, by decide⟩ hl.1 rfl (Nat.le_of_ble_eq_true rfl) dX8_person_68 ⟨Nat.le_of_ble_eq_true rfl, Nat.le_of_ble_eq_true rfl⟩) (fun H locs G => ?_)
          refine W.widen (k := 2) (n := 209) (Nat.le_of_ble_eq_true rfl) (Nat.le_of_ble_eq_true rfl) ?_
          exact g_eB C G hr hlocks hf dX8_person_71
        · have hf := g_f cb hf
          refine lv_bipush (v := (-2 : Int32)) C.x C.b dX8_person_49 (by decide) ?_
          refine W.widen (k := 2) (n := 209) (Nat.le_of_ble_eq_true rfl) (Nat.le_of_ble_eq_true rfl) ?_
          exact g_eB C G hr hlocks hf dX8_person_51
      · have hf := g_f cb hf
        refine lv_aload_n C.x C.b dX8_person_23 rfl (lv_at hl 0 rfl) ?_
        refine g_getr C G 8 0 0 6 hT rfl ginX8 (by decide) tw284 dX8_person_24 (fun hL10 => ?_)
        refine lv_iload C.x C.b dX8_person_27 (lv_at hl 4 rfl) ?_
        obtain ⟨q11, eq11, hf⟩ := g_b hf
        refine g_calli G (g_runV (As := [.int a4]) (rest := []) C G 6 0 (c_X6_hasPerson l D cy A ad L σ hL10 a4 q11 eq11) ⟨tw343, tw55, tw340, ⟨tw341, tw342⟩, hd_X6_hasPerson⟩ (by decide) hL10 rfl ⟨rfl, by decide⟩ hl.1 rfl (Nat.le_of_ble_eq_true rfl) dX8_person_29 ⟨Nat.le_of_ble_eq_true rfl, Nat.le_of_ble_eq_true rfl⟩) (fun H locs G => ?_)
        refine lv_if_ne (tgt := 37) C.x C.b dX8_person_32 (by decide) (fun cb => ?_) (fun cb => ?_)
        · have hf := g_f cb hf
          refine lv_aload_n C.x C.b dX8_person_37 rfl (lv_at hl 0 rfl) ?_
          refine g_getr C G 8 0 0 6 hT rfl ginX8 (by decide) tw284 dX8_person_38 (fun hL12 => ?_)
          refine g_geti C G 6 0 4 hL12 rfl ginX6 (by decide) tw127 dX8_person_41 ?_
          refine lv_bipush (v := (24 : Int32)) C.x C.b dX8_person_44 (by decide) ?_
          refine lv_icmp_lt (tgt := 52) C.x C.b dX8_person_46 (by decide) (fun cb => ?_) (fun cb => ?_)
          · have hf := g_t cb hf
            refine lv_aload_n C.x C.b dX8_person_52 rfl (lv_at hl 0 rfl) ?_
            refine g_getr C G 8 0 0 6 hT rfl ginX8 (by decide) tw284 dX8_person_53 (fun hL13 => ?_)
            refine g_size (fun hle => ?_)
            have hsz := g_sz0 G hs hle
            refine g_new C G 5 n rfl ginX5 tyX5_ok (by decide) (gz_X5 ad n) tw344 tw345 tw63 (by simp [hf0, hf1, hf2]) (hd0.trans hsz.symm) (Nat.le_of_ble_eq_true rfl) (Nat.le_of_ble_eq_true rfl) dX8_person_56 (fun H G => ?_)
            have G : g_H D cy A ad (L ++ [(105, n)]) _ s.heap _ _ := G
            obtain ⟨σ14, eσ14, hf⟩ := g_lt hf
            rw [← eσ14] at G
            refine lv_dup C.x C.b dX8_person_59 rfl ?_
            refine lv_iload_n C.x C.b dX8_person_60 rfl (lv_at hl 1 rfl) ?_
            refine lv_iload_n C.x C.b dX8_person_61 rfl (lv_at hl 2 rfl) ?_
            refine lv_iload_n C.x C.b dX8_person_62 rfl (lv_at hl 3 rfl) ?_
            refine lv_iload C.x C.b dX8_person_63 (lv_at hl 4 rfl) ?_
            refine g_size (fun hle => ?_)
            have hsz := g_szk (k := 0) (K := 105) (i := n) G (by simp) hs hd0 hle
            obtain ⟨σ15, eσ15, hf⟩ := g_b hf
            refine g_callA G (g_runI (As := [.int a1, .int a2, .int a3, .int a4]) (rest := [.ref (ad 105 n), .ref (ad 6 0)]) C G (ad 105 n) (c_X5_init l D cy A ad (L ++ [(105, n)]) σ14 (h + 1) n a1 a2 a3 a4 (by simp) hd1 (by simp [hf0, hf1, hf2]) σ15 eσ15) ⟨tw348, tw63, tw346, ⟨rfl, tw347⟩, hd_X5_init⟩ (by decide) hsz hl.1 rfl (Nat.le_of_ble_eq_true rfl) dX8_person_65 ⟨Nat.le_of_ble_eq_true rfl, Nat.le_of_ble_eq_true rfl⟩) (fun H locs G => ?_)
            rw [List.append_assoc] at G
            have G : g_H D cy A ad (L ++ [(105, n), (24, n)]) _ s.heap _ _ := G
            obtain ⟨hcv, hf⟩ := g_ok hf
            refine g_convW (k := 5) (i := n) (L1 := L) (L2 := [(24, n)]) G (by decide) hc0 (by simp [hf0, hf1, hf2]) (g_allset_ok hcv) (fun h => absurd h (by decide)) ?_ (fun G => ?_)
            · intro j hj h2; have hj : j < 9 := hj; rcases (show j = 0 ∨ j = 1 ∨ j = 2 ∨ j = 3 ∨ j = 4 ∨ j = 5 ∨ j = 6 ∨ j = 7 ∨ j = 8 by omega) with rfl | rfl | rfl | rfl | rfl | rfl | rfl | rfl | rfl <;> first | (exact absurd h2 (by decide)) | simp [g_tg, g_tgs]
            have G : g_H D cy A ad (L ++ [(5, n), (24, n)]) _ s.heap _ _ := G
            obtain ⟨σ17, eσ17, hf⟩ := g_lt hf
            rw [← eσ17] at G
            refine W.eq (g2 := F0 m 68 ls [.ref (ad 5 n), .ref (ad 6 0)]) (by rw [hc0]) ?_
            obtain ⟨q18, eq18, hf⟩ := g_b hf
            refine g_calli G (g_runV (As := [.ref (ad 5 n)]) (rest := []) C G 6 0 (c_X6_addPerson l D cy A ad (L ++ [(5, n), (24, n)]) σ17 (g_ml hL13) n (by simp) q18.1 q18.2 eq18) ⟨tw404, tw55, tw401, ⟨tw402, tw403⟩, hd_X6_addPerson⟩ (by decide) (g_ml hL13) rfl ⟨rfl, by decide⟩ hl.1 rfl (Nat.le_of_ble_eq_true rfl) dX8_person_68 ⟨Nat.le_of_ble_eq_true rfl, Nat.le_of_ble_eq_true rfl⟩) (fun H locs G => ?_)
            refine W.widen (k := 2) (n := 209) (Nat.le_of_ble_eq_true rfl) (Nat.le_of_ble_eq_true rfl) ?_
            exact g_eB C G hr hlocks hf dX8_person_71
          · have hf := g_f cb hf
            refine lv_bipush (v := (-2 : Int32)) C.x C.b dX8_person_49 (by decide) ?_
            refine W.widen (k := 2) (n := 209) (Nat.le_of_ble_eq_true rfl) (Nat.le_of_ble_eq_true rfl) ?_
            exact g_eB C G hr hlocks hf dX8_person_51
        · have hf := g_t cb hf
          refine lv_iconst (v := (-1 : Int32)) C.x C.b dX8_person_35 (by decide) ?_
          refine W.widen (k := 2) (n := 209) (Nat.le_of_ble_eq_true rfl) (Nat.le_of_ble_eq_true rfl) ?_
          exact g_eB C G hr hlocks hf dX8_person_36
    · have hf := g_t cb hf
      refine lv_iconst (v := (-1 : Int32)) C.x C.b dX8_person_15 (by decide) ?_
      refine W.widen (k := 2) (n := 209) (Nat.le_of_ble_eq_true rfl) (Nat.le_of_ble_eq_true rfl) ?_
      exact g_eB C G hr hlocks hf dX8_person_16
def f_X8_law_P69 (ad : gA) (a2 : Int32) (a3 : Int32) (a4 : Int32) (L : gL) (n : Nat) (σ : gS) (v5 : Int32) (v6 : Int32) : Option (Int32 × gL × gS) := ((f_X6_isNumberOf ad σ v5 a2).bind fun q5 => (if q5 = 0 then (some ((-1 : Int32), L, σ)) else (if (σ 6 0 5) < (20 : Int32) then (g_let (g_row σ 102 n (g_z 2)) fun σ8 => ((f_X2_init ad σ8 n (σ8 6 0 5) v5 v6 a2 a3 a4).bind fun σ10 => (if g_allset 2 (σ10 102 n) = true then (g_let (g_row σ10 2 n (σ10 102 n)) fun σ12 => ((f_X6_addLaw ad σ12 n).bind fun q13 => (some (q13.1, (L ++ [(2, n)]), q13.2)))) else none))) else (some ((-2 : Int32), L, σ)))))
def f_X8_law (ad : gA) (σ : gS) (a1 : Int32) (a2 : Int32) (a3 : Int32) (a4 : Int32) (L : gL) (n : Nat) : Option (Int32 × gL × gS) := (if a1 < 0 then (some ((-1 : Int32), L, σ)) else (if (5 : Int32) < (a1 / (10 : Int32)) then (some ((-1 : Int32), L, σ)) else ((f_X8_isYear ad σ a3).bind fun q1 => (if q1 = 0 then (some ((-1 : Int32), L, σ)) else (if a4 ≤ a3 then (some ((-1 : Int32), L, σ)) else (if a4 ≤ (200 : Int32) then (if ((a1 - a1 / (10 : Int32) * (10 : Int32)) - (1 : Int32)) = (-1 : Int32) then (f_X8_law_P69 ad a2 a3 a4 L n σ (a1 / (10 : Int32)) ((a1 - a1 / (10 : Int32) * (10 : Int32)) - (1 : Int32))) else ((f_X6_hasOffice ad σ ((a1 - a1 / (10 : Int32) * (10 : Int32)) - (1 : Int32))).bind fun q3 => (if q3 = 0 then (some ((-1 : Int32), L, σ)) else (f_X8_law_P69 ad a2 a3 a4 L n σ (a1 / (10 : Int32)) ((a1 - a1 / (10 : Int32) * (10 : Int32)) - (1 : Int32)))))) else (some ((-1 : Int32), L, σ))))))))
theorem hd_X8_law : yX8_law.cls ≠ "java/lang/invoke/MethodHandle" ∧ yX8_law.cls ≠ "java/lang/invoke/VarHandle" ∧ (parseMethodDescriptor yX8_law.desc).map (fun d => d.parameters.length) = some 4 := by decide +kernel
set_option maxHeartbeats 4000000 in
set_option maxRecDepth 100000 in
theorem c_X8_law (l : Launch) (D : va_G) (cy : Nat → ClassId) (A : Nat → Prop) (ad : gA) (L : gL) (σ : gS) (h : Nat) (hT : (8, 0) ∈ L) (a1 : Int32) (a2 : Int32) (a3 : Int32) (a4 : Int32) (n : Nat) (hd0 : ad 102 n = h + 0) (hf0 : (102, n) ∉ L) (hf1 : (2, n) ∉ L) (hc0 : ad 2 n = ad 102 n) (r0 : Int32) (L0 : gL) (σ0 : gS) (hf : f_X8_law ad σ a1 a2 a3 a4 L n = some (r0, L0, σ0)) : g_MB l yX8_law cX8_law 7 ({ frames := 2, cells := 1, slots := 6, locals := 43 } : Room) D cy A ad L σ h [.ref (ad 8 0), .int a1, .int a2, .int a3, .int a4] r0 L0 σ0 1 6 := by
  refine g_metH (by decide) (Nat.le_of_ble_eq_true rfl) (fun p e s m below meth c C hr hlocks hnm hs G ls hl => ?_)
  have hl : lv_has ls 7 [(0, .ref (ad 8 0)), (1, .int a1), (2, .int a2), (3, .int a3), (4, .int a4)] := hl
  have pt69 : ∀ (σ : gS) (v5 : Int32) (v6 : Int32) (H : Heap) (locs : List Loc) (ls : Array Slot), g_H D cy A ad L σ s.heap H locs → lv_has ls 7 [(0, .ref (ad 8 0)), (2, .int a2), (3, .int a3), (4, .int a4), (5, .int v5), (6, .int v6)] → f_X8_law_P69 ad a2 a3 a4 L n σ v5 v6 = some (r0, L0, σ0) → g_WB p l e ({ frames := 2, cells := 1, slots := 6, locals := 43 } : Room) s m below meth c H locs 0 0 D cy A ad [.ref (ad 8 0), .int a1, .int a2, .int a3, .int a4] r0 L0 σ0 1 6 (F0 m 69 ls []) := by
    intro σ v5 v6 H locs ls G hl hf
    unfold f_X8_law_P69 at hf
    refine lv_aload_n C.x C.b dX8_law_69 rfl (lv_at hl 0 rfl) ?_
    refine g_getr C G 8 0 0 6 hT rfl ginX8 (by decide) tw284 dX8_law_70 (fun hL4 => ?_)
    refine lv_iload C.x C.b dX8_law_73 (lv_at hl 4 rfl) ?_
    refine lv_iload_n C.x C.b dX8_law_75 rfl (lv_at hl 1 rfl) ?_
    obtain ⟨q5, eq5, hf⟩ := g_b hf
    refine g_calli G (g_runV (As := [.int v5, .int a2]) (rest := []) C G 6 0 (c_X6_isNumberOf l D cy A ad L σ hL4 v5 a2 q5 eq5) ⟨tw443, tw55, tw440, ⟨tw441, tw442⟩, hd_X6_isNumberOf⟩ (by decide) hL4 rfl ⟨rfl, by decide⟩ hl.1 rfl (Nat.le_of_ble_eq_true rfl) dX8_law_76 ⟨Nat.le_of_ble_eq_true rfl, Nat.le_of_ble_eq_true rfl⟩) (fun H locs G => ?_)
    refine lv_if_ne (tgt := 84) C.x C.b dX8_law_79 (by decide) (fun cb => ?_) (fun cb => ?_)
    · have hf := g_f cb hf
      refine lv_aload_n C.x C.b dX8_law_84 rfl (lv_at hl 0 rfl) ?_
      refine g_getr C G 8 0 0 6 hT rfl ginX8 (by decide) tw284 dX8_law_85 (fun hL6 => ?_)
      refine g_geti C G 6 0 5 hL6 rfl ginX6 (by decide) tw130 dX8_law_88 ?_
      refine lv_bipush (v := (20 : Int32)) C.x C.b dX8_law_91 (by decide) ?_
      refine lv_icmp_lt (tgt := 99) C.x C.b dX8_law_93 (by decide) (fun cb => ?_) (fun cb => ?_)
      · have hf := g_t cb hf
        refine lv_aload_n C.x C.b dX8_law_99 rfl (lv_at hl 0 rfl) ?_
        refine g_getr C G 8 0 0 6 hT rfl ginX8 (by decide) tw284 dX8_law_100 (fun hL7 => ?_)
        refine g_size (fun hle => ?_)
        have hsz := g_sz0 G hs hle
        refine g_new C G 2 n rfl ginX2 tyX2_ok (by decide) (gz_X2 ad n) tw446 tw447 tw64 (by simp [hf0, hf1]) (hd0.trans hsz.symm) (Nat.le_of_ble_eq_true rfl) (Nat.le_of_ble_eq_true rfl) dX8_law_103 (fun H G => ?_)
        have G : g_H D cy A ad (L ++ [(102, n)]) _ s.heap _ _ := G
        obtain ⟨σ8, eσ8, hf⟩ := g_lt hf
        rw [← eσ8] at G
        refine lv_dup C.x C.b dX8_law_106 rfl ?_
        refine lv_aload_n C.x C.b dX8_law_107 rfl (lv_at hl 0 rfl) ?_
        refine g_getr C G 8 0 0 6 (g_ml hT) rfl ginX8 (by decide) tw284 dX8_law_108 (fun hL9 => ?_)
        refine g_geti C G 6 0 5 hL9 rfl ginX6 (by decide) tw130 dX8_law_111 ?_
        refine lv_iload C.x C.b dX8_law_114 (lv_at hl 4 rfl) ?_
        refine lv_iload C.x C.b dX8_law_116 (lv_at hl 5 rfl) ?_
        refine lv_iload_n C.x C.b dX8_law_118 rfl (lv_at hl 1 rfl) ?_
        refine lv_iload_n C.x C.b dX8_law_119 rfl (lv_at hl 2 rfl) ?_
        refine lv_iload C.x C.b dX8_law_120 (lv_at hl 3 rfl) ?_
        refine g_size (fun hle => ?_)
        have hsz := g_szk (k := 0) (K := 102) (i := n) G (by simp) hs hd0 hle
        obtain ⟨σ10, eσ10, hf⟩ := g_b hf
        refine g_callA G (g_runI (As := [.int (σ8 6 0 5), .int v5, .int v6, .int a2, .int a3, .int a4]) (rest := [.ref (ad 102 n), .ref (ad 6 0)]) C G (ad 102 n) (c_X2_init l D cy A ad (L ++ [(102, n)]) σ8 (h + 1) n (σ8 6 0 5) v5 v6 a2 a3 a4 (by simp) σ10 eσ10) ⟨tw450, tw64, tw448, ⟨rfl, tw449⟩, hd_X2_init⟩ (by decide) hsz hl.1 rfl (Nat.le_of_ble_eq_true rfl) dX8_law_122 ⟨Nat.le_of_ble_eq_true rfl, Nat.le_of_ble_eq_true rfl⟩) (fun H locs G => ?_)
        have G : g_H D cy A ad (L ++ [(102, n)]) _ s.heap _ _ := G
        obtain ⟨hcv, hf⟩ := g_ok hf
        refine g_convW (k := 2) (i := n) (L1 := L) (L2 := []) G (by decide) hc0 (by simp [hf0, hf1]) (g_allset_ok hcv) (fun h => absurd h (by decide)) ?_ (fun G => ?_)
        · intro j hj h2; have hj : j < 6 := hj; rcases (show j = 0 ∨ j = 1 ∨ j = 2 ∨ j = 3 ∨ j = 4 ∨ j = 5 by omega) with rfl | rfl | rfl | rfl | rfl | rfl <;> first | (exact absurd h2 (by decide)) | simp [g_tg, g_tgs]
        have G : g_H D cy A ad (L ++ [(2, n)]) _ s.heap _ _ := G
        obtain ⟨σ12, eσ12, hf⟩ := g_lt hf
        rw [← eσ12] at G
        refine W.eq (g2 := F0 m 125 ls [.ref (ad 2 n), .ref (ad 6 0)]) (by rw [hc0]) ?_
        obtain ⟨q13, eq13, hf⟩ := g_b hf
        refine g_calli G (g_runV (As := [.ref (ad 2 n)]) (rest := []) C G 6 0 (c_X6_addLaw l D cy A ad (L ++ [(2, n)]) σ12 (g_ml hL7) n (by simp) q13.1 q13.2 eq13) ⟨tw478, tw55, tw475, ⟨tw476, tw477⟩, hd_X6_addLaw⟩ (by decide) (g_ml hL7) rfl ⟨rfl, by decide⟩ hl.1 rfl (Nat.le_of_ble_eq_true rfl) dX8_law_125 ⟨Nat.le_of_ble_eq_true rfl, Nat.le_of_ble_eq_true rfl⟩) (fun H locs G => ?_)
        refine W.widen (k := 1) (n := 6) (Nat.le_of_ble_eq_true rfl) (Nat.le_of_ble_eq_true rfl) ?_
        exact g_eB C G hr hlocks hf dX8_law_128
      · have hf := g_f cb hf
        refine lv_bipush (v := (-2 : Int32)) C.x C.b dX8_law_96 (by decide) ?_
        refine W.widen (k := 1) (n := 6) (Nat.le_of_ble_eq_true rfl) (Nat.le_of_ble_eq_true rfl) ?_
        exact g_eB C G hr hlocks hf dX8_law_98
    · have hf := g_t cb hf
      refine lv_iconst (v := (-1 : Int32)) C.x C.b dX8_law_82 (by decide) ?_
      refine W.widen (k := 1) (n := 6) (Nat.le_of_ble_eq_true rfl) (Nat.le_of_ble_eq_true rfl) ?_
      exact g_eB C G hr hlocks hf dX8_law_83
  unfold f_X8_law at hf
  refine lv_iload_n C.x C.b dX8_law_0 rfl (lv_at hl 1 rfl) ?_
  refine lv_if_lt (tgt := 33) C.x C.b dX8_law_1 (by decide) (fun cb => ?_) (fun cb => ?_)
  · have hf := g_t cb hf
    refine lv_iconst (v := (-1 : Int32)) C.x C.b dX8_law_33 (by decide) ?_
    refine W.widen (k := 1) (n := 6) (Nat.le_of_ble_eq_true rfl) (Nat.le_of_ble_eq_true rfl) ?_
    exact g_eB C G hr hlocks hf dX8_law_34
  · have hf := g_f cb hf
    refine lv_iload_n C.x C.b dX8_law_4 rfl (lv_at hl 1 rfl) ?_
    refine lv_bipush (v := (10 : Int32)) C.x C.b dX8_law_5 (by decide) ?_
    refine lv_idiv C.x C.b dX8_law_7 (by decide) ?_
    refine lv_iconst (v := (5 : Int32)) C.x C.b dX8_law_8 (by decide) ?_
    refine lv_icmp_gt (tgt := 33) C.x C.b dX8_law_9 (by decide) (fun cb => ?_) (fun cb => ?_)
    · have hf := g_t cb hf
      refine lv_iconst (v := (-1 : Int32)) C.x C.b dX8_law_33 (by decide) ?_
      refine W.widen (k := 1) (n := 6) (Nat.le_of_ble_eq_true rfl) (Nat.le_of_ble_eq_true rfl) ?_
      exact g_eB C G hr hlocks hf dX8_law_34
    · have hf := g_f cb hf
      refine lv_iload_n C.x C.b dX8_law_12 rfl (lv_at hl 3 rfl) ?_
      obtain ⟨q1, eq1, hf⟩ := g_b hf
      refine g_calli G (g_runS (As := [.int a3]) (rest := []) C G (c_X8_isYear l D cy A ad L σ a3 q1 eq1) ⟨tw419, tw54, tw417, tw418, hd_X8_isYear⟩ (by decide) hl.1 rfl (Nat.le_of_ble_eq_true rfl) dX8_law_13 ⟨Nat.le_of_ble_eq_true rfl, Nat.le_of_ble_eq_true rfl⟩) (fun H locs G => ?_)
      refine lv_if_eq (tgt := 33) C.x C.b dX8_law_16 (by decide) (fun cb => ?_) (fun cb => ?_)
      · have hf := g_t cb hf
        refine lv_iconst (v := (-1 : Int32)) C.x C.b dX8_law_33 (by decide) ?_
        refine W.widen (k := 1) (n := 6) (Nat.le_of_ble_eq_true rfl) (Nat.le_of_ble_eq_true rfl) ?_
        exact g_eB C G hr hlocks hf dX8_law_34
      · have hf := g_f cb hf
        refine lv_iload C.x C.b dX8_law_19 (lv_at hl 4 rfl) ?_
        refine lv_iload_n C.x C.b dX8_law_21 rfl (lv_at hl 3 rfl) ?_
        refine lv_icmp_le (tgt := 33) C.x C.b dX8_law_22 (by decide) (fun cb => ?_) (fun cb => ?_)
        · have hf := g_t cb hf
          refine lv_iconst (v := (-1 : Int32)) C.x C.b dX8_law_33 (by decide) ?_
          refine W.widen (k := 1) (n := 6) (Nat.le_of_ble_eq_true rfl) (Nat.le_of_ble_eq_true rfl) ?_
          exact g_eB C G hr hlocks hf dX8_law_34
        · have hf := g_f cb hf
          refine lv_iload C.x C.b dX8_law_25 (lv_at hl 4 rfl) ?_
          refine lv_sipush (v := (200 : Int32)) C.x C.b dX8_law_27 (by decide) ?_
          refine lv_icmp_le (tgt := 35) C.x C.b dX8_law_30 (by decide) (fun cb => ?_) (fun cb => ?_)
          · have hf := g_t cb hf
            refine lv_iload_n C.x C.b dX8_law_35 rfl (lv_at hl 1 rfl) ?_
            refine lv_bipush (v := (10 : Int32)) C.x C.b dX8_law_36 (by decide) ?_
            refine lv_idiv C.x C.b dX8_law_38 (by decide) ?_
            refine lv_istore (lv' := [(5, .int (a1 / (10 : Int32))), (0, .ref (ad 8 0)), (1, .int a1), (2, .int a2), (3, .int a3), (4, .int a4)]) C.x C.b dX8_law_39 hl (by decide) rfl (fun ls hl => ?_)
            refine lv_iload_n C.x C.b dX8_law_41 rfl (lv_at hl 2 rfl) ?_
            refine lv_bipush (v := (10 : Int32)) C.x C.b dX8_law_42 (by decide) ?_
            refine lv_irem C.x C.b dX8_law_44 (by decide) ?_
            refine lv_iconst (v := (1 : Int32)) C.x C.b dX8_law_45 (by decide) ?_
            refine lv_isub C.x C.b dX8_law_46 ?_
            refine lv_istore (lv' := [(6, .int ((a1 - a1 / (10 : Int32) * (10 : Int32)) - (1 : Int32))), (5, .int (a1 / (10 : Int32))), (0, .ref (ad 8 0)), (1, .int a1), (2, .int a2), (3, .int a3), (4, .int a4)]) C.x C.b dX8_law_47 hl (by decide) rfl (fun ls hl => ?_)
            refine lv_iload C.x C.b dX8_law_49 (lv_at hl 0 rfl) ?_
            refine lv_iconst (v := (-1 : Int32)) C.x C.b dX8_law_51 (by decide) ?_
            refine lv_icmp_eq (tgt := 69) C.x C.b dX8_law_52 (by decide) (fun cb => ?_) (fun cb => ?_)
            · have hf := g_t cb hf
              exact pt69 σ (a1 / (10 : Int32)) ((a1 - a1 / (10 : Int32) * (10 : Int32)) - (1 : Int32)) _ _ ls G (lv_sub hl [2, 4, 5, 6, 1, 0] rfl) hf
            · have hf := g_f cb hf
              refine lv_aload_n C.x C.b dX8_law_55 rfl (lv_at hl 2 rfl) ?_
              refine g_getr C G 8 0 0 6 hT rfl ginX8 (by decide) tw284 dX8_law_56 (fun hL2 => ?_)
              refine lv_iload C.x C.b dX8_law_59 (lv_at hl 0 rfl) ?_
              obtain ⟨q3, eq3, hf⟩ := g_b hf
              refine g_calli G (g_runV (As := [.int ((a1 - a1 / (10 : Int32) * (10 : Int32)) - (1 : Int32))]) (rest := []) C G 6 0 (c_X6_hasOffice l D cy A ad L σ hL2 ((a1 - a1 / (10 : Int32) * (10 : Int32)) - (1 : Int32)) q3 eq3) ⟨tw439, tw55, tw436, ⟨tw437, tw438⟩, hd_X6_hasOffice⟩ (by decide) hL2 rfl ⟨rfl, by decide⟩ hl.1 rfl (Nat.le_of_ble_eq_true rfl) dX8_law_61 ⟨Nat.le_of_ble_eq_true rfl, Nat.le_of_ble_eq_true rfl⟩) (fun H locs G => ?_)
              refine lv_if_ne (tgt := 69) C.x C.b dX8_law_64 (by decide) (fun cb => ?_) (fun cb => ?_)
              · have hf := g_f cb hf
                exact pt69 σ (a1 / (10 : Int32)) ((a1 - a1 / (10 : Int32) * (10 : Int32)) - (1 : Int32)) _ _ ls G (lv_sub hl [2, 4, 5, 6, 1, 0] rfl) hf
              · have hf := g_t cb hf
                refine lv_iconst (v := (-1 : Int32)) C.x C.b dX8_law_67 (by decide) ?_
                refine W.widen (k := 1) (n := 6) (Nat.le_of_ble_eq_true rfl) (Nat.le_of_ble_eq_true rfl) ?_
                exact g_eB C G hr hlocks hf dX8_law_68
          · have hf := g_f cb hf
            refine lv_iconst (v := (-1 : Int32)) C.x C.b dX8_law_33 (by decide) ?_
            refine W.widen (k := 1) (n := 6) (Nat.le_of_ble_eq_true rfl) (Nat.le_of_ble_eq_true rfl) ?_
            exact g_eB C G hr hlocks hf dX8_law_34
