def f_X9_thrown (ad : gA) (σ : gS) : Option Int32 := (some (σ 9 0 0))
theorem hd_X9_thrown : yX9_thrown.cls ≠ "java/lang/invoke/MethodHandle" ∧ yX9_thrown.cls ≠ "java/lang/invoke/VarHandle" ∧ (parseMethodDescriptor yX9_thrown.desc).map (fun d => d.parameters.length) = some 0 := by decide +kernel
set_option maxHeartbeats 4000000 in
set_option maxRecDepth 100000 in
theorem c_X9_thrown (l : Launch) (D : va_G) (cy : Nat → ClassId) (A : Nat → Prop) (ad : gA) (L : gL)  (σ : gS) (hT : (9, 0) ∈ L) (r0 : Int32) (hf : f_X9_thrown ad σ = some r0) : g_Mi l yX9_thrown cX9_thrown 1 (some .int) ({ frames := 0, cells := 0, slots := 0, locals := 0 } : Room) D cy A ad L σ [.ref (ad 9 0)] r0 σ := by
  refine g_met (by decide) (Nat.le_of_ble_eq_true rfl) (fun p e s m below meth c C hr hlocks hnm G ls hl => ?_)
  have hl : lv_has ls 1 [(0, .ref (ad 9 0))] := hl
  unfold f_X9_thrown at hf
  refine lv_aload_n C.x C.b dX9_thrown_0 rfl (lv_at hl 0 rfl) ?_
  refine g_geti C G 9 0 0 hT rfl ginX9 (by decide) tw950 dX9_thrown_1 ?_
  exact g_eip C G hr hlocks hf dX9_thrown_4
def f_X9_in (ad : gA) (σ : gS) (a1 : Int32) (a2 : Int32) (a3 : Int32) : Option Int32 := (if a1 < a2 then (some (0 : Int32)) else (if a3 < a1 then (some (0 : Int32)) else (some (1 : Int32))))
theorem hd_X9_in : yX9_in.cls ≠ "java/lang/invoke/MethodHandle" ∧ yX9_in.cls ≠ "java/lang/invoke/VarHandle" ∧ (parseMethodDescriptor yX9_in.desc).map (fun d => d.parameters.length) = some 3 := by decide +kernel
set_option maxHeartbeats 4000000 in
set_option maxRecDepth 100000 in
theorem c_X9_in (l : Launch) (D : va_G) (cy : Nat → ClassId) (A : Nat → Prop) (ad : gA) (L : gL)  (σ : gS) (hT : (9, 0) ∈ L) (a1 : Int32) (a2 : Int32) (a3 : Int32) (r0 : Int32) (hf : f_X9_in ad σ a1 a2 a3 = some r0) : g_Mi l yX9_in cX9_in 4 (some .boolean) ({ frames := 0, cells := 0, slots := 0, locals := 0 } : Room) D cy A ad L σ [.ref (ad 9 0), .int a1, .int a2, .int a3] r0 σ := by
  refine g_met (by decide) (Nat.le_of_ble_eq_true rfl) (fun p e s m below meth c C hr hlocks hnm G ls hl => ?_)
  have hl : lv_has ls 4 [(0, .ref (ad 9 0)), (1, .int a1), (2, .int a2), (3, .int a3)] := hl
  unfold f_X9_in at hf
  refine lv_iload_n C.x C.b dX9_in_0 rfl (lv_at hl 1 rfl) ?_
  refine lv_iload_n C.x C.b dX9_in_1 rfl (lv_at hl 2 rfl) ?_
  refine lv_icmp_lt (tgt := 14) C.x C.b dX9_in_2 (by decide) (fun cb => ?_) (fun cb => ?_)
  · have hf := g_t cb hf
    refine lv_iconst (v := (0 : Int32)) C.x C.b dX9_in_14 (by decide) ?_
    exact g_ezp C G hr hlocks hf rfl dX9_in_15
  · have hf := g_f cb hf
    refine lv_iload_n C.x C.b dX9_in_5 rfl (lv_at hl 1 rfl) ?_
    refine lv_iload_n C.x C.b dX9_in_6 rfl (lv_at hl 3 rfl) ?_
    refine lv_icmp_gt (tgt := 14) C.x C.b dX9_in_7 (by decide) (fun cb => ?_) (fun cb => ?_)
    · have hf := g_t cb hf
      refine lv_iconst (v := (0 : Int32)) C.x C.b dX9_in_14 (by decide) ?_
      exact g_ezp C G hr hlocks hf rfl dX9_in_15
    · have hf := g_f cb hf
      refine lv_iconst (v := (1 : Int32)) C.x C.b dX9_in_10 (by decide) ?_
      refine lv_goto (tgt := 15) C.x C.b dX9_in_11 (by decide) ?_
      exact g_ezp C G hr hlocks hf rfl dX9_in_15
def f_X9_isOffice (ad : gA) (σ : gS) (a1 : Int32) : Option Int32 := ((f_X9_in ad σ a1 (0 : Int32) ((σ 9 0 1) - (1 : Int32))).bind fun q1 => (if g_bo q1 then (some q1) else none))
theorem hd_X9_isOffice : yX9_isOffice.cls ≠ "java/lang/invoke/MethodHandle" ∧ yX9_isOffice.cls ≠ "java/lang/invoke/VarHandle" ∧ (parseMethodDescriptor yX9_isOffice.desc).map (fun d => d.parameters.length) = some 1 := by decide +kernel
set_option maxHeartbeats 4000000 in
set_option maxRecDepth 100000 in
theorem c_X9_isOffice (l : Launch) (D : va_G) (cy : Nat → ClassId) (A : Nat → Prop) (ad : gA) (L : gL)  (σ : gS) (hT : (9, 0) ∈ L) (a1 : Int32) (r0 : Int32) (hf : f_X9_isOffice ad σ a1 = some r0) : g_Mi l yX9_isOffice cX9_isOffice 2 (some .boolean) ({ frames := 1, cells := 0, slots := 0, locals := 23 } : Room) D cy A ad L σ [.ref (ad 9 0), .int a1] r0 σ := by
  refine g_met (by decide) (Nat.le_of_ble_eq_true rfl) (fun p e s m below meth c C hr hlocks hnm G ls hl => ?_)
  have hl : lv_has ls 2 [(0, .ref (ad 9 0)), (1, .int a1)] := hl
  unfold f_X9_isOffice at hf
  refine lv_aload_n C.x C.b dX9_isOffice_0 rfl (lv_at hl 0 rfl) ?_
  refine lv_iload_n C.x C.b dX9_isOffice_1 rfl (lv_at hl 1 rfl) ?_
  refine lv_iconst (v := (0 : Int32)) C.x C.b dX9_isOffice_2 (by decide) ?_
  refine lv_aload_n C.x C.b dX9_isOffice_3 rfl (lv_at hl 0 rfl) ?_
  refine g_geti C G 9 0 1 hT rfl ginX9 (by decide) tw951 dX9_isOffice_4 ?_
  refine lv_iconst (v := (1 : Int32)) C.x C.b dX9_isOffice_7 (by decide) ?_
  refine lv_isub C.x C.b dX9_isOffice_8 ?_
  obtain ⟨q1, eq1, hf⟩ := g_b hf
  refine g_calli G (g_runV (As := [.int a1, .int (0 : Int32), .int ((σ 9 0 1) - (1 : Int32))]) (rest := []) C G 9 0 (c_X9_in l D cy A ad L σ hT a1 (0 : Int32) ((σ 9 0 1) - (1 : Int32)) q1 eq1) ⟨tw1093, tw60, tw1090, ⟨tw1092, tw18⟩, hd_X9_in⟩ (by decide) hT rfl ⟨rfl, by decide⟩ hl.1 rfl (Nat.le_of_ble_eq_true rfl) dX9_isOffice_9 ⟨Nat.le_of_ble_eq_true rfl, Nat.le_of_ble_eq_true rfl⟩) (fun H locs G => ?_)
  obtain ⟨hbo, hf⟩ := g_ok hf
  exact g_ezp C G hr hlocks hf (g_bo_fit hbo).1 dX9_isOffice_12
def f_X9_isPerson (ad : gA) (σ : gS) (a1 : Int32) : Option Int32 := ((f_X9_in ad σ a1 (0 : Int32) ((σ 9 0 2) - (1 : Int32))).bind fun q1 => (if g_bo q1 then (some q1) else none))
theorem hd_X9_isPerson : yX9_isPerson.cls ≠ "java/lang/invoke/MethodHandle" ∧ yX9_isPerson.cls ≠ "java/lang/invoke/VarHandle" ∧ (parseMethodDescriptor yX9_isPerson.desc).map (fun d => d.parameters.length) = some 1 := by decide +kernel
set_option maxHeartbeats 4000000 in
set_option maxRecDepth 100000 in
theorem c_X9_isPerson (l : Launch) (D : va_G) (cy : Nat → ClassId) (A : Nat → Prop) (ad : gA) (L : gL)  (σ : gS) (hT : (9, 0) ∈ L) (a1 : Int32) (r0 : Int32) (hf : f_X9_isPerson ad σ a1 = some r0) : g_Mi l yX9_isPerson cX9_isPerson 2 (some .boolean) ({ frames := 1, cells := 0, slots := 0, locals := 23 } : Room) D cy A ad L σ [.ref (ad 9 0), .int a1] r0 σ := by
  refine g_met (by decide) (Nat.le_of_ble_eq_true rfl) (fun p e s m below meth c C hr hlocks hnm G ls hl => ?_)
  have hl : lv_has ls 2 [(0, .ref (ad 9 0)), (1, .int a1)] := hl
  unfold f_X9_isPerson at hf
  refine lv_aload_n C.x C.b dX9_isPerson_0 rfl (lv_at hl 0 rfl) ?_
  refine lv_iload_n C.x C.b dX9_isPerson_1 rfl (lv_at hl 1 rfl) ?_
  refine lv_iconst (v := (0 : Int32)) C.x C.b dX9_isPerson_2 (by decide) ?_
  refine lv_aload_n C.x C.b dX9_isPerson_3 rfl (lv_at hl 0 rfl) ?_
  refine g_geti C G 9 0 2 hT rfl ginX9 (by decide) tw952 dX9_isPerson_4 ?_
  refine lv_iconst (v := (1 : Int32)) C.x C.b dX9_isPerson_7 (by decide) ?_
  refine lv_isub C.x C.b dX9_isPerson_8 ?_
  obtain ⟨q1, eq1, hf⟩ := g_b hf
  refine g_calli G (g_runV (As := [.int a1, .int (0 : Int32), .int ((σ 9 0 2) - (1 : Int32))]) (rest := []) C G 9 0 (c_X9_in l D cy A ad L σ hT a1 (0 : Int32) ((σ 9 0 2) - (1 : Int32)) q1 eq1) ⟨tw1093, tw60, tw1090, ⟨tw1092, tw18⟩, hd_X9_in⟩ (by decide) hT rfl ⟨rfl, by decide⟩ hl.1 rfl (Nat.le_of_ble_eq_true rfl) dX9_isPerson_9 ⟨Nat.le_of_ble_eq_true rfl, Nat.le_of_ble_eq_true rfl⟩) (fun H locs G => ?_)
  obtain ⟨hbo, hf⟩ := g_ok hf
  exact g_ezp C G hr hlocks hf (g_bo_fit hbo).1 dX9_isPerson_12
def f_X9_isYear (ad : gA) (σ : gS) (a1 : Int32) : Option Int32 := ((f_X9_in ad σ a1 (0 : Int32) (199 : Int32)).bind fun q1 => (if g_bo q1 then (some q1) else none))
theorem hd_X9_isYear : yX9_isYear.cls ≠ "java/lang/invoke/MethodHandle" ∧ yX9_isYear.cls ≠ "java/lang/invoke/VarHandle" ∧ (parseMethodDescriptor yX9_isYear.desc).map (fun d => d.parameters.length) = some 1 := by decide +kernel
set_option maxHeartbeats 4000000 in
set_option maxRecDepth 100000 in
theorem c_X9_isYear (l : Launch) (D : va_G) (cy : Nat → ClassId) (A : Nat → Prop) (ad : gA) (L : gL)  (σ : gS) (hT : (9, 0) ∈ L) (a1 : Int32) (r0 : Int32) (hf : f_X9_isYear ad σ a1 = some r0) : g_Mi l yX9_isYear cX9_isYear 2 (some .boolean) ({ frames := 1, cells := 0, slots := 0, locals := 23 } : Room) D cy A ad L σ [.ref (ad 9 0), .int a1] r0 σ := by
  refine g_met (by decide) (Nat.le_of_ble_eq_true rfl) (fun p e s m below meth c C hr hlocks hnm G ls hl => ?_)
  have hl : lv_has ls 2 [(0, .ref (ad 9 0)), (1, .int a1)] := hl
  unfold f_X9_isYear at hf
  refine lv_aload_n C.x C.b dX9_isYear_0 rfl (lv_at hl 0 rfl) ?_
  refine lv_iload_n C.x C.b dX9_isYear_1 rfl (lv_at hl 1 rfl) ?_
  refine lv_iconst (v := (0 : Int32)) C.x C.b dX9_isYear_2 (by decide) ?_
  refine lv_sipush (v := (199 : Int32)) C.x C.b dX9_isYear_3 (by decide) ?_
  obtain ⟨q1, eq1, hf⟩ := g_b hf
  refine g_calli G (g_runV (As := [.int a1, .int (0 : Int32), .int (199 : Int32)]) (rest := []) C G 9 0 (c_X9_in l D cy A ad L σ hT a1 (0 : Int32) (199 : Int32) q1 eq1) ⟨tw1093, tw60, tw1090, ⟨tw1092, tw18⟩, hd_X9_in⟩ (by decide) hT rfl ⟨rfl, by decide⟩ hl.1 rfl (Nat.le_of_ble_eq_true rfl) dX9_isYear_6 ⟨Nat.le_of_ble_eq_true rfl, Nat.le_of_ble_eq_true rfl⟩) (fun H locs G => ?_)
  obtain ⟨hbo, hf⟩ := g_ok hf
  exact g_ezp C G hr hlocks hf (g_bo_fit hbo).1 dX9_isYear_9
def f_X9_at (ad : gA) (σ : gS) (a1 : Int32) (a2 : Int32) (a3 : Int32) : Option Int32 := (some (((((200 : Int32) * a1) + a2) * (3 : Int32)) + a3))
theorem hd_X9_at : yX9_at.cls ≠ "java/lang/invoke/MethodHandle" ∧ yX9_at.cls ≠ "java/lang/invoke/VarHandle" ∧ (parseMethodDescriptor yX9_at.desc).map (fun d => d.parameters.length) = some 3 := by decide +kernel
set_option maxHeartbeats 4000000 in
set_option maxRecDepth 100000 in
theorem c_X9_at (l : Launch) (D : va_G) (cy : Nat → ClassId) (A : Nat → Prop) (ad : gA) (L : gL)  (σ : gS) (hT : (9, 0) ∈ L) (a1 : Int32) (a2 : Int32) (a3 : Int32) (r0 : Int32) (hf : f_X9_at ad σ a1 a2 a3 = some r0) : g_Mi l yX9_at cX9_at 4 (some .int) ({ frames := 0, cells := 0, slots := 0, locals := 0 } : Room) D cy A ad L σ [.ref (ad 9 0), .int a1, .int a2, .int a3] r0 σ := by
  refine g_met (by decide) (Nat.le_of_ble_eq_true rfl) (fun p e s m below meth c C hr hlocks hnm G ls hl => ?_)
  have hl : lv_has ls 4 [(0, .ref (ad 9 0)), (1, .int a1), (2, .int a2), (3, .int a3)] := hl
  unfold f_X9_at at hf
  refine lv_sipush (v := (200 : Int32)) C.x C.b dX9_at_0 (by decide) ?_
  refine lv_iload_n C.x C.b dX9_at_3 rfl (lv_at hl 1 rfl) ?_
  refine lv_imul C.x C.b dX9_at_4 ?_
  refine lv_iload_n C.x C.b dX9_at_5 rfl (lv_at hl 2 rfl) ?_
  refine lv_iadd C.x C.b dX9_at_6 ?_
  refine lv_iconst (v := (3 : Int32)) C.x C.b dX9_at_7 (by decide) ?_
  refine lv_imul C.x C.b dX9_at_8 ?_
  refine lv_iload_n C.x C.b dX9_at_9 rfl (lv_at hl 3 rfl) ?_
  refine lv_iadd C.x C.b dX9_at_10 ?_
  exact g_eip C G hr hlocks hf dX9_at_11
def f_X9_office (ad : gA) (σ : gS) (a1 : Int32) (a2 : Int32) : Option (Int32 × gS) := ((f_X9_in ad σ a1 (1 : Int32) (3 : Int32)).bind fun q1 => (if q1 = 0 then (some ((-1 : Int32), σ)) else (if (σ 9 0 1) = (8 : Int32) then (some ((-2 : Int32), σ)) else (if g_ix (σ 9 0 1) 8 then (g_let (g_up σ 44 0 ((σ 9 0 1).toNatClampNeg) a1) fun σ4 => (if g_ix (σ4 9 0 1) 8 then (g_let (g_up σ4 45 0 ((σ4 9 0 1).toNatClampNeg) (vp_nar .boolean a2)) fun σ7 => (g_let (g_up σ7 9 0 1 ((σ7 9 0 1) + (1 : Int32))) fun σ8 => (some (((σ8 9 0 1) - (1 : Int32)), σ8)))) else none)) else none))))
theorem hd_X9_office : yX9_office.cls ≠ "java/lang/invoke/MethodHandle" ∧ yX9_office.cls ≠ "java/lang/invoke/VarHandle" ∧ (parseMethodDescriptor yX9_office.desc).map (fun d => d.parameters.length) = some 2 := by decide +kernel
set_option maxHeartbeats 4000000 in
set_option maxRecDepth 100000 in
theorem c_X9_office (l : Launch) (D : va_G) (cy : Nat → ClassId) (A : Nat → Prop) (ad : gA) (L : gL)  (σ : gS) (hT : (9, 0) ∈ L) (a1 : Int32) (a2 : Int32) (r0 : Int32) (σ0 : gS) (hf : f_X9_office ad σ a1 a2 = some (r0, σ0)) : g_Mi l yX9_office cX9_office 3 (some .int) ({ frames := 1, cells := 0, slots := 0, locals := 23 } : Room) D cy A ad L σ [.ref (ad 9 0), .int a1, .int a2] r0 σ0 := by
  refine g_met (by decide) (Nat.le_of_ble_eq_true rfl) (fun p e s m below meth c C hr hlocks hnm G ls hl => ?_)
  have hl : lv_has ls 3 [(0, .ref (ad 9 0)), (1, .int a1), (2, .int a2)] := hl
  unfold f_X9_office at hf
  refine lv_aload_n C.x C.b dX9_office_0 rfl (lv_at hl 0 rfl) ?_
  refine lv_iload_n C.x C.b dX9_office_1 rfl (lv_at hl 1 rfl) ?_
  refine lv_iconst (v := (1 : Int32)) C.x C.b dX9_office_2 (by decide) ?_
  refine lv_iconst (v := (3 : Int32)) C.x C.b dX9_office_3 (by decide) ?_
  obtain ⟨q1, eq1, hf⟩ := g_b hf
  refine g_calli G (g_runV (As := [.int a1, .int (1 : Int32), .int (3 : Int32)]) (rest := []) C G 9 0 (c_X9_in l D cy A ad L σ hT a1 (1 : Int32) (3 : Int32) q1 eq1) ⟨tw1093, tw60, tw1090, ⟨tw1092, tw18⟩, hd_X9_in⟩ (by decide) hT rfl ⟨rfl, by decide⟩ hl.1 rfl (Nat.le_of_ble_eq_true rfl) dX9_office_4 ⟨Nat.le_of_ble_eq_true rfl, Nat.le_of_ble_eq_true rfl⟩) (fun H locs G => ?_)
  refine lv_if_ne (tgt := 12) C.x C.b dX9_office_7 (by decide) (fun cb => ?_) (fun cb => ?_)
  · have hf := g_f cb hf
    refine lv_aload_n C.x C.b dX9_office_12 rfl (lv_at hl 0 rfl) ?_
    refine g_geti C G 9 0 1 hT rfl ginX9 (by decide) tw951 dX9_office_13 ?_
    refine lv_bipush (v := (8 : Int32)) C.x C.b dX9_office_16 (by decide) ?_
    refine lv_icmp_ne (tgt := 24) C.x C.b dX9_office_18 (by decide) (fun cb => ?_) (fun cb => ?_)
    · have hf := g_f cb hf
      refine lv_aload_n C.x C.b dX9_office_24 rfl (lv_at hl 0 rfl) ?_
      refine g_getr C G 9 0 4 44 hT rfl ginX9 (by decide) tw954 dX9_office_25 (fun hL2 => ?_)
      refine lv_aload_n C.x C.b dX9_office_28 rfl (lv_at hl 0 rfl) ?_
      refine g_geti C G 9 0 1 hT rfl ginX9 (by decide) tw951 dX9_office_29 ?_
      refine lv_iload_n C.x C.b dX9_office_32 rfl (lv_at hl 1 rfl) ?_
      obtain ⟨hi3, hf⟩ := g_ok hf
      refine g_iast (n := 8) C G 44 0 hL2 (by decide) rfl hi3 dX9_office_33 (fun H locs G => ?_)
      obtain ⟨σ4, eσ4, hf⟩ := g_lt hf
      rw [← eσ4] at G
      refine lv_aload_n C.x C.b dX9_office_34 rfl (lv_at hl 0 rfl) ?_
      refine g_getr C G 9 0 5 45 hT rfl ginX9 (by decide) tw955 dX9_office_35 (fun hL5 => ?_)
      refine lv_aload_n C.x C.b dX9_office_38 rfl (lv_at hl 0 rfl) ?_
      refine g_geti C G 9 0 1 hT rfl ginX9 (by decide) tw951 dX9_office_39 ?_
      refine lv_iload_n C.x C.b dX9_office_42 rfl (lv_at hl 2 rfl) ?_
      obtain ⟨hi6, hf⟩ := g_ok hf
      refine g_zast (n := 8) C G 45 0 hL5 (by decide) rfl hi6 dX9_office_43 (fun H locs G => ?_)
      obtain ⟨σ7, eσ7, hf⟩ := g_lt hf
      rw [← eσ7] at G
      refine lv_aload_n C.x C.b dX9_office_44 rfl (lv_at hl 0 rfl) ?_
      refine lv_dup C.x C.b dX9_office_45 rfl ?_
      refine g_geti C G 9 0 1 hT rfl ginX9 (by decide) tw951 dX9_office_46 ?_
      refine lv_iconst (v := (1 : Int32)) C.x C.b dX9_office_49 (by decide) ?_
      refine lv_iadd C.x C.b dX9_office_50 ?_
      refine g_puti C G 9 0 1 hT (v := ((σ7 9 0 1) + (1 : Int32))) rfl ginX9 tyX9_ok nmX9 (by decide) ⟨rfl, rfl⟩ tw951 dX9_office_51 (fun H locs G => ?_)
      obtain ⟨σ8, eσ8, hf⟩ := g_lt hf
      rw [← eσ8] at G
      refine lv_aload_n C.x C.b dX9_office_54 rfl (lv_at hl 0 rfl) ?_
      refine g_geti C G 9 0 1 hT rfl ginX9 (by decide) tw951 dX9_office_55 ?_
      refine lv_iconst (v := (1 : Int32)) C.x C.b dX9_office_58 (by decide) ?_
      refine lv_isub C.x C.b dX9_office_59 ?_
      exact g_eii C G hr hlocks hf dX9_office_60
    · have hf := g_t cb hf
      refine lv_bipush (v := (-2 : Int32)) C.x C.b dX9_office_21 (by decide) ?_
      exact g_eii C G hr hlocks hf dX9_office_23
  · have hf := g_t cb hf
    refine lv_iconst (v := (-1 : Int32)) C.x C.b dX9_office_10 (by decide) ?_
    exact g_eii C G hr hlocks hf dX9_office_11
def f_X9_isSpan (ad : gA) (σ : gS) (a1 : Int32) (a2 : Int32) : Option Int32 := ((f_X9_in ad σ a1 (-50 : Int32) (199 : Int32)).bind fun q1 => (if q1 = 0 then (some (0 : Int32)) else ((f_X9_in ad σ a2 a1 (199 : Int32)).bind fun q2 => (if q2 = 0 then (some (0 : Int32)) else (some (1 : Int32))))))
theorem hd_X9_isSpan : yX9_isSpan.cls ≠ "java/lang/invoke/MethodHandle" ∧ yX9_isSpan.cls ≠ "java/lang/invoke/VarHandle" ∧ (parseMethodDescriptor yX9_isSpan.desc).map (fun d => d.parameters.length) = some 2 := by decide +kernel
set_option maxHeartbeats 4000000 in
set_option maxRecDepth 100000 in
theorem c_X9_isSpan (l : Launch) (D : va_G) (cy : Nat → ClassId) (A : Nat → Prop) (ad : gA) (L : gL)  (σ : gS) (hT : (9, 0) ∈ L) (a1 : Int32) (a2 : Int32) (r0 : Int32) (hf : f_X9_isSpan ad σ a1 a2 = some r0) : g_Mi l yX9_isSpan cX9_isSpan 3 (some .boolean) ({ frames := 1, cells := 0, slots := 0, locals := 23 } : Room) D cy A ad L σ [.ref (ad 9 0), .int a1, .int a2] r0 σ := by
  refine g_met (by decide) (Nat.le_of_ble_eq_true rfl) (fun p e s m below meth c C hr hlocks hnm G ls hl => ?_)
  have hl : lv_has ls 3 [(0, .ref (ad 9 0)), (1, .int a1), (2, .int a2)] := hl
  unfold f_X9_isSpan at hf
  refine lv_aload_n C.x C.b dX9_isSpan_0 rfl (lv_at hl 0 rfl) ?_
  refine lv_iload_n C.x C.b dX9_isSpan_1 rfl (lv_at hl 1 rfl) ?_
  refine lv_bipush (v := (-50 : Int32)) C.x C.b dX9_isSpan_2 (by decide) ?_
  refine lv_sipush (v := (199 : Int32)) C.x C.b dX9_isSpan_4 (by decide) ?_
  obtain ⟨q1, eq1, hf⟩ := g_b hf
  refine g_calli G (g_runV (As := [.int a1, .int (-50 : Int32), .int (199 : Int32)]) (rest := []) C G 9 0 (c_X9_in l D cy A ad L σ hT a1 (-50 : Int32) (199 : Int32) q1 eq1) ⟨tw1093, tw60, tw1090, ⟨tw1092, tw18⟩, hd_X9_in⟩ (by decide) hT rfl ⟨rfl, by decide⟩ hl.1 rfl (Nat.le_of_ble_eq_true rfl) dX9_isSpan_7 ⟨Nat.le_of_ble_eq_true rfl, Nat.le_of_ble_eq_true rfl⟩) (fun H locs G => ?_)
  refine lv_if_eq (tgt := 29) C.x C.b dX9_isSpan_10 (by decide) (fun cb => ?_) (fun cb => ?_)
  · have hf := g_t cb hf
    refine lv_iconst (v := (0 : Int32)) C.x C.b dX9_isSpan_29 (by decide) ?_
    exact g_ezp C G hr hlocks hf rfl dX9_isSpan_30
  · have hf := g_f cb hf
    refine lv_aload_n C.x C.b dX9_isSpan_13 rfl (lv_at hl 0 rfl) ?_
    refine lv_iload_n C.x C.b dX9_isSpan_14 rfl (lv_at hl 2 rfl) ?_
    refine lv_iload_n C.x C.b dX9_isSpan_15 rfl (lv_at hl 1 rfl) ?_
    refine lv_sipush (v := (199 : Int32)) C.x C.b dX9_isSpan_16 (by decide) ?_
    obtain ⟨q2, eq2, hf⟩ := g_b hf
    refine g_calli G (g_runV (As := [.int a2, .int a1, .int (199 : Int32)]) (rest := []) C G 9 0 (c_X9_in l D cy A ad L σ hT a2 a1 (199 : Int32) q2 eq2) ⟨tw1093, tw60, tw1090, ⟨tw1092, tw18⟩, hd_X9_in⟩ (by decide) hT rfl ⟨rfl, by decide⟩ hl.1 rfl (Nat.le_of_ble_eq_true rfl) dX9_isSpan_19 ⟨Nat.le_of_ble_eq_true rfl, Nat.le_of_ble_eq_true rfl⟩) (fun H locs G => ?_)
    refine lv_if_eq (tgt := 29) C.x C.b dX9_isSpan_22 (by decide) (fun cb => ?_) (fun cb => ?_)
    · have hf := g_t cb hf
      refine lv_iconst (v := (0 : Int32)) C.x C.b dX9_isSpan_29 (by decide) ?_
      exact g_ezp C G hr hlocks hf rfl dX9_isSpan_30
    · have hf := g_f cb hf
      refine lv_iconst (v := (1 : Int32)) C.x C.b dX9_isSpan_25 (by decide) ?_
      refine lv_goto (tgt := 30) C.x C.b dX9_isSpan_26 (by decide) ?_
      exact g_ezp C G hr hlocks hf rfl dX9_isSpan_30
def f_X9_person (ad : gA) (σ : gS) (a1 : Int32) (a2 : Int32) (a3 : Int32) (a4 : Int32) : Option (Int32 × gS) := ((f_X9_in ad σ a1 (0 : Int32) (1 : Int32)).bind fun q1 => (if q1 = 0 then (some ((-1 : Int32), σ)) else ((f_X9_isSpan ad σ a2 a3).bind fun q2 => (if q2 = 0 then (some ((-1 : Int32), σ)) else ((f_X9_in ad σ a4 (-1 : Int32) ((σ 9 0 2) - (1 : Int32))).bind fun q3 => (if q3 = 0 then (some ((-1 : Int32), σ)) else (if (σ 9 0 2) = (24 : Int32) then (some ((-2 : Int32), σ)) else (if g_ix (σ 9 0 2) 24 then (g_let (g_up σ 46 0 ((σ 9 0 2).toNatClampNeg) a1) fun σ6 => (if g_ix (σ6 9 0 2) 24 then (g_let (g_up σ6 47 0 ((σ6 9 0 2).toNatClampNeg) a2) fun σ9 => (if g_ix (σ9 9 0 2) 24 then (g_let (g_up σ9 48 0 ((σ9 9 0 2).toNatClampNeg) a3) fun σ12 => (if g_ix (σ12 9 0 2) 24 then (g_let (g_up σ12 49 0 ((σ12 9 0 2).toNatClampNeg) a4) fun σ15 => (if g_ix (σ15 9 0 2) 24 then (g_let (g_up σ15 50 0 ((σ15 9 0 2).toNatClampNeg) (200 : Int32)) fun σ18 => (if g_ix (σ18 9 0 2) 24 then (g_let (g_up σ18 51 0 ((σ18 9 0 2).toNatClampNeg) (0 : Int32)) fun σ21 => (if g_ix (σ21 9 0 2) 24 then (g_let (g_up σ21 52 0 ((σ21 9 0 2).toNatClampNeg) (-1 : Int32)) fun σ24 => (g_let (g_up σ24 9 0 2 ((σ24 9 0 2) + (1 : Int32))) fun σ25 => (some (((σ25 9 0 2) - (1 : Int32)), σ25)))) else none)) else none)) else none)) else none)) else none)) else none)) else none))))))))
theorem hd_X9_person : yX9_person.cls ≠ "java/lang/invoke/MethodHandle" ∧ yX9_person.cls ≠ "java/lang/invoke/VarHandle" ∧ (parseMethodDescriptor yX9_person.desc).map (fun d => d.parameters.length) = some 4 := by decide +kernel
set_option maxHeartbeats 4000000 in
set_option maxRecDepth 100000 in
theorem c_X9_person (l : Launch) (D : va_G) (cy : Nat → ClassId) (A : Nat → Prop) (ad : gA) (L : gL)  (σ : gS) (hT : (9, 0) ∈ L) (a1 : Int32) (a2 : Int32) (a3 : Int32) (a4 : Int32) (r0 : Int32) (σ0 : gS) (hf : f_X9_person ad σ a1 a2 a3 a4 = some (r0, σ0)) : g_Mi l yX9_person cX9_person 5 (some .int) ({ frames := 2, cells := 0, slots := 0, locals := 45 } : Room) D cy A ad L σ [.ref (ad 9 0), .int a1, .int a2, .int a3, .int a4] r0 σ0 := by
  refine g_met (by decide) (Nat.le_of_ble_eq_true rfl) (fun p e s m below meth c C hr hlocks hnm G ls hl => ?_)
  have hl : lv_has ls 5 [(0, .ref (ad 9 0)), (1, .int a1), (2, .int a2), (3, .int a3), (4, .int a4)] := hl
  unfold f_X9_person at hf
  refine lv_aload_n C.x C.b dX9_person_0 rfl (lv_at hl 0 rfl) ?_
  refine lv_iload_n C.x C.b dX9_person_1 rfl (lv_at hl 1 rfl) ?_
  refine lv_iconst (v := (0 : Int32)) C.x C.b dX9_person_2 (by decide) ?_
  refine lv_iconst (v := (1 : Int32)) C.x C.b dX9_person_3 (by decide) ?_
  obtain ⟨q1, eq1, hf⟩ := g_b hf
  refine g_calli G (g_runV (As := [.int a1, .int (0 : Int32), .int (1 : Int32)]) (rest := []) C G 9 0 (c_X9_in l D cy A ad L σ hT a1 (0 : Int32) (1 : Int32) q1 eq1) ⟨tw1093, tw60, tw1090, ⟨tw1092, tw18⟩, hd_X9_in⟩ (by decide) hT rfl ⟨rfl, by decide⟩ hl.1 rfl (Nat.le_of_ble_eq_true rfl) dX9_person_4 ⟨Nat.le_of_ble_eq_true rfl, Nat.le_of_ble_eq_true rfl⟩) (fun H locs G => ?_)
  refine lv_if_eq (tgt := 35) C.x C.b dX9_person_7 (by decide) (fun cb => ?_) (fun cb => ?_)
  · have hf := g_t cb hf
    refine lv_iconst (v := (-1 : Int32)) C.x C.b dX9_person_35 (by decide) ?_
    exact g_eii C G hr hlocks hf dX9_person_36
  · have hf := g_f cb hf
    refine lv_aload_n C.x C.b dX9_person_10 rfl (lv_at hl 0 rfl) ?_
    refine lv_iload_n C.x C.b dX9_person_11 rfl (lv_at hl 2 rfl) ?_
    refine lv_iload_n C.x C.b dX9_person_12 rfl (lv_at hl 3 rfl) ?_
    obtain ⟨q2, eq2, hf⟩ := g_b hf
    refine g_calli G (g_runV (As := [.int a2, .int a3]) (rest := []) C G 9 0 (c_X9_isSpan l D cy A ad L σ hT a2 a3 q2 eq2) ⟨tw1101, tw60, tw1098, ⟨tw1100, tw19⟩, hd_X9_isSpan⟩ (by decide) hT rfl ⟨rfl, by decide⟩ hl.1 rfl (Nat.le_of_ble_eq_true rfl) dX9_person_13 ⟨Nat.le_of_ble_eq_true rfl, Nat.le_of_ble_eq_true rfl⟩) (fun H locs G => ?_)
    refine lv_if_eq (tgt := 35) C.x C.b dX9_person_16 (by decide) (fun cb => ?_) (fun cb => ?_)
    · have hf := g_t cb hf
      refine lv_iconst (v := (-1 : Int32)) C.x C.b dX9_person_35 (by decide) ?_
      exact g_eii C G hr hlocks hf dX9_person_36
    · have hf := g_f cb hf
      refine lv_aload_n C.x C.b dX9_person_19 rfl (lv_at hl 0 rfl) ?_
      refine lv_iload C.x C.b dX9_person_20 (lv_at hl 4 rfl) ?_
      refine lv_iconst (v := (-1 : Int32)) C.x C.b dX9_person_22 (by decide) ?_
      refine lv_aload_n C.x C.b dX9_person_23 rfl (lv_at hl 0 rfl) ?_
      refine g_geti C G 9 0 2 hT rfl ginX9 (by decide) tw952 dX9_person_24 ?_
      refine lv_iconst (v := (1 : Int32)) C.x C.b dX9_person_27 (by decide) ?_
      refine lv_isub C.x C.b dX9_person_28 ?_
      obtain ⟨q3, eq3, hf⟩ := g_b hf
      refine g_calli G (g_runV (As := [.int a4, .int (-1 : Int32), .int ((σ 9 0 2) - (1 : Int32))]) (rest := []) C G 9 0 (c_X9_in l D cy A ad L σ hT a4 (-1 : Int32) ((σ 9 0 2) - (1 : Int32)) q3 eq3) ⟨tw1093, tw60, tw1090, ⟨tw1092, tw18⟩, hd_X9_in⟩ (by decide) hT rfl ⟨rfl, by decide⟩ hl.1 rfl (Nat.le_of_ble_eq_true rfl) dX9_person_29 ⟨Nat.le_of_ble_eq_true rfl, Nat.le_of_ble_eq_true rfl⟩) (fun H locs G => ?_)
      refine lv_if_ne (tgt := 37) C.x C.b dX9_person_32 (by decide) (fun cb => ?_) (fun cb => ?_)
      · have hf := g_f cb hf
        refine lv_aload_n C.x C.b dX9_person_37 rfl (lv_at hl 0 rfl) ?_
        refine g_geti C G 9 0 2 hT rfl ginX9 (by decide) tw952 dX9_person_38 ?_
        refine lv_bipush (v := (24 : Int32)) C.x C.b dX9_person_41 (by decide) ?_
        refine lv_icmp_ne (tgt := 49) C.x C.b dX9_person_43 (by decide) (fun cb => ?_) (fun cb => ?_)
        · have hf := g_f cb hf
          refine lv_aload_n C.x C.b dX9_person_49 rfl (lv_at hl 0 rfl) ?_
          refine g_getr C G 9 0 6 46 hT rfl ginX9 (by decide) tw956 dX9_person_50 (fun hL4 => ?_)
          refine lv_aload_n C.x C.b dX9_person_53 rfl (lv_at hl 0 rfl) ?_
          refine g_geti C G 9 0 2 hT rfl ginX9 (by decide) tw952 dX9_person_54 ?_
          refine lv_iload_n C.x C.b dX9_person_57 rfl (lv_at hl 1 rfl) ?_
          obtain ⟨hi5, hf⟩ := g_ok hf
          refine g_iast (n := 24) C G 46 0 hL4 (by decide) rfl hi5 dX9_person_58 (fun H locs G => ?_)
          obtain ⟨σ6, eσ6, hf⟩ := g_lt hf
          rw [← eσ6] at G
          refine lv_aload_n C.x C.b dX9_person_59 rfl (lv_at hl 0 rfl) ?_
          refine g_getr C G 9 0 7 47 hT rfl ginX9 (by decide) tw957 dX9_person_60 (fun hL7 => ?_)
          refine lv_aload_n C.x C.b dX9_person_63 rfl (lv_at hl 0 rfl) ?_
          refine g_geti C G 9 0 2 hT rfl ginX9 (by decide) tw952 dX9_person_64 ?_
          refine lv_iload_n C.x C.b dX9_person_67 rfl (lv_at hl 2 rfl) ?_
          obtain ⟨hi8, hf⟩ := g_ok hf
          refine g_iast (n := 24) C G 47 0 hL7 (by decide) rfl hi8 dX9_person_68 (fun H locs G => ?_)
          obtain ⟨σ9, eσ9, hf⟩ := g_lt hf
          rw [← eσ9] at G
          refine lv_aload_n C.x C.b dX9_person_69 rfl (lv_at hl 0 rfl) ?_
          refine g_getr C G 9 0 8 48 hT rfl ginX9 (by decide) tw958 dX9_person_70 (fun hL10 => ?_)
          refine lv_aload_n C.x C.b dX9_person_73 rfl (lv_at hl 0 rfl) ?_
          refine g_geti C G 9 0 2 hT rfl ginX9 (by decide) tw952 dX9_person_74 ?_
          refine lv_iload_n C.x C.b dX9_person_77 rfl (lv_at hl 3 rfl) ?_
          obtain ⟨hi11, hf⟩ := g_ok hf
          refine g_iast (n := 24) C G 48 0 hL10 (by decide) rfl hi11 dX9_person_78 (fun H locs G => ?_)
          obtain ⟨σ12, eσ12, hf⟩ := g_lt hf
          rw [← eσ12] at G
          refine lv_aload_n C.x C.b dX9_person_79 rfl (lv_at hl 0 rfl) ?_
          refine g_getr C G 9 0 9 49 hT rfl ginX9 (by decide) tw959 dX9_person_80 (fun hL13 => ?_)
          refine lv_aload_n C.x C.b dX9_person_83 rfl (lv_at hl 0 rfl) ?_
          refine g_geti C G 9 0 2 hT rfl ginX9 (by decide) tw952 dX9_person_84 ?_
          refine lv_iload C.x C.b dX9_person_87 (lv_at hl 4 rfl) ?_
          obtain ⟨hi14, hf⟩ := g_ok hf
          refine g_iast (n := 24) C G 49 0 hL13 (by decide) rfl hi14 dX9_person_89 (fun H locs G => ?_)
          obtain ⟨σ15, eσ15, hf⟩ := g_lt hf
          rw [← eσ15] at G
          refine lv_aload_n C.x C.b dX9_person_90 rfl (lv_at hl 0 rfl) ?_
          refine g_getr C G 9 0 10 50 hT rfl ginX9 (by decide) tw960 dX9_person_91 (fun hL16 => ?_)
          refine lv_aload_n C.x C.b dX9_person_94 rfl (lv_at hl 0 rfl) ?_
          refine g_geti C G 9 0 2 hT rfl ginX9 (by decide) tw952 dX9_person_95 ?_
          refine lv_sipush (v := (200 : Int32)) C.x C.b dX9_person_98 (by decide) ?_
          obtain ⟨hi17, hf⟩ := g_ok hf
          refine g_iast (n := 24) C G 50 0 hL16 (by decide) rfl hi17 dX9_person_101 (fun H locs G => ?_)
          obtain ⟨σ18, eσ18, hf⟩ := g_lt hf
          rw [← eσ18] at G
          refine lv_aload_n C.x C.b dX9_person_102 rfl (lv_at hl 0 rfl) ?_
          refine g_getr C G 9 0 11 51 hT rfl ginX9 (by decide) tw961 dX9_person_103 (fun hL19 => ?_)
          refine lv_aload_n C.x C.b dX9_person_106 rfl (lv_at hl 0 rfl) ?_
          refine g_geti C G 9 0 2 hT rfl ginX9 (by decide) tw952 dX9_person_107 ?_
          refine lv_iconst (v := (0 : Int32)) C.x C.b dX9_person_110 (by decide) ?_
          obtain ⟨hi20, hf⟩ := g_ok hf
          refine g_iast (n := 24) C G 51 0 hL19 (by decide) rfl hi20 dX9_person_111 (fun H locs G => ?_)
          obtain ⟨σ21, eσ21, hf⟩ := g_lt hf
          rw [← eσ21] at G
          refine lv_aload_n C.x C.b dX9_person_112 rfl (lv_at hl 0 rfl) ?_
          refine g_getr C G 9 0 12 52 hT rfl ginX9 (by decide) tw962 dX9_person_113 (fun hL22 => ?_)
          refine lv_aload_n C.x C.b dX9_person_116 rfl (lv_at hl 0 rfl) ?_
          refine g_geti C G 9 0 2 hT rfl ginX9 (by decide) tw952 dX9_person_117 ?_
          refine lv_iconst (v := (-1 : Int32)) C.x C.b dX9_person_120 (by decide) ?_
          obtain ⟨hi23, hf⟩ := g_ok hf
          refine g_iast (n := 24) C G 52 0 hL22 (by decide) rfl hi23 dX9_person_121 (fun H locs G => ?_)
          obtain ⟨σ24, eσ24, hf⟩ := g_lt hf
          rw [← eσ24] at G
          refine lv_aload_n C.x C.b dX9_person_122 rfl (lv_at hl 0 rfl) ?_
          refine lv_dup C.x C.b dX9_person_123 rfl ?_
          refine g_geti C G 9 0 2 hT rfl ginX9 (by decide) tw952 dX9_person_124 ?_
          refine lv_iconst (v := (1 : Int32)) C.x C.b dX9_person_127 (by decide) ?_
          refine lv_iadd C.x C.b dX9_person_128 ?_
          refine g_puti C G 9 0 2 hT (v := ((σ24 9 0 2) + (1 : Int32))) rfl ginX9 tyX9_ok nmX9 (by decide) ⟨rfl, rfl⟩ tw952 dX9_person_129 (fun H locs G => ?_)
          obtain ⟨σ25, eσ25, hf⟩ := g_lt hf
          rw [← eσ25] at G
          refine lv_aload_n C.x C.b dX9_person_132 rfl (lv_at hl 0 rfl) ?_
          refine g_geti C G 9 0 2 hT rfl ginX9 (by decide) tw952 dX9_person_133 ?_
          refine lv_iconst (v := (1 : Int32)) C.x C.b dX9_person_136 (by decide) ?_
          refine lv_isub C.x C.b dX9_person_137 ?_
          exact g_eii C G hr hlocks hf dX9_person_138
        · have hf := g_t cb hf
          refine lv_bipush (v := (-2 : Int32)) C.x C.b dX9_person_46 (by decide) ?_
          exact g_eii C G hr hlocks hf dX9_person_48
      · have hf := g_t cb hf
        refine lv_iconst (v := (-1 : Int32)) C.x C.b dX9_person_35 (by decide) ?_
        exact g_eii C G hr hlocks hf dX9_person_36
def f_X9_death (ad : gA) (σ : gS) (a1 : Int32) (a2 : Int32) : Option (Int32 × gS) := ((f_X9_isPerson ad σ a1).bind fun q1 => (if q1 = 0 then (some ((-1 : Int32), σ)) else ((f_X9_in ad σ a2 (0 : Int32) (200 : Int32)).bind fun q2 => (if q2 = 0 then (some ((-1 : Int32), σ)) else (if g_ix a1 24 then (if g_ix a1 24 then (g_let (g_up σ 50 0 a1.toNatClampNeg a2) fun σ7 => (some ((σ 50 0 a1.toNatClampNeg), σ7))) else none) else none)))))
theorem hd_X9_death : yX9_death.cls ≠ "java/lang/invoke/MethodHandle" ∧ yX9_death.cls ≠ "java/lang/invoke/VarHandle" ∧ (parseMethodDescriptor yX9_death.desc).map (fun d => d.parameters.length) = some 2 := by decide +kernel
set_option maxHeartbeats 4000000 in
set_option maxRecDepth 100000 in
theorem c_X9_death (l : Launch) (D : va_G) (cy : Nat → ClassId) (A : Nat → Prop) (ad : gA) (L : gL)  (σ : gS) (hT : (9, 0) ∈ L) (a1 : Int32) (a2 : Int32) (r0 : Int32) (σ0 : gS) (hf : f_X9_death ad σ a1 a2 = some (r0, σ0)) : g_Mi l yX9_death cX9_death 4 (some .int) ({ frames := 2, cells := 0, slots := 0, locals := 44 } : Room) D cy A ad L σ [.ref (ad 9 0), .int a1, .int a2] r0 σ0 := by
  refine g_met (by decide) (Nat.le_of_ble_eq_true rfl) (fun p e s m below meth c C hr hlocks hnm G ls hl => ?_)
  have hl : lv_has ls 4 [(0, .ref (ad 9 0)), (1, .int a1), (2, .int a2)] := hl
  unfold f_X9_death at hf
  refine lv_aload_n C.x C.b dX9_death_0 rfl (lv_at hl 0 rfl) ?_
  refine lv_iload_n C.x C.b dX9_death_1 rfl (lv_at hl 1 rfl) ?_
  obtain ⟨q1, eq1, hf⟩ := g_b hf
  refine g_calli G (g_runV (As := [.int a1]) (rest := []) C G 9 0 (c_X9_isPerson l D cy A ad L σ hT a1 q1 eq1) ⟨tw1109, tw60, tw1106, ⟨tw1108, tw20⟩, hd_X9_isPerson⟩ (by decide) hT rfl ⟨rfl, by decide⟩ hl.1 rfl (Nat.le_of_ble_eq_true rfl) dX9_death_2 ⟨Nat.le_of_ble_eq_true rfl, Nat.le_of_ble_eq_true rfl⟩) (fun H locs G => ?_)
  refine lv_if_eq (tgt := 20) C.x C.b dX9_death_5 (by decide) (fun cb => ?_) (fun cb => ?_)
  · have hf := g_t cb hf
    refine lv_iconst (v := (-1 : Int32)) C.x C.b dX9_death_20 (by decide) ?_
    exact g_eii C G hr hlocks hf dX9_death_21
  · have hf := g_f cb hf
    refine lv_aload_n C.x C.b dX9_death_8 rfl (lv_at hl 0 rfl) ?_
    refine lv_iload_n C.x C.b dX9_death_9 rfl (lv_at hl 2 rfl) ?_
    refine lv_iconst (v := (0 : Int32)) C.x C.b dX9_death_10 (by decide) ?_
    refine lv_sipush (v := (200 : Int32)) C.x C.b dX9_death_11 (by decide) ?_
    obtain ⟨q2, eq2, hf⟩ := g_b hf
    refine g_calli G (g_runV (As := [.int a2, .int (0 : Int32), .int (200 : Int32)]) (rest := []) C G 9 0 (c_X9_in l D cy A ad L σ hT a2 (0 : Int32) (200 : Int32) q2 eq2) ⟨tw1093, tw60, tw1090, ⟨tw1092, tw18⟩, hd_X9_in⟩ (by decide) hT rfl ⟨rfl, by decide⟩ hl.1 rfl (Nat.le_of_ble_eq_true rfl) dX9_death_14 ⟨Nat.le_of_ble_eq_true rfl, Nat.le_of_ble_eq_true rfl⟩) (fun H locs G => ?_)
    refine lv_if_ne (tgt := 22) C.x C.b dX9_death_17 (by decide) (fun cb => ?_) (fun cb => ?_)
    · have hf := g_f cb hf
      refine lv_aload_n C.x C.b dX9_death_22 rfl (lv_at hl 0 rfl) ?_
      refine g_getr C G 9 0 10 50 hT rfl ginX9 (by decide) tw960 dX9_death_23 (fun hL3 => ?_)
      refine lv_iload_n C.x C.b dX9_death_26 rfl (lv_at hl 1 rfl) ?_
      obtain ⟨hi4, hf⟩ := g_ok hf
      refine g_iald (n := 24) C G 50 0 hL3 (by decide) rfl hi4 dX9_death_27 ?_
      refine lv_istore_n (lv' := [(3, .int (σ 50 0 a1.toNatClampNeg)), (0, .ref (ad 9 0)), (1, .int a1), (2, .int a2)]) C.x C.b dX9_death_28 rfl hl (by decide) rfl (fun ls hl => ?_)
      refine lv_aload_n C.x C.b dX9_death_29 rfl (lv_at hl 1 rfl) ?_
      refine g_getr C G 9 0 10 50 hT rfl ginX9 (by decide) tw960 dX9_death_30 (fun hL5 => ?_)
      refine lv_iload_n C.x C.b dX9_death_33 rfl (lv_at hl 2 rfl) ?_
      refine lv_iload_n C.x C.b dX9_death_34 rfl (lv_at hl 3 rfl) ?_
      obtain ⟨hi6, hf⟩ := g_ok hf
      refine g_iast (n := 24) C G 50 0 hL5 (by decide) rfl hi6 dX9_death_35 (fun H locs G => ?_)
      obtain ⟨σ7, eσ7, hf⟩ := g_lt hf
      rw [← eσ7] at G
      refine lv_iload_n C.x C.b dX9_death_36 rfl (lv_at hl 0 rfl) ?_
      exact g_eii C G hr hlocks hf dX9_death_37
    · have hf := g_t cb hf
      refine lv_iconst (v := (-1 : Int32)) C.x C.b dX9_death_20 (by decide) ?_
      exact g_eii C G hr hlocks hf dX9_death_21
def f_X9_exile_P46 (a1 : Int32) (a2 : Int32) (a3 : Int32) (σ : gS) (k0 : Int32) : Option (Int32 × gS) := (if a2 ≤ a3 then (if g_ix a1 24 then (g_let (g_up σ 51 0 a1.toNatClampNeg a2) fun σ10 => (if a2 ≤ a3 then (if g_ix a1 24 then (g_let (g_up σ10 52 0 a1.toNatClampNeg a3) fun σ13 => (some (k0, σ13))) else none) else (if g_ix a1 24 then (g_let (g_up σ10 52 0 a1.toNatClampNeg (-1 : Int32)) fun σ15 => (some (k0, σ15))) else none))) else none) else (if g_ix a1 24 then (g_let (g_up σ 51 0 a1.toNatClampNeg (0 : Int32)) fun σ17 => (if a2 ≤ a3 then (if g_ix a1 24 then (g_let (g_up σ17 52 0 a1.toNatClampNeg a3) fun σ20 => (some (k0, σ20))) else none) else (if g_ix a1 24 then (g_let (g_up σ17 52 0 a1.toNatClampNeg (-1 : Int32)) fun σ22 => (some (k0, σ22))) else none))) else none))
def f_X9_exile (ad : gA) (σ : gS) (a1 : Int32) (a2 : Int32) (a3 : Int32) : Option (Int32 × gS) := ((f_X9_isPerson ad σ a1).bind fun q1 => (if q1 = 0 then (some ((-1 : Int32), σ)) else ((f_X9_isYear ad σ a2).bind fun q2 => (if q2 = 0 then (some ((-1 : Int32), σ)) else ((f_X9_isYear ad σ a3).bind fun q3 => (if q3 = 0 then (some ((-1 : Int32), σ)) else (if g_ix a1 24 then (if g_ix a1 24 then (if (σ 52 0 a1.toNatClampNeg) < (σ 51 0 a1.toNatClampNeg) then (f_X9_exile_P46 a1 a2 a3 σ (0 : Int32)) else (f_X9_exile_P46 a1 a2 a3 σ (1 : Int32))) else none) else none)))))))
theorem hd_X9_exile : yX9_exile.cls ≠ "java/lang/invoke/MethodHandle" ∧ yX9_exile.cls ≠ "java/lang/invoke/VarHandle" ∧ (parseMethodDescriptor yX9_exile.desc).map (fun d => d.parameters.length) = some 3 := by decide +kernel
set_option maxHeartbeats 4000000 in
set_option maxRecDepth 100000 in
theorem c_X9_exile (l : Launch) (D : va_G) (cy : Nat → ClassId) (A : Nat → Prop) (ad : gA) (L : gL)  (σ : gS) (hT : (9, 0) ∈ L) (a1 : Int32) (a2 : Int32) (a3 : Int32) (r0 : Int32) (σ0 : gS) (hf : f_X9_exile ad σ a1 a2 a3 = some (r0, σ0)) : g_Mi l yX9_exile cX9_exile 5 (some .int) ({ frames := 2, cells := 0, slots := 0, locals := 44 } : Room) D cy A ad L σ [.ref (ad 9 0), .int a1, .int a2, .int a3] r0 σ0 := by
  refine g_met (by decide) (Nat.le_of_ble_eq_true rfl) (fun p e s m below meth c C hr hlocks hnm G ls hl => ?_)
  have hl : lv_has ls 5 [(0, .ref (ad 9 0)), (1, .int a1), (2, .int a2), (3, .int a3)] := hl
  have pt46 : ∀ (σ : gS) (k0 : Int32) (H : Heap) (locs : List Loc) (ls : Array Slot), g_H D cy A ad L σ s.heap H locs → lv_has ls 5 [(0, .ref (ad 9 0)), (1, .int a1), (2, .int a2), (3, .int a3)] → f_X9_exile_P46 a1 a2 a3 σ k0 = some (r0, σ0) → g_Wi p l e ({ frames := 2, cells := 0, slots := 0, locals := 44 } : Room) s m below meth c H locs 0 0 D cy A ad L [.ref (ad 9 0), .int a1, .int a2, .int a3] r0 σ0 (F0 m 46 ls [.int k0]) := by
    intro σ k0 H locs ls G hl hf
    unfold f_X9_exile_P46 at hf
    refine lv_istore (lv' := [(4, .int k0), (0, .ref (ad 9 0)), (1, .int a1), (2, .int a2), (3, .int a3)]) C.x C.b dX9_exile_46 hl (by decide) rfl (fun ls hl => ?_)
    refine lv_aload_n C.x C.b dX9_exile_48 rfl (lv_at hl 1 rfl) ?_
    refine g_getr C G 9 0 11 51 hT rfl ginX9 (by decide) tw961 dX9_exile_49 (fun hL8 => ?_)
    refine lv_iload_n C.x C.b dX9_exile_52 rfl (lv_at hl 2 rfl) ?_
    refine lv_iload_n C.x C.b dX9_exile_53 rfl (lv_at hl 3 rfl) ?_
    refine lv_iload_n C.x C.b dX9_exile_54 rfl (lv_at hl 4 rfl) ?_
    refine lv_icmp_le (tgt := 62) C.x C.b dX9_exile_55 (by decide) (fun cb => ?_) (fun cb => ?_)
    · have hf := g_t cb hf
      refine lv_iload_n C.x C.b dX9_exile_62 rfl (lv_at hl 3 rfl) ?_
      obtain ⟨hi9, hf⟩ := g_ok hf
      refine g_iast (n := 24) C G 51 0 hL8 (by decide) rfl hi9 dX9_exile_63 (fun H locs G => ?_)
      obtain ⟨σ10, eσ10, hf⟩ := g_lt hf
      rw [← eσ10] at G
      refine lv_aload_n C.x C.b dX9_exile_64 rfl (lv_at hl 1 rfl) ?_
      refine g_getr C G 9 0 12 52 hT rfl ginX9 (by decide) tw962 dX9_exile_65 (fun hL11 => ?_)
      refine lv_iload_n C.x C.b dX9_exile_68 rfl (lv_at hl 2 rfl) ?_
      refine lv_iload_n C.x C.b dX9_exile_69 rfl (lv_at hl 3 rfl) ?_
      refine lv_iload_n C.x C.b dX9_exile_70 rfl (lv_at hl 4 rfl) ?_
      refine lv_icmp_le (tgt := 78) C.x C.b dX9_exile_71 (by decide) (fun cb => ?_) (fun cb => ?_)
      · have hf := g_t cb hf
        refine lv_iload_n C.x C.b dX9_exile_78 rfl (lv_at hl 4 rfl) ?_
        obtain ⟨hi12, hf⟩ := g_ok hf
        refine g_iast (n := 24) C G 52 0 hL11 (by decide) rfl hi12 dX9_exile_79 (fun H locs G => ?_)
        obtain ⟨σ13, eσ13, hf⟩ := g_lt hf
        rw [← eσ13] at G
        refine lv_iload C.x C.b dX9_exile_80 (lv_at hl 0 rfl) ?_
        exact g_eii C G hr hlocks hf dX9_exile_82
      · have hf := g_f cb hf
        refine lv_iconst (v := (-1 : Int32)) C.x C.b dX9_exile_74 (by decide) ?_
        refine lv_goto (tgt := 79) C.x C.b dX9_exile_75 (by decide) ?_
        obtain ⟨hi14, hf⟩ := g_ok hf
        refine g_iast (n := 24) C G 52 0 hL11 (by decide) rfl hi14 dX9_exile_79 (fun H locs G => ?_)
        obtain ⟨σ15, eσ15, hf⟩ := g_lt hf
        rw [← eσ15] at G
        refine lv_iload C.x C.b dX9_exile_80 (lv_at hl 0 rfl) ?_
        exact g_eii C G hr hlocks hf dX9_exile_82
    · have hf := g_f cb hf
      refine lv_iconst (v := (0 : Int32)) C.x C.b dX9_exile_58 (by decide) ?_
      refine lv_goto (tgt := 63) C.x C.b dX9_exile_59 (by decide) ?_
      obtain ⟨hi16, hf⟩ := g_ok hf
      refine g_iast (n := 24) C G 51 0 hL8 (by decide) rfl hi16 dX9_exile_63 (fun H locs G => ?_)
      obtain ⟨σ17, eσ17, hf⟩ := g_lt hf
      rw [← eσ17] at G
      refine lv_aload_n C.x C.b dX9_exile_64 rfl (lv_at hl 1 rfl) ?_
      refine g_getr C G 9 0 12 52 hT rfl ginX9 (by decide) tw962 dX9_exile_65 (fun hL18 => ?_)
      refine lv_iload_n C.x C.b dX9_exile_68 rfl (lv_at hl 2 rfl) ?_
      refine lv_iload_n C.x C.b dX9_exile_69 rfl (lv_at hl 3 rfl) ?_
      refine lv_iload_n C.x C.b dX9_exile_70 rfl (lv_at hl 4 rfl) ?_
      refine lv_icmp_le (tgt := 78) C.x C.b dX9_exile_71 (by decide) (fun cb => ?_) (fun cb => ?_)
      · have hf := g_t cb hf
        refine lv_iload_n C.x C.b dX9_exile_78 rfl (lv_at hl 4 rfl) ?_
        obtain ⟨hi19, hf⟩ := g_ok hf
        refine g_iast (n := 24) C G 52 0 hL18 (by decide) rfl hi19 dX9_exile_79 (fun H locs G => ?_)
        obtain ⟨σ20, eσ20, hf⟩ := g_lt hf
        rw [← eσ20] at G
        refine lv_iload C.x C.b dX9_exile_80 (lv_at hl 0 rfl) ?_
        exact g_eii C G hr hlocks hf dX9_exile_82
      · have hf := g_f cb hf
        refine lv_iconst (v := (-1 : Int32)) C.x C.b dX9_exile_74 (by decide) ?_
        refine lv_goto (tgt := 79) C.x C.b dX9_exile_75 (by decide) ?_
        obtain ⟨hi21, hf⟩ := g_ok hf
        refine g_iast (n := 24) C G 52 0 hL18 (by decide) rfl hi21 dX9_exile_79 (fun H locs G => ?_)
        obtain ⟨σ22, eσ22, hf⟩ := g_lt hf
        rw [← eσ22] at G
        refine lv_iload C.x C.b dX9_exile_80 (lv_at hl 0 rfl) ?_
        exact g_eii C G hr hlocks hf dX9_exile_82
  unfold f_X9_exile at hf
  refine lv_aload_n C.x C.b dX9_exile_0 rfl (lv_at hl 0 rfl) ?_
  refine lv_iload_n C.x C.b dX9_exile_1 rfl (lv_at hl 1 rfl) ?_
  obtain ⟨q1, eq1, hf⟩ := g_b hf
  refine g_calli G (g_runV (As := [.int a1]) (rest := []) C G 9 0 (c_X9_isPerson l D cy A ad L σ hT a1 q1 eq1) ⟨tw1109, tw60, tw1106, ⟨tw1108, tw20⟩, hd_X9_isPerson⟩ (by decide) hT rfl ⟨rfl, by decide⟩ hl.1 rfl (Nat.le_of_ble_eq_true rfl) dX9_exile_2 ⟨Nat.le_of_ble_eq_true rfl, Nat.le_of_ble_eq_true rfl⟩) (fun H locs G => ?_)
  refine lv_if_eq (tgt := 24) C.x C.b dX9_exile_5 (by decide) (fun cb => ?_) (fun cb => ?_)
  · have hf := g_t cb hf
    refine lv_iconst (v := (-1 : Int32)) C.x C.b dX9_exile_24 (by decide) ?_
    exact g_eii C G hr hlocks hf dX9_exile_25
  · have hf := g_f cb hf
    refine lv_aload_n C.x C.b dX9_exile_8 rfl (lv_at hl 0 rfl) ?_
    refine lv_iload_n C.x C.b dX9_exile_9 rfl (lv_at hl 2 rfl) ?_
    obtain ⟨q2, eq2, hf⟩ := g_b hf
    refine g_calli G (g_runV (As := [.int a2]) (rest := []) C G 9 0 (c_X9_isYear l D cy A ad L σ hT a2 q2 eq2) ⟨tw1117, tw60, tw1114, ⟨tw1116, tw21⟩, hd_X9_isYear⟩ (by decide) hT rfl ⟨rfl, by decide⟩ hl.1 rfl (Nat.le_of_ble_eq_true rfl) dX9_exile_10 ⟨Nat.le_of_ble_eq_true rfl, Nat.le_of_ble_eq_true rfl⟩) (fun H locs G => ?_)
    refine lv_if_eq (tgt := 24) C.x C.b dX9_exile_13 (by decide) (fun cb => ?_) (fun cb => ?_)
    · have hf := g_t cb hf
      refine lv_iconst (v := (-1 : Int32)) C.x C.b dX9_exile_24 (by decide) ?_
      exact g_eii C G hr hlocks hf dX9_exile_25
    · have hf := g_f cb hf
      refine lv_aload_n C.x C.b dX9_exile_16 rfl (lv_at hl 0 rfl) ?_
      refine lv_iload_n C.x C.b dX9_exile_17 rfl (lv_at hl 3 rfl) ?_
      obtain ⟨q3, eq3, hf⟩ := g_b hf
      refine g_calli G (g_runV (As := [.int a3]) (rest := []) C G 9 0 (c_X9_isYear l D cy A ad L σ hT a3 q3 eq3) ⟨tw1117, tw60, tw1114, ⟨tw1116, tw21⟩, hd_X9_isYear⟩ (by decide) hT rfl ⟨rfl, by decide⟩ hl.1 rfl (Nat.le_of_ble_eq_true rfl) dX9_exile_18 ⟨Nat.le_of_ble_eq_true rfl, Nat.le_of_ble_eq_true rfl⟩) (fun H locs G => ?_)
      refine lv_if_ne (tgt := 26) C.x C.b dX9_exile_21 (by decide) (fun cb => ?_) (fun cb => ?_)
      · have hf := g_f cb hf
        refine lv_aload_n C.x C.b dX9_exile_26 rfl (lv_at hl 0 rfl) ?_
        refine g_getr C G 9 0 11 51 hT rfl ginX9 (by decide) tw961 dX9_exile_27 (fun hL4 => ?_)
        refine lv_iload_n C.x C.b dX9_exile_30 rfl (lv_at hl 1 rfl) ?_
        obtain ⟨hi5, hf⟩ := g_ok hf
        refine g_iald (n := 24) C G 51 0 hL4 (by decide) rfl hi5 dX9_exile_31 ?_
        refine lv_aload_n C.x C.b dX9_exile_32 rfl (lv_at hl 0 rfl) ?_
        refine g_getr C G 9 0 12 52 hT rfl ginX9 (by decide) tw962 dX9_exile_33 (fun hL6 => ?_)
        refine lv_iload_n C.x C.b dX9_exile_36 rfl (lv_at hl 1 rfl) ?_
        obtain ⟨hi7, hf⟩ := g_ok hf
        refine g_iald (n := 24) C G 52 0 hL6 (by decide) rfl hi7 dX9_exile_37 ?_
        refine lv_icmp_gt (tgt := 45) C.x C.b dX9_exile_38 (by decide) (fun cb => ?_) (fun cb => ?_)
        · have hf := g_t cb hf
          refine lv_iconst (v := (0 : Int32)) C.x C.b dX9_exile_45 (by decide) ?_
          exact pt46 σ (0 : Int32) _ _ ls G (lv_sub hl [0, 1, 2, 3] rfl) hf
        · have hf := g_f cb hf
          refine lv_iconst (v := (1 : Int32)) C.x C.b dX9_exile_41 (by decide) ?_
          refine lv_goto (tgt := 46) C.x C.b dX9_exile_42 (by decide) ?_
          exact pt46 σ (1 : Int32) _ _ ls G (lv_sub hl [0, 1, 2, 3] rfl) hf
      · have hf := g_t cb hf
        refine lv_iconst (v := (-1 : Int32)) C.x C.b dX9_exile_24 (by decide) ?_
        exact g_eii C G hr hlocks hf dX9_exile_25
def f_X9_birth (ad : gA) (σ : gS) (a1 : Int32) (a2 : Int32) (a3 : Int32) : Option (Int32 × gS) := ((f_X9_isPerson ad σ a1).bind fun q1 => (if q1 = 0 then (some ((-1 : Int32), σ)) else ((f_X9_isSpan ad σ a2 a3).bind fun q2 => (if q2 = 0 then (some ((-1 : Int32), σ)) else (if g_ix a1 24 then (if (σ 47 0 a1.toNatClampNeg) = a2 then (if g_ix a1 24 then (if (σ 48 0 a1.toNatClampNeg) = a3 then (if g_ix a1 24 then (g_let (g_up σ 47 0 a1.toNatClampNeg a2) fun σ21 => (if g_ix a1 24 then (g_let (g_up σ21 48 0 a1.toNatClampNeg a3) fun σ24 => (some ((0 : Int32), σ24))) else none)) else none) else (if g_ix a1 24 then (g_let (g_up σ 47 0 a1.toNatClampNeg a2) fun σ15 => (if g_ix a1 24 then (g_let (g_up σ15 48 0 a1.toNatClampNeg a3) fun σ18 => (some ((1 : Int32), σ18))) else none)) else none)) else none) else (if g_ix a1 24 then (g_let (g_up σ 47 0 a1.toNatClampNeg a2) fun σ7 => (if g_ix a1 24 then (g_let (g_up σ7 48 0 a1.toNatClampNeg a3) fun σ10 => (some ((1 : Int32), σ10))) else none)) else none)) else none)))))
theorem hd_X9_birth : yX9_birth.cls ≠ "java/lang/invoke/MethodHandle" ∧ yX9_birth.cls ≠ "java/lang/invoke/VarHandle" ∧ (parseMethodDescriptor yX9_birth.desc).map (fun d => d.parameters.length) = some 3 := by decide +kernel
set_option maxHeartbeats 4000000 in
set_option maxRecDepth 100000 in
theorem c_X9_birth (l : Launch) (D : va_G) (cy : Nat → ClassId) (A : Nat → Prop) (ad : gA) (L : gL)  (σ : gS) (hT : (9, 0) ∈ L) (a1 : Int32) (a2 : Int32) (a3 : Int32) (r0 : Int32) (σ0 : gS) (hf : f_X9_birth ad σ a1 a2 a3 = some (r0, σ0)) : g_Mi l yX9_birth cX9_birth 5 (some .int) ({ frames := 2, cells := 0, slots := 0, locals := 45 } : Room) D cy A ad L σ [.ref (ad 9 0), .int a1, .int a2, .int a3] r0 σ0 := by
  refine g_met (by decide) (Nat.le_of_ble_eq_true rfl) (fun p e s m below meth c C hr hlocks hnm G ls hl => ?_)
  have hl : lv_has ls 5 [(0, .ref (ad 9 0)), (1, .int a1), (2, .int a2), (3, .int a3)] := hl
  unfold f_X9_birth at hf
  refine lv_aload_n C.x C.b dX9_birth_0 rfl (lv_at hl 0 rfl) ?_
  refine lv_iload_n C.x C.b dX9_birth_1 rfl (lv_at hl 1 rfl) ?_
  obtain ⟨q1, eq1, hf⟩ := g_b hf
  refine g_calli G (g_runV (As := [.int a1]) (rest := []) C G 9 0 (c_X9_isPerson l D cy A ad L σ hT a1 q1 eq1) ⟨tw1109, tw60, tw1106, ⟨tw1108, tw20⟩, hd_X9_isPerson⟩ (by decide) hT rfl ⟨rfl, by decide⟩ hl.1 rfl (Nat.le_of_ble_eq_true rfl) dX9_birth_2 ⟨Nat.le_of_ble_eq_true rfl, Nat.le_of_ble_eq_true rfl⟩) (fun H locs G => ?_)
  refine lv_if_eq (tgt := 17) C.x C.b dX9_birth_5 (by decide) (fun cb => ?_) (fun cb => ?_)
  · have hf := g_t cb hf
    refine lv_iconst (v := (-1 : Int32)) C.x C.b dX9_birth_17 (by decide) ?_
    exact g_eii C G hr hlocks hf dX9_birth_18
  · have hf := g_f cb hf
    refine lv_aload_n C.x C.b dX9_birth_8 rfl (lv_at hl 0 rfl) ?_
    refine lv_iload_n C.x C.b dX9_birth_9 rfl (lv_at hl 2 rfl) ?_
    refine lv_iload_n C.x C.b dX9_birth_10 rfl (lv_at hl 3 rfl) ?_
    obtain ⟨q2, eq2, hf⟩ := g_b hf
    refine g_calli G (g_runV (As := [.int a2, .int a3]) (rest := []) C G 9 0 (c_X9_isSpan l D cy A ad L σ hT a2 a3 q2 eq2) ⟨tw1101, tw60, tw1098, ⟨tw1100, tw19⟩, hd_X9_isSpan⟩ (by decide) hT rfl ⟨rfl, by decide⟩ hl.1 rfl (Nat.le_of_ble_eq_true rfl) dX9_birth_11 ⟨Nat.le_of_ble_eq_true rfl, Nat.le_of_ble_eq_true rfl⟩) (fun H locs G => ?_)
    refine lv_if_ne (tgt := 19) C.x C.b dX9_birth_14 (by decide) (fun cb => ?_) (fun cb => ?_)
    · have hf := g_f cb hf
      refine lv_aload_n C.x C.b dX9_birth_19 rfl (lv_at hl 0 rfl) ?_
      refine g_getr C G 9 0 7 47 hT rfl ginX9 (by decide) tw957 dX9_birth_20 (fun hL3 => ?_)
      refine lv_iload_n C.x C.b dX9_birth_23 rfl (lv_at hl 1 rfl) ?_
      obtain ⟨hi4, hf⟩ := g_ok hf
      refine g_iald (n := 24) C G 47 0 hL3 (by decide) rfl hi4 dX9_birth_24 ?_
      refine lv_iload_n C.x C.b dX9_birth_25 rfl (lv_at hl 2 rfl) ?_
      refine lv_icmp_ne (tgt := 43) C.x C.b dX9_birth_26 (by decide) (fun cb => ?_) (fun cb => ?_)
      · have hf := g_f cb hf
        refine lv_iconst (v := (1 : Int32)) C.x C.b dX9_birth_43 (by decide) ?_
        refine lv_istore (lv' := [(4, .int (1 : Int32)), (0, .ref (ad 9 0)), (1, .int a1), (2, .int a2), (3, .int a3)]) C.x C.b dX9_birth_44 hl (by decide) rfl (fun ls hl => ?_)
        refine lv_aload_n C.x C.b dX9_birth_46 rfl (lv_at hl 1 rfl) ?_
        refine g_getr C G 9 0 7 47 hT rfl ginX9 (by decide) tw957 dX9_birth_47 (fun hL5 => ?_)
        refine lv_iload_n C.x C.b dX9_birth_50 rfl (lv_at hl 2 rfl) ?_
        refine lv_iload_n C.x C.b dX9_birth_51 rfl (lv_at hl 3 rfl) ?_
        obtain ⟨hi6, hf⟩ := g_ok hf
        refine g_iast (n := 24) C G 47 0 hL5 (by decide) rfl hi6 dX9_birth_52 (fun H locs G => ?_)
        obtain ⟨σ7, eσ7, hf⟩ := g_lt hf
        rw [← eσ7] at G
        refine lv_aload_n C.x C.b dX9_birth_53 rfl (lv_at hl 1 rfl) ?_
        refine g_getr C G 9 0 8 48 hT rfl ginX9 (by decide) tw958 dX9_birth_54 (fun hL8 => ?_)
        refine lv_iload_n C.x C.b dX9_birth_57 rfl (lv_at hl 2 rfl) ?_
        refine lv_iload_n C.x C.b dX9_birth_58 rfl (lv_at hl 4 rfl) ?_
        obtain ⟨hi9, hf⟩ := g_ok hf
        refine g_iast (n := 24) C G 48 0 hL8 (by decide) rfl hi9 dX9_birth_59 (fun H locs G => ?_)
        obtain ⟨σ10, eσ10, hf⟩ := g_lt hf
        rw [← eσ10] at G
        refine lv_iload C.x C.b dX9_birth_60 (lv_at hl 0 rfl) ?_
        exact g_eii C G hr hlocks hf dX9_birth_62
      · have hf := g_t cb hf
        refine lv_aload_n C.x C.b dX9_birth_29 rfl (lv_at hl 0 rfl) ?_
        refine g_getr C G 9 0 8 48 hT rfl ginX9 (by decide) tw958 dX9_birth_30 (fun hL11 => ?_)
        refine lv_iload_n C.x C.b dX9_birth_33 rfl (lv_at hl 1 rfl) ?_
        obtain ⟨hi12, hf⟩ := g_ok hf
        refine g_iald (n := 24) C G 48 0 hL11 (by decide) rfl hi12 dX9_birth_34 ?_
        refine lv_iload_n C.x C.b dX9_birth_35 rfl (lv_at hl 3 rfl) ?_
        refine lv_icmp_ne (tgt := 43) C.x C.b dX9_birth_36 (by decide) (fun cb => ?_) (fun cb => ?_)
        · have hf := g_f cb hf
          refine lv_iconst (v := (1 : Int32)) C.x C.b dX9_birth_43 (by decide) ?_
          refine lv_istore (lv' := [(4, .int (1 : Int32)), (0, .ref (ad 9 0)), (1, .int a1), (2, .int a2), (3, .int a3)]) C.x C.b dX9_birth_44 hl (by decide) rfl (fun ls hl => ?_)
          refine lv_aload_n C.x C.b dX9_birth_46 rfl (lv_at hl 1 rfl) ?_
          refine g_getr C G 9 0 7 47 hT rfl ginX9 (by decide) tw957 dX9_birth_47 (fun hL13 => ?_)
          refine lv_iload_n C.x C.b dX9_birth_50 rfl (lv_at hl 2 rfl) ?_
          refine lv_iload_n C.x C.b dX9_birth_51 rfl (lv_at hl 3 rfl) ?_
          obtain ⟨hi14, hf⟩ := g_ok hf
          refine g_iast (n := 24) C G 47 0 hL13 (by decide) rfl hi14 dX9_birth_52 (fun H locs G => ?_)
          obtain ⟨σ15, eσ15, hf⟩ := g_lt hf
          rw [← eσ15] at G
          refine lv_aload_n C.x C.b dX9_birth_53 rfl (lv_at hl 1 rfl) ?_
          refine g_getr C G 9 0 8 48 hT rfl ginX9 (by decide) tw958 dX9_birth_54 (fun hL16 => ?_)
          refine lv_iload_n C.x C.b dX9_birth_57 rfl (lv_at hl 2 rfl) ?_
          refine lv_iload_n C.x C.b dX9_birth_58 rfl (lv_at hl 4 rfl) ?_
          obtain ⟨hi17, hf⟩ := g_ok hf
          refine g_iast (n := 24) C G 48 0 hL16 (by decide) rfl hi17 dX9_birth_59 (fun H locs G => ?_)
          obtain ⟨σ18, eσ18, hf⟩ := g_lt hf
          rw [← eσ18] at G
          refine lv_iload C.x C.b dX9_birth_60 (lv_at hl 0 rfl) ?_
          exact g_eii C G hr hlocks hf dX9_birth_62
        · have hf := g_t cb hf
          refine lv_iconst (v := (0 : Int32)) C.x C.b dX9_birth_39 (by decide) ?_
          refine lv_goto (tgt := 44) C.x C.b dX9_birth_40 (by decide) ?_
          refine lv_istore (lv' := [(4, .int (0 : Int32)), (0, .ref (ad 9 0)), (1, .int a1), (2, .int a2), (3, .int a3)]) C.x C.b dX9_birth_44 hl (by decide) rfl (fun ls hl => ?_)
          refine lv_aload_n C.x C.b dX9_birth_46 rfl (lv_at hl 1 rfl) ?_
          refine g_getr C G 9 0 7 47 hT rfl ginX9 (by decide) tw957 dX9_birth_47 (fun hL19 => ?_)
          refine lv_iload_n C.x C.b dX9_birth_50 rfl (lv_at hl 2 rfl) ?_
          refine lv_iload_n C.x C.b dX9_birth_51 rfl (lv_at hl 3 rfl) ?_
          obtain ⟨hi20, hf⟩ := g_ok hf
          refine g_iast (n := 24) C G 47 0 hL19 (by decide) rfl hi20 dX9_birth_52 (fun H locs G => ?_)
          obtain ⟨σ21, eσ21, hf⟩ := g_lt hf
          rw [← eσ21] at G
          refine lv_aload_n C.x C.b dX9_birth_53 rfl (lv_at hl 1 rfl) ?_
          refine g_getr C G 9 0 8 48 hT rfl ginX9 (by decide) tw958 dX9_birth_54 (fun hL22 => ?_)
          refine lv_iload_n C.x C.b dX9_birth_57 rfl (lv_at hl 2 rfl) ?_
          refine lv_iload_n C.x C.b dX9_birth_58 rfl (lv_at hl 4 rfl) ?_
          obtain ⟨hi23, hf⟩ := g_ok hf
          refine g_iast (n := 24) C G 48 0 hL22 (by decide) rfl hi23 dX9_birth_59 (fun H locs G => ?_)
          obtain ⟨σ24, eσ24, hf⟩ := g_lt hf
          rw [← eσ24] at G
          refine lv_iload C.x C.b dX9_birth_60 (lv_at hl 0 rfl) ?_
          exact g_eii C G hr hlocks hf dX9_birth_62
    · have hf := g_t cb hf
      refine lv_iconst (v := (-1 : Int32)) C.x C.b dX9_birth_17 (by decide) ?_
      exact g_eii C G hr hlocks hf dX9_birth_18
def f_X9_law_P160 (a2 : Int32) (a3 : Int32) (a4 : Int32) (σ : gS) (v5 : Int32) (v6 : Int32) (v7 : Int32) : Option (Int32 × gS) := (if v7 = 0 then (some ((-1 : Int32), σ)) else (if (σ 9 0 3) = (20 : Int32) then (some ((-2 : Int32), σ)) else (if g_ix (σ 9 0 3) 20 then (g_let (g_up σ 53 0 ((σ 9 0 3).toNatClampNeg) v5) fun σ11 => (if g_ix (σ11 9 0 3) 20 then (g_let (g_up σ11 54 0 ((σ11 9 0 3).toNatClampNeg) v6) fun σ14 => (if g_ix (σ14 9 0 3) 20 then (g_let (g_up σ14 55 0 ((σ14 9 0 3).toNatClampNeg) a2) fun σ17 => (if g_ix (σ17 9 0 3) 20 then (g_let (g_up σ17 56 0 ((σ17 9 0 3).toNatClampNeg) a3) fun σ20 => (if g_ix (σ20 9 0 3) 20 then (g_let (g_up σ20 57 0 ((σ20 9 0 3).toNatClampNeg) a4) fun σ23 => (g_let (g_up σ23 9 0 3 ((σ23 9 0 3) + (1 : Int32))) fun σ24 => (some (((σ24 9 0 3) - (1 : Int32)), σ24)))) else none)) else none)) else none)) else none)) else none)))
def f_X9_law_P158 (a2 : Int32) (a3 : Int32) (a4 : Int32) (σ : gS) (v5 : Int32) (v6 : Int32) (k0 : Int32) : Option (Int32 × gS) := (f_X9_law_P160 a2 a3 a4 σ v5 v6 k0)
def f_X9_law_P153 (a2 : Int32) (a3 : Int32) (a4 : Int32) (σ : gS) (v5 : Int32) (v6 : Int32) : Option (Int32 × gS) := (f_X9_law_P158 a2 a3 a4 σ v5 v6 (1 : Int32))
def f_X9_law_P126 (ad : gA) (a2 : Int32) (a3 : Int32) (a4 : Int32) (σ : gS) (v5 : Int32) (v6 : Int32) : Option (Int32 × gS) := ((f_X9_in ad σ a2 (1 : Int32) (99 : Int32)).bind fun q8 => (f_X9_law_P158 a2 a3 a4 σ v5 v6 q8))
def f_X9_law_P77 (ad : gA) (a2 : Int32) (a3 : Int32) (a4 : Int32) (σ : gS) (v5 : Int32) (v6 : Int32) (k0 : Int32) : Option (Int32 × gS) := (if k0 = 0 then (f_X9_law_P160 a2 a3 a4 σ v5 v6 k0) else (if v5 = 0 then ((f_X9_in ad σ a2 (0 : Int32) (99 : Int32)).bind fun q7 => (f_X9_law_P158 a2 a3 a4 σ v5 v6 q7)) else (if v5 = (1 : Int32) then ((f_X9_isOffice ad σ a2).bind fun q6 => (f_X9_law_P158 a2 a3 a4 σ v5 v6 q6)) else (if v5 = (2 : Int32) then (f_X9_law_P126 ad a2 a3 a4 σ v5 v6) else (if v5 = (3 : Int32) then (f_X9_law_P126 ad a2 a3 a4 σ v5 v6) else (if v5 = (5 : Int32) then (f_X9_law_P153 a2 a3 a4 σ v5 v6) else ((f_X9_in ad σ a2 (0 : Int32) (1 : Int32)).bind fun q5 => (if q5 = 0 then (f_X9_law_P158 a2 a3 a4 σ v5 v6 (0 : Int32)) else (f_X9_law_P153 a2 a3 a4 σ v5 v6)))))))))
def f_X9_law_P76 (ad : gA) (a2 : Int32) (a3 : Int32) (a4 : Int32) (σ : gS) (v5 : Int32) (v6 : Int32) : Option (Int32 × gS) := (f_X9_law_P77 ad a2 a3 a4 σ v5 v6 (0 : Int32))
def f_X9_law (ad : gA) (σ : gS) (a1 : Int32) (a2 : Int32) (a3 : Int32) (a4 : Int32) : Option (Int32 × gS) := (if a1 < 0 then (f_X9_law_P76 ad a2 a3 a4 σ (a1 / (10 : Int32)) ((a1 - a1 / (10 : Int32) * (10 : Int32)) - (1 : Int32))) else ((f_X9_in ad σ (a1 / (10 : Int32)) (0 : Int32) (5 : Int32)).bind fun q1 => (if q1 = 0 then (f_X9_law_P76 ad a2 a3 a4 σ (a1 / (10 : Int32)) ((a1 - a1 / (10 : Int32) * (10 : Int32)) - (1 : Int32))) else ((f_X9_in ad σ ((a1 - a1 / (10 : Int32) * (10 : Int32)) - (1 : Int32)) (-1 : Int32) ((σ 9 0 1) - (1 : Int32))).bind fun q2 => (if q2 = 0 then (f_X9_law_P76 ad a2 a3 a4 σ (a1 / (10 : Int32)) ((a1 - a1 / (10 : Int32) * (10 : Int32)) - (1 : Int32))) else ((f_X9_isYear ad σ a3).bind fun q3 => (if q3 = 0 then (f_X9_law_P76 ad a2 a3 a4 σ (a1 / (10 : Int32)) ((a1 - a1 / (10 : Int32) * (10 : Int32)) - (1 : Int32))) else ((f_X9_in ad σ a4 (1 : Int32) (200 : Int32)).bind fun q4 => (if q4 = 0 then (f_X9_law_P76 ad a2 a3 a4 σ (a1 / (10 : Int32)) ((a1 - a1 / (10 : Int32) * (10 : Int32)) - (1 : Int32))) else (if a4 ≤ a3 then (f_X9_law_P76 ad a2 a3 a4 σ (a1 / (10 : Int32)) ((a1 - a1 / (10 : Int32) * (10 : Int32)) - (1 : Int32))) else (f_X9_law_P77 ad a2 a3 a4 σ (a1 / (10 : Int32)) ((a1 - a1 / (10 : Int32) * (10 : Int32)) - (1 : Int32)) (1 : Int32))))))))))))
theorem hd_X9_law : yX9_law.cls ≠ "java/lang/invoke/MethodHandle" ∧ yX9_law.cls ≠ "java/lang/invoke/VarHandle" ∧ (parseMethodDescriptor yX9_law.desc).map (fun d => d.parameters.length) = some 4 := by decide +kernel
set_option maxHeartbeats 4000000 in
set_option maxRecDepth 100000 in
theorem c_X9_law (l : Launch) (D : va_G) (cy : Nat → ClassId) (A : Nat → Prop) (ad : gA) (L : gL)  (σ : gS) (hT : (9, 0) ∈ L) (a1 : Int32) (a2 : Int32) (a3 : Int32) (a4 : Int32) (r0 : Int32) (σ0 : gS) (hf : f_X9_law ad σ a1 a2 a3 a4 = some (r0, σ0)) : g_Mi l yX9_law cX9_law 8 (some .int) ({ frames := 2, cells := 0, slots := 0, locals := 44 } : Room) D cy A ad L σ [.ref (ad 9 0), .int a1, .int a2, .int a3, .int a4] r0 σ0 := by
  refine g_met (by decide) (Nat.le_of_ble_eq_true rfl) (fun p e s m below meth c C hr hlocks hnm G ls hl => ?_)
  have hl : lv_has ls 8 [(0, .ref (ad 9 0)), (1, .int a1), (2, .int a2), (3, .int a3), (4, .int a4)] := hl
  have pt160 : ∀ (σ : gS) (v5 : Int32) (v6 : Int32) (v7 : Int32) (H : Heap) (locs : List Loc) (ls : Array Slot), g_H D cy A ad L σ s.heap H locs → lv_has ls 8 [(0, .ref (ad 9 0)), (2, .int a2), (3, .int a3), (4, .int a4), (5, .int v5), (6, .int v6), (7, .int v7)] → f_X9_law_P160 a2 a3 a4 σ v5 v6 v7 = some (r0, σ0) → g_Wi p l e ({ frames := 2, cells := 0, slots := 0, locals := 44 } : Room) s m below meth c H locs 0 0 D cy A ad L [.ref (ad 9 0), .int a1, .int a2, .int a3, .int a4] r0 σ0 (F0 m 160 ls []) := by
    intro σ v5 v6 v7 H locs ls G hl hf
    unfold f_X9_law_P160 at hf
    refine lv_iload C.x C.b dX9_law_160 (lv_at hl 6 rfl) ?_
    refine lv_if_ne (tgt := 167) C.x C.b dX9_law_162 (by decide) (fun cb => ?_) (fun cb => ?_)
    · have hf := g_f cb hf
      refine lv_aload_n C.x C.b dX9_law_167 rfl (lv_at hl 0 rfl) ?_
      refine g_geti C G 9 0 3 hT rfl ginX9 (by decide) tw953 dX9_law_168 ?_
      refine lv_bipush (v := (20 : Int32)) C.x C.b dX9_law_171 (by decide) ?_
      refine lv_icmp_ne (tgt := 179) C.x C.b dX9_law_173 (by decide) (fun cb => ?_) (fun cb => ?_)
      · have hf := g_f cb hf
        refine lv_aload_n C.x C.b dX9_law_179 rfl (lv_at hl 0 rfl) ?_
        refine g_getr C G 9 0 13 53 hT rfl ginX9 (by decide) tw963 dX9_law_180 (fun hL9 => ?_)
        refine lv_aload_n C.x C.b dX9_law_183 rfl (lv_at hl 0 rfl) ?_
        refine g_geti C G 9 0 3 hT rfl ginX9 (by decide) tw953 dX9_law_184 ?_
        refine lv_iload C.x C.b dX9_law_187 (lv_at hl 4 rfl) ?_
        obtain ⟨hi10, hf⟩ := g_ok hf
        refine g_iast (n := 20) C G 53 0 hL9 (by decide) rfl hi10 dX9_law_189 (fun H locs G => ?_)
        obtain ⟨σ11, eσ11, hf⟩ := g_lt hf
        rw [← eσ11] at G
        refine lv_aload_n C.x C.b dX9_law_190 rfl (lv_at hl 0 rfl) ?_
        refine g_getr C G 9 0 14 54 hT rfl ginX9 (by decide) tw964 dX9_law_191 (fun hL12 => ?_)
        refine lv_aload_n C.x C.b dX9_law_194 rfl (lv_at hl 0 rfl) ?_
        refine g_geti C G 9 0 3 hT rfl ginX9 (by decide) tw953 dX9_law_195 ?_
        refine lv_iload C.x C.b dX9_law_198 (lv_at hl 5 rfl) ?_
        obtain ⟨hi13, hf⟩ := g_ok hf
        refine g_iast (n := 20) C G 54 0 hL12 (by decide) rfl hi13 dX9_law_200 (fun H locs G => ?_)
        obtain ⟨σ14, eσ14, hf⟩ := g_lt hf
        rw [← eσ14] at G
        refine lv_aload_n C.x C.b dX9_law_201 rfl (lv_at hl 0 rfl) ?_
        refine g_getr C G 9 0 15 55 hT rfl ginX9 (by decide) tw965 dX9_law_202 (fun hL15 => ?_)
        refine lv_aload_n C.x C.b dX9_law_205 rfl (lv_at hl 0 rfl) ?_
        refine g_geti C G 9 0 3 hT rfl ginX9 (by decide) tw953 dX9_law_206 ?_
        refine lv_iload_n C.x C.b dX9_law_209 rfl (lv_at hl 1 rfl) ?_
        obtain ⟨hi16, hf⟩ := g_ok hf
        refine g_iast (n := 20) C G 55 0 hL15 (by decide) rfl hi16 dX9_law_210 (fun H locs G => ?_)
        obtain ⟨σ17, eσ17, hf⟩ := g_lt hf
        rw [← eσ17] at G
        refine lv_aload_n C.x C.b dX9_law_211 rfl (lv_at hl 0 rfl) ?_
        refine g_getr C G 9 0 16 56 hT rfl ginX9 (by decide) tw966 dX9_law_212 (fun hL18 => ?_)
        refine lv_aload_n C.x C.b dX9_law_215 rfl (lv_at hl 0 rfl) ?_
        refine g_geti C G 9 0 3 hT rfl ginX9 (by decide) tw953 dX9_law_216 ?_
        refine lv_iload_n C.x C.b dX9_law_219 rfl (lv_at hl 2 rfl) ?_
        obtain ⟨hi19, hf⟩ := g_ok hf
        refine g_iast (n := 20) C G 56 0 hL18 (by decide) rfl hi19 dX9_law_220 (fun H locs G => ?_)
        obtain ⟨σ20, eσ20, hf⟩ := g_lt hf
        rw [← eσ20] at G
        refine lv_aload_n C.x C.b dX9_law_221 rfl (lv_at hl 0 rfl) ?_
        refine g_getr C G 9 0 17 57 hT rfl ginX9 (by decide) tw967 dX9_law_222 (fun hL21 => ?_)
        refine lv_aload_n C.x C.b dX9_law_225 rfl (lv_at hl 0 rfl) ?_
        refine g_geti C G 9 0 3 hT rfl ginX9 (by decide) tw953 dX9_law_226 ?_
        refine lv_iload C.x C.b dX9_law_229 (lv_at hl 3 rfl) ?_
        obtain ⟨hi22, hf⟩ := g_ok hf
        refine g_iast (n := 20) C G 57 0 hL21 (by decide) rfl hi22 dX9_law_231 (fun H locs G => ?_)
        obtain ⟨σ23, eσ23, hf⟩ := g_lt hf
        rw [← eσ23] at G
        refine lv_aload_n C.x C.b dX9_law_232 rfl (lv_at hl 0 rfl) ?_
        refine lv_dup C.x C.b dX9_law_233 rfl ?_
        refine g_geti C G 9 0 3 hT rfl ginX9 (by decide) tw953 dX9_law_234 ?_
        refine lv_iconst (v := (1 : Int32)) C.x C.b dX9_law_237 (by decide) ?_
        refine lv_iadd C.x C.b dX9_law_238 ?_
        refine g_puti C G 9 0 3 hT (v := ((σ23 9 0 3) + (1 : Int32))) rfl ginX9 tyX9_ok nmX9 (by decide) ⟨rfl, rfl⟩ tw953 dX9_law_239 (fun H locs G => ?_)
        obtain ⟨σ24, eσ24, hf⟩ := g_lt hf
        rw [← eσ24] at G
        refine lv_aload_n C.x C.b dX9_law_242 rfl (lv_at hl 0 rfl) ?_
        refine g_geti C G 9 0 3 hT rfl ginX9 (by decide) tw953 dX9_law_243 ?_
        refine lv_iconst (v := (1 : Int32)) C.x C.b dX9_law_246 (by decide) ?_
        refine lv_isub C.x C.b dX9_law_247 ?_
        exact g_eii C G hr hlocks hf dX9_law_248
      · have hf := g_t cb hf
        refine lv_bipush (v := (-2 : Int32)) C.x C.b dX9_law_176 (by decide) ?_
        exact g_eii C G hr hlocks hf dX9_law_178
    · have hf := g_t cb hf
      refine lv_iconst (v := (-1 : Int32)) C.x C.b dX9_law_165 (by decide) ?_
      exact g_eii C G hr hlocks hf dX9_law_166
  have pt158 : ∀ (σ : gS) (v5 : Int32) (v6 : Int32) (k0 : Int32) (H : Heap) (locs : List Loc) (ls : Array Slot), g_H D cy A ad L σ s.heap H locs → lv_has ls 8 [(0, .ref (ad 9 0)), (2, .int a2), (3, .int a3), (4, .int a4), (5, .int v5), (6, .int v6)] → f_X9_law_P158 a2 a3 a4 σ v5 v6 k0 = some (r0, σ0) → g_Wi p l e ({ frames := 2, cells := 0, slots := 0, locals := 44 } : Room) s m below meth c H locs 0 0 D cy A ad L [.ref (ad 9 0), .int a1, .int a2, .int a3, .int a4] r0 σ0 (F0 m 158 ls [.int k0]) := by
    intro σ v5 v6 k0 H locs ls G hl hf
    unfold f_X9_law_P158 at hf
    refine lv_istore (lv' := [(7, .int k0), (0, .ref (ad 9 0)), (2, .int a2), (3, .int a3), (4, .int a4), (5, .int v5), (6, .int v6)]) C.x C.b dX9_law_158 hl (by decide) rfl (fun ls hl => ?_)
    exact pt160 σ v5 v6 k0 _ _ ls G (lv_sub hl [1, 2, 3, 4, 5, 6, 0] rfl) hf
  have pt153 : ∀ (σ : gS) (v5 : Int32) (v6 : Int32) (H : Heap) (locs : List Loc) (ls : Array Slot), g_H D cy A ad L σ s.heap H locs → lv_has ls 8 [(0, .ref (ad 9 0)), (2, .int a2), (3, .int a3), (4, .int a4), (5, .int v5), (6, .int v6)] → f_X9_law_P153 a2 a3 a4 σ v5 v6 = some (r0, σ0) → g_Wi p l e ({ frames := 2, cells := 0, slots := 0, locals := 44 } : Room) s m below meth c H locs 0 0 D cy A ad L [.ref (ad 9 0), .int a1, .int a2, .int a3, .int a4] r0 σ0 (F0 m 153 ls []) := by
    intro σ v5 v6 H locs ls G hl hf
    unfold f_X9_law_P153 at hf
    refine lv_iconst (v := (1 : Int32)) C.x C.b dX9_law_153 (by decide) ?_
    refine lv_goto (tgt := 158) C.x C.b dX9_law_154 (by decide) ?_
    exact pt158 σ v5 v6 (1 : Int32) _ _ ls G (lv_sub hl [0, 1, 2, 3, 4, 5] rfl) hf
  have pt126 : ∀ (σ : gS) (v5 : Int32) (v6 : Int32) (H : Heap) (locs : List Loc) (ls : Array Slot), g_H D cy A ad L σ s.heap H locs → lv_has ls 8 [(0, .ref (ad 9 0)), (2, .int a2), (3, .int a3), (4, .int a4), (5, .int v5), (6, .int v6)] → f_X9_law_P126 ad a2 a3 a4 σ v5 v6 = some (r0, σ0) → g_Wi p l e ({ frames := 2, cells := 0, slots := 0, locals := 44 } : Room) s m below meth c H locs 0 0 D cy A ad L [.ref (ad 9 0), .int a1, .int a2, .int a3, .int a4] r0 σ0 (F0 m 126 ls []) := by
    intro σ v5 v6 H locs ls G hl hf
    unfold f_X9_law_P126 at hf
    refine lv_aload_n C.x C.b dX9_law_126 rfl (lv_at hl 0 rfl) ?_
    refine lv_iload_n C.x C.b dX9_law_127 rfl (lv_at hl 1 rfl) ?_
    refine lv_iconst (v := (1 : Int32)) C.x C.b dX9_law_128 (by decide) ?_
    refine lv_bipush (v := (99 : Int32)) C.x C.b dX9_law_129 (by decide) ?_
    obtain ⟨q8, eq8, hf⟩ := g_b hf
    refine g_calli G (g_runV (As := [.int a2, .int (1 : Int32), .int (99 : Int32)]) (rest := []) C G 9 0 (c_X9_in l D cy A ad L σ hT a2 (1 : Int32) (99 : Int32) q8 eq8) ⟨tw1093, tw60, tw1090, ⟨tw1092, tw18⟩, hd_X9_in⟩ (by decide) hT rfl ⟨rfl, by decide⟩ hl.1 rfl (Nat.le_of_ble_eq_true rfl) dX9_law_131 ⟨Nat.le_of_ble_eq_true rfl, Nat.le_of_ble_eq_true rfl⟩) (fun H locs G => ?_)
    refine lv_goto (tgt := 158) C.x C.b dX9_law_134 (by decide) ?_
    exact pt158 σ v5 v6 q8 _ _ ls G (lv_sub hl [0, 1, 2, 3, 4, 5] rfl) hf
  have pt77 : ∀ (σ : gS) (v5 : Int32) (v6 : Int32) (k0 : Int32) (H : Heap) (locs : List Loc) (ls : Array Slot), g_H D cy A ad L σ s.heap H locs → lv_has ls 8 [(0, .ref (ad 9 0)), (2, .int a2), (3, .int a3), (4, .int a4), (5, .int v5), (6, .int v6)] → f_X9_law_P77 ad a2 a3 a4 σ v5 v6 k0 = some (r0, σ0) → g_Wi p l e ({ frames := 2, cells := 0, slots := 0, locals := 44 } : Room) s m below meth c H locs 0 0 D cy A ad L [.ref (ad 9 0), .int a1, .int a2, .int a3, .int a4] r0 σ0 (F0 m 77 ls [.int k0]) := by
    intro σ v5 v6 k0 H locs ls G hl hf
    unfold f_X9_law_P77 at hf
    refine lv_istore (lv' := [(7, .int k0), (0, .ref (ad 9 0)), (2, .int a2), (3, .int a3), (4, .int a4), (5, .int v5), (6, .int v6)]) C.x C.b dX9_law_77 hl (by decide) rfl (fun ls hl => ?_)
    refine lv_iload C.x C.b dX9_law_79 (lv_at hl 0 rfl) ?_
    refine lv_if_eq (tgt := 160) C.x C.b dX9_law_81 (by decide) (fun cb => ?_) (fun cb => ?_)
    · have hf := g_t cb hf
      exact pt160 σ v5 v6 k0 _ _ ls G (lv_sub hl [1, 2, 3, 4, 5, 6, 0] rfl) hf
    · have hf := g_f cb hf
      refine lv_iload C.x C.b dX9_law_84 (lv_at hl 5 rfl) ?_
      refine lv_if_ne (tgt := 100) C.x C.b dX9_law_86 (by decide) (fun cb => ?_) (fun cb => ?_)
      · have hf := g_f cb hf
        refine lv_iload C.x C.b dX9_law_100 (lv_at hl 5 rfl) ?_
        refine lv_iconst (v := (1 : Int32)) C.x C.b dX9_law_102 (by decide) ?_
        refine lv_icmp_ne (tgt := 114) C.x C.b dX9_law_103 (by decide) (fun cb => ?_) (fun cb => ?_)
        · have hf := g_f cb hf
          refine lv_iload C.x C.b dX9_law_114 (lv_at hl 5 rfl) ?_
          refine lv_iconst (v := (2 : Int32)) C.x C.b dX9_law_116 (by decide) ?_
          refine lv_icmp_eq (tgt := 126) C.x C.b dX9_law_117 (by decide) (fun cb => ?_) (fun cb => ?_)
          · have hf := g_t cb hf
            exact pt126 σ v5 v6 _ _ ls G (lv_sub hl [1, 2, 3, 4, 5, 6] rfl) hf
          · have hf := g_f cb hf
            refine lv_iload C.x C.b dX9_law_120 (lv_at hl 5 rfl) ?_
            refine lv_iconst (v := (3 : Int32)) C.x C.b dX9_law_122 (by decide) ?_
            refine lv_icmp_ne (tgt := 137) C.x C.b dX9_law_123 (by decide) (fun cb => ?_) (fun cb => ?_)
            · have hf := g_f cb hf
              refine lv_iload C.x C.b dX9_law_137 (lv_at hl 5 rfl) ?_
              refine lv_iconst (v := (5 : Int32)) C.x C.b dX9_law_139 (by decide) ?_
              refine lv_icmp_eq (tgt := 153) C.x C.b dX9_law_140 (by decide) (fun cb => ?_) (fun cb => ?_)
              · have hf := g_t cb hf
                exact pt153 σ v5 v6 _ _ ls G (lv_sub hl [1, 2, 3, 4, 5, 6] rfl) hf
              · have hf := g_f cb hf
                refine lv_aload_n C.x C.b dX9_law_143 rfl (lv_at hl 1 rfl) ?_
                refine lv_iload_n C.x C.b dX9_law_144 rfl (lv_at hl 2 rfl) ?_
                refine lv_iconst (v := (0 : Int32)) C.x C.b dX9_law_145 (by decide) ?_
                refine lv_iconst (v := (1 : Int32)) C.x C.b dX9_law_146 (by decide) ?_
                obtain ⟨q5, eq5, hf⟩ := g_b hf
                refine g_calli G (g_runV (As := [.int a2, .int (0 : Int32), .int (1 : Int32)]) (rest := []) C G 9 0 (c_X9_in l D cy A ad L σ hT a2 (0 : Int32) (1 : Int32) q5 eq5) ⟨tw1093, tw60, tw1090, ⟨tw1092, tw18⟩, hd_X9_in⟩ (by decide) hT rfl ⟨rfl, by decide⟩ hl.1 rfl (Nat.le_of_ble_eq_true rfl) dX9_law_147 ⟨Nat.le_of_ble_eq_true rfl, Nat.le_of_ble_eq_true rfl⟩) (fun H locs G => ?_)
                refine lv_if_eq (tgt := 157) C.x C.b dX9_law_150 (by decide) (fun cb => ?_) (fun cb => ?_)
                · have hf := g_t cb hf
                  refine lv_iconst (v := (0 : Int32)) C.x C.b dX9_law_157 (by decide) ?_
                  exact pt158 σ v5 v6 (0 : Int32) _ _ ls G (lv_sub hl [1, 2, 3, 4, 5, 6] rfl) hf
                · have hf := g_f cb hf
                  exact pt153 σ v5 v6 _ _ ls G (lv_sub hl [1, 2, 3, 4, 5, 6] rfl) hf
            · have hf := g_t cb hf
              exact pt126 σ v5 v6 _ _ ls G (lv_sub hl [1, 2, 3, 4, 5, 6] rfl) hf
        · have hf := g_t cb hf
          refine lv_aload_n C.x C.b dX9_law_106 rfl (lv_at hl 1 rfl) ?_
          refine lv_iload_n C.x C.b dX9_law_107 rfl (lv_at hl 2 rfl) ?_
          obtain ⟨q6, eq6, hf⟩ := g_b hf
          refine g_calli G (g_runV (As := [.int a2]) (rest := []) C G 9 0 (c_X9_isOffice l D cy A ad L σ hT a2 q6 eq6) ⟨tw1129, tw60, tw1126, ⟨tw1128, tw22⟩, hd_X9_isOffice⟩ (by decide) hT rfl ⟨rfl, by decide⟩ hl.1 rfl (Nat.le_of_ble_eq_true rfl) dX9_law_108 ⟨Nat.le_of_ble_eq_true rfl, Nat.le_of_ble_eq_true rfl⟩) (fun H locs G => ?_)
          refine lv_goto (tgt := 158) C.x C.b dX9_law_111 (by decide) ?_
          exact pt158 σ v5 v6 q6 _ _ ls G (lv_sub hl [1, 2, 3, 4, 5, 6] rfl) hf
      · have hf := g_t cb hf
        refine lv_aload_n C.x C.b dX9_law_89 rfl (lv_at hl 1 rfl) ?_
        refine lv_iload_n C.x C.b dX9_law_90 rfl (lv_at hl 2 rfl) ?_
        refine lv_iconst (v := (0 : Int32)) C.x C.b dX9_law_91 (by decide) ?_
        refine lv_bipush (v := (99 : Int32)) C.x C.b dX9_law_92 (by decide) ?_
        obtain ⟨q7, eq7, hf⟩ := g_b hf
        refine g_calli G (g_runV (As := [.int a2, .int (0 : Int32), .int (99 : Int32)]) (rest := []) C G 9 0 (c_X9_in l D cy A ad L σ hT a2 (0 : Int32) (99 : Int32) q7 eq7) ⟨tw1093, tw60, tw1090, ⟨tw1092, tw18⟩, hd_X9_in⟩ (by decide) hT rfl ⟨rfl, by decide⟩ hl.1 rfl (Nat.le_of_ble_eq_true rfl) dX9_law_94 ⟨Nat.le_of_ble_eq_true rfl, Nat.le_of_ble_eq_true rfl⟩) (fun H locs G => ?_)
        refine lv_goto (tgt := 158) C.x C.b dX9_law_97 (by decide) ?_
        exact pt158 σ v5 v6 q7 _ _ ls G (lv_sub hl [1, 2, 3, 4, 5, 6] rfl) hf
  have pt76 : ∀ (σ : gS) (v5 : Int32) (v6 : Int32) (H : Heap) (locs : List Loc) (ls : Array Slot), g_H D cy A ad L σ s.heap H locs → lv_has ls 8 [(0, .ref (ad 9 0)), (2, .int a2), (3, .int a3), (4, .int a4), (5, .int v5), (6, .int v6)] → f_X9_law_P76 ad a2 a3 a4 σ v5 v6 = some (r0, σ0) → g_Wi p l e ({ frames := 2, cells := 0, slots := 0, locals := 44 } : Room) s m below meth c H locs 0 0 D cy A ad L [.ref (ad 9 0), .int a1, .int a2, .int a3, .int a4] r0 σ0 (F0 m 76 ls []) := by
    intro σ v5 v6 H locs ls G hl hf
    unfold f_X9_law_P76 at hf
    refine lv_iconst (v := (0 : Int32)) C.x C.b dX9_law_76 (by decide) ?_
    exact pt77 σ v5 v6 (0 : Int32) _ _ ls G (lv_sub hl [0, 1, 2, 3, 4, 5] rfl) hf
  unfold f_X9_law at hf
  refine lv_iload_n C.x C.b dX9_law_0 rfl (lv_at hl 1 rfl) ?_
  refine lv_bipush (v := (10 : Int32)) C.x C.b dX9_law_1 (by decide) ?_
  refine lv_idiv C.x C.b dX9_law_3 (by decide) ?_
  refine lv_istore (lv' := [(5, .int (a1 / (10 : Int32))), (0, .ref (ad 9 0)), (1, .int a1), (2, .int a2), (3, .int a3), (4, .int a4)]) C.x C.b dX9_law_4 hl (by decide) rfl (fun ls hl => ?_)
  refine lv_iload_n C.x C.b dX9_law_6 rfl (lv_at hl 2 rfl) ?_
  refine lv_bipush (v := (10 : Int32)) C.x C.b dX9_law_7 (by decide) ?_
  refine lv_irem C.x C.b dX9_law_9 (by decide) ?_
  refine lv_iconst (v := (1 : Int32)) C.x C.b dX9_law_10 (by decide) ?_
  refine lv_isub C.x C.b dX9_law_11 ?_
  refine lv_istore (lv' := [(6, .int ((a1 - a1 / (10 : Int32) * (10 : Int32)) - (1 : Int32))), (5, .int (a1 / (10 : Int32))), (0, .ref (ad 9 0)), (1, .int a1), (2, .int a2), (3, .int a3), (4, .int a4)]) C.x C.b dX9_law_12 hl (by decide) rfl (fun ls hl => ?_)
  refine lv_iload_n C.x C.b dX9_law_14 rfl (lv_at hl 3 rfl) ?_
  refine lv_if_lt (tgt := 76) C.x C.b dX9_law_15 (by decide) (fun cb => ?_) (fun cb => ?_)
  · have hf := g_t cb hf
    exact pt76 σ (a1 / (10 : Int32)) ((a1 - a1 / (10 : Int32) * (10 : Int32)) - (1 : Int32)) _ _ ls G (lv_sub hl [2, 4, 5, 6, 1, 0] rfl) hf
  · have hf := g_f cb hf
    refine lv_aload_n C.x C.b dX9_law_18 rfl (lv_at hl 2 rfl) ?_
    refine lv_iload C.x C.b dX9_law_19 (lv_at hl 1 rfl) ?_
    refine lv_iconst (v := (0 : Int32)) C.x C.b dX9_law_21 (by decide) ?_
    refine lv_iconst (v := (5 : Int32)) C.x C.b dX9_law_22 (by decide) ?_
    obtain ⟨q1, eq1, hf⟩ := g_b hf
    refine g_calli G (g_runV (As := [.int (a1 / (10 : Int32)), .int (0 : Int32), .int (5 : Int32)]) (rest := []) C G 9 0 (c_X9_in l D cy A ad L σ hT (a1 / (10 : Int32)) (0 : Int32) (5 : Int32) q1 eq1) ⟨tw1093, tw60, tw1090, ⟨tw1092, tw18⟩, hd_X9_in⟩ (by decide) hT rfl ⟨rfl, by decide⟩ hl.1 rfl (Nat.le_of_ble_eq_true rfl) dX9_law_23 ⟨Nat.le_of_ble_eq_true rfl, Nat.le_of_ble_eq_true rfl⟩) (fun H locs G => ?_)
    refine lv_if_eq (tgt := 76) C.x C.b dX9_law_26 (by decide) (fun cb => ?_) (fun cb => ?_)
    · have hf := g_t cb hf
      exact pt76 σ (a1 / (10 : Int32)) ((a1 - a1 / (10 : Int32) * (10 : Int32)) - (1 : Int32)) _ _ ls G (lv_sub hl [2, 4, 5, 6, 1, 0] rfl) hf
    · have hf := g_f cb hf
      refine lv_aload_n C.x C.b dX9_law_29 rfl (lv_at hl 2 rfl) ?_
      refine lv_iload C.x C.b dX9_law_30 (lv_at hl 0 rfl) ?_
      refine lv_iconst (v := (-1 : Int32)) C.x C.b dX9_law_32 (by decide) ?_
      refine lv_aload_n C.x C.b dX9_law_33 rfl (lv_at hl 2 rfl) ?_
      refine g_geti C G 9 0 1 hT rfl ginX9 (by decide) tw951 dX9_law_34 ?_
      refine lv_iconst (v := (1 : Int32)) C.x C.b dX9_law_37 (by decide) ?_
      refine lv_isub C.x C.b dX9_law_38 ?_
      obtain ⟨q2, eq2, hf⟩ := g_b hf
      refine g_calli G (g_runV (As := [.int ((a1 - a1 / (10 : Int32) * (10 : Int32)) - (1 : Int32)), .int (-1 : Int32), .int ((σ 9 0 1) - (1 : Int32))]) (rest := []) C G 9 0 (c_X9_in l D cy A ad L σ hT ((a1 - a1 / (10 : Int32) * (10 : Int32)) - (1 : Int32)) (-1 : Int32) ((σ 9 0 1) - (1 : Int32)) q2 eq2) ⟨tw1093, tw60, tw1090, ⟨tw1092, tw18⟩, hd_X9_in⟩ (by decide) hT rfl ⟨rfl, by decide⟩ hl.1 rfl (Nat.le_of_ble_eq_true rfl) dX9_law_39 ⟨Nat.le_of_ble_eq_true rfl, Nat.le_of_ble_eq_true rfl⟩) (fun H locs G => ?_)
      refine lv_if_eq (tgt := 76) C.x C.b dX9_law_42 (by decide) (fun cb => ?_) (fun cb => ?_)
      · have hf := g_t cb hf
        exact pt76 σ (a1 / (10 : Int32)) ((a1 - a1 / (10 : Int32) * (10 : Int32)) - (1 : Int32)) _ _ ls G (lv_sub hl [2, 4, 5, 6, 1, 0] rfl) hf
      · have hf := g_f cb hf
        refine lv_aload_n C.x C.b dX9_law_45 rfl (lv_at hl 2 rfl) ?_
        refine lv_iload_n C.x C.b dX9_law_46 rfl (lv_at hl 5 rfl) ?_
        obtain ⟨q3, eq3, hf⟩ := g_b hf
        refine g_calli G (g_runV (As := [.int a3]) (rest := []) C G 9 0 (c_X9_isYear l D cy A ad L σ hT a3 q3 eq3) ⟨tw1117, tw60, tw1114, ⟨tw1116, tw21⟩, hd_X9_isYear⟩ (by decide) hT rfl ⟨rfl, by decide⟩ hl.1 rfl (Nat.le_of_ble_eq_true rfl) dX9_law_47 ⟨Nat.le_of_ble_eq_true rfl, Nat.le_of_ble_eq_true rfl⟩) (fun H locs G => ?_)
        refine lv_if_eq (tgt := 76) C.x C.b dX9_law_50 (by decide) (fun cb => ?_) (fun cb => ?_)
        · have hf := g_t cb hf
          exact pt76 σ (a1 / (10 : Int32)) ((a1 - a1 / (10 : Int32) * (10 : Int32)) - (1 : Int32)) _ _ ls G (lv_sub hl [2, 4, 5, 6, 1, 0] rfl) hf
        · have hf := g_f cb hf
          refine lv_aload_n C.x C.b dX9_law_53 rfl (lv_at hl 2 rfl) ?_
          refine lv_iload C.x C.b dX9_law_54 (lv_at hl 6 rfl) ?_
          refine lv_iconst (v := (1 : Int32)) C.x C.b dX9_law_56 (by decide) ?_
          refine lv_sipush (v := (200 : Int32)) C.x C.b dX9_law_57 (by decide) ?_
          obtain ⟨q4, eq4, hf⟩ := g_b hf
          refine g_calli G (g_runV (As := [.int a4, .int (1 : Int32), .int (200 : Int32)]) (rest := []) C G 9 0 (c_X9_in l D cy A ad L σ hT a4 (1 : Int32) (200 : Int32) q4 eq4) ⟨tw1093, tw60, tw1090, ⟨tw1092, tw18⟩, hd_X9_in⟩ (by decide) hT rfl ⟨rfl, by decide⟩ hl.1 rfl (Nat.le_of_ble_eq_true rfl) dX9_law_60 ⟨Nat.le_of_ble_eq_true rfl, Nat.le_of_ble_eq_true rfl⟩) (fun H locs G => ?_)
          refine lv_if_eq (tgt := 76) C.x C.b dX9_law_63 (by decide) (fun cb => ?_) (fun cb => ?_)
          · have hf := g_t cb hf
            exact pt76 σ (a1 / (10 : Int32)) ((a1 - a1 / (10 : Int32) * (10 : Int32)) - (1 : Int32)) _ _ ls G (lv_sub hl [2, 4, 5, 6, 1, 0] rfl) hf
          · have hf := g_f cb hf
            refine lv_iload_n C.x C.b dX9_law_66 rfl (lv_at hl 5 rfl) ?_
            refine lv_iload C.x C.b dX9_law_67 (lv_at hl 6 rfl) ?_
            refine lv_icmp_ge (tgt := 76) C.x C.b dX9_law_69 (by decide) (fun cb => ?_) (fun cb => ?_)
            · have hf := g_t cb hf
              exact pt76 σ (a1 / (10 : Int32)) ((a1 - a1 / (10 : Int32) * (10 : Int32)) - (1 : Int32)) _ _ ls G (lv_sub hl [2, 4, 5, 6, 1, 0] rfl) hf
            · have hf := g_f cb hf
              refine lv_iconst (v := (1 : Int32)) C.x C.b dX9_law_72 (by decide) ?_
              refine lv_goto (tgt := 77) C.x C.b dX9_law_73 (by decide) ?_
              exact pt77 σ (a1 / (10 : Int32)) ((a1 - a1 / (10 : Int32) * (10 : Int32)) - (1 : Int32)) (1 : Int32) _ _ ls G (lv_sub hl [2, 4, 5, 6, 1, 0] rfl) hf
def f_X9_repeal (ad : gA) (σ : gS) (a1 : Int32) (a2 : Int32) : Option (Int32 × gS) := ((f_X9_in ad σ a1 (0 : Int32) ((σ 9 0 3) - (1 : Int32))).bind fun q1 => (if q1 = 0 then (some ((-1 : Int32), σ)) else (if g_ix a1 20 then (if g_ix a1 20 then ((f_X9_in ad σ a2 ((σ 56 0 a1.toNatClampNeg) + (1 : Int32)) (σ 57 0 a1.toNatClampNeg)).bind fun q6 => (if q6 = 0 then (some ((-1 : Int32), σ)) else (if g_ix a1 20 then (if g_ix a1 20 then (g_let (g_up σ 57 0 a1.toNatClampNeg a2) fun σ11 => (some ((σ 57 0 a1.toNatClampNeg), σ11))) else none) else none))) else none) else none)))
theorem hd_X9_repeal : yX9_repeal.cls ≠ "java/lang/invoke/MethodHandle" ∧ yX9_repeal.cls ≠ "java/lang/invoke/VarHandle" ∧ (parseMethodDescriptor yX9_repeal.desc).map (fun d => d.parameters.length) = some 2 := by decide +kernel
set_option maxHeartbeats 4000000 in
set_option maxRecDepth 100000 in
theorem c_X9_repeal (l : Launch) (D : va_G) (cy : Nat → ClassId) (A : Nat → Prop) (ad : gA) (L : gL)  (σ : gS) (hT : (9, 0) ∈ L) (a1 : Int32) (a2 : Int32) (r0 : Int32) (σ0 : gS) (hf : f_X9_repeal ad σ a1 a2 = some (r0, σ0)) : g_Mi l yX9_repeal cX9_repeal 4 (some .int) ({ frames := 1, cells := 0, slots := 0, locals := 23 } : Room) D cy A ad L σ [.ref (ad 9 0), .int a1, .int a2] r0 σ0 := by
  refine g_met (by decide) (Nat.le_of_ble_eq_true rfl) (fun p e s m below meth c C hr hlocks hnm G ls hl => ?_)
  have hl : lv_has ls 4 [(0, .ref (ad 9 0)), (1, .int a1), (2, .int a2)] := hl
  unfold f_X9_repeal at hf
  refine lv_aload_n C.x C.b dX9_repeal_0 rfl (lv_at hl 0 rfl) ?_
  refine lv_iload_n C.x C.b dX9_repeal_1 rfl (lv_at hl 1 rfl) ?_
  refine lv_iconst (v := (0 : Int32)) C.x C.b dX9_repeal_2 (by decide) ?_
  refine lv_aload_n C.x C.b dX9_repeal_3 rfl (lv_at hl 0 rfl) ?_
  refine g_geti C G 9 0 3 hT rfl ginX9 (by decide) tw953 dX9_repeal_4 ?_
  refine lv_iconst (v := (1 : Int32)) C.x C.b dX9_repeal_7 (by decide) ?_
  refine lv_isub C.x C.b dX9_repeal_8 ?_
  obtain ⟨q1, eq1, hf⟩ := g_b hf
  refine g_calli G (g_runV (As := [.int a1, .int (0 : Int32), .int ((σ 9 0 3) - (1 : Int32))]) (rest := []) C G 9 0 (c_X9_in l D cy A ad L σ hT a1 (0 : Int32) ((σ 9 0 3) - (1 : Int32)) q1 eq1) ⟨tw1093, tw60, tw1090, ⟨tw1092, tw18⟩, hd_X9_in⟩ (by decide) hT rfl ⟨rfl, by decide⟩ hl.1 rfl (Nat.le_of_ble_eq_true rfl) dX9_repeal_9 ⟨Nat.le_of_ble_eq_true rfl, Nat.le_of_ble_eq_true rfl⟩) (fun H locs G => ?_)
  refine lv_if_eq (tgt := 37) C.x C.b dX9_repeal_12 (by decide) (fun cb => ?_) (fun cb => ?_)
  · have hf := g_t cb hf
    refine lv_iconst (v := (-1 : Int32)) C.x C.b dX9_repeal_37 (by decide) ?_
    exact g_eii C G hr hlocks hf dX9_repeal_38
  · have hf := g_f cb hf
    refine lv_aload_n C.x C.b dX9_repeal_15 rfl (lv_at hl 0 rfl) ?_
    refine lv_iload_n C.x C.b dX9_repeal_16 rfl (lv_at hl 2 rfl) ?_
    refine lv_aload_n C.x C.b dX9_repeal_17 rfl (lv_at hl 0 rfl) ?_
    refine g_getr C G 9 0 16 56 hT rfl ginX9 (by decide) tw966 dX9_repeal_18 (fun hL2 => ?_)
    refine lv_iload_n C.x C.b dX9_repeal_21 rfl (lv_at hl 1 rfl) ?_
    obtain ⟨hi3, hf⟩ := g_ok hf
    refine g_iald (n := 20) C G 56 0 hL2 (by decide) rfl hi3 dX9_repeal_22 ?_
    refine lv_iconst (v := (1 : Int32)) C.x C.b dX9_repeal_23 (by decide) ?_
    refine lv_iadd C.x C.b dX9_repeal_24 ?_
    refine lv_aload_n C.x C.b dX9_repeal_25 rfl (lv_at hl 0 rfl) ?_
    refine g_getr C G 9 0 17 57 hT rfl ginX9 (by decide) tw967 dX9_repeal_26 (fun hL4 => ?_)
    refine lv_iload_n C.x C.b dX9_repeal_29 rfl (lv_at hl 1 rfl) ?_
    obtain ⟨hi5, hf⟩ := g_ok hf
    refine g_iald (n := 20) C G 57 0 hL4 (by decide) rfl hi5 dX9_repeal_30 ?_
    obtain ⟨q6, eq6, hf⟩ := g_b hf
    refine g_calli G (g_runV (As := [.int a2, .int ((σ 56 0 a1.toNatClampNeg) + (1 : Int32)), .int (σ 57 0 a1.toNatClampNeg)]) (rest := []) C G 9 0 (c_X9_in l D cy A ad L σ hT a2 ((σ 56 0 a1.toNatClampNeg) + (1 : Int32)) (σ 57 0 a1.toNatClampNeg) q6 eq6) ⟨tw1093, tw60, tw1090, ⟨tw1092, tw18⟩, hd_X9_in⟩ (by decide) hT rfl ⟨rfl, by decide⟩ hl.1 rfl (Nat.le_of_ble_eq_true rfl) dX9_repeal_31 ⟨Nat.le_of_ble_eq_true rfl, Nat.le_of_ble_eq_true rfl⟩) (fun H locs G => ?_)
    refine lv_if_ne (tgt := 39) C.x C.b dX9_repeal_34 (by decide) (fun cb => ?_) (fun cb => ?_)
    · have hf := g_f cb hf
      refine lv_aload_n C.x C.b dX9_repeal_39 rfl (lv_at hl 0 rfl) ?_
      refine g_getr C G 9 0 17 57 hT rfl ginX9 (by decide) tw967 dX9_repeal_40 (fun hL7 => ?_)
      refine lv_iload_n C.x C.b dX9_repeal_43 rfl (lv_at hl 1 rfl) ?_
      obtain ⟨hi8, hf⟩ := g_ok hf
      refine g_iald (n := 20) C G 57 0 hL7 (by decide) rfl hi8 dX9_repeal_44 ?_
      refine lv_istore_n (lv' := [(3, .int (σ 57 0 a1.toNatClampNeg)), (0, .ref (ad 9 0)), (1, .int a1), (2, .int a2)]) C.x C.b dX9_repeal_45 rfl hl (by decide) rfl (fun ls hl => ?_)
      refine lv_aload_n C.x C.b dX9_repeal_46 rfl (lv_at hl 1 rfl) ?_
      refine g_getr C G 9 0 17 57 hT rfl ginX9 (by decide) tw967 dX9_repeal_47 (fun hL9 => ?_)
      refine lv_iload_n C.x C.b dX9_repeal_50 rfl (lv_at hl 2 rfl) ?_
      refine lv_iload_n C.x C.b dX9_repeal_51 rfl (lv_at hl 3 rfl) ?_
      obtain ⟨hi10, hf⟩ := g_ok hf
      refine g_iast (n := 20) C G 57 0 hL9 (by decide) rfl hi10 dX9_repeal_52 (fun H locs G => ?_)
      obtain ⟨σ11, eσ11, hf⟩ := g_lt hf
      rw [← eσ11] at G
      refine lv_iload_n C.x C.b dX9_repeal_53 rfl (lv_at hl 0 rfl) ?_
      exact g_eii C G hr hlocks hf dX9_repeal_54
    · have hf := g_t cb hf
      refine lv_iconst (v := (-1 : Int32)) C.x C.b dX9_repeal_37 (by decide) ?_
      exact g_eii C G hr hlocks hf dX9_repeal_38
def f_X9_put (ad : gA) (σ : gS) (a1 : Int32) (a2 : Int32) (a3 : Int32) : Option gS := (if g_ix a2 4800 then (g_let (g_up σ 58 0 a2.toNatClampNeg a1) fun σ3 => (if g_ix (((200 : Int32) * a1) + a3) 4800 then (g_let (g_up σ3 60 0 ((((200 : Int32) * a1) + a3).toNatClampNeg) a2) fun σ6 => (some σ6)) else none)) else none)
theorem hd_X9_put : yX9_put.cls ≠ "java/lang/invoke/MethodHandle" ∧ yX9_put.cls ≠ "java/lang/invoke/VarHandle" ∧ (parseMethodDescriptor yX9_put.desc).map (fun d => d.parameters.length) = some 3 := by decide +kernel
set_option maxHeartbeats 4000000 in
set_option maxRecDepth 100000 in
theorem c_X9_put (l : Launch) (D : va_G) (cy : Nat → ClassId) (A : Nat → Prop) (ad : gA) (L : gL)  (σ : gS) (hT : (9, 0) ∈ L) (a1 : Int32) (a2 : Int32) (a3 : Int32) (σ0 : gS) (hf : f_X9_put ad σ a1 a2 a3 = some σ0) : g_Mv l yX9_put cX9_put 4 none ({ frames := 0, cells := 0, slots := 0, locals := 0 } : Room) D cy A ad L σ [.ref (ad 9 0), .int a1, .int a2, .int a3] σ0 := by
  refine g_met (by decide) (Nat.le_of_ble_eq_true rfl) (fun p e s m below meth c C hr hlocks hnm G ls hl => ?_)
  have hl : lv_has ls 4 [(0, .ref (ad 9 0)), (1, .int a1), (2, .int a2), (3, .int a3)] := hl
  unfold f_X9_put at hf
  refine lv_aload_n C.x C.b dX9_put_0 rfl (lv_at hl 0 rfl) ?_
  refine g_getr C G 9 0 18 58 hT rfl ginX9 (by decide) tw968 dX9_put_1 (fun hL1 => ?_)
  refine lv_iload_n C.x C.b dX9_put_4 rfl (lv_at hl 2 rfl) ?_
  refine lv_iload_n C.x C.b dX9_put_5 rfl (lv_at hl 1 rfl) ?_
  obtain ⟨hi2, hf⟩ := g_ok hf
  refine g_iast (n := 4800) C G 58 0 hL1 (by decide) rfl hi2 dX9_put_6 (fun H locs G => ?_)
  obtain ⟨σ3, eσ3, hf⟩ := g_lt hf
  rw [← eσ3] at G
  refine lv_aload_n C.x C.b dX9_put_7 rfl (lv_at hl 0 rfl) ?_
  refine g_getr C G 9 0 20 60 hT rfl ginX9 (by decide) tw970 dX9_put_8 (fun hL4 => ?_)
  refine lv_sipush (v := (200 : Int32)) C.x C.b dX9_put_11 (by decide) ?_
  refine lv_iload_n C.x C.b dX9_put_14 rfl (lv_at hl 1 rfl) ?_
  refine lv_imul C.x C.b dX9_put_15 ?_
  refine lv_iload_n C.x C.b dX9_put_16 rfl (lv_at hl 3 rfl) ?_
  refine lv_iadd C.x C.b dX9_put_17 ?_
  refine lv_iload_n C.x C.b dX9_put_18 rfl (lv_at hl 2 rfl) ?_
  obtain ⟨hi5, hf⟩ := g_ok hf
  refine g_iast (n := 4800) C G 60 0 hL4 (by decide) rfl hi5 dX9_put_19 (fun H locs G => ?_)
  obtain ⟨σ6, eσ6, hf⟩ := g_lt hf
  rw [← eσ6] at G
  exact g_evi C G hr hlocks hf dX9_put_20
def f_X9_clear (ad : gA) (σ : gS) (a1 : Int32) (a2 : Int32) : Option (Int32 × gS) := (if g_ix a1 4800 then (if g_ix (((200 : Int32) * (σ 58 0 a1.toNatClampNeg)) + a2) 4800 then (g_let (g_up σ 60 0 ((((200 : Int32) * (σ 58 0 a1.toNatClampNeg)) + a2).toNatClampNeg) (-1 : Int32)) fun σ5 => (if g_ix a1 4800 then (g_let (g_up σ5 58 0 a1.toNatClampNeg (-1 : Int32)) fun σ8 => (if g_ix a1 4800 then (g_let (g_up σ8 59 0 a1.toNatClampNeg (vp_nar .boolean (0 : Int32))) fun σ11 => (some ((σ 58 0 a1.toNatClampNeg), σ11))) else none)) else none)) else none) else none)
theorem hd_X9_clear : yX9_clear.cls ≠ "java/lang/invoke/MethodHandle" ∧ yX9_clear.cls ≠ "java/lang/invoke/VarHandle" ∧ (parseMethodDescriptor yX9_clear.desc).map (fun d => d.parameters.length) = some 2 := by decide +kernel
set_option maxHeartbeats 4000000 in
set_option maxRecDepth 100000 in
theorem c_X9_clear (l : Launch) (D : va_G) (cy : Nat → ClassId) (A : Nat → Prop) (ad : gA) (L : gL)  (σ : gS) (hT : (9, 0) ∈ L) (a1 : Int32) (a2 : Int32) (r0 : Int32) (σ0 : gS) (hf : f_X9_clear ad σ a1 a2 = some (r0, σ0)) : g_Mi l yX9_clear cX9_clear 4 (some .int) ({ frames := 0, cells := 0, slots := 0, locals := 0 } : Room) D cy A ad L σ [.ref (ad 9 0), .int a1, .int a2] r0 σ0 := by
  refine g_met (by decide) (Nat.le_of_ble_eq_true rfl) (fun p e s m below meth c C hr hlocks hnm G ls hl => ?_)
  have hl : lv_has ls 4 [(0, .ref (ad 9 0)), (1, .int a1), (2, .int a2)] := hl
  unfold f_X9_clear at hf
  refine lv_aload_n C.x C.b dX9_clear_0 rfl (lv_at hl 0 rfl) ?_
  refine g_getr C G 9 0 18 58 hT rfl ginX9 (by decide) tw968 dX9_clear_1 (fun hL1 => ?_)
  refine lv_iload_n C.x C.b dX9_clear_4 rfl (lv_at hl 1 rfl) ?_
  obtain ⟨hi2, hf⟩ := g_ok hf
  refine g_iald (n := 4800) C G 58 0 hL1 (by decide) rfl hi2 dX9_clear_5 ?_
  refine lv_istore_n (lv' := [(3, .int (σ 58 0 a1.toNatClampNeg)), (0, .ref (ad 9 0)), (1, .int a1), (2, .int a2)]) C.x C.b dX9_clear_6 rfl hl (by decide) rfl (fun ls hl => ?_)
  refine lv_aload_n C.x C.b dX9_clear_7 rfl (lv_at hl 1 rfl) ?_
  refine g_getr C G 9 0 20 60 hT rfl ginX9 (by decide) tw970 dX9_clear_8 (fun hL3 => ?_)
  refine lv_sipush (v := (200 : Int32)) C.x C.b dX9_clear_11 (by decide) ?_
  refine lv_iload_n C.x C.b dX9_clear_14 rfl (lv_at hl 0 rfl) ?_
  refine lv_imul C.x C.b dX9_clear_15 ?_
  refine lv_iload_n C.x C.b dX9_clear_16 rfl (lv_at hl 3 rfl) ?_
  refine lv_iadd C.x C.b dX9_clear_17 ?_
  refine lv_iconst (v := (-1 : Int32)) C.x C.b dX9_clear_18 (by decide) ?_
  obtain ⟨hi4, hf⟩ := g_ok hf
  refine g_iast (n := 4800) C G 60 0 hL3 (by decide) rfl hi4 dX9_clear_19 (fun H locs G => ?_)
  obtain ⟨σ5, eσ5, hf⟩ := g_lt hf
  rw [← eσ5] at G
  refine lv_aload_n C.x C.b dX9_clear_20 rfl (lv_at hl 1 rfl) ?_
  refine g_getr C G 9 0 18 58 hT rfl ginX9 (by decide) tw968 dX9_clear_21 (fun hL6 => ?_)
  refine lv_iload_n C.x C.b dX9_clear_24 rfl (lv_at hl 2 rfl) ?_
  refine lv_iconst (v := (-1 : Int32)) C.x C.b dX9_clear_25 (by decide) ?_
  obtain ⟨hi7, hf⟩ := g_ok hf
  refine g_iast (n := 4800) C G 58 0 hL6 (by decide) rfl hi7 dX9_clear_26 (fun H locs G => ?_)
  obtain ⟨σ8, eσ8, hf⟩ := g_lt hf
  rw [← eσ8] at G
  refine lv_aload_n C.x C.b dX9_clear_27 rfl (lv_at hl 1 rfl) ?_
  refine g_getr C G 9 0 19 59 hT rfl ginX9 (by decide) tw969 dX9_clear_28 (fun hL9 => ?_)
  refine lv_iload_n C.x C.b dX9_clear_31 rfl (lv_at hl 2 rfl) ?_
  refine lv_iconst (v := (0 : Int32)) C.x C.b dX9_clear_32 (by decide) ?_
  obtain ⟨hi10, hf⟩ := g_ok hf
  refine g_zast (n := 4800) C G 59 0 hL9 (by decide) rfl hi10 dX9_clear_33 (fun H locs G => ?_)
  obtain ⟨σ11, eσ11, hf⟩ := g_lt hf
  rw [← eσ11] at G
  refine lv_iload_n C.x C.b dX9_clear_34 rfl (lv_at hl 0 rfl) ?_
  exact g_eii C G hr hlocks hf dX9_clear_35
def f_X9_stone_P100 (σ : gS) : Option (Int32 × gS) := (some ((-3 : Int32), σ))
def f_X9_stone_L47 (ad : gA) (a1 : Int32) (a2 : Int32) (a3 : Int32) (K47 : gS → Option (Int32 × gS)) : Nat → gS → Int32 → Option (Int32 × gS)
  | 0, _, _ => none
  | n + 1, σ, v4 => (if g_ix a2 8 then (if (σ 44 0 a2.toNatClampNeg) ≤ v4 then (K47 σ) else ((f_X9_at ad σ a2 a3 v4).bind fun q9 => (if g_ix q9 4800 then (if (σ 58 0 q9.toNatClampNeg) < 0 then ((f_X9_at ad σ a2 a3 v4).bind fun q11 => ((f_X9_put ad σ a1 q11 a3).bind fun σ12 => (some (v4, σ12)))) else (f_X9_stone_L47 ad a1 a2 a3 K47 n σ (v4 + (1 : Int32)))) else none))) else none)
def f_X9_stone (ad : gA) (σ : gS) (a1 : Int32) (a2 : Int32) (a3 : Int32) : Option (Int32 × gS) := ((f_X9_isPerson ad σ a1).bind fun q1 => (if q1 = 0 then (some ((-1 : Int32), σ)) else ((f_X9_isOffice ad σ a2).bind fun q2 => (if q2 = 0 then (some ((-1 : Int32), σ)) else ((f_X9_isYear ad σ a3).bind fun q3 => (if q3 = 0 then (some ((-1 : Int32), σ)) else (if g_ix (((200 : Int32) * a1) + a3) 4800 then (if (σ 60 0 ((((200 : Int32) * a1) + a3).toNatClampNeg)) < 0 then (f_X9_stone_L47 ad a1 a2 a3 (f_X9_stone_P100) g_fuel σ (0 : Int32)) else (some ((-3 : Int32), σ))) else none)))))))
theorem hd_X9_stone : yX9_stone.cls ≠ "java/lang/invoke/MethodHandle" ∧ yX9_stone.cls ≠ "java/lang/invoke/VarHandle" ∧ (parseMethodDescriptor yX9_stone.desc).map (fun d => d.parameters.length) = some 3 := by decide +kernel
set_option maxHeartbeats 4000000 in
set_option maxRecDepth 100000 in
theorem c_X9_stone (l : Launch) (D : va_G) (cy : Nat → ClassId) (A : Nat → Prop) (ad : gA) (L : gL)  (σ : gS) (hT : (9, 0) ∈ L) (a1 : Int32) (a2 : Int32) (a3 : Int32) (r0 : Int32) (σ0 : gS) (hf : f_X9_stone ad σ a1 a2 a3 = some (r0, σ0)) : g_Mi l yX9_stone cX9_stone 5 (some .int) ({ frames := 2, cells := 0, slots := 0, locals := 44 } : Room) D cy A ad L σ [.ref (ad 9 0), .int a1, .int a2, .int a3] r0 σ0 := by
  refine g_met (by decide) (Nat.le_of_ble_eq_true rfl) (fun p e s m below meth c C hr hlocks hnm G ls hl => ?_)
  have hl : lv_has ls 5 [(0, .ref (ad 9 0)), (1, .int a1), (2, .int a2), (3, .int a3)] := hl
  have pt100 : ∀ (σ : gS) (H : Heap) (locs : List Loc) (ls : Array Slot), g_H D cy A ad L σ s.heap H locs → lv_has ls 5 [] → f_X9_stone_P100 σ = some (r0, σ0) → g_Wi p l e ({ frames := 2, cells := 0, slots := 0, locals := 44 } : Room) s m below meth c H locs 0 0 D cy A ad L [.ref (ad 9 0), .int a1, .int a2, .int a3] r0 σ0 (F0 m 100 ls []) := by
    intro σ H locs ls G hl hf
    unfold f_X9_stone_P100 at hf
    refine lv_bipush (v := (-3 : Int32)) C.x C.b dX9_stone_100 (by decide) ?_
    exact g_eii C G hr hlocks hf dX9_stone_102
  have lp47 : ∀ n47 : Nat, ∀ (σ : gS) (v4 : Int32) (H : Heap) (locs : List Loc) (ls : Array Slot), g_H D cy A ad L σ s.heap H locs → lv_has ls 5 [(0, .ref (ad 9 0)), (1, .int a1), (2, .int a2), (3, .int a3), (4, .int v4)] → f_X9_stone_L47 ad a1 a2 a3 (f_X9_stone_P100) n47 σ v4 = some (r0, σ0) → g_Wi p l e ({ frames := 2, cells := 0, slots := 0, locals := 44 } : Room) s m below meth c H locs 0 0 D cy A ad L [.ref (ad 9 0), .int a1, .int a2, .int a3] r0 σ0 (F0 m 47 ls []) := by
    intro n47
    induction n47 with
    | zero =>
      intro σ v4 H locs ls G hl hf
      rw [f_X9_stone_L47] at hf
      cases hf
    | succ n47 ih47 =>
      intro σ v4 H locs ls G hl hf
      rw [f_X9_stone_L47] at hf
      refine lv_iload C.x C.b dX9_stone_47 (lv_at hl 4 rfl) ?_
      refine lv_aload_n C.x C.b dX9_stone_49 rfl (lv_at hl 0 rfl) ?_
      refine g_getr C G 9 0 4 44 hT rfl ginX9 (by decide) tw954 dX9_stone_50 (fun hL6 => ?_)
      refine lv_iload_n C.x C.b dX9_stone_53 rfl (lv_at hl 2 rfl) ?_
      obtain ⟨hi7, hf⟩ := g_ok hf
      refine g_iald (n := 8) C G 44 0 hL6 (by decide) rfl hi7 dX9_stone_54 ?_
      refine lv_icmp_ge (tgt := 100) C.x C.b dX9_stone_55 (by decide) (fun cb => ?_) (fun cb => ?_)
      · have hf := g_t cb hf
        exact pt100 σ _ _ ls G (lv_sub hl [] rfl) hf
      · have hf := g_f cb hf
        refine lv_aload_n C.x C.b dX9_stone_58 rfl (lv_at hl 0 rfl) ?_
        refine g_getr C G 9 0 18 58 hT rfl ginX9 (by decide) tw968 dX9_stone_59 (fun hL8 => ?_)
        refine lv_aload_n C.x C.b dX9_stone_62 rfl (lv_at hl 0 rfl) ?_
        refine lv_iload_n C.x C.b dX9_stone_63 rfl (lv_at hl 2 rfl) ?_
        refine lv_iload_n C.x C.b dX9_stone_64 rfl (lv_at hl 3 rfl) ?_
        refine lv_iload C.x C.b dX9_stone_65 (lv_at hl 4 rfl) ?_
        obtain ⟨q9, eq9, hf⟩ := g_b hf
        refine g_calli G (g_runV (As := [.int a2, .int a3, .int v4]) (rest := [.ref (ad 58 0)]) C G 9 0 (c_X9_at l D cy A ad L σ hT a2 a3 v4 q9 eq9) ⟨tw1141, tw60, tw1138, ⟨tw1140, tw23⟩, hd_X9_at⟩ (by decide) hT rfl ⟨rfl, by decide⟩ hl.1 rfl (Nat.le_of_ble_eq_true rfl) dX9_stone_67 ⟨Nat.le_of_ble_eq_true rfl, Nat.le_of_ble_eq_true rfl⟩) (fun H locs G => ?_)
        obtain ⟨hi10, hf⟩ := g_ok hf
        refine g_iald (n := 4800) C G 58 0 hL8 (by decide) rfl hi10 dX9_stone_70 ?_
        refine lv_if_lt (tgt := 77) C.x C.b dX9_stone_71 (by decide) (fun cb => ?_) (fun cb => ?_)
        · have hf := g_t cb hf
          refine lv_aload_n C.x C.b dX9_stone_77 rfl (lv_at hl 0 rfl) ?_
          refine lv_iload_n C.x C.b dX9_stone_78 rfl (lv_at hl 1 rfl) ?_
          refine lv_aload_n C.x C.b dX9_stone_79 rfl (lv_at hl 0 rfl) ?_
          refine lv_iload_n C.x C.b dX9_stone_80 rfl (lv_at hl 2 rfl) ?_
          refine lv_iload_n C.x C.b dX9_stone_81 rfl (lv_at hl 3 rfl) ?_
          refine lv_iload C.x C.b dX9_stone_82 (lv_at hl 4 rfl) ?_
          obtain ⟨q11, eq11, hf⟩ := g_b hf
          refine g_calli G (g_runV (As := [.int a2, .int a3, .int v4]) (rest := [.int a1, .ref (ad 9 0)]) C G 9 0 (c_X9_at l D cy A ad L σ hT a2 a3 v4 q11 eq11) ⟨tw1141, tw60, tw1138, ⟨tw1140, tw23⟩, hd_X9_at⟩ (by decide) hT rfl ⟨rfl, by decide⟩ hl.1 rfl (Nat.le_of_ble_eq_true rfl) dX9_stone_84 ⟨Nat.le_of_ble_eq_true rfl, Nat.le_of_ble_eq_true rfl⟩) (fun H locs G => ?_)
          refine lv_iload_n C.x C.b dX9_stone_87 rfl (lv_at hl 3 rfl) ?_
          obtain ⟨σ12, eσ12, hf⟩ := g_b hf
          refine g_callv G (g_runV (As := [.int a1, .int q11, .int a3]) (rest := []) C G 9 0 (c_X9_put l D cy A ad L σ hT a1 q11 a3 σ12 eσ12) ⟨tw1145, tw60, tw1142, ⟨tw1144, tw24⟩, hd_X9_put⟩ (by decide) hT rfl ⟨rfl, by decide⟩ hl.1 rfl (Nat.le_of_ble_eq_true rfl) dX9_stone_88 ⟨Nat.le_of_ble_eq_true rfl, Nat.le_of_ble_eq_true rfl⟩) (fun H locs G => ?_)
          refine lv_iload C.x C.b dX9_stone_91 (lv_at hl 4 rfl) ?_
          exact g_eii C G hr hlocks hf dX9_stone_93
        · have hf := g_f cb hf
          refine lv_goto (tgt := 94) C.x C.b dX9_stone_74 (by decide) ?_
          refine lv_iinc (v := (v4 + (1 : Int32))) (lv' := [(4, .int (v4 + (1 : Int32))), (0, .ref (ad 9 0)), (1, .int a1), (2, .int a2), (3, .int a3)]) C.x C.b dX9_stone_94 hl (k := 4) rfl rfl (by decide) rfl (fun ls hl => ?_)
          refine lv_goto (tgt := 47) C.x C.b dX9_stone_97 (by decide) ?_
          exact ih47 σ (v4 + (1 : Int32)) _ _ ls G (lv_sub hl [1, 2, 3, 4, 0] rfl) hf
  unfold f_X9_stone at hf
  refine lv_aload_n C.x C.b dX9_stone_0 rfl (lv_at hl 0 rfl) ?_
  refine lv_iload_n C.x C.b dX9_stone_1 rfl (lv_at hl 1 rfl) ?_
  obtain ⟨q1, eq1, hf⟩ := g_b hf
  refine g_calli G (g_runV (As := [.int a1]) (rest := []) C G 9 0 (c_X9_isPerson l D cy A ad L σ hT a1 q1 eq1) ⟨tw1109, tw60, tw1106, ⟨tw1108, tw20⟩, hd_X9_isPerson⟩ (by decide) hT rfl ⟨rfl, by decide⟩ hl.1 rfl (Nat.le_of_ble_eq_true rfl) dX9_stone_2 ⟨Nat.le_of_ble_eq_true rfl, Nat.le_of_ble_eq_true rfl⟩) (fun H locs G => ?_)
  refine lv_if_eq (tgt := 24) C.x C.b dX9_stone_5 (by decide) (fun cb => ?_) (fun cb => ?_)
  · have hf := g_t cb hf
    refine lv_iconst (v := (-1 : Int32)) C.x C.b dX9_stone_24 (by decide) ?_
    exact g_eii C G hr hlocks hf dX9_stone_25
  · have hf := g_f cb hf
    refine lv_aload_n C.x C.b dX9_stone_8 rfl (lv_at hl 0 rfl) ?_
    refine lv_iload_n C.x C.b dX9_stone_9 rfl (lv_at hl 2 rfl) ?_
    obtain ⟨q2, eq2, hf⟩ := g_b hf
    refine g_calli G (g_runV (As := [.int a2]) (rest := []) C G 9 0 (c_X9_isOffice l D cy A ad L σ hT a2 q2 eq2) ⟨tw1129, tw60, tw1126, ⟨tw1128, tw22⟩, hd_X9_isOffice⟩ (by decide) hT rfl ⟨rfl, by decide⟩ hl.1 rfl (Nat.le_of_ble_eq_true rfl) dX9_stone_10 ⟨Nat.le_of_ble_eq_true rfl, Nat.le_of_ble_eq_true rfl⟩) (fun H locs G => ?_)
    refine lv_if_eq (tgt := 24) C.x C.b dX9_stone_13 (by decide) (fun cb => ?_) (fun cb => ?_)
    · have hf := g_t cb hf
      refine lv_iconst (v := (-1 : Int32)) C.x C.b dX9_stone_24 (by decide) ?_
      exact g_eii C G hr hlocks hf dX9_stone_25
    · have hf := g_f cb hf
      refine lv_aload_n C.x C.b dX9_stone_16 rfl (lv_at hl 0 rfl) ?_
      refine lv_iload_n C.x C.b dX9_stone_17 rfl (lv_at hl 3 rfl) ?_
      obtain ⟨q3, eq3, hf⟩ := g_b hf
      refine g_calli G (g_runV (As := [.int a3]) (rest := []) C G 9 0 (c_X9_isYear l D cy A ad L σ hT a3 q3 eq3) ⟨tw1117, tw60, tw1114, ⟨tw1116, tw21⟩, hd_X9_isYear⟩ (by decide) hT rfl ⟨rfl, by decide⟩ hl.1 rfl (Nat.le_of_ble_eq_true rfl) dX9_stone_18 ⟨Nat.le_of_ble_eq_true rfl, Nat.le_of_ble_eq_true rfl⟩) (fun H locs G => ?_)
      refine lv_if_ne (tgt := 26) C.x C.b dX9_stone_21 (by decide) (fun cb => ?_) (fun cb => ?_)
      · have hf := g_f cb hf
        refine lv_aload_n C.x C.b dX9_stone_26 rfl (lv_at hl 0 rfl) ?_
        refine g_getr C G 9 0 20 60 hT rfl ginX9 (by decide) tw970 dX9_stone_27 (fun hL4 => ?_)
        refine lv_sipush (v := (200 : Int32)) C.x C.b dX9_stone_30 (by decide) ?_
        refine lv_iload_n C.x C.b dX9_stone_33 rfl (lv_at hl 1 rfl) ?_
        refine lv_imul C.x C.b dX9_stone_34 ?_
        refine lv_iload_n C.x C.b dX9_stone_35 rfl (lv_at hl 3 rfl) ?_
        refine lv_iadd C.x C.b dX9_stone_36 ?_
        obtain ⟨hi5, hf⟩ := g_ok hf
        refine g_iald (n := 4800) C G 60 0 hL4 (by decide) rfl hi5 dX9_stone_37 ?_
        refine lv_if_lt (tgt := 44) C.x C.b dX9_stone_38 (by decide) (fun cb => ?_) (fun cb => ?_)
        · have hf := g_t cb hf
          refine lv_iconst (v := (0 : Int32)) C.x C.b dX9_stone_44 (by decide) ?_
          refine lv_istore (lv' := [(4, .int (0 : Int32)), (0, .ref (ad 9 0)), (1, .int a1), (2, .int a2), (3, .int a3)]) C.x C.b dX9_stone_45 hl (by decide) rfl (fun ls hl => ?_)
          exact lp47 g_fuel σ (0 : Int32) _ _ ls G (lv_sub hl [1, 2, 3, 4, 0] rfl) hf
        · have hf := g_f cb hf
          refine lv_bipush (v := (-3 : Int32)) C.x C.b dX9_stone_41 (by decide) ?_
          exact g_eii C G hr hlocks hf dX9_stone_43
      · have hf := g_t cb hf
        refine lv_iconst (v := (-1 : Int32)) C.x C.b dX9_stone_24 (by decide) ?_
        exact g_eii C G hr hlocks hf dX9_stone_25
def f_X9_isSeat (ad : gA) (σ : gS) (a1 : Int32) (a2 : Int32) (a3 : Int32) : Option Int32 := ((f_X9_isOffice ad σ a1).bind fun q1 => (if q1 = 0 then (some (0 : Int32)) else ((f_X9_isYear ad σ a2).bind fun q2 => (if q2 = 0 then (some (0 : Int32)) else (if g_ix a1 8 then ((f_X9_in ad σ a3 (0 : Int32) ((σ 44 0 a1.toNatClampNeg) - (1 : Int32))).bind fun q5 => (if q5 = 0 then (some (0 : Int32)) else (some (1 : Int32)))) else none)))))
theorem hd_X9_isSeat : yX9_isSeat.cls ≠ "java/lang/invoke/MethodHandle" ∧ yX9_isSeat.cls ≠ "java/lang/invoke/VarHandle" ∧ (parseMethodDescriptor yX9_isSeat.desc).map (fun d => d.parameters.length) = some 3 := by decide +kernel
set_option maxHeartbeats 4000000 in
set_option maxRecDepth 100000 in
theorem c_X9_isSeat (l : Launch) (D : va_G) (cy : Nat → ClassId) (A : Nat → Prop) (ad : gA) (L : gL)  (σ : gS) (hT : (9, 0) ∈ L) (a1 : Int32) (a2 : Int32) (a3 : Int32) (r0 : Int32) (hf : f_X9_isSeat ad σ a1 a2 a3 = some r0) : g_Mi l yX9_isSeat cX9_isSeat 4 (some .boolean) ({ frames := 2, cells := 0, slots := 0, locals := 44 } : Room) D cy A ad L σ [.ref (ad 9 0), .int a1, .int a2, .int a3] r0 σ := by
  refine g_met (by decide) (Nat.le_of_ble_eq_true rfl) (fun p e s m below meth c C hr hlocks hnm G ls hl => ?_)
  have hl : lv_has ls 4 [(0, .ref (ad 9 0)), (1, .int a1), (2, .int a2), (3, .int a3)] := hl
  unfold f_X9_isSeat at hf
  refine lv_aload_n C.x C.b dX9_isSeat_0 rfl (lv_at hl 0 rfl) ?_
  refine lv_iload_n C.x C.b dX9_isSeat_1 rfl (lv_at hl 1 rfl) ?_
  obtain ⟨q1, eq1, hf⟩ := g_b hf
  refine g_calli G (g_runV (As := [.int a1]) (rest := []) C G 9 0 (c_X9_isOffice l D cy A ad L σ hT a1 q1 eq1) ⟨tw1129, tw60, tw1126, ⟨tw1128, tw22⟩, hd_X9_isOffice⟩ (by decide) hT rfl ⟨rfl, by decide⟩ hl.1 rfl (Nat.le_of_ble_eq_true rfl) dX9_isSeat_2 ⟨Nat.le_of_ble_eq_true rfl, Nat.le_of_ble_eq_true rfl⟩) (fun H locs G => ?_)
  refine lv_if_eq (tgt := 37) C.x C.b dX9_isSeat_5 (by decide) (fun cb => ?_) (fun cb => ?_)
  · have hf := g_t cb hf
    refine lv_iconst (v := (0 : Int32)) C.x C.b dX9_isSeat_37 (by decide) ?_
    exact g_ezp C G hr hlocks hf rfl dX9_isSeat_38
  · have hf := g_f cb hf
    refine lv_aload_n C.x C.b dX9_isSeat_8 rfl (lv_at hl 0 rfl) ?_
    refine lv_iload_n C.x C.b dX9_isSeat_9 rfl (lv_at hl 2 rfl) ?_
    obtain ⟨q2, eq2, hf⟩ := g_b hf
    refine g_calli G (g_runV (As := [.int a2]) (rest := []) C G 9 0 (c_X9_isYear l D cy A ad L σ hT a2 q2 eq2) ⟨tw1117, tw60, tw1114, ⟨tw1116, tw21⟩, hd_X9_isYear⟩ (by decide) hT rfl ⟨rfl, by decide⟩ hl.1 rfl (Nat.le_of_ble_eq_true rfl) dX9_isSeat_10 ⟨Nat.le_of_ble_eq_true rfl, Nat.le_of_ble_eq_true rfl⟩) (fun H locs G => ?_)
    refine lv_if_eq (tgt := 37) C.x C.b dX9_isSeat_13 (by decide) (fun cb => ?_) (fun cb => ?_)
    · have hf := g_t cb hf
      refine lv_iconst (v := (0 : Int32)) C.x C.b dX9_isSeat_37 (by decide) ?_
      exact g_ezp C G hr hlocks hf rfl dX9_isSeat_38
    · have hf := g_f cb hf
      refine lv_aload_n C.x C.b dX9_isSeat_16 rfl (lv_at hl 0 rfl) ?_
      refine lv_iload_n C.x C.b dX9_isSeat_17 rfl (lv_at hl 3 rfl) ?_
      refine lv_iconst (v := (0 : Int32)) C.x C.b dX9_isSeat_18 (by decide) ?_
      refine lv_aload_n C.x C.b dX9_isSeat_19 rfl (lv_at hl 0 rfl) ?_
      refine g_getr C G 9 0 4 44 hT rfl ginX9 (by decide) tw954 dX9_isSeat_20 (fun hL3 => ?_)
      refine lv_iload_n C.x C.b dX9_isSeat_23 rfl (lv_at hl 1 rfl) ?_
      obtain ⟨hi4, hf⟩ := g_ok hf
      refine g_iald (n := 8) C G 44 0 hL3 (by decide) rfl hi4 dX9_isSeat_24 ?_
      refine lv_iconst (v := (1 : Int32)) C.x C.b dX9_isSeat_25 (by decide) ?_
      refine lv_isub C.x C.b dX9_isSeat_26 ?_
      obtain ⟨q5, eq5, hf⟩ := g_b hf
      refine g_calli G (g_runV (As := [.int a3, .int (0 : Int32), .int ((σ 44 0 a1.toNatClampNeg) - (1 : Int32))]) (rest := []) C G 9 0 (c_X9_in l D cy A ad L σ hT a3 (0 : Int32) ((σ 44 0 a1.toNatClampNeg) - (1 : Int32)) q5 eq5) ⟨tw1093, tw60, tw1090, ⟨tw1092, tw18⟩, hd_X9_in⟩ (by decide) hT rfl ⟨rfl, by decide⟩ hl.1 rfl (Nat.le_of_ble_eq_true rfl) dX9_isSeat_27 ⟨Nat.le_of_ble_eq_true rfl, Nat.le_of_ble_eq_true rfl⟩) (fun H locs G => ?_)
      refine lv_if_eq (tgt := 37) C.x C.b dX9_isSeat_30 (by decide) (fun cb => ?_) (fun cb => ?_)
      · have hf := g_t cb hf
        refine lv_iconst (v := (0 : Int32)) C.x C.b dX9_isSeat_37 (by decide) ?_
        exact g_ezp C G hr hlocks hf rfl dX9_isSeat_38
      · have hf := g_f cb hf
        refine lv_iconst (v := (1 : Int32)) C.x C.b dX9_isSeat_33 (by decide) ?_
        refine lv_goto (tgt := 38) C.x C.b dX9_isSeat_34 (by decide) ?_
        exact g_ezp C G hr hlocks hf rfl dX9_isSeat_38
def f_X9_empty (ad : gA) (σ : gS) (a1 : Int32) (a2 : Int32) (a3 : Int32) : Option (Int32 × gS) := ((f_X9_isSeat ad σ a1 a2 a3).bind fun q1 => (if q1 = 0 then (some ((-1 : Int32), σ)) else ((f_X9_at ad σ a1 a2 a3).bind fun q3 => (if g_ix q3 4800 then (if 0 ≤ (σ 58 0 q3.toNatClampNeg) then ((f_X9_at ad σ a1 a2 a3).bind fun q5 => ((f_X9_clear ad σ q5 a2).bind fun q6 => (some (q6.1, q6.2)))) else (some ((-3 : Int32), σ))) else none))))
theorem hd_X9_empty : yX9_empty.cls ≠ "java/lang/invoke/MethodHandle" ∧ yX9_empty.cls ≠ "java/lang/invoke/VarHandle" ∧ (parseMethodDescriptor yX9_empty.desc).map (fun d => d.parameters.length) = some 3 := by decide +kernel
set_option maxHeartbeats 4000000 in
set_option maxRecDepth 100000 in
theorem c_X9_empty (l : Launch) (D : va_G) (cy : Nat → ClassId) (A : Nat → Prop) (ad : gA) (L : gL)  (σ : gS) (hT : (9, 0) ∈ L) (a1 : Int32) (a2 : Int32) (a3 : Int32) (r0 : Int32) (σ0 : gS) (hf : f_X9_empty ad σ a1 a2 a3 = some (r0, σ0)) : g_Mi l yX9_empty cX9_empty 4 (some .int) ({ frames := 3, cells := 0, slots := 0, locals := 67 } : Room) D cy A ad L σ [.ref (ad 9 0), .int a1, .int a2, .int a3] r0 σ0 := by
  refine g_met (by decide) (Nat.le_of_ble_eq_true rfl) (fun p e s m below meth c C hr hlocks hnm G ls hl => ?_)
  have hl : lv_has ls 4 [(0, .ref (ad 9 0)), (1, .int a1), (2, .int a2), (3, .int a3)] := hl
  unfold f_X9_empty at hf
  refine lv_aload_n C.x C.b dX9_empty_0 rfl (lv_at hl 0 rfl) ?_
  refine lv_iload_n C.x C.b dX9_empty_1 rfl (lv_at hl 1 rfl) ?_
  refine lv_iload_n C.x C.b dX9_empty_2 rfl (lv_at hl 2 rfl) ?_
  refine lv_iload_n C.x C.b dX9_empty_3 rfl (lv_at hl 3 rfl) ?_
  obtain ⟨q1, eq1, hf⟩ := g_b hf
  refine g_calli G (g_runV (As := [.int a1, .int a2, .int a3]) (rest := []) C G 9 0 (c_X9_isSeat l D cy A ad L σ hT a1 a2 a3 q1 eq1) ⟨tw1153, tw60, tw1150, ⟨tw1152, tw25⟩, hd_X9_isSeat⟩ (by decide) hT rfl ⟨rfl, by decide⟩ hl.1 rfl (Nat.le_of_ble_eq_true rfl) dX9_empty_4 ⟨Nat.le_of_ble_eq_true rfl, Nat.le_of_ble_eq_true rfl⟩) (fun H locs G => ?_)
  refine lv_if_ne (tgt := 12) C.x C.b dX9_empty_7 (by decide) (fun cb => ?_) (fun cb => ?_)
  · have hf := g_f cb hf
    refine lv_aload_n C.x C.b dX9_empty_12 rfl (lv_at hl 0 rfl) ?_
    refine g_getr C G 9 0 18 58 hT rfl ginX9 (by decide) tw968 dX9_empty_13 (fun hL2 => ?_)
    refine lv_aload_n C.x C.b dX9_empty_16 rfl (lv_at hl 0 rfl) ?_
    refine lv_iload_n C.x C.b dX9_empty_17 rfl (lv_at hl 1 rfl) ?_
    refine lv_iload_n C.x C.b dX9_empty_18 rfl (lv_at hl 2 rfl) ?_
    refine lv_iload_n C.x C.b dX9_empty_19 rfl (lv_at hl 3 rfl) ?_
    obtain ⟨q3, eq3, hf⟩ := g_b hf
    refine g_calli G (g_runV (As := [.int a1, .int a2, .int a3]) (rest := [.ref (ad 58 0)]) C G 9 0 (c_X9_at l D cy A ad L σ hT a1 a2 a3 q3 eq3) ⟨tw1141, tw60, tw1138, ⟨tw1140, tw23⟩, hd_X9_at⟩ (by decide) hT rfl ⟨rfl, by decide⟩ hl.1 rfl (Nat.le_of_ble_eq_true rfl) dX9_empty_20 ⟨Nat.le_of_ble_eq_true rfl, Nat.le_of_ble_eq_true rfl⟩) (fun H locs G => ?_)
    obtain ⟨hi4, hf⟩ := g_ok hf
    refine g_iald (n := 4800) C G 58 0 hL2 (by decide) rfl hi4 dX9_empty_23 ?_
    refine lv_if_ge (tgt := 32) C.x C.b dX9_empty_24 (by decide) (fun cb => ?_) (fun cb => ?_)
    · have hf := g_t cb hf
      refine lv_aload_n C.x C.b dX9_empty_32 rfl (lv_at hl 0 rfl) ?_
      refine lv_aload_n C.x C.b dX9_empty_33 rfl (lv_at hl 0 rfl) ?_
      refine lv_iload_n C.x C.b dX9_empty_34 rfl (lv_at hl 1 rfl) ?_
      refine lv_iload_n C.x C.b dX9_empty_35 rfl (lv_at hl 2 rfl) ?_
      refine lv_iload_n C.x C.b dX9_empty_36 rfl (lv_at hl 3 rfl) ?_
      obtain ⟨q5, eq5, hf⟩ := g_b hf
      refine g_calli G (g_runV (As := [.int a1, .int a2, .int a3]) (rest := [.ref (ad 9 0)]) C G 9 0 (c_X9_at l D cy A ad L σ hT a1 a2 a3 q5 eq5) ⟨tw1141, tw60, tw1138, ⟨tw1140, tw23⟩, hd_X9_at⟩ (by decide) hT rfl ⟨rfl, by decide⟩ hl.1 rfl (Nat.le_of_ble_eq_true rfl) dX9_empty_37 ⟨Nat.le_of_ble_eq_true rfl, Nat.le_of_ble_eq_true rfl⟩) (fun H locs G => ?_)
      refine lv_iload_n C.x C.b dX9_empty_40 rfl (lv_at hl 2 rfl) ?_
      obtain ⟨q6, eq6, hf⟩ := g_b hf
      refine g_calli G (g_runV (As := [.int q5, .int a2]) (rest := []) C G 9 0 (c_X9_clear l D cy A ad L σ hT q5 a2 q6.1 q6.2 eq6) ⟨tw1157, tw60, tw1154, ⟨tw1156, tw26⟩, hd_X9_clear⟩ (by decide) hT rfl ⟨rfl, by decide⟩ hl.1 rfl (Nat.le_of_ble_eq_true rfl) dX9_empty_41 ⟨Nat.le_of_ble_eq_true rfl, Nat.le_of_ble_eq_true rfl⟩) (fun H locs G => ?_)
      exact g_eii C G hr hlocks hf dX9_empty_44
    · have hf := g_f cb hf
      refine lv_bipush (v := (-3 : Int32)) C.x C.b dX9_empty_27 (by decide) ?_
      refine lv_goto (tgt := 44) C.x C.b dX9_empty_29 (by decide) ?_
      exact g_eii C G hr hlocks hf dX9_empty_44
  · have hf := g_t cb hf
    refine lv_iconst (v := (-1 : Int32)) C.x C.b dX9_empty_10 (by decide) ?_
    exact g_eii C G hr hlocks hf dX9_empty_11
def f_X9_annul (ad : gA) (σ : gS) (a1 : Int32) (a2 : Int32) (a3 : Int32) (a4 : Int32) : Option (Int32 × gS) := ((f_X9_isSeat ad σ a1 a2 a3).bind fun q1 => (if q1 = 0 then (some ((-1 : Int32), σ)) else ((f_X9_at ad σ a1 a2 a3).bind fun q2 => (if g_ix q2 4800 then (if 0 ≤ (σ 58 0 q2.toNatClampNeg) then (if g_ix q2 4800 then (if (σ 59 0 q2.toNatClampNeg) = a4 then (if g_ix q2 4800 then (g_let (g_up σ 59 0 q2.toNatClampNeg (vp_nar .boolean a4)) fun σ12 => (some ((0 : Int32), σ12))) else none) else (if g_ix q2 4800 then (g_let (g_up σ 59 0 q2.toNatClampNeg (vp_nar .boolean a4)) fun σ9 => (some ((1 : Int32), σ9))) else none)) else none) else (some ((-3 : Int32), σ))) else none))))
theorem hd_X9_annul : yX9_annul.cls ≠ "java/lang/invoke/MethodHandle" ∧ yX9_annul.cls ≠ "java/lang/invoke/VarHandle" ∧ (parseMethodDescriptor yX9_annul.desc).map (fun d => d.parameters.length) = some 4 := by decide +kernel
set_option maxHeartbeats 4000000 in
set_option maxRecDepth 100000 in
theorem c_X9_annul (l : Launch) (D : va_G) (cy : Nat → ClassId) (A : Nat → Prop) (ad : gA) (L : gL)  (σ : gS) (hT : (9, 0) ∈ L) (a1 : Int32) (a2 : Int32) (a3 : Int32) (a4 : Int32) (r0 : Int32) (σ0 : gS) (hf : f_X9_annul ad σ a1 a2 a3 a4 = some (r0, σ0)) : g_Mi l yX9_annul cX9_annul 7 (some .int) ({ frames := 3, cells := 0, slots := 0, locals := 67 } : Room) D cy A ad L σ [.ref (ad 9 0), .int a1, .int a2, .int a3, .int a4] r0 σ0 := by
  refine g_met (by decide) (Nat.le_of_ble_eq_true rfl) (fun p e s m below meth c C hr hlocks hnm G ls hl => ?_)
  have hl : lv_has ls 7 [(0, .ref (ad 9 0)), (1, .int a1), (2, .int a2), (3, .int a3), (4, .int a4)] := hl
  unfold f_X9_annul at hf
  refine lv_aload_n C.x C.b dX9_annul_0 rfl (lv_at hl 0 rfl) ?_
  refine lv_iload_n C.x C.b dX9_annul_1 rfl (lv_at hl 1 rfl) ?_
  refine lv_iload_n C.x C.b dX9_annul_2 rfl (lv_at hl 2 rfl) ?_
  refine lv_iload_n C.x C.b dX9_annul_3 rfl (lv_at hl 3 rfl) ?_
  obtain ⟨q1, eq1, hf⟩ := g_b hf
  refine g_calli G (g_runV (As := [.int a1, .int a2, .int a3]) (rest := []) C G 9 0 (c_X9_isSeat l D cy A ad L σ hT a1 a2 a3 q1 eq1) ⟨tw1153, tw60, tw1150, ⟨tw1152, tw25⟩, hd_X9_isSeat⟩ (by decide) hT rfl ⟨rfl, by decide⟩ hl.1 rfl (Nat.le_of_ble_eq_true rfl) dX9_annul_4 ⟨Nat.le_of_ble_eq_true rfl, Nat.le_of_ble_eq_true rfl⟩) (fun H locs G => ?_)
  refine lv_if_ne (tgt := 12) C.x C.b dX9_annul_7 (by decide) (fun cb => ?_) (fun cb => ?_)
  · have hf := g_f cb hf
    refine lv_aload_n C.x C.b dX9_annul_12 rfl (lv_at hl 0 rfl) ?_
    refine lv_iload_n C.x C.b dX9_annul_13 rfl (lv_at hl 1 rfl) ?_
    refine lv_iload_n C.x C.b dX9_annul_14 rfl (lv_at hl 2 rfl) ?_
    refine lv_iload_n C.x C.b dX9_annul_15 rfl (lv_at hl 3 rfl) ?_
    obtain ⟨q2, eq2, hf⟩ := g_b hf
    refine g_calli G (g_runV (As := [.int a1, .int a2, .int a3]) (rest := []) C G 9 0 (c_X9_at l D cy A ad L σ hT a1 a2 a3 q2 eq2) ⟨tw1141, tw60, tw1138, ⟨tw1140, tw23⟩, hd_X9_at⟩ (by decide) hT rfl ⟨rfl, by decide⟩ hl.1 rfl (Nat.le_of_ble_eq_true rfl) dX9_annul_16 ⟨Nat.le_of_ble_eq_true rfl, Nat.le_of_ble_eq_true rfl⟩) (fun H locs G => ?_)
    refine lv_istore (lv' := [(5, .int q2), (0, .ref (ad 9 0)), (1, .int a1), (2, .int a2), (3, .int a3), (4, .int a4)]) C.x C.b dX9_annul_19 hl (by decide) rfl (fun ls hl => ?_)
    refine lv_aload_n C.x C.b dX9_annul_21 rfl (lv_at hl 1 rfl) ?_
    refine g_getr C G 9 0 18 58 hT rfl ginX9 (by decide) tw968 dX9_annul_22 (fun hL3 => ?_)
    refine lv_iload C.x C.b dX9_annul_25 (lv_at hl 0 rfl) ?_
    obtain ⟨hi4, hf⟩ := g_ok hf
    refine g_iald (n := 4800) C G 58 0 hL3 (by decide) rfl hi4 dX9_annul_27 ?_
    refine lv_if_ge (tgt := 34) C.x C.b dX9_annul_28 (by decide) (fun cb => ?_) (fun cb => ?_)
    · have hf := g_t cb hf
      refine lv_aload_n C.x C.b dX9_annul_34 rfl (lv_at hl 1 rfl) ?_
      refine g_getr C G 9 0 19 59 hT rfl ginX9 (by decide) tw969 dX9_annul_35 (fun hL5 => ?_)
      refine lv_iload C.x C.b dX9_annul_38 (lv_at hl 0 rfl) ?_
      obtain ⟨hi6, hf⟩ := g_ok hf
      refine g_zald (n := 4800) C G 59 0 hL5 (by decide) rfl hi6 dX9_annul_40 ?_
      refine lv_iload C.x C.b dX9_annul_41 (lv_at hl 5 rfl) ?_
      refine lv_icmp_ne (tgt := 50) C.x C.b dX9_annul_43 (by decide) (fun cb => ?_) (fun cb => ?_)
      · have hf := g_f cb hf
        refine lv_iconst (v := (1 : Int32)) C.x C.b dX9_annul_50 (by decide) ?_
        refine lv_istore (lv' := [(6, .int (1 : Int32)), (5, .int q2), (0, .ref (ad 9 0)), (1, .int a1), (2, .int a2), (3, .int a3), (4, .int a4)]) C.x C.b dX9_annul_51 hl (by decide) rfl (fun ls hl => ?_)
        refine lv_aload_n C.x C.b dX9_annul_53 rfl (lv_at hl 2 rfl) ?_
        refine g_getr C G 9 0 19 59 hT rfl ginX9 (by decide) tw969 dX9_annul_54 (fun hL7 => ?_)
        refine lv_iload C.x C.b dX9_annul_57 (lv_at hl 1 rfl) ?_
        refine lv_iload C.x C.b dX9_annul_59 (lv_at hl 6 rfl) ?_
        obtain ⟨hi8, hf⟩ := g_ok hf
        refine g_zast (n := 4800) C G 59 0 hL7 (by decide) rfl hi8 dX9_annul_61 (fun H locs G => ?_)
        obtain ⟨σ9, eσ9, hf⟩ := g_lt hf
        rw [← eσ9] at G
        refine lv_iload C.x C.b dX9_annul_62 (lv_at hl 0 rfl) ?_
        exact g_eii C G hr hlocks hf dX9_annul_64
      · have hf := g_t cb hf
        refine lv_iconst (v := (0 : Int32)) C.x C.b dX9_annul_46 (by decide) ?_
        refine lv_goto (tgt := 51) C.x C.b dX9_annul_47 (by decide) ?_
        refine lv_istore (lv' := [(6, .int (0 : Int32)), (5, .int q2), (0, .ref (ad 9 0)), (1, .int a1), (2, .int a2), (3, .int a3), (4, .int a4)]) C.x C.b dX9_annul_51 hl (by decide) rfl (fun ls hl => ?_)
        refine lv_aload_n C.x C.b dX9_annul_53 rfl (lv_at hl 2 rfl) ?_
        refine g_getr C G 9 0 19 59 hT rfl ginX9 (by decide) tw969 dX9_annul_54 (fun hL10 => ?_)
        refine lv_iload C.x C.b dX9_annul_57 (lv_at hl 1 rfl) ?_
        refine lv_iload C.x C.b dX9_annul_59 (lv_at hl 6 rfl) ?_
        obtain ⟨hi11, hf⟩ := g_ok hf
        refine g_zast (n := 4800) C G 59 0 hL10 (by decide) rfl hi11 dX9_annul_61 (fun H locs G => ?_)
        obtain ⟨σ12, eσ12, hf⟩ := g_lt hf
        rw [← eσ12] at G
        refine lv_iload C.x C.b dX9_annul_62 (lv_at hl 0 rfl) ?_
        exact g_eii C G hr hlocks hf dX9_annul_64
    · have hf := g_f cb hf
      refine lv_bipush (v := (-3 : Int32)) C.x C.b dX9_annul_31 (by decide) ?_
      exact g_eii C G hr hlocks hf dX9_annul_33
  · have hf := g_t cb hf
    refine lv_iconst (v := (-1 : Int32)) C.x C.b dX9_annul_10 (by decide) ?_
    exact g_eii C G hr hlocks hf dX9_annul_11
def f_X9_seat (ad : gA) (σ : gS) (a1 : Int32) (a2 : Int32) (a3 : Int32) : Option Int32 := ((f_X9_isSeat ad σ a1 a2 a3).bind fun q1 => (if q1 = 0 then (some (-1 : Int32)) else ((f_X9_at ad σ a1 a2 a3).bind fun q2 => (if g_ix q2 4800 then (if 0 ≤ (σ 58 0 q2.toNatClampNeg) then (if g_ix q2 4800 then (if g_ix q2 4800 then (if (σ 59 0 q2.toNatClampNeg) = 0 then (some ((σ 58 0 q2.toNatClampNeg) + (0 : Int32))) else (some ((σ 58 0 q2.toNatClampNeg) + (100 : Int32)))) else none) else none) else (some (-2 : Int32))) else none))))
theorem hd_X9_seat : yX9_seat.cls ≠ "java/lang/invoke/MethodHandle" ∧ yX9_seat.cls ≠ "java/lang/invoke/VarHandle" ∧ (parseMethodDescriptor yX9_seat.desc).map (fun d => d.parameters.length) = some 3 := by decide +kernel
set_option maxHeartbeats 4000000 in
set_option maxRecDepth 100000 in
theorem c_X9_seat (l : Launch) (D : va_G) (cy : Nat → ClassId) (A : Nat → Prop) (ad : gA) (L : gL)  (σ : gS) (hT : (9, 0) ∈ L) (a1 : Int32) (a2 : Int32) (a3 : Int32) (r0 : Int32) (hf : f_X9_seat ad σ a1 a2 a3 = some r0) : g_Mi l yX9_seat cX9_seat 5 (some .int) ({ frames := 3, cells := 0, slots := 0, locals := 67 } : Room) D cy A ad L σ [.ref (ad 9 0), .int a1, .int a2, .int a3] r0 σ := by
  refine g_met (by decide) (Nat.le_of_ble_eq_true rfl) (fun p e s m below meth c C hr hlocks hnm G ls hl => ?_)
  have hl : lv_has ls 5 [(0, .ref (ad 9 0)), (1, .int a1), (2, .int a2), (3, .int a3)] := hl
  unfold f_X9_seat at hf
  refine lv_aload_n C.x C.b dX9_seat_0 rfl (lv_at hl 0 rfl) ?_
  refine lv_iload_n C.x C.b dX9_seat_1 rfl (lv_at hl 1 rfl) ?_
  refine lv_iload_n C.x C.b dX9_seat_2 rfl (lv_at hl 2 rfl) ?_
  refine lv_iload_n C.x C.b dX9_seat_3 rfl (lv_at hl 3 rfl) ?_
  obtain ⟨q1, eq1, hf⟩ := g_b hf
  refine g_calli G (g_runV (As := [.int a1, .int a2, .int a3]) (rest := []) C G 9 0 (c_X9_isSeat l D cy A ad L σ hT a1 a2 a3 q1 eq1) ⟨tw1153, tw60, tw1150, ⟨tw1152, tw25⟩, hd_X9_isSeat⟩ (by decide) hT rfl ⟨rfl, by decide⟩ hl.1 rfl (Nat.le_of_ble_eq_true rfl) dX9_seat_4 ⟨Nat.le_of_ble_eq_true rfl, Nat.le_of_ble_eq_true rfl⟩) (fun H locs G => ?_)
  refine lv_if_ne (tgt := 12) C.x C.b dX9_seat_7 (by decide) (fun cb => ?_) (fun cb => ?_)
  · have hf := g_f cb hf
    refine lv_aload_n C.x C.b dX9_seat_12 rfl (lv_at hl 0 rfl) ?_
    refine lv_iload_n C.x C.b dX9_seat_13 rfl (lv_at hl 1 rfl) ?_
    refine lv_iload_n C.x C.b dX9_seat_14 rfl (lv_at hl 2 rfl) ?_
    refine lv_iload_n C.x C.b dX9_seat_15 rfl (lv_at hl 3 rfl) ?_
    obtain ⟨q2, eq2, hf⟩ := g_b hf
    refine g_calli G (g_runV (As := [.int a1, .int a2, .int a3]) (rest := []) C G 9 0 (c_X9_at l D cy A ad L σ hT a1 a2 a3 q2 eq2) ⟨tw1141, tw60, tw1138, ⟨tw1140, tw23⟩, hd_X9_at⟩ (by decide) hT rfl ⟨rfl, by decide⟩ hl.1 rfl (Nat.le_of_ble_eq_true rfl) dX9_seat_16 ⟨Nat.le_of_ble_eq_true rfl, Nat.le_of_ble_eq_true rfl⟩) (fun H locs G => ?_)
    refine lv_istore (lv' := [(4, .int q2), (0, .ref (ad 9 0)), (1, .int a1), (2, .int a2), (3, .int a3)]) C.x C.b dX9_seat_19 hl (by decide) rfl (fun ls hl => ?_)
    refine lv_aload_n C.x C.b dX9_seat_21 rfl (lv_at hl 1 rfl) ?_
    refine g_getr C G 9 0 18 58 hT rfl ginX9 (by decide) tw968 dX9_seat_22 (fun hL3 => ?_)
    refine lv_iload C.x C.b dX9_seat_25 (lv_at hl 0 rfl) ?_
    obtain ⟨hi4, hf⟩ := g_ok hf
    refine g_iald (n := 4800) C G 58 0 hL3 (by decide) rfl hi4 dX9_seat_27 ?_
    refine lv_if_ge (tgt := 36) C.x C.b dX9_seat_28 (by decide) (fun cb => ?_) (fun cb => ?_)
    · have hf := g_t cb hf
      refine lv_aload_n C.x C.b dX9_seat_36 rfl (lv_at hl 1 rfl) ?_
      refine g_getr C G 9 0 18 58 hT rfl ginX9 (by decide) tw968 dX9_seat_37 (fun hL5 => ?_)
      refine lv_iload C.x C.b dX9_seat_40 (lv_at hl 0 rfl) ?_
      obtain ⟨hi6, hf⟩ := g_ok hf
      refine g_iald (n := 4800) C G 58 0 hL5 (by decide) rfl hi6 dX9_seat_42 ?_
      refine lv_aload_n C.x C.b dX9_seat_43 rfl (lv_at hl 1 rfl) ?_
      refine g_getr C G 9 0 19 59 hT rfl ginX9 (by decide) tw969 dX9_seat_44 (fun hL7 => ?_)
      refine lv_iload C.x C.b dX9_seat_47 (lv_at hl 0 rfl) ?_
      obtain ⟨hi8, hf⟩ := g_ok hf
      refine g_zald (n := 4800) C G 59 0 hL7 (by decide) rfl hi8 dX9_seat_49 ?_
      refine lv_if_eq (tgt := 58) C.x C.b dX9_seat_50 (by decide) (fun cb => ?_) (fun cb => ?_)
      · have hf := g_t cb hf
        refine lv_iconst (v := (0 : Int32)) C.x C.b dX9_seat_58 (by decide) ?_
        refine lv_iadd C.x C.b dX9_seat_59 ?_
        exact g_eip C G hr hlocks hf dX9_seat_60
      · have hf := g_f cb hf
        refine lv_bipush (v := (100 : Int32)) C.x C.b dX9_seat_53 (by decide) ?_
        refine lv_goto (tgt := 59) C.x C.b dX9_seat_55 (by decide) ?_
        refine lv_iadd C.x C.b dX9_seat_59 ?_
        exact g_eip C G hr hlocks hf dX9_seat_60
    · have hf := g_f cb hf
      refine lv_bipush (v := (-2 : Int32)) C.x C.b dX9_seat_31 (by decide) ?_
      refine lv_goto (tgt := 60) C.x C.b dX9_seat_33 (by decide) ?_
      exact g_eip C G hr hlocks hf dX9_seat_60
  · have hf := g_t cb hf
    refine lv_iconst (v := (-1 : Int32)) C.x C.b dX9_seat_10 (by decide) ?_
    exact g_eip C G hr hlocks hf dX9_seat_11
def f_X9_officeAt (ad : gA) (σ : gS) (a1 : Int32) : Option Int32 := (some (a1 / (600 : Int32)))
theorem hd_X9_officeAt : yX9_officeAt.cls ≠ "java/lang/invoke/MethodHandle" ∧ yX9_officeAt.cls ≠ "java/lang/invoke/VarHandle" ∧ (parseMethodDescriptor yX9_officeAt.desc).map (fun d => d.parameters.length) = some 1 := by decide +kernel
set_option maxHeartbeats 4000000 in
set_option maxRecDepth 100000 in
theorem c_X9_officeAt (l : Launch) (D : va_G) (cy : Nat → ClassId) (A : Nat → Prop) (ad : gA) (L : gL)  (σ : gS) (hT : (9, 0) ∈ L) (a1 : Int32) (r0 : Int32) (hf : f_X9_officeAt ad σ a1 = some r0) : g_Mi l yX9_officeAt cX9_officeAt 2 (some .int) ({ frames := 0, cells := 0, slots := 0, locals := 0 } : Room) D cy A ad L σ [.ref (ad 9 0), .int a1] r0 σ := by
  refine g_met (by decide) (Nat.le_of_ble_eq_true rfl) (fun p e s m below meth c C hr hlocks hnm G ls hl => ?_)
  have hl : lv_has ls 2 [(0, .ref (ad 9 0)), (1, .int a1)] := hl
  unfold f_X9_officeAt at hf
  refine lv_iload_n C.x C.b dX9_officeAt_0 rfl (lv_at hl 1 rfl) ?_
  refine lv_sipush (v := (600 : Int32)) C.x C.b dX9_officeAt_1 (by decide) ?_
  refine lv_idiv C.x C.b dX9_officeAt_4 (by decide) ?_
  exact g_eip C G hr hlocks hf dX9_officeAt_5
def f_X9_holds (ad : gA) (σ : gS) (a1 : Int32) (a2 : Int32) : Option Int32 := ((f_X9_isPerson ad σ a1).bind fun q1 => (if q1 = 0 then (some (-1 : Int32)) else ((f_X9_isYear ad σ a2).bind fun q2 => (if q2 = 0 then (some (-1 : Int32)) else (if g_ix (((200 : Int32) * a1) + a2) 4800 then (if 0 ≤ (σ 60 0 ((((200 : Int32) * a1) + a2).toNatClampNeg)) then ((f_X9_officeAt ad σ (σ 60 0 ((((200 : Int32) * a1) + a2).toNatClampNeg))).bind fun q5 => (some q5)) else (some (-2 : Int32))) else none)))))
theorem hd_X9_holds : yX9_holds.cls ≠ "java/lang/invoke/MethodHandle" ∧ yX9_holds.cls ≠ "java/lang/invoke/VarHandle" ∧ (parseMethodDescriptor yX9_holds.desc).map (fun d => d.parameters.length) = some 2 := by decide +kernel
set_option maxHeartbeats 4000000 in
set_option maxRecDepth 100000 in
theorem c_X9_holds (l : Launch) (D : va_G) (cy : Nat → ClassId) (A : Nat → Prop) (ad : gA) (L : gL)  (σ : gS) (hT : (9, 0) ∈ L) (a1 : Int32) (a2 : Int32) (r0 : Int32) (hf : f_X9_holds ad σ a1 a2 = some r0) : g_Mi l yX9_holds cX9_holds 4 (some .int) ({ frames := 2, cells := 0, slots := 0, locals := 44 } : Room) D cy A ad L σ [.ref (ad 9 0), .int a1, .int a2] r0 σ := by
  refine g_met (by decide) (Nat.le_of_ble_eq_true rfl) (fun p e s m below meth c C hr hlocks hnm G ls hl => ?_)
  have hl : lv_has ls 4 [(0, .ref (ad 9 0)), (1, .int a1), (2, .int a2)] := hl
  unfold f_X9_holds at hf
  refine lv_aload_n C.x C.b dX9_holds_0 rfl (lv_at hl 0 rfl) ?_
  refine lv_iload_n C.x C.b dX9_holds_1 rfl (lv_at hl 1 rfl) ?_
  obtain ⟨q1, eq1, hf⟩ := g_b hf
  refine g_calli G (g_runV (As := [.int a1]) (rest := []) C G 9 0 (c_X9_isPerson l D cy A ad L σ hT a1 q1 eq1) ⟨tw1109, tw60, tw1106, ⟨tw1108, tw20⟩, hd_X9_isPerson⟩ (by decide) hT rfl ⟨rfl, by decide⟩ hl.1 rfl (Nat.le_of_ble_eq_true rfl) dX9_holds_2 ⟨Nat.le_of_ble_eq_true rfl, Nat.le_of_ble_eq_true rfl⟩) (fun H locs G => ?_)
  refine lv_if_eq (tgt := 16) C.x C.b dX9_holds_5 (by decide) (fun cb => ?_) (fun cb => ?_)
  · have hf := g_t cb hf
    refine lv_iconst (v := (-1 : Int32)) C.x C.b dX9_holds_16 (by decide) ?_
    exact g_eip C G hr hlocks hf dX9_holds_17
  · have hf := g_f cb hf
    refine lv_aload_n C.x C.b dX9_holds_8 rfl (lv_at hl 0 rfl) ?_
    refine lv_iload_n C.x C.b dX9_holds_9 rfl (lv_at hl 2 rfl) ?_
    obtain ⟨q2, eq2, hf⟩ := g_b hf
    refine g_calli G (g_runV (As := [.int a2]) (rest := []) C G 9 0 (c_X9_isYear l D cy A ad L σ hT a2 q2 eq2) ⟨tw1117, tw60, tw1114, ⟨tw1116, tw21⟩, hd_X9_isYear⟩ (by decide) hT rfl ⟨rfl, by decide⟩ hl.1 rfl (Nat.le_of_ble_eq_true rfl) dX9_holds_10 ⟨Nat.le_of_ble_eq_true rfl, Nat.le_of_ble_eq_true rfl⟩) (fun H locs G => ?_)
    refine lv_if_ne (tgt := 18) C.x C.b dX9_holds_13 (by decide) (fun cb => ?_) (fun cb => ?_)
    · have hf := g_f cb hf
      refine lv_aload_n C.x C.b dX9_holds_18 rfl (lv_at hl 0 rfl) ?_
      refine g_getr C G 9 0 20 60 hT rfl ginX9 (by decide) tw970 dX9_holds_19 (fun hL3 => ?_)
      refine lv_sipush (v := (200 : Int32)) C.x C.b dX9_holds_22 (by decide) ?_
      refine lv_iload_n C.x C.b dX9_holds_25 rfl (lv_at hl 1 rfl) ?_
      refine lv_imul C.x C.b dX9_holds_26 ?_
      refine lv_iload_n C.x C.b dX9_holds_27 rfl (lv_at hl 2 rfl) ?_
      refine lv_iadd C.x C.b dX9_holds_28 ?_
      obtain ⟨hi4, hf⟩ := g_ok hf
      refine g_iald (n := 4800) C G 60 0 hL3 (by decide) rfl hi4 dX9_holds_29 ?_
      refine lv_istore_n (lv' := [(3, .int (σ 60 0 ((((200 : Int32) * a1) + a2).toNatClampNeg))), (0, .ref (ad 9 0)), (1, .int a1), (2, .int a2)]) C.x C.b dX9_holds_30 rfl hl (by decide) rfl (fun ls hl => ?_)
      refine lv_iload_n C.x C.b dX9_holds_31 rfl (lv_at hl 0 rfl) ?_
      refine lv_if_ge (tgt := 40) C.x C.b dX9_holds_32 (by decide) (fun cb => ?_) (fun cb => ?_)
      · have hf := g_t cb hf
        refine lv_aload_n C.x C.b dX9_holds_40 rfl (lv_at hl 1 rfl) ?_
        refine lv_iload_n C.x C.b dX9_holds_41 rfl (lv_at hl 0 rfl) ?_
        obtain ⟨q5, eq5, hf⟩ := g_b hf
        refine g_calli G (g_runV (As := [.int (σ 60 0 ((((200 : Int32) * a1) + a2).toNatClampNeg))]) (rest := []) C G 9 0 (c_X9_officeAt l D cy A ad L σ hT (σ 60 0 ((((200 : Int32) * a1) + a2).toNatClampNeg)) q5 eq5) ⟨tw1173, tw60, tw1170, ⟨tw1172, tw27⟩, hd_X9_officeAt⟩ (by decide) hT rfl ⟨rfl, by decide⟩ hl.1 rfl (Nat.le_of_ble_eq_true rfl) dX9_holds_42 ⟨Nat.le_of_ble_eq_true rfl, Nat.le_of_ble_eq_true rfl⟩) (fun H locs G => ?_)
        exact g_eip C G hr hlocks hf dX9_holds_45
      · have hf := g_f cb hf
        refine lv_bipush (v := (-2 : Int32)) C.x C.b dX9_holds_35 (by decide) ?_
        refine lv_goto (tgt := 45) C.x C.b dX9_holds_37 (by decide) ?_
        exact g_eip C G hr hlocks hf dX9_holds_45
    · have hf := g_t cb hf
      refine lv_iconst (v := (-1 : Int32)) C.x C.b dX9_holds_16 (by decide) ?_
      exact g_eip C G hr hlocks hf dX9_holds_17
def f_X9_hasHeld (ad : gA) (σ : gS) (a1 : Int32) (a2 : Int32) (a3 : Int32) : Option Int32 := (if 0 ≤ a3 then (if g_ix (((200 : Int32) * a1) + a3) 4800 then (if (σ 60 0 ((((200 : Int32) * a1) + a3).toNatClampNeg)) < 0 then (some (0 : Int32)) else (if g_ix (σ 60 0 ((((200 : Int32) * a1) + a3).toNatClampNeg)) 4800 then (if (σ 59 0 ((σ 60 0 ((((200 : Int32) * a1) + a3).toNatClampNeg)).toNatClampNeg)) = 0 then (if a2 < 0 then (some (1 : Int32)) else ((f_X9_officeAt ad σ (σ 60 0 ((((200 : Int32) * a1) + a3).toNatClampNeg))).bind fun q5 => (if q5 = a2 then (some (1 : Int32)) else (some (0 : Int32))))) else (some (0 : Int32))) else none)) else none) else (some (0 : Int32)))
theorem hd_X9_hasHeld : yX9_hasHeld.cls ≠ "java/lang/invoke/MethodHandle" ∧ yX9_hasHeld.cls ≠ "java/lang/invoke/VarHandle" ∧ (parseMethodDescriptor yX9_hasHeld.desc).map (fun d => d.parameters.length) = some 3 := by decide +kernel
set_option maxHeartbeats 4000000 in
set_option maxRecDepth 100000 in
theorem c_X9_hasHeld (l : Launch) (D : va_G) (cy : Nat → ClassId) (A : Nat → Prop) (ad : gA) (L : gL)  (σ : gS) (hT : (9, 0) ∈ L) (a1 : Int32) (a2 : Int32) (a3 : Int32) (r0 : Int32) (hf : f_X9_hasHeld ad σ a1 a2 a3 = some r0) : g_Mi l yX9_hasHeld cX9_hasHeld 5 (some .boolean) ({ frames := 1, cells := 0, slots := 0, locals := 21 } : Room) D cy A ad L σ [.ref (ad 9 0), .int a1, .int a2, .int a3] r0 σ := by
  refine g_met (by decide) (Nat.le_of_ble_eq_true rfl) (fun p e s m below meth c C hr hlocks hnm G ls hl => ?_)
  have hl : lv_has ls 5 [(0, .ref (ad 9 0)), (1, .int a1), (2, .int a2), (3, .int a3)] := hl
  unfold f_X9_hasHeld at hf
  refine lv_iload_n C.x C.b dX9_hasHeld_0 rfl (lv_at hl 3 rfl) ?_
  refine lv_if_ge (tgt := 8) C.x C.b dX9_hasHeld_1 (by decide) (fun cb => ?_) (fun cb => ?_)
  · have hf := g_t cb hf
    refine lv_aload_n C.x C.b dX9_hasHeld_8 rfl (lv_at hl 0 rfl) ?_
    refine g_getr C G 9 0 20 60 hT rfl ginX9 (by decide) tw970 dX9_hasHeld_9 (fun hL1 => ?_)
    refine lv_sipush (v := (200 : Int32)) C.x C.b dX9_hasHeld_12 (by decide) ?_
    refine lv_iload_n C.x C.b dX9_hasHeld_15 rfl (lv_at hl 1 rfl) ?_
    refine lv_imul C.x C.b dX9_hasHeld_16 ?_
    refine lv_iload_n C.x C.b dX9_hasHeld_17 rfl (lv_at hl 3 rfl) ?_
    refine lv_iadd C.x C.b dX9_hasHeld_18 ?_
    obtain ⟨hi2, hf⟩ := g_ok hf
    refine g_iald (n := 4800) C G 60 0 hL1 (by decide) rfl hi2 dX9_hasHeld_19 ?_
    refine lv_istore (lv' := [(4, .int (σ 60 0 ((((200 : Int32) * a1) + a3).toNatClampNeg))), (0, .ref (ad 9 0)), (1, .int a1), (2, .int a2), (3, .int a3)]) C.x C.b dX9_hasHeld_20 hl (by decide) rfl (fun ls hl => ?_)
    refine lv_iload C.x C.b dX9_hasHeld_22 (lv_at hl 0 rfl) ?_
    refine lv_if_lt (tgt := 55) C.x C.b dX9_hasHeld_24 (by decide) (fun cb => ?_) (fun cb => ?_)
    · have hf := g_t cb hf
      refine lv_iconst (v := (0 : Int32)) C.x C.b dX9_hasHeld_55 (by decide) ?_
      exact g_ezp C G hr hlocks hf rfl dX9_hasHeld_56
    · have hf := g_f cb hf
      refine lv_aload_n C.x C.b dX9_hasHeld_27 rfl (lv_at hl 1 rfl) ?_
      refine g_getr C G 9 0 19 59 hT rfl ginX9 (by decide) tw969 dX9_hasHeld_28 (fun hL3 => ?_)
      refine lv_iload C.x C.b dX9_hasHeld_31 (lv_at hl 0 rfl) ?_
      obtain ⟨hi4, hf⟩ := g_ok hf
      refine g_zald (n := 4800) C G 59 0 hL3 (by decide) rfl hi4 dX9_hasHeld_33 ?_
      refine lv_if_ne (tgt := 55) C.x C.b dX9_hasHeld_34 (by decide) (fun cb => ?_) (fun cb => ?_)
      · have hf := g_f cb hf
        refine lv_iconst (v := (0 : Int32)) C.x C.b dX9_hasHeld_55 (by decide) ?_
        exact g_ezp C G hr hlocks hf rfl dX9_hasHeld_56
      · have hf := g_t cb hf
        refine lv_iload_n C.x C.b dX9_hasHeld_37 rfl (lv_at hl 3 rfl) ?_
        refine lv_if_lt (tgt := 51) C.x C.b dX9_hasHeld_38 (by decide) (fun cb => ?_) (fun cb => ?_)
        · have hf := g_t cb hf
          refine lv_iconst (v := (1 : Int32)) C.x C.b dX9_hasHeld_51 (by decide) ?_
          refine lv_goto (tgt := 56) C.x C.b dX9_hasHeld_52 (by decide) ?_
          exact g_ezp C G hr hlocks hf rfl dX9_hasHeld_56
        · have hf := g_f cb hf
          refine lv_aload_n C.x C.b dX9_hasHeld_41 rfl (lv_at hl 1 rfl) ?_
          refine lv_iload C.x C.b dX9_hasHeld_42 (lv_at hl 0 rfl) ?_
          obtain ⟨q5, eq5, hf⟩ := g_b hf
          refine g_calli G (g_runV (As := [.int (σ 60 0 ((((200 : Int32) * a1) + a3).toNatClampNeg))]) (rest := []) C G 9 0 (c_X9_officeAt l D cy A ad L σ hT (σ 60 0 ((((200 : Int32) * a1) + a3).toNatClampNeg)) q5 eq5) ⟨tw1173, tw60, tw1170, ⟨tw1172, tw27⟩, hd_X9_officeAt⟩ (by decide) hT rfl ⟨rfl, by decide⟩ hl.1 rfl (Nat.le_of_ble_eq_true rfl) dX9_hasHeld_44 ⟨Nat.le_of_ble_eq_true rfl, Nat.le_of_ble_eq_true rfl⟩) (fun H locs G => ?_)
          refine lv_iload_n C.x C.b dX9_hasHeld_47 rfl (lv_at hl 3 rfl) ?_
          refine lv_icmp_ne (tgt := 55) C.x C.b dX9_hasHeld_48 (by decide) (fun cb => ?_) (fun cb => ?_)
          · have hf := g_f cb hf
            refine lv_iconst (v := (0 : Int32)) C.x C.b dX9_hasHeld_55 (by decide) ?_
            exact g_ezp C G hr hlocks hf rfl dX9_hasHeld_56
          · have hf := g_t cb hf
            refine lv_iconst (v := (1 : Int32)) C.x C.b dX9_hasHeld_51 (by decide) ?_
            refine lv_goto (tgt := 56) C.x C.b dX9_hasHeld_52 (by decide) ?_
            exact g_ezp C G hr hlocks hf rfl dX9_hasHeld_56
  · have hf := g_f cb hf
    refine lv_iconst (v := (-1 : Int32)) C.x C.b dX9_hasHeld_4 (by decide) ?_
    refine lv_goto (tgt := 20) C.x C.b dX9_hasHeld_5 (by decide) ?_
    refine lv_istore (lv' := [(4, .int (-1 : Int32)), (0, .ref (ad 9 0)), (1, .int a1), (2, .int a2), (3, .int a3)]) C.x C.b dX9_hasHeld_20 hl (by decide) rfl (fun ls hl => ?_)
    refine lv_iload C.x C.b dX9_hasHeld_22 (lv_at hl 0 rfl) ?_
    refine lv_if_lt (tgt := 55) C.x C.b dX9_hasHeld_24 (by decide) (fun _ => ?_) (fun cb => absurd cb (by decide))
    refine lv_iconst (v := (0 : Int32)) C.x C.b dX9_hasHeld_55 (by decide) ?_
    exact g_ezp C G hr hlocks hf rfl dX9_hasHeld_56
def f_X9_held_P72 (v4 : Int32) : Option Int32 := (some v4)
def f_X9_held_L39 (ad : gA) (σ : gS) (a1 : Int32) (a2 : Int32) (a3 : Int32) (K39 : Int32 → Option Int32) : Nat → Int32 → Int32 → Option Int32
  | 0, _, _ => none
  | n + 1, v4, v5 => (if a3 ≤ v5 then (K39 v4) else ((f_X9_hasHeld ad σ a1 a2 v5).bind fun q4 => (if q4 = 0 then (f_X9_held_L39 ad σ a1 a2 a3 K39 n (v4 + (0 : Int32)) (v5 + (1 : Int32))) else (f_X9_held_L39 ad σ a1 a2 a3 K39 n (v4 + (1 : Int32)) (v5 + (1 : Int32))))))
def f_X9_held (ad : gA) (σ : gS) (a1 : Int32) (a2 : Int32) (a3 : Int32) : Option Int32 := ((f_X9_isPerson ad σ a1).bind fun q1 => (if q1 = 0 then (some (-1 : Int32)) else ((f_X9_in ad σ a2 (-1 : Int32) ((σ 9 0 1) - (1 : Int32))).bind fun q2 => (if q2 = 0 then (some (-1 : Int32)) else ((f_X9_isYear ad σ a3).bind fun q3 => (if q3 = 0 then (some (-1 : Int32)) else (f_X9_held_L39 ad σ a1 a2 a3 (f_X9_held_P72) g_fuel (0 : Int32) (0 : Int32))))))))
theorem hd_X9_held : yX9_held.cls ≠ "java/lang/invoke/MethodHandle" ∧ yX9_held.cls ≠ "java/lang/invoke/VarHandle" ∧ (parseMethodDescriptor yX9_held.desc).map (fun d => d.parameters.length) = some 3 := by decide +kernel
set_option maxHeartbeats 4000000 in
set_option maxRecDepth 100000 in
theorem c_X9_held (l : Launch) (D : va_G) (cy : Nat → ClassId) (A : Nat → Prop) (ad : gA) (L : gL)  (σ : gS) (hT : (9, 0) ∈ L) (a1 : Int32) (a2 : Int32) (a3 : Int32) (r0 : Int32) (hf : f_X9_held ad σ a1 a2 a3 = some r0) : g_Mi l yX9_held cX9_held 6 (some .int) ({ frames := 2, cells := 0, slots := 0, locals := 45 } : Room) D cy A ad L σ [.ref (ad 9 0), .int a1, .int a2, .int a3] r0 σ := by
  refine g_met (by decide) (Nat.le_of_ble_eq_true rfl) (fun p e s m below meth c C hr hlocks hnm G ls hl => ?_)
  have hl : lv_has ls 6 [(0, .ref (ad 9 0)), (1, .int a1), (2, .int a2), (3, .int a3)] := hl
  have pt72 : ∀ (v4 : Int32) (H : Heap) (locs : List Loc) (ls : Array Slot), g_H D cy A ad L σ s.heap H locs → lv_has ls 6 [(4, .int v4)] → f_X9_held_P72 v4 = some r0 → g_Wi p l e ({ frames := 2, cells := 0, slots := 0, locals := 45 } : Room) s m below meth c H locs 0 0 D cy A ad L [.ref (ad 9 0), .int a1, .int a2, .int a3] r0 σ (F0 m 72 ls []) := by
    intro v4 H locs ls G hl hf
    unfold f_X9_held_P72 at hf
    refine lv_iload C.x C.b dX9_held_72 (lv_at hl 0 rfl) ?_
    exact g_eip C G hr hlocks hf dX9_held_74
  have lp39 : ∀ n39 : Nat, ∀ (v4 : Int32) (v5 : Int32) (H : Heap) (locs : List Loc) (ls : Array Slot), g_H D cy A ad L σ s.heap H locs → lv_has ls 6 [(0, .ref (ad 9 0)), (1, .int a1), (2, .int a2), (3, .int a3), (4, .int v4), (5, .int v5)] → f_X9_held_L39 ad σ a1 a2 a3 (f_X9_held_P72) n39 v4 v5 = some r0 → g_Wi p l e ({ frames := 2, cells := 0, slots := 0, locals := 45 } : Room) s m below meth c H locs 0 0 D cy A ad L [.ref (ad 9 0), .int a1, .int a2, .int a3] r0 σ (F0 m 39 ls []) := by
    intro n39
    induction n39 with
    | zero =>
      intro v4 v5 H locs ls G hl hf
      rw [f_X9_held_L39] at hf
      cases hf
    | succ n39 ih39 =>
      intro v4 v5 H locs ls G hl hf
      rw [f_X9_held_L39] at hf
      refine lv_iload C.x C.b dX9_held_39 (lv_at hl 5 rfl) ?_
      refine lv_iload_n C.x C.b dX9_held_41 rfl (lv_at hl 3 rfl) ?_
      refine lv_icmp_ge (tgt := 72) C.x C.b dX9_held_42 (by decide) (fun cb => ?_) (fun cb => ?_)
      · have hf := g_t cb hf
        exact pt72 v4 _ _ ls G (lv_sub hl [4] rfl) hf
      · have hf := g_f cb hf
        refine lv_iload C.x C.b dX9_held_45 (lv_at hl 4 rfl) ?_
        refine lv_aload_n C.x C.b dX9_held_47 rfl (lv_at hl 0 rfl) ?_
        refine lv_iload_n C.x C.b dX9_held_48 rfl (lv_at hl 1 rfl) ?_
        refine lv_iload_n C.x C.b dX9_held_49 rfl (lv_at hl 2 rfl) ?_
        refine lv_iload C.x C.b dX9_held_50 (lv_at hl 5 rfl) ?_
        obtain ⟨q4, eq4, hf⟩ := g_b hf
        refine g_calli G (g_runV (As := [.int a1, .int a2, .int v5]) (rest := [.int v4]) C G 9 0 (c_X9_hasHeld l D cy A ad L σ hT a1 a2 v5 q4 eq4) ⟨tw1181, tw60, tw1178, ⟨tw1180, tw28⟩, hd_X9_hasHeld⟩ (by decide) hT rfl ⟨rfl, by decide⟩ hl.1 rfl (Nat.le_of_ble_eq_true rfl) dX9_held_52 ⟨Nat.le_of_ble_eq_true rfl, Nat.le_of_ble_eq_true rfl⟩) (fun H locs G => ?_)
        refine lv_if_eq (tgt := 62) C.x C.b dX9_held_55 (by decide) (fun cb => ?_) (fun cb => ?_)
        · have hf := g_t cb hf
          refine lv_iconst (v := (0 : Int32)) C.x C.b dX9_held_62 (by decide) ?_
          refine lv_iadd C.x C.b dX9_held_63 ?_
          refine lv_istore (lv' := [(4, .int (v4 + (0 : Int32))), (0, .ref (ad 9 0)), (1, .int a1), (2, .int a2), (3, .int a3), (5, .int v5)]) C.x C.b dX9_held_64 hl (by decide) rfl (fun ls hl => ?_)
          refine lv_iinc (v := (v5 + (1 : Int32))) (lv' := [(5, .int (v5 + (1 : Int32))), (4, .int (v4 + (0 : Int32))), (0, .ref (ad 9 0)), (1, .int a1), (2, .int a2), (3, .int a3)]) C.x C.b dX9_held_66 hl (k := 5) rfl rfl (by decide) rfl (fun ls hl => ?_)
          refine lv_goto (tgt := 39) C.x C.b dX9_held_69 (by decide) ?_
          exact ih39 (v4 + (0 : Int32)) (v5 + (1 : Int32)) _ _ ls G (lv_sub hl [2, 3, 4, 5, 1, 0] rfl) hf
        · have hf := g_f cb hf
          refine lv_iconst (v := (1 : Int32)) C.x C.b dX9_held_58 (by decide) ?_
          refine lv_goto (tgt := 63) C.x C.b dX9_held_59 (by decide) ?_
          refine lv_iadd C.x C.b dX9_held_63 ?_
          refine lv_istore (lv' := [(4, .int (v4 + (1 : Int32))), (0, .ref (ad 9 0)), (1, .int a1), (2, .int a2), (3, .int a3), (5, .int v5)]) C.x C.b dX9_held_64 hl (by decide) rfl (fun ls hl => ?_)
          refine lv_iinc (v := (v5 + (1 : Int32))) (lv' := [(5, .int (v5 + (1 : Int32))), (4, .int (v4 + (1 : Int32))), (0, .ref (ad 9 0)), (1, .int a1), (2, .int a2), (3, .int a3)]) C.x C.b dX9_held_66 hl (k := 5) rfl rfl (by decide) rfl (fun ls hl => ?_)
          refine lv_goto (tgt := 39) C.x C.b dX9_held_69 (by decide) ?_
          exact ih39 (v4 + (1 : Int32)) (v5 + (1 : Int32)) _ _ ls G (lv_sub hl [2, 3, 4, 5, 1, 0] rfl) hf
  unfold f_X9_held at hf
  refine lv_aload_n C.x C.b dX9_held_0 rfl (lv_at hl 0 rfl) ?_
  refine lv_iload_n C.x C.b dX9_held_1 rfl (lv_at hl 1 rfl) ?_
  obtain ⟨q1, eq1, hf⟩ := g_b hf
  refine g_calli G (g_runV (As := [.int a1]) (rest := []) C G 9 0 (c_X9_isPerson l D cy A ad L σ hT a1 q1 eq1) ⟨tw1109, tw60, tw1106, ⟨tw1108, tw20⟩, hd_X9_isPerson⟩ (by decide) hT rfl ⟨rfl, by decide⟩ hl.1 rfl (Nat.le_of_ble_eq_true rfl) dX9_held_2 ⟨Nat.le_of_ble_eq_true rfl, Nat.le_of_ble_eq_true rfl⟩) (fun H locs G => ?_)
  refine lv_if_eq (tgt := 31) C.x C.b dX9_held_5 (by decide) (fun cb => ?_) (fun cb => ?_)
  · have hf := g_t cb hf
    refine lv_iconst (v := (-1 : Int32)) C.x C.b dX9_held_31 (by decide) ?_
    exact g_eip C G hr hlocks hf dX9_held_32
  · have hf := g_f cb hf
    refine lv_aload_n C.x C.b dX9_held_8 rfl (lv_at hl 0 rfl) ?_
    refine lv_iload_n C.x C.b dX9_held_9 rfl (lv_at hl 2 rfl) ?_
    refine lv_iconst (v := (-1 : Int32)) C.x C.b dX9_held_10 (by decide) ?_
    refine lv_aload_n C.x C.b dX9_held_11 rfl (lv_at hl 0 rfl) ?_
    refine g_geti C G 9 0 1 hT rfl ginX9 (by decide) tw951 dX9_held_12 ?_
    refine lv_iconst (v := (1 : Int32)) C.x C.b dX9_held_15 (by decide) ?_
    refine lv_isub C.x C.b dX9_held_16 ?_
    obtain ⟨q2, eq2, hf⟩ := g_b hf
    refine g_calli G (g_runV (As := [.int a2, .int (-1 : Int32), .int ((σ 9 0 1) - (1 : Int32))]) (rest := []) C G 9 0 (c_X9_in l D cy A ad L σ hT a2 (-1 : Int32) ((σ 9 0 1) - (1 : Int32)) q2 eq2) ⟨tw1093, tw60, tw1090, ⟨tw1092, tw18⟩, hd_X9_in⟩ (by decide) hT rfl ⟨rfl, by decide⟩ hl.1 rfl (Nat.le_of_ble_eq_true rfl) dX9_held_17 ⟨Nat.le_of_ble_eq_true rfl, Nat.le_of_ble_eq_true rfl⟩) (fun H locs G => ?_)
    refine lv_if_eq (tgt := 31) C.x C.b dX9_held_20 (by decide) (fun cb => ?_) (fun cb => ?_)
    · have hf := g_t cb hf
      refine lv_iconst (v := (-1 : Int32)) C.x C.b dX9_held_31 (by decide) ?_
      exact g_eip C G hr hlocks hf dX9_held_32
    · have hf := g_f cb hf
      refine lv_aload_n C.x C.b dX9_held_23 rfl (lv_at hl 0 rfl) ?_
      refine lv_iload_n C.x C.b dX9_held_24 rfl (lv_at hl 3 rfl) ?_
      obtain ⟨q3, eq3, hf⟩ := g_b hf
      refine g_calli G (g_runV (As := [.int a3]) (rest := []) C G 9 0 (c_X9_isYear l D cy A ad L σ hT a3 q3 eq3) ⟨tw1117, tw60, tw1114, ⟨tw1116, tw21⟩, hd_X9_isYear⟩ (by decide) hT rfl ⟨rfl, by decide⟩ hl.1 rfl (Nat.le_of_ble_eq_true rfl) dX9_held_25 ⟨Nat.le_of_ble_eq_true rfl, Nat.le_of_ble_eq_true rfl⟩) (fun H locs G => ?_)
      refine lv_if_ne (tgt := 33) C.x C.b dX9_held_28 (by decide) (fun cb => ?_) (fun cb => ?_)
      · have hf := g_f cb hf
        refine lv_iconst (v := (0 : Int32)) C.x C.b dX9_held_33 (by decide) ?_
        refine lv_istore (lv' := [(4, .int (0 : Int32)), (0, .ref (ad 9 0)), (1, .int a1), (2, .int a2), (3, .int a3)]) C.x C.b dX9_held_34 hl (by decide) rfl (fun ls hl => ?_)
        refine lv_iconst (v := (0 : Int32)) C.x C.b dX9_held_36 (by decide) ?_
        refine lv_istore (lv' := [(5, .int (0 : Int32)), (4, .int (0 : Int32)), (0, .ref (ad 9 0)), (1, .int a1), (2, .int a2), (3, .int a3)]) C.x C.b dX9_held_37 hl (by decide) rfl (fun ls hl => ?_)
        exact lp39 g_fuel (0 : Int32) (0 : Int32) _ _ ls G (lv_sub hl [2, 3, 4, 5, 1, 0] rfl) hf
      · have hf := g_t cb hf
        refine lv_iconst (v := (-1 : Int32)) C.x C.b dX9_held_31 (by decide) ?_
        exact g_eip C G hr hlocks hf dX9_held_32
