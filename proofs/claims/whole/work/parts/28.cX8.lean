def f_X8_death (ad : gA) (σ : gS) (a1 : Int32) (a2 : Int32) : Option (Int32 × gS) := ((f_X6_hasPerson ad σ a1).bind fun q2 => (if q2 = 0 then (some ((-1 : Int32), σ)) else (if a2 < 0 then (some ((-1 : Int32), σ)) else (if a2 ≤ (200 : Int32) then (if g_ix a1 24 then (if σ 26 0 a1.toNatClampNeg < 0 then none else (g_let (g_up σ 5 a1.toNatClampNeg 5 a2) fun σ8 => (some ((σ 5 a1.toNatClampNeg 5), σ8)))) else none) else (some ((-1 : Int32), σ))))))
theorem hd_X8_death : yX8_death.cls ≠ "java/lang/invoke/MethodHandle" ∧ yX8_death.cls ≠ "java/lang/invoke/VarHandle" ∧ (parseMethodDescriptor yX8_death.desc).map (fun d => d.parameters.length) = some 2 := by decide +kernel
set_option maxHeartbeats 4000000 in
set_option maxRecDepth 100000 in
theorem c_X8_death (l : Launch) (D : va_G) (cy : Nat → ClassId) (A : Nat → Prop) (ad : gA) (L : gL)  (σ : gS) (hT : (8, 0) ∈ L) (a1 : Int32) (a2 : Int32) (r0 : Int32) (σ0 : gS) (hf : f_X8_death ad σ a1 a2 = some (r0, σ0)) : g_Mi l yX8_death cX8_death 5 (some .int) ({ frames := 1, cells := 0, slots := 0, locals := 21 } : Room) D cy A ad L σ [.ref (ad 8 0), .int a1, .int a2] r0 σ0 := by
  refine g_met (by decide) (Nat.le_of_ble_eq_true rfl) (fun p e s m below meth c C hr hlocks hnm G ls hl => ?_)
  have hl : lv_has ls 5 [(0, .ref (ad 8 0)), (1, .int a1), (2, .int a2)] := hl
  unfold f_X8_death at hf
  refine lv_aload_n C.x C.b dX8_death_0 rfl (lv_at hl 0 rfl) ?_
  refine g_getr C G 8 0 0 6 hT rfl ginX8 (by decide) tw284 dX8_death_1 (fun hL1 => ?_)
  refine lv_iload_n C.x C.b dX8_death_4 rfl (lv_at hl 1 rfl) ?_
  obtain ⟨q2, eq2, hf⟩ := g_b hf
  refine g_calli G (g_runV (As := [.int a1]) (rest := []) C G 6 0 (c_X6_hasPerson l D cy A ad L σ hL1 a1 q2 eq2) ⟨tw343, tw55, tw340, ⟨tw341, tw342⟩, hd_X6_hasPerson⟩ (by decide) hL1 rfl ⟨rfl, by decide⟩ hl.1 rfl (Nat.le_of_ble_eq_true rfl) dX8_death_5 ⟨Nat.le_of_ble_eq_true rfl, Nat.le_of_ble_eq_true rfl⟩) (fun H locs G => ?_)
  refine lv_if_eq (tgt := 22) C.x C.b dX8_death_8 (by decide) (fun cb => ?_) (fun cb => ?_)
  · have hf := g_t cb hf
    refine lv_iconst (v := (-1 : Int32)) C.x C.b dX8_death_22 (by decide) ?_
    exact g_eii C G hr hlocks hf dX8_death_23
  · have hf := g_f cb hf
    refine lv_iload_n C.x C.b dX8_death_11 rfl (lv_at hl 2 rfl) ?_
    refine lv_if_lt (tgt := 22) C.x C.b dX8_death_12 (by decide) (fun cb => ?_) (fun cb => ?_)
    · have hf := g_t cb hf
      refine lv_iconst (v := (-1 : Int32)) C.x C.b dX8_death_22 (by decide) ?_
      exact g_eii C G hr hlocks hf dX8_death_23
    · have hf := g_f cb hf
      refine lv_iload_n C.x C.b dX8_death_15 rfl (lv_at hl 2 rfl) ?_
      refine lv_sipush (v := (200 : Int32)) C.x C.b dX8_death_16 (by decide) ?_
      refine lv_icmp_le (tgt := 24) C.x C.b dX8_death_19 (by decide) (fun cb => ?_) (fun cb => ?_)
      · have hf := g_t cb hf
        refine lv_aload_n C.x C.b dX8_death_24 rfl (lv_at hl 0 rfl) ?_
        refine g_getr C G 8 0 0 6 hT rfl ginX8 (by decide) tw284 dX8_death_25 (fun hL3 => ?_)
        refine g_getr C G 6 0 1 26 hL3 rfl ginX6 (by decide) tw119 dX8_death_28 (fun hL4 => ?_)
        refine lv_iload_n C.x C.b dX8_death_31 rfl (lv_at hl 1 rfl) ?_
        obtain ⟨hi5, hf⟩ := g_ok hf
        obtain ⟨hq6, hf⟩ := g_okn hf
        refine g_aldq (n := 24) C G 26 0 5 hL4 (by decide) rfl rfl hi5 hq6 dX8_death_32 (fun hL7 => ?_)
        refine lv_astore_n (lv' := [(3, .ref (ad 5 a1.toNatClampNeg)), (0, .ref (ad 8 0)), (1, .int a1), (2, .int a2)]) C.x C.b dX8_death_33 rfl hl (by decide) rfl (fun ls hl => ?_)
        refine lv_aload_n C.x C.b dX8_death_34 rfl (lv_at hl 0 rfl) ?_
        refine g_geti C G 5 a1.toNatClampNeg 5 hL7 rfl ginX5 (by decide) tw369 dX8_death_35 ?_
        refine lv_istore (lv' := [(4, .int (σ 5 a1.toNatClampNeg 5)), (3, .ref (ad 5 a1.toNatClampNeg)), (0, .ref (ad 8 0)), (1, .int a1), (2, .int a2)]) C.x C.b dX8_death_38 hl (by decide) rfl (fun ls hl => ?_)
        refine lv_aload_n C.x C.b dX8_death_40 rfl (lv_at hl 1 rfl) ?_
        refine lv_iload_n C.x C.b dX8_death_41 rfl (lv_at hl 4 rfl) ?_
        refine g_puti C G 5 a1.toNatClampNeg 5 hL7 (v := a2) rfl ginX5 tyX5_ok nmX5 (by decide) ⟨rfl, rfl⟩ tw369 dX8_death_42 (fun H locs G => ?_)
        obtain ⟨σ8, eσ8, hf⟩ := g_lt hf
        rw [← eσ8] at G
        refine lv_iload C.x C.b dX8_death_45 (lv_at hl 0 rfl) ?_
        exact g_eii C G hr hlocks hf dX8_death_47
      · have hf := g_f cb hf
        refine lv_iconst (v := (-1 : Int32)) C.x C.b dX8_death_22 (by decide) ?_
        exact g_eii C G hr hlocks hf dX8_death_23
def f_X8_exile (ad : gA) (σ : gS) (a1 : Int32) (a2 : Int32) (a3 : Int32) : Option (Int32 × gS) := ((f_X6_hasPerson ad σ a1).bind fun q2 => (if q2 = 0 then (some ((-1 : Int32), σ)) else ((f_X8_isYear ad σ a2).bind fun q3 => (if q3 = 0 then (some ((-1 : Int32), σ)) else ((f_X8_isYear ad σ a3).bind fun q4 => (if q4 = 0 then (some ((-1 : Int32), σ)) else (if g_ix a1 24 then (if σ 26 0 a1.toNatClampNeg < 0 then none else ((f_X5_hasExile ad σ a1.toNatClampNeg).bind fun q10 => (if q10 = 0 then ((f_X5_setExile ad σ a1.toNatClampNeg a2 a3).bind fun σ11 => (some ((0 : Int32), σ11))) else ((f_X5_setExile ad σ a1.toNatClampNeg a2 a3).bind fun σ12 => (some ((1 : Int32), σ12)))))) else none)))))))
theorem hd_X8_exile : yX8_exile.cls ≠ "java/lang/invoke/MethodHandle" ∧ yX8_exile.cls ≠ "java/lang/invoke/VarHandle" ∧ (parseMethodDescriptor yX8_exile.desc).map (fun d => d.parameters.length) = some 3 := by decide +kernel
set_option maxHeartbeats 4000000 in
set_option maxRecDepth 100000 in
theorem c_X8_exile (l : Launch) (D : va_G) (cy : Nat → ClassId) (A : Nat → Prop) (ad : gA) (L : gL)  (σ : gS) (hT : (8, 0) ∈ L) (a1 : Int32) (a2 : Int32) (a3 : Int32) (r0 : Int32) (σ0 : gS) (hf : f_X8_exile ad σ a1 a2 a3 = some (r0, σ0)) : g_Mi l yX8_exile cX8_exile 6 (some .int) ({ frames := 1, cells := 0, slots := 0, locals := 23 } : Room) D cy A ad L σ [.ref (ad 8 0), .int a1, .int a2, .int a3] r0 σ0 := by
  refine g_met (by decide) (Nat.le_of_ble_eq_true rfl) (fun p e s m below meth c C hr hlocks hnm G ls hl => ?_)
  have hl : lv_has ls 6 [(0, .ref (ad 8 0)), (1, .int a1), (2, .int a2), (3, .int a3)] := hl
  unfold f_X8_exile at hf
  refine lv_aload_n C.x C.b dX8_exile_0 rfl (lv_at hl 0 rfl) ?_
  refine g_getr C G 8 0 0 6 hT rfl ginX8 (by decide) tw284 dX8_exile_1 (fun hL1 => ?_)
  refine lv_iload_n C.x C.b dX8_exile_4 rfl (lv_at hl 1 rfl) ?_
  obtain ⟨q2, eq2, hf⟩ := g_b hf
  refine g_calli G (g_runV (As := [.int a1]) (rest := []) C G 6 0 (c_X6_hasPerson l D cy A ad L σ hL1 a1 q2 eq2) ⟨tw343, tw55, tw340, ⟨tw341, tw342⟩, hd_X6_hasPerson⟩ (by decide) hL1 rfl ⟨rfl, by decide⟩ hl.1 rfl (Nat.le_of_ble_eq_true rfl) dX8_exile_5 ⟨Nat.le_of_ble_eq_true rfl, Nat.le_of_ble_eq_true rfl⟩) (fun H locs G => ?_)
  refine lv_if_eq (tgt := 25) C.x C.b dX8_exile_8 (by decide) (fun cb => ?_) (fun cb => ?_)
  · have hf := g_t cb hf
    refine lv_iconst (v := (-1 : Int32)) C.x C.b dX8_exile_25 (by decide) ?_
    exact g_eii C G hr hlocks hf dX8_exile_26
  · have hf := g_f cb hf
    refine lv_iload_n C.x C.b dX8_exile_11 rfl (lv_at hl 2 rfl) ?_
    obtain ⟨q3, eq3, hf⟩ := g_b hf
    refine g_calli G (g_runS (As := [.int a2]) (rest := []) C G (c_X8_isYear l D cy A ad L σ a2 q3 eq3) ⟨tw419, tw54, tw417, tw418, hd_X8_isYear⟩ (by decide) hl.1 rfl (Nat.le_of_ble_eq_true rfl) dX8_exile_12 ⟨Nat.le_of_ble_eq_true rfl, Nat.le_of_ble_eq_true rfl⟩) (fun H locs G => ?_)
    refine lv_if_eq (tgt := 25) C.x C.b dX8_exile_15 (by decide) (fun cb => ?_) (fun cb => ?_)
    · have hf := g_t cb hf
      refine lv_iconst (v := (-1 : Int32)) C.x C.b dX8_exile_25 (by decide) ?_
      exact g_eii C G hr hlocks hf dX8_exile_26
    · have hf := g_f cb hf
      refine lv_iload_n C.x C.b dX8_exile_18 rfl (lv_at hl 3 rfl) ?_
      obtain ⟨q4, eq4, hf⟩ := g_b hf
      refine g_calli G (g_runS (As := [.int a3]) (rest := []) C G (c_X8_isYear l D cy A ad L σ a3 q4 eq4) ⟨tw419, tw54, tw417, tw418, hd_X8_isYear⟩ (by decide) hl.1 rfl (Nat.le_of_ble_eq_true rfl) dX8_exile_19 ⟨Nat.le_of_ble_eq_true rfl, Nat.le_of_ble_eq_true rfl⟩) (fun H locs G => ?_)
      refine lv_if_ne (tgt := 27) C.x C.b dX8_exile_22 (by decide) (fun cb => ?_) (fun cb => ?_)
      · have hf := g_f cb hf
        refine lv_aload_n C.x C.b dX8_exile_27 rfl (lv_at hl 0 rfl) ?_
        refine g_getr C G 8 0 0 6 hT rfl ginX8 (by decide) tw284 dX8_exile_28 (fun hL5 => ?_)
        refine g_getr C G 6 0 1 26 hL5 rfl ginX6 (by decide) tw119 dX8_exile_31 (fun hL6 => ?_)
        refine lv_iload_n C.x C.b dX8_exile_34 rfl (lv_at hl 1 rfl) ?_
        obtain ⟨hi7, hf⟩ := g_ok hf
        obtain ⟨hq8, hf⟩ := g_okn hf
        refine g_aldq (n := 24) C G 26 0 5 hL6 (by decide) rfl rfl hi7 hq8 dX8_exile_35 (fun hL9 => ?_)
        refine lv_astore (lv' := [(4, .ref (ad 5 a1.toNatClampNeg)), (0, .ref (ad 8 0)), (1, .int a1), (2, .int a2), (3, .int a3)]) C.x C.b dX8_exile_36 hl (by decide) rfl (fun ls hl => ?_)
        refine lv_aload C.x C.b dX8_exile_38 (lv_at hl 0 rfl) ?_
        obtain ⟨q10, eq10, hf⟩ := g_b hf
        refine g_calli G (g_runV (As := []) (rest := []) C G 5 a1.toNatClampNeg (c_X5_hasExile l D cy A ad L σ a1.toNatClampNeg hL9 q10 eq10) ⟨tw423, tw63, tw420, ⟨tw421, tw422⟩, hd_X5_hasExile⟩ (by decide) hL9 rfl ⟨rfl, by decide⟩ hl.1 rfl (Nat.le_of_ble_eq_true rfl) dX8_exile_40 ⟨Nat.le_of_ble_eq_true rfl, Nat.le_of_ble_eq_true rfl⟩) (fun H locs G => ?_)
        refine lv_if_eq (tgt := 50) C.x C.b dX8_exile_43 (by decide) (fun cb => ?_) (fun cb => ?_)
        · have hf := g_t cb hf
          refine lv_iconst (v := (0 : Int32)) C.x C.b dX8_exile_50 (by decide) ?_
          refine lv_istore (lv' := [(5, .int (0 : Int32)), (4, .ref (ad 5 a1.toNatClampNeg)), (0, .ref (ad 8 0)), (1, .int a1), (2, .int a2), (3, .int a3)]) C.x C.b dX8_exile_51 hl (by decide) rfl (fun ls hl => ?_)
          refine lv_aload C.x C.b dX8_exile_53 (lv_at hl 1 rfl) ?_
          refine lv_iload_n C.x C.b dX8_exile_55 rfl (lv_at hl 4 rfl) ?_
          refine lv_iload_n C.x C.b dX8_exile_56 rfl (lv_at hl 5 rfl) ?_
          obtain ⟨σ11, eσ11, hf⟩ := g_b hf
          refine g_callv G (g_runV (As := [.int a2, .int a3]) (rest := []) C G 5 a1.toNatClampNeg (c_X5_setExile l D cy A ad L σ a1.toNatClampNeg hL9 a2 a3 σ11 eσ11) ⟨tw427, tw63, tw424, ⟨tw425, tw426⟩, hd_X5_setExile⟩ (by decide) hL9 rfl ⟨rfl, by decide⟩ hl.1 rfl (Nat.le_of_ble_eq_true rfl) dX8_exile_57 ⟨Nat.le_of_ble_eq_true rfl, Nat.le_of_ble_eq_true rfl⟩) (fun H locs G => ?_)
          refine lv_iload C.x C.b dX8_exile_60 (lv_at hl 0 rfl) ?_
          exact g_eii C G hr hlocks hf dX8_exile_62
        · have hf := g_f cb hf
          refine lv_iconst (v := (1 : Int32)) C.x C.b dX8_exile_46 (by decide) ?_
          refine lv_goto (tgt := 51) C.x C.b dX8_exile_47 (by decide) ?_
          refine lv_istore (lv' := [(5, .int (1 : Int32)), (4, .ref (ad 5 a1.toNatClampNeg)), (0, .ref (ad 8 0)), (1, .int a1), (2, .int a2), (3, .int a3)]) C.x C.b dX8_exile_51 hl (by decide) rfl (fun ls hl => ?_)
          refine lv_aload C.x C.b dX8_exile_53 (lv_at hl 1 rfl) ?_
          refine lv_iload_n C.x C.b dX8_exile_55 rfl (lv_at hl 4 rfl) ?_
          refine lv_iload_n C.x C.b dX8_exile_56 rfl (lv_at hl 5 rfl) ?_
          obtain ⟨σ12, eσ12, hf⟩ := g_b hf
          refine g_callv G (g_runV (As := [.int a2, .int a3]) (rest := []) C G 5 a1.toNatClampNeg (c_X5_setExile l D cy A ad L σ a1.toNatClampNeg hL9 a2 a3 σ12 eσ12) ⟨tw427, tw63, tw424, ⟨tw425, tw426⟩, hd_X5_setExile⟩ (by decide) hL9 rfl ⟨rfl, by decide⟩ hl.1 rfl (Nat.le_of_ble_eq_true rfl) dX8_exile_57 ⟨Nat.le_of_ble_eq_true rfl, Nat.le_of_ble_eq_true rfl⟩) (fun H locs G => ?_)
          refine lv_iload C.x C.b dX8_exile_60 (lv_at hl 0 rfl) ?_
          exact g_eii C G hr hlocks hf dX8_exile_62
      · have hf := g_t cb hf
        refine lv_iconst (v := (-1 : Int32)) C.x C.b dX8_exile_25 (by decide) ?_
        exact g_eii C G hr hlocks hf dX8_exile_26
def f_X8_birth (ad : gA) (σ : gS) (a1 : Int32) (a2 : Int32) (a3 : Int32) : Option (Int32 × gS) := ((f_X6_hasPerson ad σ a1).bind fun q2 => (if q2 = 0 then (some ((-1 : Int32), σ)) else ((f_X8_isBirth ad σ a2 a3).bind fun q3 => (if q3 = 0 then (some ((-1 : Int32), σ)) else (if g_ix a1 24 then (if σ 26 0 a1.toNatClampNeg < 0 then none else (if (σ 5 a1.toNatClampNeg 3) = a2 then (if (σ 5 a1.toNatClampNeg 4) = a3 then (g_let (g_up σ 5 a1.toNatClampNeg 3 a2) fun σ13 => (g_let (g_up σ13 5 a1.toNatClampNeg 4 a3) fun σ14 => (some ((0 : Int32), σ14)))) else (g_let (g_up σ 5 a1.toNatClampNeg 3 a2) fun σ11 => (g_let (g_up σ11 5 a1.toNatClampNeg 4 a3) fun σ12 => (some ((1 : Int32), σ12))))) else (g_let (g_up σ 5 a1.toNatClampNeg 3 a2) fun σ9 => (g_let (g_up σ9 5 a1.toNatClampNeg 4 a3) fun σ10 => (some ((1 : Int32), σ10)))))) else none)))))
theorem hd_X8_birth : yX8_birth.cls ≠ "java/lang/invoke/MethodHandle" ∧ yX8_birth.cls ≠ "java/lang/invoke/VarHandle" ∧ (parseMethodDescriptor yX8_birth.desc).map (fun d => d.parameters.length) = some 3 := by decide +kernel
set_option maxHeartbeats 4000000 in
set_option maxRecDepth 100000 in
theorem c_X8_birth (l : Launch) (D : va_G) (cy : Nat → ClassId) (A : Nat → Prop) (ad : gA) (L : gL)  (σ : gS) (hT : (8, 0) ∈ L) (a1 : Int32) (a2 : Int32) (a3 : Int32) (r0 : Int32) (σ0 : gS) (hf : f_X8_birth ad σ a1 a2 a3 = some (r0, σ0)) : g_Mi l yX8_birth cX8_birth 6 (some .int) ({ frames := 1, cells := 0, slots := 0, locals := 21 } : Room) D cy A ad L σ [.ref (ad 8 0), .int a1, .int a2, .int a3] r0 σ0 := by
  refine g_met (by decide) (Nat.le_of_ble_eq_true rfl) (fun p e s m below meth c C hr hlocks hnm G ls hl => ?_)
  have hl : lv_has ls 6 [(0, .ref (ad 8 0)), (1, .int a1), (2, .int a2), (3, .int a3)] := hl
  unfold f_X8_birth at hf
  refine lv_aload_n C.x C.b dX8_birth_0 rfl (lv_at hl 0 rfl) ?_
  refine g_getr C G 8 0 0 6 hT rfl ginX8 (by decide) tw284 dX8_birth_1 (fun hL1 => ?_)
  refine lv_iload_n C.x C.b dX8_birth_4 rfl (lv_at hl 1 rfl) ?_
  obtain ⟨q2, eq2, hf⟩ := g_b hf
  refine g_calli G (g_runV (As := [.int a1]) (rest := []) C G 6 0 (c_X6_hasPerson l D cy A ad L σ hL1 a1 q2 eq2) ⟨tw343, tw55, tw340, ⟨tw341, tw342⟩, hd_X6_hasPerson⟩ (by decide) hL1 rfl ⟨rfl, by decide⟩ hl.1 rfl (Nat.le_of_ble_eq_true rfl) dX8_birth_5 ⟨Nat.le_of_ble_eq_true rfl, Nat.le_of_ble_eq_true rfl⟩) (fun H locs G => ?_)
  refine lv_if_eq (tgt := 19) C.x C.b dX8_birth_8 (by decide) (fun cb => ?_) (fun cb => ?_)
  · have hf := g_t cb hf
    refine lv_iconst (v := (-1 : Int32)) C.x C.b dX8_birth_19 (by decide) ?_
    exact g_eii C G hr hlocks hf dX8_birth_20
  · have hf := g_f cb hf
    refine lv_iload_n C.x C.b dX8_birth_11 rfl (lv_at hl 2 rfl) ?_
    refine lv_iload_n C.x C.b dX8_birth_12 rfl (lv_at hl 3 rfl) ?_
    obtain ⟨q3, eq3, hf⟩ := g_b hf
    refine g_calli G (g_runS (As := [.int a2, .int a3]) (rest := []) C G (c_X8_isBirth l D cy A ad L σ a2 a3 q3 eq3) ⟨tw339, tw54, tw337, tw338, hd_X8_isBirth⟩ (by decide) hl.1 rfl (Nat.le_of_ble_eq_true rfl) dX8_birth_13 ⟨Nat.le_of_ble_eq_true rfl, Nat.le_of_ble_eq_true rfl⟩) (fun H locs G => ?_)
    refine lv_if_ne (tgt := 21) C.x C.b dX8_birth_16 (by decide) (fun cb => ?_) (fun cb => ?_)
    · have hf := g_f cb hf
      refine lv_aload_n C.x C.b dX8_birth_21 rfl (lv_at hl 0 rfl) ?_
      refine g_getr C G 8 0 0 6 hT rfl ginX8 (by decide) tw284 dX8_birth_22 (fun hL4 => ?_)
      refine g_getr C G 6 0 1 26 hL4 rfl ginX6 (by decide) tw119 dX8_birth_25 (fun hL5 => ?_)
      refine lv_iload_n C.x C.b dX8_birth_28 rfl (lv_at hl 1 rfl) ?_
      obtain ⟨hi6, hf⟩ := g_ok hf
      obtain ⟨hq7, hf⟩ := g_okn hf
      refine g_aldq (n := 24) C G 26 0 5 hL5 (by decide) rfl rfl hi6 hq7 dX8_birth_29 (fun hL8 => ?_)
      refine lv_astore (lv' := [(4, .ref (ad 5 a1.toNatClampNeg)), (0, .ref (ad 8 0)), (1, .int a1), (2, .int a2), (3, .int a3)]) C.x C.b dX8_birth_30 hl (by decide) rfl (fun ls hl => ?_)
      refine lv_aload C.x C.b dX8_birth_32 (lv_at hl 0 rfl) ?_
      refine g_geti C G 5 a1.toNatClampNeg 3 hL8 rfl ginX5 (by decide) tw361 dX8_birth_34 ?_
      refine lv_iload_n C.x C.b dX8_birth_37 rfl (lv_at hl 3 rfl) ?_
      refine lv_icmp_ne (tgt := 54) C.x C.b dX8_birth_38 (by decide) (fun cb => ?_) (fun cb => ?_)
      · have hf := g_f cb hf
        refine lv_iconst (v := (0 : Int32)) C.x C.b dX8_birth_54 (by decide) ?_
        refine lv_istore (lv' := [(5, .int (0 : Int32)), (4, .ref (ad 5 a1.toNatClampNeg)), (0, .ref (ad 8 0)), (1, .int a1), (2, .int a2), (3, .int a3)]) C.x C.b dX8_birth_55 hl (by decide) rfl (fun ls hl => ?_)
        refine lv_aload C.x C.b dX8_birth_57 (lv_at hl 1 rfl) ?_
        refine lv_iload_n C.x C.b dX8_birth_59 rfl (lv_at hl 4 rfl) ?_
        refine g_puti C G 5 a1.toNatClampNeg 3 hL8 (v := a2) rfl ginX5 tyX5_ok nmX5 (by decide) ⟨rfl, rfl⟩ tw361 dX8_birth_60 (fun H locs G => ?_)
        obtain ⟨σ9, eσ9, hf⟩ := g_lt hf
        rw [← eσ9] at G
        refine lv_aload C.x C.b dX8_birth_63 (lv_at hl 1 rfl) ?_
        refine lv_iload_n C.x C.b dX8_birth_65 rfl (lv_at hl 5 rfl) ?_
        refine g_puti C G 5 a1.toNatClampNeg 4 hL8 (v := a3) rfl ginX5 tyX5_ok nmX5 (by decide) ⟨rfl, rfl⟩ tw366 dX8_birth_66 (fun H locs G => ?_)
        obtain ⟨σ10, eσ10, hf⟩ := g_lt hf
        rw [← eσ10] at G
        refine lv_iload C.x C.b dX8_birth_69 (lv_at hl 0 rfl) ?_
        refine lv_if_eq (tgt := 78) C.x C.b dX8_birth_71 (by decide) (fun _ => ?_) (fun cb => absurd cb (by decide))
        refine lv_iconst (v := (1 : Int32)) C.x C.b dX8_birth_78 (by decide) ?_
        exact g_eii C G hr hlocks hf dX8_birth_79
      · have hf := g_t cb hf
        refine lv_aload C.x C.b dX8_birth_41 (lv_at hl 0 rfl) ?_
        refine g_geti C G 5 a1.toNatClampNeg 4 hL8 rfl ginX5 (by decide) tw366 dX8_birth_43 ?_
        refine lv_iload_n C.x C.b dX8_birth_46 rfl (lv_at hl 4 rfl) ?_
        refine lv_icmp_ne (tgt := 54) C.x C.b dX8_birth_47 (by decide) (fun cb => ?_) (fun cb => ?_)
        · have hf := g_f cb hf
          refine lv_iconst (v := (0 : Int32)) C.x C.b dX8_birth_54 (by decide) ?_
          refine lv_istore (lv' := [(5, .int (0 : Int32)), (4, .ref (ad 5 a1.toNatClampNeg)), (0, .ref (ad 8 0)), (1, .int a1), (2, .int a2), (3, .int a3)]) C.x C.b dX8_birth_55 hl (by decide) rfl (fun ls hl => ?_)
          refine lv_aload C.x C.b dX8_birth_57 (lv_at hl 1 rfl) ?_
          refine lv_iload_n C.x C.b dX8_birth_59 rfl (lv_at hl 4 rfl) ?_
          refine g_puti C G 5 a1.toNatClampNeg 3 hL8 (v := a2) rfl ginX5 tyX5_ok nmX5 (by decide) ⟨rfl, rfl⟩ tw361 dX8_birth_60 (fun H locs G => ?_)
          obtain ⟨σ11, eσ11, hf⟩ := g_lt hf
          rw [← eσ11] at G
          refine lv_aload C.x C.b dX8_birth_63 (lv_at hl 1 rfl) ?_
          refine lv_iload_n C.x C.b dX8_birth_65 rfl (lv_at hl 5 rfl) ?_
          refine g_puti C G 5 a1.toNatClampNeg 4 hL8 (v := a3) rfl ginX5 tyX5_ok nmX5 (by decide) ⟨rfl, rfl⟩ tw366 dX8_birth_66 (fun H locs G => ?_)
          obtain ⟨σ12, eσ12, hf⟩ := g_lt hf
          rw [← eσ12] at G
          refine lv_iload C.x C.b dX8_birth_69 (lv_at hl 0 rfl) ?_
          refine lv_if_eq (tgt := 78) C.x C.b dX8_birth_71 (by decide) (fun _ => ?_) (fun cb => absurd cb (by decide))
          refine lv_iconst (v := (1 : Int32)) C.x C.b dX8_birth_78 (by decide) ?_
          exact g_eii C G hr hlocks hf dX8_birth_79
        · have hf := g_t cb hf
          refine lv_iconst (v := (1 : Int32)) C.x C.b dX8_birth_50 (by decide) ?_
          refine lv_goto (tgt := 55) C.x C.b dX8_birth_51 (by decide) ?_
          refine lv_istore (lv' := [(5, .int (1 : Int32)), (4, .ref (ad 5 a1.toNatClampNeg)), (0, .ref (ad 8 0)), (1, .int a1), (2, .int a2), (3, .int a3)]) C.x C.b dX8_birth_55 hl (by decide) rfl (fun ls hl => ?_)
          refine lv_aload C.x C.b dX8_birth_57 (lv_at hl 1 rfl) ?_
          refine lv_iload_n C.x C.b dX8_birth_59 rfl (lv_at hl 4 rfl) ?_
          refine g_puti C G 5 a1.toNatClampNeg 3 hL8 (v := a2) rfl ginX5 tyX5_ok nmX5 (by decide) ⟨rfl, rfl⟩ tw361 dX8_birth_60 (fun H locs G => ?_)
          obtain ⟨σ13, eσ13, hf⟩ := g_lt hf
          rw [← eσ13] at G
          refine lv_aload C.x C.b dX8_birth_63 (lv_at hl 1 rfl) ?_
          refine lv_iload_n C.x C.b dX8_birth_65 rfl (lv_at hl 5 rfl) ?_
          refine g_puti C G 5 a1.toNatClampNeg 4 hL8 (v := a3) rfl ginX5 tyX5_ok nmX5 (by decide) ⟨rfl, rfl⟩ tw366 dX8_birth_66 (fun H locs G => ?_)
          obtain ⟨σ14, eσ14, hf⟩ := g_lt hf
          rw [← eσ14] at G
          refine lv_iload C.x C.b dX8_birth_69 (lv_at hl 0 rfl) ?_
          refine lv_if_eq (tgt := 78) C.x C.b dX8_birth_71 (by decide) (fun cb => absurd cb (by decide)) (fun _ => ?_)
          refine lv_iconst (v := (0 : Int32)) C.x C.b dX8_birth_74 (by decide) ?_
          refine lv_goto (tgt := 79) C.x C.b dX8_birth_75 (by decide) ?_
          exact g_eii C G hr hlocks hf dX8_birth_79
    · have hf := g_t cb hf
      refine lv_iconst (v := (-1 : Int32)) C.x C.b dX8_birth_19 (by decide) ?_
      exact g_eii C G hr hlocks hf dX8_birth_20
def f_X8_repeal (ad : gA) (σ : gS) (a1 : Int32) (a2 : Int32) : Option (Int32 × gS) := ((f_X6_hasLaw ad σ a1).bind fun q2 => (if q2 = 0 then (some ((-1 : Int32), σ)) else (if g_ix a1 20 then (if σ 27 0 a1.toNatClampNeg < 0 then none else (if a2 ≤ (σ 2 a1.toNatClampNeg 4) then (some ((-1 : Int32), σ)) else (if a2 ≤ (σ 2 a1.toNatClampNeg 5) then (g_let (g_up σ 2 a1.toNatClampNeg 5 a2) fun σ8 => (some ((σ 2 a1.toNatClampNeg 5), σ8))) else (some ((-1 : Int32), σ))))) else none)))
theorem hd_X8_repeal : yX8_repeal.cls ≠ "java/lang/invoke/MethodHandle" ∧ yX8_repeal.cls ≠ "java/lang/invoke/VarHandle" ∧ (parseMethodDescriptor yX8_repeal.desc).map (fun d => d.parameters.length) = some 2 := by decide +kernel
set_option maxHeartbeats 4000000 in
set_option maxRecDepth 100000 in
theorem c_X8_repeal (l : Launch) (D : va_G) (cy : Nat → ClassId) (A : Nat → Prop) (ad : gA) (L : gL)  (σ : gS) (hT : (8, 0) ∈ L) (a1 : Int32) (a2 : Int32) (r0 : Int32) (σ0 : gS) (hf : f_X8_repeal ad σ a1 a2 = some (r0, σ0)) : g_Mi l yX8_repeal cX8_repeal 5 (some .int) ({ frames := 1, cells := 0, slots := 0, locals := 21 } : Room) D cy A ad L σ [.ref (ad 8 0), .int a1, .int a2] r0 σ0 := by
  refine g_met (by decide) (Nat.le_of_ble_eq_true rfl) (fun p e s m below meth c C hr hlocks hnm G ls hl => ?_)
  have hl : lv_has ls 5 [(0, .ref (ad 8 0)), (1, .int a1), (2, .int a2)] := hl
  unfold f_X8_repeal at hf
  refine lv_aload_n C.x C.b dX8_repeal_0 rfl (lv_at hl 0 rfl) ?_
  refine g_getr C G 8 0 0 6 hT rfl ginX8 (by decide) tw284 dX8_repeal_1 (fun hL1 => ?_)
  refine lv_iload_n C.x C.b dX8_repeal_4 rfl (lv_at hl 1 rfl) ?_
  obtain ⟨q2, eq2, hf⟩ := g_b hf
  refine g_calli G (g_runV (As := [.int a1]) (rest := []) C G 6 0 (c_X6_hasLaw l D cy A ad L σ hL1 a1 q2 eq2) ⟨tw486, tw55, tw483, ⟨tw484, tw485⟩, hd_X6_hasLaw⟩ (by decide) hL1 rfl ⟨rfl, by decide⟩ hl.1 rfl (Nat.le_of_ble_eq_true rfl) dX8_repeal_5 ⟨Nat.le_of_ble_eq_true rfl, Nat.le_of_ble_eq_true rfl⟩) (fun H locs G => ?_)
  refine lv_if_ne (tgt := 13) C.x C.b dX8_repeal_8 (by decide) (fun cb => ?_) (fun cb => ?_)
  · have hf := g_f cb hf
    refine lv_aload_n C.x C.b dX8_repeal_13 rfl (lv_at hl 0 rfl) ?_
    refine g_getr C G 8 0 0 6 hT rfl ginX8 (by decide) tw284 dX8_repeal_14 (fun hL3 => ?_)
    refine g_getr C G 6 0 2 27 hL3 rfl ginX6 (by decide) tw122 dX8_repeal_17 (fun hL4 => ?_)
    refine lv_iload_n C.x C.b dX8_repeal_20 rfl (lv_at hl 1 rfl) ?_
    obtain ⟨hi5, hf⟩ := g_ok hf
    obtain ⟨hq6, hf⟩ := g_okn hf
    refine g_aldq (n := 20) C G 27 0 2 hL4 (by decide) rfl rfl hi5 hq6 dX8_repeal_21 (fun hL7 => ?_)
    refine lv_astore_n (lv' := [(3, .ref (ad 2 a1.toNatClampNeg)), (0, .ref (ad 8 0)), (1, .int a1), (2, .int a2)]) C.x C.b dX8_repeal_22 rfl hl (by decide) rfl (fun ls hl => ?_)
    refine lv_iload_n C.x C.b dX8_repeal_23 rfl (lv_at hl 3 rfl) ?_
    refine lv_aload_n C.x C.b dX8_repeal_24 rfl (lv_at hl 0 rfl) ?_
    refine g_geti C G 2 a1.toNatClampNeg 4 hL7 rfl ginX2 (by decide) tw459 dX8_repeal_25 ?_
    refine lv_icmp_le (tgt := 39) C.x C.b dX8_repeal_28 (by decide) (fun cb => ?_) (fun cb => ?_)
    · have hf := g_t cb hf
      refine lv_iconst (v := (-1 : Int32)) C.x C.b dX8_repeal_39 (by decide) ?_
      exact g_eii C G hr hlocks hf dX8_repeal_40
    · have hf := g_f cb hf
      refine lv_iload_n C.x C.b dX8_repeal_31 rfl (lv_at hl 3 rfl) ?_
      refine lv_aload_n C.x C.b dX8_repeal_32 rfl (lv_at hl 0 rfl) ?_
      refine g_geti C G 2 a1.toNatClampNeg 5 hL7 rfl ginX2 (by decide) tw461 dX8_repeal_33 ?_
      refine lv_icmp_le (tgt := 41) C.x C.b dX8_repeal_36 (by decide) (fun cb => ?_) (fun cb => ?_)
      · have hf := g_t cb hf
        refine lv_aload_n C.x C.b dX8_repeal_41 rfl (lv_at hl 0 rfl) ?_
        refine g_geti C G 2 a1.toNatClampNeg 5 hL7 rfl ginX2 (by decide) tw461 dX8_repeal_42 ?_
        refine lv_istore (lv' := [(4, .int (σ 2 a1.toNatClampNeg 5)), (3, .ref (ad 2 a1.toNatClampNeg)), (0, .ref (ad 8 0)), (1, .int a1), (2, .int a2)]) C.x C.b dX8_repeal_45 hl (by decide) rfl (fun ls hl => ?_)
        refine lv_aload_n C.x C.b dX8_repeal_47 rfl (lv_at hl 1 rfl) ?_
        refine lv_iload_n C.x C.b dX8_repeal_48 rfl (lv_at hl 4 rfl) ?_
        refine g_puti C G 2 a1.toNatClampNeg 5 hL7 (v := a2) rfl ginX2 tyX2_ok nmX2 (by decide) ⟨rfl, rfl⟩ tw461 dX8_repeal_49 (fun H locs G => ?_)
        obtain ⟨σ8, eσ8, hf⟩ := g_lt hf
        rw [← eσ8] at G
        refine lv_iload C.x C.b dX8_repeal_52 (lv_at hl 0 rfl) ?_
        exact g_eii C G hr hlocks hf dX8_repeal_54
      · have hf := g_f cb hf
        refine lv_iconst (v := (-1 : Int32)) C.x C.b dX8_repeal_39 (by decide) ?_
        exact g_eii C G hr hlocks hf dX8_repeal_40
  · have hf := g_t cb hf
    refine lv_iconst (v := (-1 : Int32)) C.x C.b dX8_repeal_11 (by decide) ?_
    exact g_eii C G hr hlocks hf dX8_repeal_12
def f_X8_stone (ad : gA) (σ : gS) (a1 : Int32) (a2 : Int32) (a3 : Int32) : Option (Int32 × gS) := ((f_X6_hasPerson ad σ a1).bind fun q2 => (if q2 = 0 then (some ((-1 : Int32), σ)) else ((f_X6_hasOffice ad σ a2).bind fun q4 => (if q4 = 0 then (some ((-1 : Int32), σ)) else ((f_X8_isYear ad σ a3).bind fun q5 => (if q5 = 0 then (some ((-1 : Int32), σ)) else (if g_ix a2 8 then (if σ 25 0 a2.toNatClampNeg < 0 then none else ((f_X3_firstEmpty ad σ a2.toNatClampNeg a3).bind fun q11 => (if q11 = (-1 : Int32) then (some ((-3 : Int32), σ)) else (if g_ix a1 24 then (if σ 26 0 a1.toNatClampNeg < 0 then none else (if g_ix a3 200 then (if (σ 24 a1.toNatClampNeg a3.toNatClampNeg) = (-1 : Int32) then ((f_X6_put ad σ a1 a2 a3 q11).bind fun σ20 => (some (q11, σ20))) else (some ((-3 : Int32), σ))) else none)) else none)))) else none)))))))
theorem hd_X8_stone : yX8_stone.cls ≠ "java/lang/invoke/MethodHandle" ∧ yX8_stone.cls ≠ "java/lang/invoke/VarHandle" ∧ (parseMethodDescriptor yX8_stone.desc).map (fun d => d.parameters.length) = some 3 := by decide +kernel
set_option maxHeartbeats 4000000 in
set_option maxRecDepth 100000 in
theorem c_X8_stone (l : Launch) (D : va_G) (cy : Nat → ClassId) (A : Nat → Prop) (ad : gA) (L : gL)  (σ : gS) (hT : (8, 0) ∈ L) (a1 : Int32) (a2 : Int32) (a3 : Int32) (r0 : Int32) (σ0 : gS) (hf : f_X8_stone ad σ a1 a2 a3 = some (r0, σ0)) : g_Mi l yX8_stone cX8_stone 5 (some .int) ({ frames := 2, cells := 0, slots := 0, locals := 47 } : Room) D cy A ad L σ [.ref (ad 8 0), .int a1, .int a2, .int a3] r0 σ0 := by
  refine g_met (by decide) (Nat.le_of_ble_eq_true rfl) (fun p e s m below meth c C hr hlocks hnm G ls hl => ?_)
  have hl : lv_has ls 5 [(0, .ref (ad 8 0)), (1, .int a1), (2, .int a2), (3, .int a3)] := hl
  unfold f_X8_stone at hf
  refine lv_aload_n C.x C.b dX8_stone_0 rfl (lv_at hl 0 rfl) ?_
  refine g_getr C G 8 0 0 6 hT rfl ginX8 (by decide) tw284 dX8_stone_1 (fun hL1 => ?_)
  refine lv_iload_n C.x C.b dX8_stone_4 rfl (lv_at hl 1 rfl) ?_
  obtain ⟨q2, eq2, hf⟩ := g_b hf
  refine g_calli G (g_runV (As := [.int a1]) (rest := []) C G 6 0 (c_X6_hasPerson l D cy A ad L σ hL1 a1 q2 eq2) ⟨tw343, tw55, tw340, ⟨tw341, tw342⟩, hd_X6_hasPerson⟩ (by decide) hL1 rfl ⟨rfl, by decide⟩ hl.1 rfl (Nat.le_of_ble_eq_true rfl) dX8_stone_5 ⟨Nat.le_of_ble_eq_true rfl, Nat.le_of_ble_eq_true rfl⟩) (fun H locs G => ?_)
  refine lv_if_eq (tgt := 29) C.x C.b dX8_stone_8 (by decide) (fun cb => ?_) (fun cb => ?_)
  · have hf := g_t cb hf
    refine lv_iconst (v := (-1 : Int32)) C.x C.b dX8_stone_29 (by decide) ?_
    exact g_eii C G hr hlocks hf dX8_stone_30
  · have hf := g_f cb hf
    refine lv_aload_n C.x C.b dX8_stone_11 rfl (lv_at hl 0 rfl) ?_
    refine g_getr C G 8 0 0 6 hT rfl ginX8 (by decide) tw284 dX8_stone_12 (fun hL3 => ?_)
    refine lv_iload_n C.x C.b dX8_stone_15 rfl (lv_at hl 2 rfl) ?_
    obtain ⟨q4, eq4, hf⟩ := g_b hf
    refine g_calli G (g_runV (As := [.int a2]) (rest := []) C G 6 0 (c_X6_hasOffice l D cy A ad L σ hL3 a2 q4 eq4) ⟨tw439, tw55, tw436, ⟨tw437, tw438⟩, hd_X6_hasOffice⟩ (by decide) hL3 rfl ⟨rfl, by decide⟩ hl.1 rfl (Nat.le_of_ble_eq_true rfl) dX8_stone_16 ⟨Nat.le_of_ble_eq_true rfl, Nat.le_of_ble_eq_true rfl⟩) (fun H locs G => ?_)
    refine lv_if_eq (tgt := 29) C.x C.b dX8_stone_19 (by decide) (fun cb => ?_) (fun cb => ?_)
    · have hf := g_t cb hf
      refine lv_iconst (v := (-1 : Int32)) C.x C.b dX8_stone_29 (by decide) ?_
      exact g_eii C G hr hlocks hf dX8_stone_30
    · have hf := g_f cb hf
      refine lv_iload_n C.x C.b dX8_stone_22 rfl (lv_at hl 3 rfl) ?_
      obtain ⟨q5, eq5, hf⟩ := g_b hf
      refine g_calli G (g_runS (As := [.int a3]) (rest := []) C G (c_X8_isYear l D cy A ad L σ a3 q5 eq5) ⟨tw419, tw54, tw417, tw418, hd_X8_isYear⟩ (by decide) hl.1 rfl (Nat.le_of_ble_eq_true rfl) dX8_stone_23 ⟨Nat.le_of_ble_eq_true rfl, Nat.le_of_ble_eq_true rfl⟩) (fun H locs G => ?_)
      refine lv_if_ne (tgt := 31) C.x C.b dX8_stone_26 (by decide) (fun cb => ?_) (fun cb => ?_)
      · have hf := g_f cb hf
        refine lv_aload_n C.x C.b dX8_stone_31 rfl (lv_at hl 0 rfl) ?_
        refine g_getr C G 8 0 0 6 hT rfl ginX8 (by decide) tw284 dX8_stone_32 (fun hL6 => ?_)
        refine g_getr C G 6 0 0 25 hL6 rfl ginX6 (by decide) tw117 dX8_stone_35 (fun hL7 => ?_)
        refine lv_iload_n C.x C.b dX8_stone_38 rfl (lv_at hl 2 rfl) ?_
        obtain ⟨hi8, hf⟩ := g_ok hf
        obtain ⟨hq9, hf⟩ := g_okn hf
        refine g_aldq (n := 8) C G 25 0 3 hL7 (by decide) rfl rfl hi8 hq9 dX8_stone_39 (fun hL10 => ?_)
        refine lv_iload_n C.x C.b dX8_stone_40 rfl (lv_at hl 3 rfl) ?_
        obtain ⟨q11, eq11, hf⟩ := g_b hf
        refine g_calli G (g_runV (As := [.int a3]) (rest := []) C G 3 a2.toNatClampNeg (c_X3_firstEmpty l D cy A ad L σ a2.toNatClampNeg hL10 a3 q11 eq11) ⟨tw494, tw61, tw491, ⟨tw492, tw493⟩, hd_X3_firstEmpty⟩ (by decide) hL10 rfl ⟨rfl, by decide⟩ hl.1 rfl (Nat.le_of_ble_eq_true rfl) dX8_stone_41 ⟨Nat.le_of_ble_eq_true rfl, Nat.le_of_ble_eq_true rfl⟩) (fun H locs G => ?_)
        refine lv_istore (lv' := [(4, .int q11), (0, .ref (ad 8 0)), (1, .int a1), (2, .int a2), (3, .int a3)]) C.x C.b dX8_stone_44 hl (by decide) rfl (fun ls hl => ?_)
        refine lv_iload C.x C.b dX8_stone_46 (lv_at hl 0 rfl) ?_
        refine lv_iconst (v := (-1 : Int32)) C.x C.b dX8_stone_48 (by decide) ?_
        refine lv_icmp_eq (tgt := 70) C.x C.b dX8_stone_49 (by decide) (fun cb => ?_) (fun cb => ?_)
        · have hf := g_t cb hf
          refine lv_bipush (v := (-3 : Int32)) C.x C.b dX8_stone_70 (by decide) ?_
          exact g_eii C G hr hlocks hf dX8_stone_72
        · have hf := g_f cb hf
          refine lv_aload_n C.x C.b dX8_stone_52 rfl (lv_at hl 1 rfl) ?_
          refine g_getr C G 8 0 0 6 hT rfl ginX8 (by decide) tw284 dX8_stone_53 (fun hL12 => ?_)
          refine g_getr C G 6 0 1 26 hL12 rfl ginX6 (by decide) tw119 dX8_stone_56 (fun hL13 => ?_)
          refine lv_iload_n C.x C.b dX8_stone_59 rfl (lv_at hl 2 rfl) ?_
          obtain ⟨hi14, hf⟩ := g_ok hf
          obtain ⟨hq15, hf⟩ := g_okn hf
          refine g_aldq (n := 24) C G 26 0 5 hL13 (by decide) rfl rfl hi14 hq15 dX8_stone_60 (fun hL16 => ?_)
          refine g_getr C G 5 a1.toNatClampNeg 2 24 hL16 rfl ginX5 (by decide) tw357 dX8_stone_61 (fun hL17 => ?_)
          refine lv_iload_n C.x C.b dX8_stone_64 rfl (lv_at hl 4 rfl) ?_
          obtain ⟨hi18, hf⟩ := g_ok hf
          refine g_bald (n := 200) C G 24 a1.toNatClampNeg hL17 (by decide) rfl hi18 dX8_stone_65 ?_
          refine lv_iconst (v := (-1 : Int32)) C.x C.b dX8_stone_66 (by decide) ?_
          refine lv_icmp_eq (tgt := 73) C.x C.b dX8_stone_67 (by decide) (fun cb => ?_) (fun cb => ?_)
          · have hf := g_t cb hf
            refine lv_aload_n C.x C.b dX8_stone_73 rfl (lv_at hl 1 rfl) ?_
            refine g_getr C G 8 0 0 6 hT rfl ginX8 (by decide) tw284 dX8_stone_74 (fun hL19 => ?_)
            refine lv_iload_n C.x C.b dX8_stone_77 rfl (lv_at hl 2 rfl) ?_
            refine lv_iload_n C.x C.b dX8_stone_78 rfl (lv_at hl 3 rfl) ?_
            refine lv_iload_n C.x C.b dX8_stone_79 rfl (lv_at hl 4 rfl) ?_
            refine lv_iload C.x C.b dX8_stone_80 (lv_at hl 0 rfl) ?_
            obtain ⟨σ20, eσ20, hf⟩ := g_b hf
            refine g_callv G (g_runV (As := [.int a1, .int a2, .int a3, .int q11]) (rest := []) C G 6 0 (c_X6_put l D cy A ad L σ hL19 a1 a2 a3 q11 σ20 eσ20) ⟨tw502, tw55, tw499, ⟨tw500, tw501⟩, hd_X6_put⟩ (by decide) hL19 rfl ⟨rfl, by decide⟩ hl.1 rfl (Nat.le_of_ble_eq_true rfl) dX8_stone_82 ⟨Nat.le_of_ble_eq_true rfl, Nat.le_of_ble_eq_true rfl⟩) (fun H locs G => ?_)
            refine lv_iload C.x C.b dX8_stone_85 (lv_at hl 0 rfl) ?_
            exact g_eii C G hr hlocks hf dX8_stone_87
          · have hf := g_f cb hf
            refine lv_bipush (v := (-3 : Int32)) C.x C.b dX8_stone_70 (by decide) ?_
            exact g_eii C G hr hlocks hf dX8_stone_72
      · have hf := g_t cb hf
        refine lv_iconst (v := (-1 : Int32)) C.x C.b dX8_stone_29 (by decide) ?_
        exact g_eii C G hr hlocks hf dX8_stone_30
def f_X8_empty (ad : gA) (σ : gS) (a1 : Int32) (a2 : Int32) (a3 : Int32) : Option (Int32 × gS) := ((f_X6_hasSeat ad σ a1 a2 a3).bind fun q2 => (if q2 = 0 then (some ((-1 : Int32), σ)) else (if g_ix a1 8 then (if σ 25 0 a1.toNatClampNeg < 0 then none else ((f_X3_holder ad σ a1.toNatClampNeg a2 a3).bind fun q8 => (if q8 = (-1 : Int32) then (some ((-3 : Int32), σ)) else ((f_X6_vacate ad σ q8 a1 a2 a3).bind fun σ10 => (some (q8, σ10)))))) else none)))
theorem hd_X8_empty : yX8_empty.cls ≠ "java/lang/invoke/MethodHandle" ∧ yX8_empty.cls ≠ "java/lang/invoke/VarHandle" ∧ (parseMethodDescriptor yX8_empty.desc).map (fun d => d.parameters.length) = some 3 := by decide +kernel
set_option maxHeartbeats 4000000 in
set_option maxRecDepth 100000 in
theorem c_X8_empty (l : Launch) (D : va_G) (cy : Nat → ClassId) (A : Nat → Prop) (ad : gA) (L : gL)  (σ : gS) (hT : (8, 0) ∈ L) (a1 : Int32) (a2 : Int32) (a3 : Int32) (r0 : Int32) (σ0 : gS) (hf : f_X8_empty ad σ a1 a2 a3 = some (r0, σ0)) : g_Mi l yX8_empty cX8_empty 5 (some .int) ({ frames := 3, cells := 0, slots := 0, locals := 68 } : Room) D cy A ad L σ [.ref (ad 8 0), .int a1, .int a2, .int a3] r0 σ0 := by
  refine g_met (by decide) (Nat.le_of_ble_eq_true rfl) (fun p e s m below meth c C hr hlocks hnm G ls hl => ?_)
  have hl : lv_has ls 5 [(0, .ref (ad 8 0)), (1, .int a1), (2, .int a2), (3, .int a3)] := hl
  unfold f_X8_empty at hf
  refine lv_aload_n C.x C.b dX8_empty_0 rfl (lv_at hl 0 rfl) ?_
  refine g_getr C G 8 0 0 6 hT rfl ginX8 (by decide) tw284 dX8_empty_1 (fun hL1 => ?_)
  refine lv_iload_n C.x C.b dX8_empty_4 rfl (lv_at hl 1 rfl) ?_
  refine lv_iload_n C.x C.b dX8_empty_5 rfl (lv_at hl 2 rfl) ?_
  refine lv_iload_n C.x C.b dX8_empty_6 rfl (lv_at hl 3 rfl) ?_
  obtain ⟨q2, eq2, hf⟩ := g_b hf
  refine g_calli G (g_runV (As := [.int a1, .int a2, .int a3]) (rest := []) C G 6 0 (c_X6_hasSeat l D cy A ad L σ hL1 a1 a2 a3 q2 eq2) ⟨tw514, tw55, tw511, ⟨tw512, tw513⟩, hd_X6_hasSeat⟩ (by decide) hL1 rfl ⟨rfl, by decide⟩ hl.1 rfl (Nat.le_of_ble_eq_true rfl) dX8_empty_7 ⟨Nat.le_of_ble_eq_true rfl, Nat.le_of_ble_eq_true rfl⟩) (fun H locs G => ?_)
  refine lv_if_ne (tgt := 15) C.x C.b dX8_empty_10 (by decide) (fun cb => ?_) (fun cb => ?_)
  · have hf := g_f cb hf
    refine lv_aload_n C.x C.b dX8_empty_15 rfl (lv_at hl 0 rfl) ?_
    refine g_getr C G 8 0 0 6 hT rfl ginX8 (by decide) tw284 dX8_empty_16 (fun hL3 => ?_)
    refine g_getr C G 6 0 0 25 hL3 rfl ginX6 (by decide) tw117 dX8_empty_19 (fun hL4 => ?_)
    refine lv_iload_n C.x C.b dX8_empty_22 rfl (lv_at hl 1 rfl) ?_
    obtain ⟨hi5, hf⟩ := g_ok hf
    obtain ⟨hq6, hf⟩ := g_okn hf
    refine g_aldq (n := 8) C G 25 0 3 hL4 (by decide) rfl rfl hi5 hq6 dX8_empty_23 (fun hL7 => ?_)
    refine lv_iload_n C.x C.b dX8_empty_24 rfl (lv_at hl 2 rfl) ?_
    refine lv_iload_n C.x C.b dX8_empty_25 rfl (lv_at hl 3 rfl) ?_
    obtain ⟨q8, eq8, hf⟩ := g_b hf
    refine g_calli G (g_runV (As := [.int a2, .int a3]) (rest := []) C G 3 a1.toNatClampNeg (c_X3_holder l D cy A ad L σ a1.toNatClampNeg hL7 a2 a3 q8 eq8) ⟨tw519, tw61, tw516, ⟨tw517, tw518⟩, hd_X3_holder⟩ (by decide) hL7 rfl ⟨rfl, by decide⟩ hl.1 rfl (Nat.le_of_ble_eq_true rfl) dX8_empty_26 ⟨Nat.le_of_ble_eq_true rfl, Nat.le_of_ble_eq_true rfl⟩) (fun H locs G => ?_)
    refine lv_istore (lv' := [(4, .int q8), (0, .ref (ad 8 0)), (1, .int a1), (2, .int a2), (3, .int a3)]) C.x C.b dX8_empty_29 hl (by decide) rfl (fun ls hl => ?_)
    refine lv_iload C.x C.b dX8_empty_31 (lv_at hl 0 rfl) ?_
    refine lv_iconst (v := (-1 : Int32)) C.x C.b dX8_empty_33 (by decide) ?_
    refine lv_icmp_ne (tgt := 40) C.x C.b dX8_empty_34 (by decide) (fun cb => ?_) (fun cb => ?_)
    · have hf := g_f cb hf
      refine lv_aload_n C.x C.b dX8_empty_40 rfl (lv_at hl 1 rfl) ?_
      refine g_getr C G 8 0 0 6 hT rfl ginX8 (by decide) tw284 dX8_empty_41 (fun hL9 => ?_)
      refine lv_iload C.x C.b dX8_empty_44 (lv_at hl 0 rfl) ?_
      refine lv_iload_n C.x C.b dX8_empty_46 rfl (lv_at hl 2 rfl) ?_
      refine lv_iload_n C.x C.b dX8_empty_47 rfl (lv_at hl 3 rfl) ?_
      refine lv_iload_n C.x C.b dX8_empty_48 rfl (lv_at hl 4 rfl) ?_
      obtain ⟨σ10, eσ10, hf⟩ := g_b hf
      refine g_callv G (g_runV (As := [.int q8, .int a1, .int a2, .int a3]) (rest := []) C G 6 0 (c_X6_vacate l D cy A ad L σ hL9 q8 a1 a2 a3 σ10 eσ10) ⟨tw523, tw55, tw520, ⟨tw521, tw522⟩, hd_X6_vacate⟩ (by decide) hL9 rfl ⟨rfl, by decide⟩ hl.1 rfl (Nat.le_of_ble_eq_true rfl) dX8_empty_49 ⟨Nat.le_of_ble_eq_true rfl, Nat.le_of_ble_eq_true rfl⟩) (fun H locs G => ?_)
      refine lv_iload C.x C.b dX8_empty_52 (lv_at hl 0 rfl) ?_
      exact g_eii C G hr hlocks hf dX8_empty_54
    · have hf := g_t cb hf
      refine lv_bipush (v := (-3 : Int32)) C.x C.b dX8_empty_37 (by decide) ?_
      exact g_eii C G hr hlocks hf dX8_empty_39
  · have hf := g_t cb hf
    refine lv_iconst (v := (-1 : Int32)) C.x C.b dX8_empty_13 (by decide) ?_
    exact g_eii C G hr hlocks hf dX8_empty_14
def f_X8_annul (ad : gA) (σ : gS) (a1 : Int32) (a2 : Int32) (a3 : Int32) (a4 : Int32) : Option (Int32 × gS) := ((f_X6_hasSeat ad σ a1 a2 a3).bind fun q2 => (if q2 = 0 then (some ((-1 : Int32), σ)) else (if g_ix a1 8 then (if σ 25 0 a1.toNatClampNeg < 0 then none else ((f_X3_holder ad σ a1.toNatClampNeg a2 a3).bind fun q8 => (if q8 = (-1 : Int32) then (some ((-3 : Int32), σ)) else (if g_ix a1 8 then (if σ 25 0 a1.toNatClampNeg < 0 then none else ((f_X3_isVoid ad σ a1.toNatClampNeg a2 a3).bind fun q14 => (if q14 = a4 then (some ((0 : Int32), σ)) else ((f_X6_mark ad σ q8 a1 a2 a3 a4).bind fun σ16 => (some ((1 : Int32), σ16)))))) else none)))) else none)))
theorem hd_X8_annul : yX8_annul.cls ≠ "java/lang/invoke/MethodHandle" ∧ yX8_annul.cls ≠ "java/lang/invoke/VarHandle" ∧ (parseMethodDescriptor yX8_annul.desc).map (fun d => d.parameters.length) = some 4 := by decide +kernel
set_option maxHeartbeats 4000000 in
set_option maxRecDepth 100000 in
theorem c_X8_annul (l : Launch) (D : va_G) (cy : Nat → ClassId) (A : Nat → Prop) (ad : gA) (L : gL)  (σ : gS) (hT : (8, 0) ∈ L) (a1 : Int32) (a2 : Int32) (a3 : Int32) (a4 : Int32) (r0 : Int32) (σ0 : gS) (hf : f_X8_annul ad σ a1 a2 a3 a4 = some (r0, σ0)) : g_Mi l yX8_annul cX8_annul 6 (some .int) ({ frames := 2, cells := 0, slots := 0, locals := 49 } : Room) D cy A ad L σ [.ref (ad 8 0), .int a1, .int a2, .int a3, .int a4] r0 σ0 := by
  refine g_met (by decide) (Nat.le_of_ble_eq_true rfl) (fun p e s m below meth c C hr hlocks hnm G ls hl => ?_)
  have hl : lv_has ls 6 [(0, .ref (ad 8 0)), (1, .int a1), (2, .int a2), (3, .int a3), (4, .int a4)] := hl
  unfold f_X8_annul at hf
  refine lv_aload_n C.x C.b dX8_annul_0 rfl (lv_at hl 0 rfl) ?_
  refine g_getr C G 8 0 0 6 hT rfl ginX8 (by decide) tw284 dX8_annul_1 (fun hL1 => ?_)
  refine lv_iload_n C.x C.b dX8_annul_4 rfl (lv_at hl 1 rfl) ?_
  refine lv_iload_n C.x C.b dX8_annul_5 rfl (lv_at hl 2 rfl) ?_
  refine lv_iload_n C.x C.b dX8_annul_6 rfl (lv_at hl 3 rfl) ?_
  obtain ⟨q2, eq2, hf⟩ := g_b hf
  refine g_calli G (g_runV (As := [.int a1, .int a2, .int a3]) (rest := []) C G 6 0 (c_X6_hasSeat l D cy A ad L σ hL1 a1 a2 a3 q2 eq2) ⟨tw514, tw55, tw511, ⟨tw512, tw513⟩, hd_X6_hasSeat⟩ (by decide) hL1 rfl ⟨rfl, by decide⟩ hl.1 rfl (Nat.le_of_ble_eq_true rfl) dX8_annul_7 ⟨Nat.le_of_ble_eq_true rfl, Nat.le_of_ble_eq_true rfl⟩) (fun H locs G => ?_)
  refine lv_if_ne (tgt := 15) C.x C.b dX8_annul_10 (by decide) (fun cb => ?_) (fun cb => ?_)
  · have hf := g_f cb hf
    refine lv_aload_n C.x C.b dX8_annul_15 rfl (lv_at hl 0 rfl) ?_
    refine g_getr C G 8 0 0 6 hT rfl ginX8 (by decide) tw284 dX8_annul_16 (fun hL3 => ?_)
    refine g_getr C G 6 0 0 25 hL3 rfl ginX6 (by decide) tw117 dX8_annul_19 (fun hL4 => ?_)
    refine lv_iload_n C.x C.b dX8_annul_22 rfl (lv_at hl 1 rfl) ?_
    obtain ⟨hi5, hf⟩ := g_ok hf
    obtain ⟨hq6, hf⟩ := g_okn hf
    refine g_aldq (n := 8) C G 25 0 3 hL4 (by decide) rfl rfl hi5 hq6 dX8_annul_23 (fun hL7 => ?_)
    refine lv_iload_n C.x C.b dX8_annul_24 rfl (lv_at hl 2 rfl) ?_
    refine lv_iload_n C.x C.b dX8_annul_25 rfl (lv_at hl 3 rfl) ?_
    obtain ⟨q8, eq8, hf⟩ := g_b hf
    refine g_calli G (g_runV (As := [.int a2, .int a3]) (rest := []) C G 3 a1.toNatClampNeg (c_X3_holder l D cy A ad L σ a1.toNatClampNeg hL7 a2 a3 q8 eq8) ⟨tw519, tw61, tw516, ⟨tw517, tw518⟩, hd_X3_holder⟩ (by decide) hL7 rfl ⟨rfl, by decide⟩ hl.1 rfl (Nat.le_of_ble_eq_true rfl) dX8_annul_26 ⟨Nat.le_of_ble_eq_true rfl, Nat.le_of_ble_eq_true rfl⟩) (fun H locs G => ?_)
    refine lv_istore (lv' := [(5, .int q8), (0, .ref (ad 8 0)), (1, .int a1), (2, .int a2), (3, .int a3), (4, .int a4)]) C.x C.b dX8_annul_29 hl (by decide) rfl (fun ls hl => ?_)
    refine lv_iload C.x C.b dX8_annul_31 (lv_at hl 0 rfl) ?_
    refine lv_iconst (v := (-1 : Int32)) C.x C.b dX8_annul_33 (by decide) ?_
    refine lv_icmp_ne (tgt := 40) C.x C.b dX8_annul_34 (by decide) (fun cb => ?_) (fun cb => ?_)
    · have hf := g_f cb hf
      refine lv_aload_n C.x C.b dX8_annul_40 rfl (lv_at hl 1 rfl) ?_
      refine g_getr C G 8 0 0 6 hT rfl ginX8 (by decide) tw284 dX8_annul_41 (fun hL9 => ?_)
      refine g_getr C G 6 0 0 25 hL9 rfl ginX6 (by decide) tw117 dX8_annul_44 (fun hL10 => ?_)
      refine lv_iload_n C.x C.b dX8_annul_47 rfl (lv_at hl 2 rfl) ?_
      obtain ⟨hi11, hf⟩ := g_ok hf
      obtain ⟨hq12, hf⟩ := g_okn hf
      refine g_aldq (n := 8) C G 25 0 3 hL10 (by decide) rfl rfl hi11 hq12 dX8_annul_48 (fun hL13 => ?_)
      refine lv_iload_n C.x C.b dX8_annul_49 rfl (lv_at hl 3 rfl) ?_
      refine lv_iload_n C.x C.b dX8_annul_50 rfl (lv_at hl 4 rfl) ?_
      obtain ⟨q14, eq14, hf⟩ := g_b hf
      refine g_calli G (g_runV (As := [.int a2, .int a3]) (rest := []) C G 3 a1.toNatClampNeg (c_X3_isVoid l D cy A ad L σ a1.toNatClampNeg hL13 a2 a3 q14 eq14) ⟨tw527, tw61, tw532, ⟨tw525, tw526⟩, hd_X3_isVoid⟩ (by decide) hL13 rfl ⟨rfl, by decide⟩ hl.1 rfl (Nat.le_of_ble_eq_true rfl) dX8_annul_51 ⟨Nat.le_of_ble_eq_true rfl, Nat.le_of_ble_eq_true rfl⟩) (fun H locs G => ?_)
      refine lv_iload C.x C.b dX8_annul_54 (lv_at hl 5 rfl) ?_
      refine lv_icmp_ne (tgt := 61) C.x C.b dX8_annul_56 (by decide) (fun cb => ?_) (fun cb => ?_)
      · have hf := g_f cb hf
        refine lv_aload_n C.x C.b dX8_annul_61 rfl (lv_at hl 1 rfl) ?_
        refine g_getr C G 8 0 0 6 hT rfl ginX8 (by decide) tw284 dX8_annul_62 (fun hL15 => ?_)
        refine lv_iload C.x C.b dX8_annul_65 (lv_at hl 0 rfl) ?_
        refine lv_iload_n C.x C.b dX8_annul_67 rfl (lv_at hl 2 rfl) ?_
        refine lv_iload_n C.x C.b dX8_annul_68 rfl (lv_at hl 3 rfl) ?_
        refine lv_iload_n C.x C.b dX8_annul_69 rfl (lv_at hl 4 rfl) ?_
        refine lv_iload C.x C.b dX8_annul_70 (lv_at hl 5 rfl) ?_
        obtain ⟨σ16, eσ16, hf⟩ := g_b hf
        refine g_callv G (g_runV (As := [.int q8, .int a1, .int a2, .int a3, .int a4]) (rest := []) C G 6 0 (c_X6_mark l D cy A ad L σ hL15 q8 a1 a2 a3 a4 σ16 eσ16) ⟨tw536, tw55, tw533, ⟨tw534, tw535⟩, hd_X6_mark⟩ (by decide) hL15 rfl ⟨rfl, by decide⟩ hl.1 rfl (Nat.le_of_ble_eq_true rfl) dX8_annul_72 ⟨Nat.le_of_ble_eq_true rfl, Nat.le_of_ble_eq_true rfl⟩) (fun H locs G => ?_)
        refine lv_iconst (v := (1 : Int32)) C.x C.b dX8_annul_75 (by decide) ?_
        exact g_eii C G hr hlocks hf dX8_annul_76
      · have hf := g_t cb hf
        refine lv_iconst (v := (0 : Int32)) C.x C.b dX8_annul_59 (by decide) ?_
        exact g_eii C G hr hlocks hf dX8_annul_60
    · have hf := g_t cb hf
      refine lv_bipush (v := (-3 : Int32)) C.x C.b dX8_annul_37 (by decide) ?_
      exact g_eii C G hr hlocks hf dX8_annul_39
  · have hf := g_t cb hf
    refine lv_iconst (v := (-1 : Int32)) C.x C.b dX8_annul_13 (by decide) ?_
    exact g_eii C G hr hlocks hf dX8_annul_14
def f_X8_seat (ad : gA) (σ : gS) (a1 : Int32) (a2 : Int32) (a3 : Int32) : Option Int32 := ((f_X6_hasSeat ad σ a1 a2 a3).bind fun q2 => (if q2 = 0 then (some (-1 : Int32)) else (if g_ix a1 8 then (if σ 25 0 a1.toNatClampNeg < 0 then none else ((f_X3_code ad σ a1.toNatClampNeg a2 a3).bind fun q8 => (if q8 = (-1 : Int32) then (some (-2 : Int32)) else (some q8)))) else none)))
theorem hd_X8_seat : yX8_seat.cls ≠ "java/lang/invoke/MethodHandle" ∧ yX8_seat.cls ≠ "java/lang/invoke/VarHandle" ∧ (parseMethodDescriptor yX8_seat.desc).map (fun d => d.parameters.length) = some 3 := by decide +kernel
set_option maxHeartbeats 4000000 in
set_option maxRecDepth 100000 in
theorem c_X8_seat (l : Launch) (D : va_G) (cy : Nat → ClassId) (A : Nat → Prop) (ad : gA) (L : gL)  (σ : gS) (hT : (8, 0) ∈ L) (a1 : Int32) (a2 : Int32) (a3 : Int32) (r0 : Int32) (hf : f_X8_seat ad σ a1 a2 a3 = some r0) : g_Mi l yX8_seat cX8_seat 5 (some .int) ({ frames := 2, cells := 0, slots := 0, locals := 44 } : Room) D cy A ad L σ [.ref (ad 8 0), .int a1, .int a2, .int a3] r0 σ := by
  refine g_met (by decide) (Nat.le_of_ble_eq_true rfl) (fun p e s m below meth c C hr hlocks hnm G ls hl => ?_)
  have hl : lv_has ls 5 [(0, .ref (ad 8 0)), (1, .int a1), (2, .int a2), (3, .int a3)] := hl
  unfold f_X8_seat at hf
  refine lv_aload_n C.x C.b dX8_seat_0 rfl (lv_at hl 0 rfl) ?_
  refine g_getr C G 8 0 0 6 hT rfl ginX8 (by decide) tw284 dX8_seat_1 (fun hL1 => ?_)
  refine lv_iload_n C.x C.b dX8_seat_4 rfl (lv_at hl 1 rfl) ?_
  refine lv_iload_n C.x C.b dX8_seat_5 rfl (lv_at hl 2 rfl) ?_
  refine lv_iload_n C.x C.b dX8_seat_6 rfl (lv_at hl 3 rfl) ?_
  obtain ⟨q2, eq2, hf⟩ := g_b hf
  refine g_calli G (g_runV (As := [.int a1, .int a2, .int a3]) (rest := []) C G 6 0 (c_X6_hasSeat l D cy A ad L σ hL1 a1 a2 a3 q2 eq2) ⟨tw514, tw55, tw511, ⟨tw512, tw513⟩, hd_X6_hasSeat⟩ (by decide) hL1 rfl ⟨rfl, by decide⟩ hl.1 rfl (Nat.le_of_ble_eq_true rfl) dX8_seat_7 ⟨Nat.le_of_ble_eq_true rfl, Nat.le_of_ble_eq_true rfl⟩) (fun H locs G => ?_)
  refine lv_if_ne (tgt := 15) C.x C.b dX8_seat_10 (by decide) (fun cb => ?_) (fun cb => ?_)
  · have hf := g_f cb hf
    refine lv_aload_n C.x C.b dX8_seat_15 rfl (lv_at hl 0 rfl) ?_
    refine g_getr C G 8 0 0 6 hT rfl ginX8 (by decide) tw284 dX8_seat_16 (fun hL3 => ?_)
    refine g_getr C G 6 0 0 25 hL3 rfl ginX6 (by decide) tw117 dX8_seat_19 (fun hL4 => ?_)
    refine lv_iload_n C.x C.b dX8_seat_22 rfl (lv_at hl 1 rfl) ?_
    obtain ⟨hi5, hf⟩ := g_ok hf
    obtain ⟨hq6, hf⟩ := g_okn hf
    refine g_aldq (n := 8) C G 25 0 3 hL4 (by decide) rfl rfl hi5 hq6 dX8_seat_23 (fun hL7 => ?_)
    refine lv_iload_n C.x C.b dX8_seat_24 rfl (lv_at hl 2 rfl) ?_
    refine lv_iload_n C.x C.b dX8_seat_25 rfl (lv_at hl 3 rfl) ?_
    obtain ⟨q8, eq8, hf⟩ := g_b hf
    refine g_calli G (g_runV (As := [.int a2, .int a3]) (rest := []) C G 3 a1.toNatClampNeg (c_X3_code l D cy A ad L σ a1.toNatClampNeg hL7 a2 a3 q8 eq8) ⟨tw498, tw61, tw541, ⟨tw496, tw497⟩, hd_X3_code⟩ (by decide) hL7 rfl ⟨rfl, by decide⟩ hl.1 rfl (Nat.le_of_ble_eq_true rfl) dX8_seat_26 ⟨Nat.le_of_ble_eq_true rfl, Nat.le_of_ble_eq_true rfl⟩) (fun H locs G => ?_)
    refine lv_istore (lv' := [(4, .int q8), (0, .ref (ad 8 0)), (1, .int a1), (2, .int a2), (3, .int a3)]) C.x C.b dX8_seat_29 hl (by decide) rfl (fun ls hl => ?_)
    refine lv_iload C.x C.b dX8_seat_31 (lv_at hl 0 rfl) ?_
    refine lv_iconst (v := (-1 : Int32)) C.x C.b dX8_seat_33 (by decide) ?_
    refine lv_icmp_ne (tgt := 42) C.x C.b dX8_seat_34 (by decide) (fun cb => ?_) (fun cb => ?_)
    · have hf := g_f cb hf
      refine lv_iload C.x C.b dX8_seat_42 (lv_at hl 0 rfl) ?_
      exact g_eip C G hr hlocks hf dX8_seat_44
    · have hf := g_t cb hf
      refine lv_bipush (v := (-2 : Int32)) C.x C.b dX8_seat_37 (by decide) ?_
      refine lv_goto (tgt := 44) C.x C.b dX8_seat_39 (by decide) ?_
      exact g_eip C G hr hlocks hf dX8_seat_44
  · have hf := g_t cb hf
    refine lv_iconst (v := (-1 : Int32)) C.x C.b dX8_seat_13 (by decide) ?_
    exact g_eip C G hr hlocks hf dX8_seat_14
def f_X8_holds (ad : gA) (σ : gS) (a1 : Int32) (a2 : Int32) : Option Int32 := ((f_X6_hasPerson ad σ a1).bind fun q2 => (if q2 = 0 then (some (-1 : Int32)) else ((f_X8_isYear ad σ a2).bind fun q3 => (if q3 = 0 then (some (-1 : Int32)) else (if g_ix a1 24 then (if σ 26 0 a1.toNatClampNeg < 0 then none else (if g_ix a2 200 then (if (σ 24 a1.toNatClampNeg a2.toNatClampNeg) = (-1 : Int32) then (some (-2 : Int32)) else (some ((σ 24 a1.toNatClampNeg a2.toNatClampNeg) - (σ 24 a1.toNatClampNeg a2.toNatClampNeg) / (100 : Int32) * (100 : Int32)))) else none)) else none)))))
theorem hd_X8_holds : yX8_holds.cls ≠ "java/lang/invoke/MethodHandle" ∧ yX8_holds.cls ≠ "java/lang/invoke/VarHandle" ∧ (parseMethodDescriptor yX8_holds.desc).map (fun d => d.parameters.length) = some 2 := by decide +kernel
set_option maxHeartbeats 4000000 in
set_option maxRecDepth 100000 in
theorem c_X8_holds (l : Launch) (D : va_G) (cy : Nat → ClassId) (A : Nat → Prop) (ad : gA) (L : gL)  (σ : gS) (hT : (8, 0) ∈ L) (a1 : Int32) (a2 : Int32) (r0 : Int32) (hf : f_X8_holds ad σ a1 a2 = some r0) : g_Mi l yX8_holds cX8_holds 4 (some .int) ({ frames := 1, cells := 0, slots := 0, locals := 21 } : Room) D cy A ad L σ [.ref (ad 8 0), .int a1, .int a2] r0 σ := by
  refine g_met (by decide) (Nat.le_of_ble_eq_true rfl) (fun p e s m below meth c C hr hlocks hnm G ls hl => ?_)
  have hl : lv_has ls 4 [(0, .ref (ad 8 0)), (1, .int a1), (2, .int a2)] := hl
  unfold f_X8_holds at hf
  refine lv_aload_n C.x C.b dX8_holds_0 rfl (lv_at hl 0 rfl) ?_
  refine g_getr C G 8 0 0 6 hT rfl ginX8 (by decide) tw284 dX8_holds_1 (fun hL1 => ?_)
  refine lv_iload_n C.x C.b dX8_holds_4 rfl (lv_at hl 1 rfl) ?_
  obtain ⟨q2, eq2, hf⟩ := g_b hf
  refine g_calli G (g_runV (As := [.int a1]) (rest := []) C G 6 0 (c_X6_hasPerson l D cy A ad L σ hL1 a1 q2 eq2) ⟨tw343, tw55, tw340, ⟨tw341, tw342⟩, hd_X6_hasPerson⟩ (by decide) hL1 rfl ⟨rfl, by decide⟩ hl.1 rfl (Nat.le_of_ble_eq_true rfl) dX8_holds_5 ⟨Nat.le_of_ble_eq_true rfl, Nat.le_of_ble_eq_true rfl⟩) (fun H locs G => ?_)
  refine lv_if_eq (tgt := 18) C.x C.b dX8_holds_8 (by decide) (fun cb => ?_) (fun cb => ?_)
  · have hf := g_t cb hf
    refine lv_iconst (v := (-1 : Int32)) C.x C.b dX8_holds_18 (by decide) ?_
    exact g_eip C G hr hlocks hf dX8_holds_19
  · have hf := g_f cb hf
    refine lv_iload_n C.x C.b dX8_holds_11 rfl (lv_at hl 2 rfl) ?_
    obtain ⟨q3, eq3, hf⟩ := g_b hf
    refine g_calli G (g_runS (As := [.int a2]) (rest := []) C G (c_X8_isYear l D cy A ad L σ a2 q3 eq3) ⟨tw419, tw54, tw417, tw418, hd_X8_isYear⟩ (by decide) hl.1 rfl (Nat.le_of_ble_eq_true rfl) dX8_holds_12 ⟨Nat.le_of_ble_eq_true rfl, Nat.le_of_ble_eq_true rfl⟩) (fun H locs G => ?_)
    refine lv_if_ne (tgt := 20) C.x C.b dX8_holds_15 (by decide) (fun cb => ?_) (fun cb => ?_)
    · have hf := g_f cb hf
      refine lv_aload_n C.x C.b dX8_holds_20 rfl (lv_at hl 0 rfl) ?_
      refine g_getr C G 8 0 0 6 hT rfl ginX8 (by decide) tw284 dX8_holds_21 (fun hL4 => ?_)
      refine g_getr C G 6 0 1 26 hL4 rfl ginX6 (by decide) tw119 dX8_holds_24 (fun hL5 => ?_)
      refine lv_iload_n C.x C.b dX8_holds_27 rfl (lv_at hl 1 rfl) ?_
      obtain ⟨hi6, hf⟩ := g_ok hf
      obtain ⟨hq7, hf⟩ := g_okn hf
      refine g_aldq (n := 24) C G 26 0 5 hL5 (by decide) rfl rfl hi6 hq7 dX8_holds_28 (fun hL8 => ?_)
      refine g_getr C G 5 a1.toNatClampNeg 2 24 hL8 rfl ginX5 (by decide) tw357 dX8_holds_29 (fun hL9 => ?_)
      refine lv_iload_n C.x C.b dX8_holds_32 rfl (lv_at hl 2 rfl) ?_
      obtain ⟨hi10, hf⟩ := g_ok hf
      refine g_bald (n := 200) C G 24 a1.toNatClampNeg hL9 (by decide) rfl hi10 dX8_holds_33 ?_
      refine lv_istore_n (lv' := [(3, .int (σ 24 a1.toNatClampNeg a2.toNatClampNeg)), (0, .ref (ad 8 0)), (1, .int a1), (2, .int a2)]) C.x C.b dX8_holds_34 rfl hl (by decide) rfl (fun ls hl => ?_)
      refine lv_iload_n C.x C.b dX8_holds_35 rfl (lv_at hl 0 rfl) ?_
      refine lv_iconst (v := (-1 : Int32)) C.x C.b dX8_holds_36 (by decide) ?_
      refine lv_icmp_ne (tgt := 45) C.x C.b dX8_holds_37 (by decide) (fun cb => ?_) (fun cb => ?_)
      · have hf := g_f cb hf
        refine lv_iload_n C.x C.b dX8_holds_45 rfl (lv_at hl 0 rfl) ?_
        refine lv_bipush (v := (100 : Int32)) C.x C.b dX8_holds_46 (by decide) ?_
        refine lv_irem C.x C.b dX8_holds_48 (by decide) ?_
        exact g_eip C G hr hlocks hf dX8_holds_49
      · have hf := g_t cb hf
        refine lv_bipush (v := (-2 : Int32)) C.x C.b dX8_holds_40 (by decide) ?_
        refine lv_goto (tgt := 49) C.x C.b dX8_holds_42 (by decide) ?_
        exact g_eip C G hr hlocks hf dX8_holds_49
    · have hf := g_t cb hf
      refine lv_iconst (v := (-1 : Int32)) C.x C.b dX8_holds_18 (by decide) ?_
      exact g_eip C G hr hlocks hf dX8_holds_19
def f_X8_held (ad : gA) (σ : gS) (a1 : Int32) (a2 : Int32) (a3 : Int32) : Option Int32 := ((f_X6_hasPerson ad σ a1).bind fun q2 => (if q2 = 0 then (some (-1 : Int32)) else ((f_X8_isYear ad σ a3).bind fun q3 => (if q3 = 0 then (some (-1 : Int32)) else (if a2 = (-1 : Int32) then (if g_ix a1 24 then (if σ 26 0 a1.toNatClampNeg < 0 then none else ((f_X5_yearsHeld ad σ a1.toNatClampNeg a2 a3).bind fun q9 => (some q9))) else none) else ((f_X6_hasOffice ad σ a2).bind fun q11 => (if q11 = 0 then (some (-1 : Int32)) else (if g_ix a1 24 then (if σ 26 0 a1.toNatClampNeg < 0 then none else ((f_X5_yearsHeld ad σ a1.toNatClampNeg a2 a3).bind fun q17 => (some q17))) else none))))))))
theorem hd_X8_held : yX8_held.cls ≠ "java/lang/invoke/MethodHandle" ∧ yX8_held.cls ≠ "java/lang/invoke/VarHandle" ∧ (parseMethodDescriptor yX8_held.desc).map (fun d => d.parameters.length) = some 3 := by decide +kernel
set_option maxHeartbeats 4000000 in
set_option maxRecDepth 100000 in
theorem c_X8_held (l : Launch) (D : va_G) (cy : Nat → ClassId) (A : Nat → Prop) (ad : gA) (L : gL)  (σ : gS) (hT : (8, 0) ∈ L) (a1 : Int32) (a2 : Int32) (a3 : Int32) (r0 : Int32) (hf : f_X8_held ad σ a1 a2 a3 = some r0) : g_Mi l yX8_held cX8_held 4 (some .int) ({ frames := 1, cells := 0, slots := 0, locals := 25 } : Room) D cy A ad L σ [.ref (ad 8 0), .int a1, .int a2, .int a3] r0 σ := by
  refine g_met (by decide) (Nat.le_of_ble_eq_true rfl) (fun p e s m below meth c C hr hlocks hnm G ls hl => ?_)
  have hl : lv_has ls 4 [(0, .ref (ad 8 0)), (1, .int a1), (2, .int a2), (3, .int a3)] := hl
  unfold f_X8_held at hf
  refine lv_aload_n C.x C.b dX8_held_0 rfl (lv_at hl 0 rfl) ?_
  refine g_getr C G 8 0 0 6 hT rfl ginX8 (by decide) tw284 dX8_held_1 (fun hL1 => ?_)
  refine lv_iload_n C.x C.b dX8_held_4 rfl (lv_at hl 1 rfl) ?_
  obtain ⟨q2, eq2, hf⟩ := g_b hf
  refine g_calli G (g_runV (As := [.int a1]) (rest := []) C G 6 0 (c_X6_hasPerson l D cy A ad L σ hL1 a1 q2 eq2) ⟨tw343, tw55, tw340, ⟨tw341, tw342⟩, hd_X6_hasPerson⟩ (by decide) hL1 rfl ⟨rfl, by decide⟩ hl.1 rfl (Nat.le_of_ble_eq_true rfl) dX8_held_5 ⟨Nat.le_of_ble_eq_true rfl, Nat.le_of_ble_eq_true rfl⟩) (fun H locs G => ?_)
  refine lv_if_eq (tgt := 18) C.x C.b dX8_held_8 (by decide) (fun cb => ?_) (fun cb => ?_)
  · have hf := g_t cb hf
    refine lv_iconst (v := (-1 : Int32)) C.x C.b dX8_held_18 (by decide) ?_
    exact g_eip C G hr hlocks hf dX8_held_19
  · have hf := g_f cb hf
    refine lv_iload_n C.x C.b dX8_held_11 rfl (lv_at hl 3 rfl) ?_
    obtain ⟨q3, eq3, hf⟩ := g_b hf
    refine g_calli G (g_runS (As := [.int a3]) (rest := []) C G (c_X8_isYear l D cy A ad L σ a3 q3 eq3) ⟨tw419, tw54, tw417, tw418, hd_X8_isYear⟩ (by decide) hl.1 rfl (Nat.le_of_ble_eq_true rfl) dX8_held_12 ⟨Nat.le_of_ble_eq_true rfl, Nat.le_of_ble_eq_true rfl⟩) (fun H locs G => ?_)
    refine lv_if_ne (tgt := 20) C.x C.b dX8_held_15 (by decide) (fun cb => ?_) (fun cb => ?_)
    · have hf := g_f cb hf
      refine lv_iload_n C.x C.b dX8_held_20 rfl (lv_at hl 2 rfl) ?_
      refine lv_iconst (v := (-1 : Int32)) C.x C.b dX8_held_21 (by decide) ?_
      refine lv_icmp_eq (tgt := 38) C.x C.b dX8_held_22 (by decide) (fun cb => ?_) (fun cb => ?_)
      · have hf := g_t cb hf
        refine lv_aload_n C.x C.b dX8_held_38 rfl (lv_at hl 0 rfl) ?_
        refine g_getr C G 8 0 0 6 hT rfl ginX8 (by decide) tw284 dX8_held_39 (fun hL4 => ?_)
        refine g_getr C G 6 0 1 26 hL4 rfl ginX6 (by decide) tw119 dX8_held_42 (fun hL5 => ?_)
        refine lv_iload_n C.x C.b dX8_held_45 rfl (lv_at hl 1 rfl) ?_
        obtain ⟨hi6, hf⟩ := g_ok hf
        obtain ⟨hq7, hf⟩ := g_okn hf
        refine g_aldq (n := 24) C G 26 0 5 hL5 (by decide) rfl rfl hi6 hq7 dX8_held_46 (fun hL8 => ?_)
        refine lv_iload_n C.x C.b dX8_held_47 rfl (lv_at hl 2 rfl) ?_
        refine lv_iload_n C.x C.b dX8_held_48 rfl (lv_at hl 3 rfl) ?_
        obtain ⟨q9, eq9, hf⟩ := g_b hf
        refine g_calli G (g_runV (As := [.int a2, .int a3]) (rest := []) C G 5 a1.toNatClampNeg (c_X5_yearsHeld l D cy A ad L σ a1.toNatClampNeg hL8 a2 a3 q9 eq9) ⟨tw553, tw63, tw550, ⟨tw551, tw552⟩, hd_X5_yearsHeld⟩ (by decide) hL8 rfl ⟨rfl, by decide⟩ hl.1 rfl (Nat.le_of_ble_eq_true rfl) dX8_held_49 ⟨Nat.le_of_ble_eq_true rfl, Nat.le_of_ble_eq_true rfl⟩) (fun H locs G => ?_)
        exact g_eip C G hr hlocks hf dX8_held_52
      · have hf := g_f cb hf
        refine lv_aload_n C.x C.b dX8_held_25 rfl (lv_at hl 0 rfl) ?_
        refine g_getr C G 8 0 0 6 hT rfl ginX8 (by decide) tw284 dX8_held_26 (fun hL10 => ?_)
        refine lv_iload_n C.x C.b dX8_held_29 rfl (lv_at hl 2 rfl) ?_
        obtain ⟨q11, eq11, hf⟩ := g_b hf
        refine g_calli G (g_runV (As := [.int a2]) (rest := []) C G 6 0 (c_X6_hasOffice l D cy A ad L σ hL10 a2 q11 eq11) ⟨tw439, tw55, tw436, ⟨tw437, tw438⟩, hd_X6_hasOffice⟩ (by decide) hL10 rfl ⟨rfl, by decide⟩ hl.1 rfl (Nat.le_of_ble_eq_true rfl) dX8_held_30 ⟨Nat.le_of_ble_eq_true rfl, Nat.le_of_ble_eq_true rfl⟩) (fun H locs G => ?_)
        refine lv_if_ne (tgt := 38) C.x C.b dX8_held_33 (by decide) (fun cb => ?_) (fun cb => ?_)
        · have hf := g_f cb hf
          refine lv_aload_n C.x C.b dX8_held_38 rfl (lv_at hl 0 rfl) ?_
          refine g_getr C G 8 0 0 6 hT rfl ginX8 (by decide) tw284 dX8_held_39 (fun hL12 => ?_)
          refine g_getr C G 6 0 1 26 hL12 rfl ginX6 (by decide) tw119 dX8_held_42 (fun hL13 => ?_)
          refine lv_iload_n C.x C.b dX8_held_45 rfl (lv_at hl 1 rfl) ?_
          obtain ⟨hi14, hf⟩ := g_ok hf
          obtain ⟨hq15, hf⟩ := g_okn hf
          refine g_aldq (n := 24) C G 26 0 5 hL13 (by decide) rfl rfl hi14 hq15 dX8_held_46 (fun hL16 => ?_)
          refine lv_iload_n C.x C.b dX8_held_47 rfl (lv_at hl 2 rfl) ?_
          refine lv_iload_n C.x C.b dX8_held_48 rfl (lv_at hl 3 rfl) ?_
          obtain ⟨q17, eq17, hf⟩ := g_b hf
          refine g_calli G (g_runV (As := [.int a2, .int a3]) (rest := []) C G 5 a1.toNatClampNeg (c_X5_yearsHeld l D cy A ad L σ a1.toNatClampNeg hL16 a2 a3 q17 eq17) ⟨tw553, tw63, tw550, ⟨tw551, tw552⟩, hd_X5_yearsHeld⟩ (by decide) hL16 rfl ⟨rfl, by decide⟩ hl.1 rfl (Nat.le_of_ble_eq_true rfl) dX8_held_49 ⟨Nat.le_of_ble_eq_true rfl, Nat.le_of_ble_eq_true rfl⟩) (fun H locs G => ?_)
          exact g_eip C G hr hlocks hf dX8_held_52
        · have hf := g_t cb hf
          refine lv_iconst (v := (-1 : Int32)) C.x C.b dX8_held_36 (by decide) ?_
          exact g_eip C G hr hlocks hf dX8_held_37
    · have hf := g_t cb hf
      refine lv_iconst (v := (-1 : Int32)) C.x C.b dX8_held_18 (by decide) ?_
      exact g_eip C G hr hlocks hf dX8_held_19
def f_X8_could (ad : gA) (σ : gS) (a1 : Int32) (a2 : Int32) (a3 : Int32) (a4 : Int32) : Option (Int32 × gS) := ((f_X6_hasPerson ad σ a1).bind fun q2 => (if q2 = 0 then (some ((-1 : Int32), σ)) else ((f_X6_hasOffice ad σ a2).bind fun q4 => (if q4 = 0 then (some ((-1 : Int32), σ)) else ((f_X8_isYear ad σ a3).bind fun q5 => (if q5 = 0 then (some ((-1 : Int32), σ)) else (if a4 = 0 then ((f_X6_level ad σ a1 a2 a3).bind fun q9 => (some (q9.1, q9.2))) else (if a4 = (1 : Int32) then ((f_X6_firstBar ad σ a1 a2 a3 (1 : Int32)).bind fun q7 => (some (q7.1, q7.2))) else (some ((-1 : Int32), σ))))))))))
theorem hd_X8_could : yX8_could.cls ≠ "java/lang/invoke/MethodHandle" ∧ yX8_could.cls ≠ "java/lang/invoke/VarHandle" ∧ (parseMethodDescriptor yX8_could.desc).map (fun d => d.parameters.length) = some 4 := by decide +kernel
set_option maxHeartbeats 4000000 in
set_option maxRecDepth 100000 in
theorem c_X8_could (l : Launch) (D : va_G) (cy : Nat → ClassId) (A : Nat → Prop) (ad : gA) (L : gL)  (σ : gS) (hT : (8, 0) ∈ L) (a1 : Int32) (a2 : Int32) (a3 : Int32) (a4 : Int32) (r0 : Int32) (σ0 : gS) (hf : f_X8_could ad σ a1 a2 a3 a4 = some (r0, σ0)) : g_Mi l yX8_could cX8_could 5 (some .int) ({ frames := 5, cells := 0, slots := 0, locals := 122 } : Room) D cy A ad L σ [.ref (ad 8 0), .int a1, .int a2, .int a3, .int a4] r0 σ0 := by
  refine g_met (by decide) (Nat.le_of_ble_eq_true rfl) (fun p e s m below meth c C hr hlocks hnm G ls hl => ?_)
  have hl : lv_has ls 5 [(0, .ref (ad 8 0)), (1, .int a1), (2, .int a2), (3, .int a3), (4, .int a4)] := hl
  unfold f_X8_could at hf
  refine lv_aload_n C.x C.b dX8_could_0 rfl (lv_at hl 0 rfl) ?_
  refine g_getr C G 8 0 0 6 hT rfl ginX8 (by decide) tw284 dX8_could_1 (fun hL1 => ?_)
  refine lv_iload_n C.x C.b dX8_could_4 rfl (lv_at hl 1 rfl) ?_
  obtain ⟨q2, eq2, hf⟩ := g_b hf
  refine g_calli G (g_runV (As := [.int a1]) (rest := []) C G 6 0 (c_X6_hasPerson l D cy A ad L σ hL1 a1 q2 eq2) ⟨tw343, tw55, tw340, ⟨tw341, tw342⟩, hd_X6_hasPerson⟩ (by decide) hL1 rfl ⟨rfl, by decide⟩ hl.1 rfl (Nat.le_of_ble_eq_true rfl) dX8_could_5 ⟨Nat.le_of_ble_eq_true rfl, Nat.le_of_ble_eq_true rfl⟩) (fun H locs G => ?_)
  refine lv_if_eq (tgt := 29) C.x C.b dX8_could_8 (by decide) (fun cb => ?_) (fun cb => ?_)
  · have hf := g_t cb hf
    refine lv_iconst (v := (-1 : Int32)) C.x C.b dX8_could_29 (by decide) ?_
    exact g_eii C G hr hlocks hf dX8_could_30
  · have hf := g_f cb hf
    refine lv_aload_n C.x C.b dX8_could_11 rfl (lv_at hl 0 rfl) ?_
    refine g_getr C G 8 0 0 6 hT rfl ginX8 (by decide) tw284 dX8_could_12 (fun hL3 => ?_)
    refine lv_iload_n C.x C.b dX8_could_15 rfl (lv_at hl 2 rfl) ?_
    obtain ⟨q4, eq4, hf⟩ := g_b hf
    refine g_calli G (g_runV (As := [.int a2]) (rest := []) C G 6 0 (c_X6_hasOffice l D cy A ad L σ hL3 a2 q4 eq4) ⟨tw439, tw55, tw436, ⟨tw437, tw438⟩, hd_X6_hasOffice⟩ (by decide) hL3 rfl ⟨rfl, by decide⟩ hl.1 rfl (Nat.le_of_ble_eq_true rfl) dX8_could_16 ⟨Nat.le_of_ble_eq_true rfl, Nat.le_of_ble_eq_true rfl⟩) (fun H locs G => ?_)
    refine lv_if_eq (tgt := 29) C.x C.b dX8_could_19 (by decide) (fun cb => ?_) (fun cb => ?_)
    · have hf := g_t cb hf
      refine lv_iconst (v := (-1 : Int32)) C.x C.b dX8_could_29 (by decide) ?_
      exact g_eii C G hr hlocks hf dX8_could_30
    · have hf := g_f cb hf
      refine lv_iload_n C.x C.b dX8_could_22 rfl (lv_at hl 3 rfl) ?_
      obtain ⟨q5, eq5, hf⟩ := g_b hf
      refine g_calli G (g_runS (As := [.int a3]) (rest := []) C G (c_X8_isYear l D cy A ad L σ a3 q5 eq5) ⟨tw419, tw54, tw417, tw418, hd_X8_isYear⟩ (by decide) hl.1 rfl (Nat.le_of_ble_eq_true rfl) dX8_could_23 ⟨Nat.le_of_ble_eq_true rfl, Nat.le_of_ble_eq_true rfl⟩) (fun H locs G => ?_)
      refine lv_if_ne (tgt := 31) C.x C.b dX8_could_26 (by decide) (fun cb => ?_) (fun cb => ?_)
      · have hf := g_f cb hf
        refine lv_iload C.x C.b dX8_could_31 (lv_at hl 4 rfl) ?_
        refine lv_if_ne (tgt := 47) C.x C.b dX8_could_33 (by decide) (fun cb => ?_) (fun cb => ?_)
        · have hf := g_f cb hf
          refine lv_iload C.x C.b dX8_could_47 (lv_at hl 4 rfl) ?_
          refine lv_iconst (v := (1 : Int32)) C.x C.b dX8_could_49 (by decide) ?_
          refine lv_icmp_ne (tgt := 67) C.x C.b dX8_could_50 (by decide) (fun cb => ?_) (fun cb => ?_)
          · have hf := g_f cb hf
            refine lv_iconst (v := (-1 : Int32)) C.x C.b dX8_could_67 (by decide) ?_
            exact g_eii C G hr hlocks hf dX8_could_68
          · have hf := g_t cb hf
            refine lv_aload_n C.x C.b dX8_could_53 rfl (lv_at hl 0 rfl) ?_
            refine g_getr C G 8 0 0 6 hT rfl ginX8 (by decide) tw284 dX8_could_54 (fun hL6 => ?_)
            refine lv_iload_n C.x C.b dX8_could_57 rfl (lv_at hl 1 rfl) ?_
            refine lv_iload_n C.x C.b dX8_could_58 rfl (lv_at hl 2 rfl) ?_
            refine lv_iload_n C.x C.b dX8_could_59 rfl (lv_at hl 3 rfl) ?_
            refine lv_iconst (v := (1 : Int32)) C.x C.b dX8_could_60 (by decide) ?_
            obtain ⟨q7, eq7, hf⟩ := g_b hf
            refine g_calli G (g_runV (As := [.int a1, .int a2, .int a3, .int (1 : Int32)]) (rest := []) C G 6 0 (c_X6_firstBar l D cy A ad L σ hL6 a1 a2 a3 (1 : Int32) q7.1 q7.2 eq7) ⟨tw565, tw55, tw586, ⟨tw563, tw564⟩, hd_X6_firstBar⟩ (by decide) hL6 rfl ⟨rfl, by decide⟩ hl.1 rfl (Nat.le_of_ble_eq_true rfl) dX8_could_61 ⟨Nat.le_of_ble_eq_true rfl, Nat.le_of_ble_eq_true rfl⟩) (fun H locs G => ?_)
            refine lv_goto (tgt := 68) C.x C.b dX8_could_64 (by decide) ?_
            exact g_eii C G hr hlocks hf dX8_could_68
        · have hf := g_t cb hf
          refine lv_aload_n C.x C.b dX8_could_36 rfl (lv_at hl 0 rfl) ?_
          refine g_getr C G 8 0 0 6 hT rfl ginX8 (by decide) tw284 dX8_could_37 (fun hL8 => ?_)
          refine lv_iload_n C.x C.b dX8_could_40 rfl (lv_at hl 1 rfl) ?_
          refine lv_iload_n C.x C.b dX8_could_41 rfl (lv_at hl 2 rfl) ?_
          refine lv_iload_n C.x C.b dX8_could_42 rfl (lv_at hl 3 rfl) ?_
          obtain ⟨q9, eq9, hf⟩ := g_b hf
          refine g_calli G (g_runV (As := [.int a1, .int a2, .int a3]) (rest := []) C G 6 0 (c_X6_level l D cy A ad L σ hL8 a1 a2 a3 q9.1 q9.2 eq9) ⟨tw561, tw55, tw558, ⟨tw559, tw560⟩, hd_X6_level⟩ (by decide) hL8 rfl ⟨rfl, by decide⟩ hl.1 rfl (Nat.le_of_ble_eq_true rfl) dX8_could_43 ⟨Nat.le_of_ble_eq_true rfl, Nat.le_of_ble_eq_true rfl⟩) (fun H locs G => ?_)
          exact g_eii C G hr hlocks hf dX8_could_46
      · have hf := g_t cb hf
        refine lv_iconst (v := (-1 : Int32)) C.x C.b dX8_could_29 (by decide) ?_
        exact g_eii C G hr hlocks hf dX8_could_30
def f_X8_first_P79 (σ : gS) : Option (Int32 × gS) := (some ((-2 : Int32), σ))
def f_X8_first_L46 (ad : gA) (a1 : Int32) (a2 : Int32) (K46 : gS → Option (Int32 × gS)) : Nat → gS → Int32 → Int32 → Option (Int32 × gS)
  | 0, _, _, _ => none
  | n + 1, σ, v5, v6 => (if (200 : Int32) ≤ v6 then (K46 σ) else ((f_X6_level ad σ a1 a2 v6).bind fun q7 => (if q7.1 < v5 then (f_X8_first_L46 ad a1 a2 K46 n q7.2 v5 (v6 + (1 : Int32))) else (some (v6, q7.2)))))
def f_X8_first (ad : gA) (σ : gS) (a1 : Int32) (a2 : Int32) (a3 : Int32) (a4 : Int32) : Option (Int32 × gS) := ((f_X6_hasPerson ad σ a1).bind fun q2 => (if q2 = 0 then (some ((-1 : Int32), σ)) else ((f_X6_hasOffice ad σ a2).bind fun q4 => (if q4 = 0 then (some ((-1 : Int32), σ)) else ((f_X8_isYear ad σ a3).bind fun q5 => (if q5 = 0 then (some ((-1 : Int32), σ)) else (if a4 = 0 then (f_X8_first_L46 ad a1 a2 (f_X8_first_P79) g_fuel σ (1 : Int32) a3) else (f_X8_first_L46 ad a1 a2 (f_X8_first_P79) g_fuel σ (2 : Int32) a3))))))))
theorem hd_X8_first : yX8_first.cls ≠ "java/lang/invoke/MethodHandle" ∧ yX8_first.cls ≠ "java/lang/invoke/VarHandle" ∧ (parseMethodDescriptor yX8_first.desc).map (fun d => d.parameters.length) = some 4 := by decide +kernel
set_option maxHeartbeats 4000000 in
set_option maxRecDepth 100000 in
theorem c_X8_first (l : Launch) (D : va_G) (cy : Nat → ClassId) (A : Nat → Prop) (ad : gA) (L : gL)  (σ : gS) (hT : (8, 0) ∈ L) (a1 : Int32) (a2 : Int32) (a3 : Int32) (a4 : Int32) (r0 : Int32) (σ0 : gS) (hf : f_X8_first ad σ a1 a2 a3 a4 = some (r0, σ0)) : g_Mi l yX8_first cX8_first 7 (some .int) ({ frames := 5, cells := 0, slots := 0, locals := 122 } : Room) D cy A ad L σ [.ref (ad 8 0), .int a1, .int a2, .int a3, .int a4] r0 σ0 := by
  refine g_met (by decide) (Nat.le_of_ble_eq_true rfl) (fun p e s m below meth c C hr hlocks hnm G ls hl => ?_)
  have hl : lv_has ls 7 [(0, .ref (ad 8 0)), (1, .int a1), (2, .int a2), (3, .int a3), (4, .int a4)] := hl
  have pt79 : ∀ (σ : gS) (H : Heap) (locs : List Loc) (ls : Array Slot), g_H D cy A ad L σ s.heap H locs → lv_has ls 7 [] → f_X8_first_P79 σ = some (r0, σ0) → g_Wi p l e ({ frames := 5, cells := 0, slots := 0, locals := 122 } : Room) s m below meth c H locs 0 0 D cy A ad L [.ref (ad 8 0), .int a1, .int a2, .int a3, .int a4] r0 σ0 (F0 m 79 ls []) := by
    intro σ H locs ls G hl hf
    unfold f_X8_first_P79 at hf
    refine lv_bipush (v := (-2 : Int32)) C.x C.b dX8_first_79 (by decide) ?_
    exact g_eii C G hr hlocks hf dX8_first_81
  have lp46 : ∀ n46 : Nat, ∀ (σ : gS) (v5 : Int32) (v6 : Int32) (H : Heap) (locs : List Loc) (ls : Array Slot), g_H D cy A ad L σ s.heap H locs → lv_has ls 7 [(0, .ref (ad 8 0)), (1, .int a1), (2, .int a2), (5, .int v5), (6, .int v6)] → f_X8_first_L46 ad a1 a2 (f_X8_first_P79) n46 σ v5 v6 = some (r0, σ0) → g_Wi p l e ({ frames := 5, cells := 0, slots := 0, locals := 122 } : Room) s m below meth c H locs 0 0 D cy A ad L [.ref (ad 8 0), .int a1, .int a2, .int a3, .int a4] r0 σ0 (F0 m 46 ls []) := by
    intro n46
    induction n46 with
    | zero =>
      intro σ v5 v6 H locs ls G hl hf
      rw [f_X8_first_L46] at hf
      cases hf
    | succ n46 ih46 =>
      intro σ v5 v6 H locs ls G hl hf
      rw [f_X8_first_L46] at hf
      refine lv_iload C.x C.b dX8_first_46 (lv_at hl 4 rfl) ?_
      refine lv_sipush (v := (200 : Int32)) C.x C.b dX8_first_48 (by decide) ?_
      refine lv_icmp_ge (tgt := 79) C.x C.b dX8_first_51 (by decide) (fun cb => ?_) (fun cb => ?_)
      · have hf := g_t cb hf
        exact pt79 σ _ _ ls G (lv_sub hl [] rfl) hf
      · have hf := g_f cb hf
        refine lv_aload_n C.x C.b dX8_first_54 rfl (lv_at hl 0 rfl) ?_
        refine g_getr C G 8 0 0 6 hT rfl ginX8 (by decide) tw284 dX8_first_55 (fun hL6 => ?_)
        refine lv_iload_n C.x C.b dX8_first_58 rfl (lv_at hl 1 rfl) ?_
        refine lv_iload_n C.x C.b dX8_first_59 rfl (lv_at hl 2 rfl) ?_
        refine lv_iload C.x C.b dX8_first_60 (lv_at hl 4 rfl) ?_
        obtain ⟨q7, eq7, hf⟩ := g_b hf
        refine g_calli G (g_runV (As := [.int a1, .int a2, .int v6]) (rest := []) C G 6 0 (c_X6_level l D cy A ad L σ hL6 a1 a2 v6 q7.1 q7.2 eq7) ⟨tw561, tw55, tw558, ⟨tw559, tw560⟩, hd_X6_level⟩ (by decide) hL6 rfl ⟨rfl, by decide⟩ hl.1 rfl (Nat.le_of_ble_eq_true rfl) dX8_first_62 ⟨Nat.le_of_ble_eq_true rfl, Nat.le_of_ble_eq_true rfl⟩) (fun H locs G => ?_)
        refine lv_iload C.x C.b dX8_first_65 (lv_at hl 3 rfl) ?_
        refine lv_icmp_lt (tgt := 73) C.x C.b dX8_first_67 (by decide) (fun cb => ?_) (fun cb => ?_)
        · have hf := g_t cb hf
          refine lv_iinc (v := (v6 + (1 : Int32))) (lv' := [(6, .int (v6 + (1 : Int32))), (0, .ref (ad 8 0)), (1, .int a1), (2, .int a2), (5, .int v5)]) C.x C.b dX8_first_73 hl (k := 4) rfl rfl (by decide) rfl (fun ls hl => ?_)
          refine lv_goto (tgt := 46) C.x C.b dX8_first_76 (by decide) ?_
          exact ih46 q7.2 v5 (v6 + (1 : Int32)) _ _ ls G (lv_sub hl [1, 2, 3, 4, 0] rfl) hf
        · have hf := g_f cb hf
          refine lv_iload C.x C.b dX8_first_70 (lv_at hl 4 rfl) ?_
          exact g_eii C G hr hlocks hf dX8_first_72
  unfold f_X8_first at hf
  refine lv_aload_n C.x C.b dX8_first_0 rfl (lv_at hl 0 rfl) ?_
  refine g_getr C G 8 0 0 6 hT rfl ginX8 (by decide) tw284 dX8_first_1 (fun hL1 => ?_)
  refine lv_iload_n C.x C.b dX8_first_4 rfl (lv_at hl 1 rfl) ?_
  obtain ⟨q2, eq2, hf⟩ := g_b hf
  refine g_calli G (g_runV (As := [.int a1]) (rest := []) C G 6 0 (c_X6_hasPerson l D cy A ad L σ hL1 a1 q2 eq2) ⟨tw343, tw55, tw340, ⟨tw341, tw342⟩, hd_X6_hasPerson⟩ (by decide) hL1 rfl ⟨rfl, by decide⟩ hl.1 rfl (Nat.le_of_ble_eq_true rfl) dX8_first_5 ⟨Nat.le_of_ble_eq_true rfl, Nat.le_of_ble_eq_true rfl⟩) (fun H locs G => ?_)
  refine lv_if_eq (tgt := 29) C.x C.b dX8_first_8 (by decide) (fun cb => ?_) (fun cb => ?_)
  · have hf := g_t cb hf
    refine lv_iconst (v := (-1 : Int32)) C.x C.b dX8_first_29 (by decide) ?_
    exact g_eii C G hr hlocks hf dX8_first_30
  · have hf := g_f cb hf
    refine lv_aload_n C.x C.b dX8_first_11 rfl (lv_at hl 0 rfl) ?_
    refine g_getr C G 8 0 0 6 hT rfl ginX8 (by decide) tw284 dX8_first_12 (fun hL3 => ?_)
    refine lv_iload_n C.x C.b dX8_first_15 rfl (lv_at hl 2 rfl) ?_
    obtain ⟨q4, eq4, hf⟩ := g_b hf
    refine g_calli G (g_runV (As := [.int a2]) (rest := []) C G 6 0 (c_X6_hasOffice l D cy A ad L σ hL3 a2 q4 eq4) ⟨tw439, tw55, tw436, ⟨tw437, tw438⟩, hd_X6_hasOffice⟩ (by decide) hL3 rfl ⟨rfl, by decide⟩ hl.1 rfl (Nat.le_of_ble_eq_true rfl) dX8_first_16 ⟨Nat.le_of_ble_eq_true rfl, Nat.le_of_ble_eq_true rfl⟩) (fun H locs G => ?_)
    refine lv_if_eq (tgt := 29) C.x C.b dX8_first_19 (by decide) (fun cb => ?_) (fun cb => ?_)
    · have hf := g_t cb hf
      refine lv_iconst (v := (-1 : Int32)) C.x C.b dX8_first_29 (by decide) ?_
      exact g_eii C G hr hlocks hf dX8_first_30
    · have hf := g_f cb hf
      refine lv_iload_n C.x C.b dX8_first_22 rfl (lv_at hl 3 rfl) ?_
      obtain ⟨q5, eq5, hf⟩ := g_b hf
      refine g_calli G (g_runS (As := [.int a3]) (rest := []) C G (c_X8_isYear l D cy A ad L σ a3 q5 eq5) ⟨tw419, tw54, tw417, tw418, hd_X8_isYear⟩ (by decide) hl.1 rfl (Nat.le_of_ble_eq_true rfl) dX8_first_23 ⟨Nat.le_of_ble_eq_true rfl, Nat.le_of_ble_eq_true rfl⟩) (fun H locs G => ?_)
      refine lv_if_ne (tgt := 31) C.x C.b dX8_first_26 (by decide) (fun cb => ?_) (fun cb => ?_)
      · have hf := g_f cb hf
        refine lv_iload C.x C.b dX8_first_31 (lv_at hl 4 rfl) ?_
        refine lv_if_eq (tgt := 40) C.x C.b dX8_first_33 (by decide) (fun cb => ?_) (fun cb => ?_)
        · have hf := g_t cb hf
          refine lv_iconst (v := (1 : Int32)) C.x C.b dX8_first_40 (by decide) ?_
          refine lv_istore (lv' := [(5, .int (1 : Int32)), (0, .ref (ad 8 0)), (1, .int a1), (2, .int a2), (3, .int a3), (4, .int a4)]) C.x C.b dX8_first_41 hl (by decide) rfl (fun ls hl => ?_)
          refine lv_iload_n C.x C.b dX8_first_43 rfl (lv_at hl 4 rfl) ?_
          refine lv_istore (lv' := [(6, .int a3), (5, .int (1 : Int32)), (0, .ref (ad 8 0)), (1, .int a1), (2, .int a2), (3, .int a3), (4, .int a4)]) C.x C.b dX8_first_44 hl (by decide) rfl (fun ls hl => ?_)
          exact lp46 g_fuel σ (1 : Int32) a3 _ _ ls G (lv_sub hl [2, 3, 4, 1, 0] rfl) hf
        · have hf := g_f cb hf
          refine lv_iconst (v := (2 : Int32)) C.x C.b dX8_first_36 (by decide) ?_
          refine lv_goto (tgt := 41) C.x C.b dX8_first_37 (by decide) ?_
          refine lv_istore (lv' := [(5, .int (2 : Int32)), (0, .ref (ad 8 0)), (1, .int a1), (2, .int a2), (3, .int a3), (4, .int a4)]) C.x C.b dX8_first_41 hl (by decide) rfl (fun ls hl => ?_)
          refine lv_iload_n C.x C.b dX8_first_43 rfl (lv_at hl 4 rfl) ?_
          refine lv_istore (lv' := [(6, .int a3), (5, .int (2 : Int32)), (0, .ref (ad 8 0)), (1, .int a1), (2, .int a2), (3, .int a3), (4, .int a4)]) C.x C.b dX8_first_44 hl (by decide) rfl (fun ls hl => ?_)
          exact lp46 g_fuel σ (2 : Int32) a3 _ _ ls G (lv_sub hl [2, 3, 4, 1, 0] rfl) hf
      · have hf := g_t cb hf
        refine lv_iconst (v := (-1 : Int32)) C.x C.b dX8_first_29 (by decide) ?_
        exact g_eii C G hr hlocks hf dX8_first_30
def f_X8_who_P74 (σ : gS) (v5 : Int32) : Option (Int32 × gS) := (some (v5, σ))
def f_X8_who_L37 (ad : gA) (a1 : Int32) (a2 : Int32) (K37 : gS → Int32 → Option (Int32 × gS)) : Nat → gS → Int32 → Int32 → Int32 → Option (Int32 × gS)
  | 0, _, _, _, _ => none
  | n + 1, σ, v4, v5, v6 => (if (σ 6 0 4) ≤ v6 then (K37 σ v5) else ((f_X6_level ad σ v6 a1 a2).bind fun q6 => (if q6.1 < v4 then (f_X8_who_L37 ad a1 a2 K37 n q6.2 v4 v5 (v6 + (1 : Int32))) else (f_X8_who_L37 ad a1 a2 K37 n q6.2 v4 (v5 + (1 : Int32)) (v6 + (1 : Int32))))))
def f_X8_who_P29 (ad : gA) (a1 : Int32) (a2 : Int32) (σ : gS) (k0 : Int32) : Option (Int32 × gS) := (f_X8_who_L37 ad a1 a2 (f_X8_who_P74) g_fuel σ k0 (0 : Int32) (0 : Int32))
def f_X8_who (ad : gA) (σ : gS) (a1 : Int32) (a2 : Int32) (a3 : Int32) : Option (Int32 × gS) := ((f_X6_hasOffice ad σ a1).bind fun q2 => (if q2 = 0 then (some ((-1 : Int32), σ)) else ((f_X8_isYear ad σ a2).bind fun q3 => (if q3 = 0 then (some ((-1 : Int32), σ)) else (if a3 = 0 then (f_X8_who_P29 ad a1 a2 σ (1 : Int32)) else (f_X8_who_P29 ad a1 a2 σ (2 : Int32)))))))
theorem hd_X8_who : yX8_who.cls ≠ "java/lang/invoke/MethodHandle" ∧ yX8_who.cls ≠ "java/lang/invoke/VarHandle" ∧ (parseMethodDescriptor yX8_who.desc).map (fun d => d.parameters.length) = some 3 := by decide +kernel
set_option maxHeartbeats 4000000 in
set_option maxRecDepth 100000 in
theorem c_X8_who (l : Launch) (D : va_G) (cy : Nat → ClassId) (A : Nat → Prop) (ad : gA) (L : gL)  (σ : gS) (hT : (8, 0) ∈ L) (a1 : Int32) (a2 : Int32) (a3 : Int32) (r0 : Int32) (σ0 : gS) (hf : f_X8_who ad σ a1 a2 a3 = some (r0, σ0)) : g_Mi l yX8_who cX8_who 7 (some .int) ({ frames := 5, cells := 0, slots := 0, locals := 122 } : Room) D cy A ad L σ [.ref (ad 8 0), .int a1, .int a2, .int a3] r0 σ0 := by
  refine g_met (by decide) (Nat.le_of_ble_eq_true rfl) (fun p e s m below meth c C hr hlocks hnm G ls hl => ?_)
  have hl : lv_has ls 7 [(0, .ref (ad 8 0)), (1, .int a1), (2, .int a2), (3, .int a3)] := hl
  have pt74 : ∀ (σ : gS) (v5 : Int32) (H : Heap) (locs : List Loc) (ls : Array Slot), g_H D cy A ad L σ s.heap H locs → lv_has ls 7 [(5, .int v5)] → f_X8_who_P74 σ v5 = some (r0, σ0) → g_Wi p l e ({ frames := 5, cells := 0, slots := 0, locals := 122 } : Room) s m below meth c H locs 0 0 D cy A ad L [.ref (ad 8 0), .int a1, .int a2, .int a3] r0 σ0 (F0 m 74 ls []) := by
    intro σ v5 H locs ls G hl hf
    unfold f_X8_who_P74 at hf
    refine lv_iload C.x C.b dX8_who_74 (lv_at hl 0 rfl) ?_
    exact g_eii C G hr hlocks hf dX8_who_76
  have lp37 : ∀ n37 : Nat, ∀ (σ : gS) (v4 : Int32) (v5 : Int32) (v6 : Int32) (H : Heap) (locs : List Loc) (ls : Array Slot), g_H D cy A ad L σ s.heap H locs → lv_has ls 7 [(0, .ref (ad 8 0)), (1, .int a1), (2, .int a2), (4, .int v4), (5, .int v5), (6, .int v6)] → f_X8_who_L37 ad a1 a2 (f_X8_who_P74) n37 σ v4 v5 v6 = some (r0, σ0) → g_Wi p l e ({ frames := 5, cells := 0, slots := 0, locals := 122 } : Room) s m below meth c H locs 0 0 D cy A ad L [.ref (ad 8 0), .int a1, .int a2, .int a3] r0 σ0 (F0 m 37 ls []) := by
    intro n37
    induction n37 with
    | zero =>
      intro σ v4 v5 v6 H locs ls G hl hf
      rw [f_X8_who_L37] at hf
      cases hf
    | succ n37 ih37 =>
      intro σ v4 v5 v6 H locs ls G hl hf
      rw [f_X8_who_L37] at hf
      refine lv_iload C.x C.b dX8_who_37 (lv_at hl 5 rfl) ?_
      refine lv_aload_n C.x C.b dX8_who_39 rfl (lv_at hl 0 rfl) ?_
      refine g_getr C G 8 0 0 6 hT rfl ginX8 (by decide) tw284 dX8_who_40 (fun hL4 => ?_)
      refine g_geti C G 6 0 4 hL4 rfl ginX6 (by decide) tw127 dX8_who_43 ?_
      refine lv_icmp_ge (tgt := 74) C.x C.b dX8_who_46 (by decide) (fun cb => ?_) (fun cb => ?_)
      · have hf := g_t cb hf
        exact pt74 σ v5 _ _ ls G (lv_sub hl [4] rfl) hf
      · have hf := g_f cb hf
        refine lv_aload_n C.x C.b dX8_who_49 rfl (lv_at hl 0 rfl) ?_
        refine g_getr C G 8 0 0 6 hT rfl ginX8 (by decide) tw284 dX8_who_50 (fun hL5 => ?_)
        refine lv_iload C.x C.b dX8_who_53 (lv_at hl 5 rfl) ?_
        refine lv_iload_n C.x C.b dX8_who_55 rfl (lv_at hl 1 rfl) ?_
        refine lv_iload_n C.x C.b dX8_who_56 rfl (lv_at hl 2 rfl) ?_
        obtain ⟨q6, eq6, hf⟩ := g_b hf
        refine g_calli G (g_runV (As := [.int v6, .int a1, .int a2]) (rest := []) C G 6 0 (c_X6_level l D cy A ad L σ hL5 v6 a1 a2 q6.1 q6.2 eq6) ⟨tw561, tw55, tw558, ⟨tw559, tw560⟩, hd_X6_level⟩ (by decide) hL5 rfl ⟨rfl, by decide⟩ hl.1 rfl (Nat.le_of_ble_eq_true rfl) dX8_who_57 ⟨Nat.le_of_ble_eq_true rfl, Nat.le_of_ble_eq_true rfl⟩) (fun H locs G => ?_)
        refine lv_iload C.x C.b dX8_who_60 (lv_at hl 3 rfl) ?_
        refine lv_icmp_lt (tgt := 68) C.x C.b dX8_who_62 (by decide) (fun cb => ?_) (fun cb => ?_)
        · have hf := g_t cb hf
          refine lv_iinc (v := (v6 + (1 : Int32))) (lv' := [(6, .int (v6 + (1 : Int32))), (0, .ref (ad 8 0)), (1, .int a1), (2, .int a2), (4, .int v4), (5, .int v5)]) C.x C.b dX8_who_68 hl (k := 5) rfl rfl (by decide) rfl (fun ls hl => ?_)
          refine lv_goto (tgt := 37) C.x C.b dX8_who_71 (by decide) ?_
          exact ih37 q6.2 v4 v5 (v6 + (1 : Int32)) _ _ ls G (lv_sub hl [1, 2, 3, 4, 5, 0] rfl) hf
        · have hf := g_f cb hf
          refine lv_iinc (v := (v5 + (1 : Int32))) (lv' := [(5, .int (v5 + (1 : Int32))), (0, .ref (ad 8 0)), (1, .int a1), (2, .int a2), (4, .int v4), (6, .int v6)]) C.x C.b dX8_who_65 hl (k := 4) rfl rfl (by decide) rfl (fun ls hl => ?_)
          refine lv_iinc (v := (v6 + (1 : Int32))) (lv' := [(6, .int (v6 + (1 : Int32))), (5, .int (v5 + (1 : Int32))), (0, .ref (ad 8 0)), (1, .int a1), (2, .int a2), (4, .int v4)]) C.x C.b dX8_who_68 hl (k := 5) rfl rfl (by decide) rfl (fun ls hl => ?_)
          refine lv_goto (tgt := 37) C.x C.b dX8_who_71 (by decide) ?_
          exact ih37 q6.2 v4 (v5 + (1 : Int32)) (v6 + (1 : Int32)) _ _ ls G (lv_sub hl [2, 3, 4, 5, 1, 0] rfl) hf
  have pt29 : ∀ (σ : gS) (k0 : Int32) (H : Heap) (locs : List Loc) (ls : Array Slot), g_H D cy A ad L σ s.heap H locs → lv_has ls 7 [(0, .ref (ad 8 0)), (1, .int a1), (2, .int a2)] → f_X8_who_P29 ad a1 a2 σ k0 = some (r0, σ0) → g_Wi p l e ({ frames := 5, cells := 0, slots := 0, locals := 122 } : Room) s m below meth c H locs 0 0 D cy A ad L [.ref (ad 8 0), .int a1, .int a2, .int a3] r0 σ0 (F0 m 29 ls [.int k0]) := by
    intro σ k0 H locs ls G hl hf
    unfold f_X8_who_P29 at hf
    refine lv_istore (lv' := [(4, .int k0), (0, .ref (ad 8 0)), (1, .int a1), (2, .int a2)]) C.x C.b dX8_who_29 hl (by decide) rfl (fun ls hl => ?_)
    refine lv_iconst (v := (0 : Int32)) C.x C.b dX8_who_31 (by decide) ?_
    refine lv_istore (lv' := [(5, .int (0 : Int32)), (4, .int k0), (0, .ref (ad 8 0)), (1, .int a1), (2, .int a2)]) C.x C.b dX8_who_32 hl (by decide) rfl (fun ls hl => ?_)
    refine lv_iconst (v := (0 : Int32)) C.x C.b dX8_who_34 (by decide) ?_
    refine lv_istore (lv' := [(6, .int (0 : Int32)), (5, .int (0 : Int32)), (4, .int k0), (0, .ref (ad 8 0)), (1, .int a1), (2, .int a2)]) C.x C.b dX8_who_35 hl (by decide) rfl (fun ls hl => ?_)
    exact lp37 g_fuel σ k0 (0 : Int32) (0 : Int32) _ _ ls G (lv_sub hl [3, 4, 5, 2, 1, 0] rfl) hf
  unfold f_X8_who at hf
  refine lv_aload_n C.x C.b dX8_who_0 rfl (lv_at hl 0 rfl) ?_
  refine g_getr C G 8 0 0 6 hT rfl ginX8 (by decide) tw284 dX8_who_1 (fun hL1 => ?_)
  refine lv_iload_n C.x C.b dX8_who_4 rfl (lv_at hl 1 rfl) ?_
  obtain ⟨q2, eq2, hf⟩ := g_b hf
  refine g_calli G (g_runV (As := [.int a1]) (rest := []) C G 6 0 (c_X6_hasOffice l D cy A ad L σ hL1 a1 q2 eq2) ⟨tw439, tw55, tw436, ⟨tw437, tw438⟩, hd_X6_hasOffice⟩ (by decide) hL1 rfl ⟨rfl, by decide⟩ hl.1 rfl (Nat.le_of_ble_eq_true rfl) dX8_who_5 ⟨Nat.le_of_ble_eq_true rfl, Nat.le_of_ble_eq_true rfl⟩) (fun H locs G => ?_)
  refine lv_if_eq (tgt := 18) C.x C.b dX8_who_8 (by decide) (fun cb => ?_) (fun cb => ?_)
  · have hf := g_t cb hf
    refine lv_iconst (v := (-1 : Int32)) C.x C.b dX8_who_18 (by decide) ?_
    exact g_eii C G hr hlocks hf dX8_who_19
  · have hf := g_f cb hf
    refine lv_iload_n C.x C.b dX8_who_11 rfl (lv_at hl 2 rfl) ?_
    obtain ⟨q3, eq3, hf⟩ := g_b hf
    refine g_calli G (g_runS (As := [.int a2]) (rest := []) C G (c_X8_isYear l D cy A ad L σ a2 q3 eq3) ⟨tw419, tw54, tw417, tw418, hd_X8_isYear⟩ (by decide) hl.1 rfl (Nat.le_of_ble_eq_true rfl) dX8_who_12 ⟨Nat.le_of_ble_eq_true rfl, Nat.le_of_ble_eq_true rfl⟩) (fun H locs G => ?_)
    refine lv_if_ne (tgt := 20) C.x C.b dX8_who_15 (by decide) (fun cb => ?_) (fun cb => ?_)
    · have hf := g_f cb hf
      refine lv_iload_n C.x C.b dX8_who_20 rfl (lv_at hl 3 rfl) ?_
      refine lv_if_eq (tgt := 28) C.x C.b dX8_who_21 (by decide) (fun cb => ?_) (fun cb => ?_)
      · have hf := g_t cb hf
        refine lv_iconst (v := (1 : Int32)) C.x C.b dX8_who_28 (by decide) ?_
        exact pt29 σ (1 : Int32) _ _ ls G (lv_sub hl [0, 1, 2] rfl) hf
      · have hf := g_f cb hf
        refine lv_iconst (v := (2 : Int32)) C.x C.b dX8_who_24 (by decide) ?_
        refine lv_goto (tgt := 29) C.x C.b dX8_who_25 (by decide) ?_
        exact pt29 σ (2 : Int32) _ _ ls G (lv_sub hl [0, 1, 2] rfl) hf
    · have hf := g_t cb hf
      refine lv_iconst (v := (-1 : Int32)) C.x C.b dX8_who_18 (by decide) ?_
      exact g_eii C G hr hlocks hf dX8_who_19
def f_X8_breaches_P48 (σ : gS) (v1 : Int32) : Option (Int32 × gS) := (some (v1, σ))
def f_X8_breaches_P42 (rec4 : gS → Int32 → Int32 → Option (Int32 × gS)) (σ : gS) (v1 : Int32) (v2 : Int32) : Option (Int32 × gS) := (rec4 σ v1 (v2 + (1 : Int32)))
def f_X8_breaches_L13 (ad : gA) (K13 : gS → Int32 → Int32 → Option (Int32 × gS)) : Nat → gS → Int32 → Int32 → Int32 → Option (Int32 × gS)
  | 0, _, _, _, _ => none
  | n + 1, σ, v1, v2, v3 => (if (σ 6 0 3) ≤ v3 then (K13 σ v1 v2) else ((f_X6_breachesIn ad σ v3 v2).bind fun q3 => (f_X8_breaches_L13 ad K13 n q3.2 (v1 + q3.1) v2 (v3 + (1 : Int32)))))
def f_X8_breaches_L4 (ad : gA) (K4 : gS → Int32 → Option (Int32 × gS)) : Nat → gS → Int32 → Int32 → Option (Int32 × gS)
  | 0, _, _, _ => none
  | n + 1, σ, v1, v2 => (if (200 : Int32) ≤ v2 then (K4 σ v1) else (f_X8_breaches_L13 ad (f_X8_breaches_P42 (f_X8_breaches_L4 ad K4 n)) g_fuel σ v1 v2 (0 : Int32)))
def f_X8_breaches (ad : gA) (σ : gS) : Option (Int32 × gS) := (f_X8_breaches_L4 ad (f_X8_breaches_P48) g_fuel σ (0 : Int32) (0 : Int32))
theorem hd_X8_breaches : yX8_breaches.cls ≠ "java/lang/invoke/MethodHandle" ∧ yX8_breaches.cls ≠ "java/lang/invoke/VarHandle" ∧ (parseMethodDescriptor yX8_breaches.desc).map (fun d => d.parameters.length) = some 0 := by decide +kernel
set_option maxHeartbeats 4000000 in
set_option maxRecDepth 100000 in
theorem c_X8_breaches (l : Launch) (D : va_G) (cy : Nat → ClassId) (A : Nat → Prop) (ad : gA) (L : gL)  (σ : gS) (hT : (8, 0) ∈ L) (r0 : Int32) (σ0 : gS) (hf : f_X8_breaches ad σ = some (r0, σ0)) : g_Mi l yX8_breaches cX8_breaches 4 (some .int) ({ frames := 5, cells := 0, slots := 0, locals := 124 } : Room) D cy A ad L σ [.ref (ad 8 0)] r0 σ0 := by
  refine g_met (by decide) (Nat.le_of_ble_eq_true rfl) (fun p e s m below meth c C hr hlocks hnm G ls hl => ?_)
  have hl : lv_has ls 4 [(0, .ref (ad 8 0))] := hl
  have pt48 : ∀ (σ : gS) (v1 : Int32) (H : Heap) (locs : List Loc) (ls : Array Slot), g_H D cy A ad L σ s.heap H locs → lv_has ls 4 [(1, .int v1)] → f_X8_breaches_P48 σ v1 = some (r0, σ0) → g_Wi p l e ({ frames := 5, cells := 0, slots := 0, locals := 124 } : Room) s m below meth c H locs 0 0 D cy A ad L [.ref (ad 8 0)] r0 σ0 (F0 m 48 ls []) := by
    intro σ v1 H locs ls G hl hf
    unfold f_X8_breaches_P48 at hf
    refine lv_iload_n C.x C.b dX8_breaches_48 rfl (lv_at hl 0 rfl) ?_
    exact g_eii C G hr hlocks hf dX8_breaches_49
  have lp4 : ∀ n4 : Nat, ∀ (σ : gS) (v1 : Int32) (v2 : Int32) (H : Heap) (locs : List Loc) (ls : Array Slot), g_H D cy A ad L σ s.heap H locs → lv_has ls 4 [(0, .ref (ad 8 0)), (1, .int v1), (2, .int v2)] → f_X8_breaches_L4 ad (f_X8_breaches_P48) n4 σ v1 v2 = some (r0, σ0) → g_Wi p l e ({ frames := 5, cells := 0, slots := 0, locals := 124 } : Room) s m below meth c H locs 0 0 D cy A ad L [.ref (ad 8 0)] r0 σ0 (F0 m 4 ls []) := by
    intro n4
    induction n4 with
    | zero =>
      intro σ v1 v2 H locs ls G hl hf
      rw [f_X8_breaches_L4] at hf
      cases hf
    | succ n4 ih4 =>
      have pt42 : ∀ (σ : gS) (v1 : Int32) (v2 : Int32) (H : Heap) (locs : List Loc) (ls : Array Slot), g_H D cy A ad L σ s.heap H locs → lv_has ls 4 [(0, .ref (ad 8 0)), (1, .int v1), (2, .int v2)] → f_X8_breaches_P42 (f_X8_breaches_L4 ad (f_X8_breaches_P48) n4) σ v1 v2 = some (r0, σ0) → g_Wi p l e ({ frames := 5, cells := 0, slots := 0, locals := 124 } : Room) s m below meth c H locs 0 0 D cy A ad L [.ref (ad 8 0)] r0 σ0 (F0 m 42 ls []) := by
        intro σ v1 v2 H locs ls G hl hf
        unfold f_X8_breaches_P42 at hf
        refine lv_iinc (v := (v2 + (1 : Int32))) (lv' := [(2, .int (v2 + (1 : Int32))), (0, .ref (ad 8 0)), (1, .int v1)]) C.x C.b dX8_breaches_42 hl (k := 2) rfl rfl (by decide) rfl (fun ls hl => ?_)
        refine lv_goto (tgt := 4) C.x C.b dX8_breaches_45 (by decide) ?_
        exact ih4 σ v1 (v2 + (1 : Int32)) _ _ ls G (lv_sub hl [1, 2, 0] rfl) hf
      have lp13 : ∀ n13 : Nat, ∀ (σ : gS) (v1 : Int32) (v2 : Int32) (v3 : Int32) (H : Heap) (locs : List Loc) (ls : Array Slot), g_H D cy A ad L σ s.heap H locs → lv_has ls 4 [(0, .ref (ad 8 0)), (1, .int v1), (2, .int v2), (3, .int v3)] → f_X8_breaches_L13 ad (f_X8_breaches_P42 (f_X8_breaches_L4 ad (f_X8_breaches_P48) n4)) n13 σ v1 v2 v3 = some (r0, σ0) → g_Wi p l e ({ frames := 5, cells := 0, slots := 0, locals := 124 } : Room) s m below meth c H locs 0 0 D cy A ad L [.ref (ad 8 0)] r0 σ0 (F0 m 13 ls []) := by
        intro n13
        induction n13 with
        | zero =>
          intro σ v1 v2 v3 H locs ls G hl hf
          rw [f_X8_breaches_L13] at hf
          cases hf
        | succ n13 ih13 =>
          intro σ v1 v2 v3 H locs ls G hl hf
          rw [f_X8_breaches_L13] at hf
          refine lv_iload_n C.x C.b dX8_breaches_13 rfl (lv_at hl 3 rfl) ?_
          refine lv_aload_n C.x C.b dX8_breaches_14 rfl (lv_at hl 0 rfl) ?_
          refine g_getr C G 8 0 0 6 hT rfl ginX8 (by decide) tw284 dX8_breaches_15 (fun hL1 => ?_)
          refine g_geti C G 6 0 3 hL1 rfl ginX6 (by decide) tw124 dX8_breaches_18 ?_
          refine lv_icmp_ge (tgt := 42) C.x C.b dX8_breaches_21 (by decide) (fun cb => ?_) (fun cb => ?_)
          · have hf := g_t cb hf
            exact pt42 σ v1 v2 _ _ ls G (lv_sub hl [0, 1, 2] rfl) hf
          · have hf := g_f cb hf
            refine lv_iload_n C.x C.b dX8_breaches_24 rfl (lv_at hl 1 rfl) ?_
            refine lv_aload_n C.x C.b dX8_breaches_25 rfl (lv_at hl 0 rfl) ?_
            refine g_getr C G 8 0 0 6 hT rfl ginX8 (by decide) tw284 dX8_breaches_26 (fun hL2 => ?_)
            refine lv_iload_n C.x C.b dX8_breaches_29 rfl (lv_at hl 3 rfl) ?_
            refine lv_iload_n C.x C.b dX8_breaches_30 rfl (lv_at hl 2 rfl) ?_
            obtain ⟨q3, eq3, hf⟩ := g_b hf
            refine g_calli G (g_runV (As := [.int v3, .int v2]) (rest := [.int v1]) C G 6 0 (c_X6_breachesIn l D cy A ad L σ hL2 v3 v2 q3.1 q3.2 eq3) ⟨tw602, tw55, tw599, ⟨tw600, tw601⟩, hd_X6_breachesIn⟩ (by decide) hL2 rfl ⟨rfl, by decide⟩ hl.1 rfl (Nat.le_of_ble_eq_true rfl) dX8_breaches_31 ⟨Nat.le_of_ble_eq_true rfl, Nat.le_of_ble_eq_true rfl⟩) (fun H locs G => ?_)
            refine lv_iadd C.x C.b dX8_breaches_34 ?_
            refine lv_istore_n (lv' := [(1, .int (v1 + q3.1)), (0, .ref (ad 8 0)), (2, .int v2), (3, .int v3)]) C.x C.b dX8_breaches_35 rfl hl (by decide) rfl (fun ls hl => ?_)
            refine lv_iinc (v := (v3 + (1 : Int32))) (lv' := [(3, .int (v3 + (1 : Int32))), (1, .int (v1 + q3.1)), (0, .ref (ad 8 0)), (2, .int v2)]) C.x C.b dX8_breaches_36 hl (k := 3) rfl rfl (by decide) rfl (fun ls hl => ?_)
            refine lv_goto (tgt := 13) C.x C.b dX8_breaches_39 (by decide) ?_
            exact ih13 q3.2 (v1 + q3.1) v2 (v3 + (1 : Int32)) _ _ ls G (lv_sub hl [2, 1, 3, 0] rfl) hf
      intro σ v1 v2 H locs ls G hl hf
      rw [f_X8_breaches_L4] at hf
      refine lv_iload_n C.x C.b dX8_breaches_4 rfl (lv_at hl 2 rfl) ?_
      refine lv_sipush (v := (200 : Int32)) C.x C.b dX8_breaches_5 (by decide) ?_
      refine lv_icmp_ge (tgt := 48) C.x C.b dX8_breaches_8 (by decide) (fun cb => ?_) (fun cb => ?_)
      · have hf := g_t cb hf
        exact pt48 σ v1 _ _ ls G (lv_sub hl [1] rfl) hf
      · have hf := g_f cb hf
        refine lv_iconst (v := (0 : Int32)) C.x C.b dX8_breaches_11 (by decide) ?_
        refine lv_istore_n (lv' := [(3, .int (0 : Int32)), (0, .ref (ad 8 0)), (1, .int v1), (2, .int v2)]) C.x C.b dX8_breaches_12 rfl hl (by decide) rfl (fun ls hl => ?_)
        exact lp13 g_fuel σ v1 v2 (0 : Int32) _ _ ls G (lv_sub hl [1, 2, 3, 0] rfl) hf
  unfold f_X8_breaches at hf
  refine lv_iconst (v := (0 : Int32)) C.x C.b dX8_breaches_0 (by decide) ?_
  refine lv_istore_n (lv' := [(1, .int (0 : Int32)), (0, .ref (ad 8 0))]) C.x C.b dX8_breaches_1 rfl hl (by decide) rfl (fun ls hl => ?_)
  refine lv_iconst (v := (0 : Int32)) C.x C.b dX8_breaches_2 (by decide) ?_
  refine lv_istore_n (lv' := [(2, .int (0 : Int32)), (1, .int (0 : Int32)), (0, .ref (ad 8 0))]) C.x C.b dX8_breaches_3 rfl hl (by decide) rfl (fun ls hl => ?_)
  exact lp4 g_fuel σ (0 : Int32) (0 : Int32) _ _ ls G (lv_sub hl [2, 1, 0] rfl) hf
def f_X8_breach_P71 (σ : gS) : Option (Int32 × gS) := (some ((-3 : Int32), σ))
def f_X8_breach_P65 (rec10 : gS → Int32 → Int32 → Option (Int32 × gS)) (σ : gS) (v2 : Int32) (v3 : Int32) : Option (Int32 × gS) := (rec10 σ v2 (v3 + (1 : Int32)))
def f_X8_breach_L20 (ad : gA) (a1 : Int32) (K20 : gS → Int32 → Int32 → Option (Int32 × gS)) : Nat → gS → Int32 → Int32 → Int32 → Option (Int32 × gS)
  | 0, _, _, _, _ => none
  | n + 1, σ, v2, v3, v4 => (if (σ 6 0 3) ≤ v4 then (K20 σ v2 v3) else ((f_X6_breachesIn ad σ v4 v3).bind fun q3 => (if (v2 + q3.1) ≤ a1 then (f_X8_breach_L20 ad a1 K20 n q3.2 (v2 + q3.1) v3 (v4 + (1 : Int32))) else (some ((((1000 : Int32) * v4) + v3), q3.2)))))
def f_X8_breach_L10 (ad : gA) (a1 : Int32) (K10 : gS → Option (Int32 × gS)) : Nat → gS → Int32 → Int32 → Option (Int32 × gS)
  | 0, _, _, _ => none
  | n + 1, σ, v2, v3 => (if (200 : Int32) ≤ v3 then (K10 σ) else (f_X8_breach_L20 ad a1 (f_X8_breach_P65 (f_X8_breach_L10 ad a1 K10 n)) g_fuel σ v2 v3 (0 : Int32)))
def f_X8_breach (ad : gA) (σ : gS) (a1 : Int32) : Option (Int32 × gS) := (if 0 ≤ a1 then (f_X8_breach_L10 ad a1 (f_X8_breach_P71) g_fuel σ (0 : Int32) (0 : Int32)) else (some ((-1 : Int32), σ)))
theorem hd_X8_breach : yX8_breach.cls ≠ "java/lang/invoke/MethodHandle" ∧ yX8_breach.cls ≠ "java/lang/invoke/VarHandle" ∧ (parseMethodDescriptor yX8_breach.desc).map (fun d => d.parameters.length) = some 1 := by decide +kernel
set_option maxHeartbeats 4000000 in
set_option maxRecDepth 100000 in
theorem c_X8_breach (l : Launch) (D : va_G) (cy : Nat → ClassId) (A : Nat → Prop) (ad : gA) (L : gL)  (σ : gS) (hT : (8, 0) ∈ L) (a1 : Int32) (r0 : Int32) (σ0 : gS) (hf : f_X8_breach ad σ a1 = some (r0, σ0)) : g_Mi l yX8_breach cX8_breach 5 (some .int) ({ frames := 5, cells := 0, slots := 0, locals := 124 } : Room) D cy A ad L σ [.ref (ad 8 0), .int a1] r0 σ0 := by
  refine g_met (by decide) (Nat.le_of_ble_eq_true rfl) (fun p e s m below meth c C hr hlocks hnm G ls hl => ?_)
  have hl : lv_has ls 5 [(0, .ref (ad 8 0)), (1, .int a1)] := hl
  have pt71 : ∀ (σ : gS) (H : Heap) (locs : List Loc) (ls : Array Slot), g_H D cy A ad L σ s.heap H locs → lv_has ls 5 [] → f_X8_breach_P71 σ = some (r0, σ0) → g_Wi p l e ({ frames := 5, cells := 0, slots := 0, locals := 124 } : Room) s m below meth c H locs 0 0 D cy A ad L [.ref (ad 8 0), .int a1] r0 σ0 (F0 m 71 ls []) := by
    intro σ H locs ls G hl hf
    unfold f_X8_breach_P71 at hf
    refine lv_bipush (v := (-3 : Int32)) C.x C.b dX8_breach_71 (by decide) ?_
    exact g_eii C G hr hlocks hf dX8_breach_73
  have lp10 : ∀ n10 : Nat, ∀ (σ : gS) (v2 : Int32) (v3 : Int32) (H : Heap) (locs : List Loc) (ls : Array Slot), g_H D cy A ad L σ s.heap H locs → lv_has ls 5 [(0, .ref (ad 8 0)), (1, .int a1), (2, .int v2), (3, .int v3)] → f_X8_breach_L10 ad a1 (f_X8_breach_P71) n10 σ v2 v3 = some (r0, σ0) → g_Wi p l e ({ frames := 5, cells := 0, slots := 0, locals := 124 } : Room) s m below meth c H locs 0 0 D cy A ad L [.ref (ad 8 0), .int a1] r0 σ0 (F0 m 10 ls []) := by
    intro n10
    induction n10 with
    | zero =>
      intro σ v2 v3 H locs ls G hl hf
      rw [f_X8_breach_L10] at hf
      cases hf
    | succ n10 ih10 =>
      have pt65 : ∀ (σ : gS) (v2 : Int32) (v3 : Int32) (H : Heap) (locs : List Loc) (ls : Array Slot), g_H D cy A ad L σ s.heap H locs → lv_has ls 5 [(0, .ref (ad 8 0)), (1, .int a1), (2, .int v2), (3, .int v3)] → f_X8_breach_P65 (f_X8_breach_L10 ad a1 (f_X8_breach_P71) n10) σ v2 v3 = some (r0, σ0) → g_Wi p l e ({ frames := 5, cells := 0, slots := 0, locals := 124 } : Room) s m below meth c H locs 0 0 D cy A ad L [.ref (ad 8 0), .int a1] r0 σ0 (F0 m 65 ls []) := by
        intro σ v2 v3 H locs ls G hl hf
        unfold f_X8_breach_P65 at hf
        refine lv_iinc (v := (v3 + (1 : Int32))) (lv' := [(3, .int (v3 + (1 : Int32))), (0, .ref (ad 8 0)), (1, .int a1), (2, .int v2)]) C.x C.b dX8_breach_65 hl (k := 3) rfl rfl (by decide) rfl (fun ls hl => ?_)
        refine lv_goto (tgt := 10) C.x C.b dX8_breach_68 (by decide) ?_
        exact ih10 σ v2 (v3 + (1 : Int32)) _ _ ls G (lv_sub hl [1, 2, 3, 0] rfl) hf
      have lp20 : ∀ n20 : Nat, ∀ (σ : gS) (v2 : Int32) (v3 : Int32) (v4 : Int32) (H : Heap) (locs : List Loc) (ls : Array Slot), g_H D cy A ad L σ s.heap H locs → lv_has ls 5 [(0, .ref (ad 8 0)), (1, .int a1), (2, .int v2), (3, .int v3), (4, .int v4)] → f_X8_breach_L20 ad a1 (f_X8_breach_P65 (f_X8_breach_L10 ad a1 (f_X8_breach_P71) n10)) n20 σ v2 v3 v4 = some (r0, σ0) → g_Wi p l e ({ frames := 5, cells := 0, slots := 0, locals := 124 } : Room) s m below meth c H locs 0 0 D cy A ad L [.ref (ad 8 0), .int a1] r0 σ0 (F0 m 20 ls []) := by
        intro n20
        induction n20 with
        | zero =>
          intro σ v2 v3 v4 H locs ls G hl hf
          rw [f_X8_breach_L20] at hf
          cases hf
        | succ n20 ih20 =>
          intro σ v2 v3 v4 H locs ls G hl hf
          rw [f_X8_breach_L20] at hf
          refine lv_iload C.x C.b dX8_breach_20 (lv_at hl 4 rfl) ?_
          refine lv_aload_n C.x C.b dX8_breach_22 rfl (lv_at hl 0 rfl) ?_
          refine g_getr C G 8 0 0 6 hT rfl ginX8 (by decide) tw284 dX8_breach_23 (fun hL1 => ?_)
          refine g_geti C G 6 0 3 hL1 rfl ginX6 (by decide) tw124 dX8_breach_26 ?_
          refine lv_icmp_ge (tgt := 65) C.x C.b dX8_breach_29 (by decide) (fun cb => ?_) (fun cb => ?_)
          · have hf := g_t cb hf
            exact pt65 σ v2 v3 _ _ ls G (lv_sub hl [0, 1, 2, 3] rfl) hf
          · have hf := g_f cb hf
            refine lv_iload_n C.x C.b dX8_breach_32 rfl (lv_at hl 2 rfl) ?_
            refine lv_aload_n C.x C.b dX8_breach_33 rfl (lv_at hl 0 rfl) ?_
            refine g_getr C G 8 0 0 6 hT rfl ginX8 (by decide) tw284 dX8_breach_34 (fun hL2 => ?_)
            refine lv_iload C.x C.b dX8_breach_37 (lv_at hl 4 rfl) ?_
            refine lv_iload_n C.x C.b dX8_breach_39 rfl (lv_at hl 3 rfl) ?_
            obtain ⟨q3, eq3, hf⟩ := g_b hf
            refine g_calli G (g_runV (As := [.int v4, .int v3]) (rest := [.int v2]) C G 6 0 (c_X6_breachesIn l D cy A ad L σ hL2 v4 v3 q3.1 q3.2 eq3) ⟨tw602, tw55, tw599, ⟨tw600, tw601⟩, hd_X6_breachesIn⟩ (by decide) hL2 rfl ⟨rfl, by decide⟩ hl.1 rfl (Nat.le_of_ble_eq_true rfl) dX8_breach_40 ⟨Nat.le_of_ble_eq_true rfl, Nat.le_of_ble_eq_true rfl⟩) (fun H locs G => ?_)
            refine lv_iadd C.x C.b dX8_breach_43 ?_
            refine lv_istore_n (lv' := [(2, .int (v2 + q3.1)), (0, .ref (ad 8 0)), (1, .int a1), (3, .int v3), (4, .int v4)]) C.x C.b dX8_breach_44 rfl hl (by decide) rfl (fun ls hl => ?_)
            refine lv_iload_n C.x C.b dX8_breach_45 rfl (lv_at hl 0 rfl) ?_
            refine lv_iload_n C.x C.b dX8_breach_46 rfl (lv_at hl 2 rfl) ?_
            refine lv_icmp_le (tgt := 59) C.x C.b dX8_breach_47 (by decide) (fun cb => ?_) (fun cb => ?_)
            · have hf := g_t cb hf
              refine lv_iinc (v := (v4 + (1 : Int32))) (lv' := [(4, .int (v4 + (1 : Int32))), (2, .int (v2 + q3.1)), (0, .ref (ad 8 0)), (1, .int a1), (3, .int v3)]) C.x C.b dX8_breach_59 hl (k := 4) rfl rfl (by decide) rfl (fun ls hl => ?_)
              refine lv_goto (tgt := 20) C.x C.b dX8_breach_62 (by decide) ?_
              exact ih20 q3.2 (v2 + q3.1) v3 (v4 + (1 : Int32)) _ _ ls G (lv_sub hl [2, 3, 1, 4, 0] rfl) hf
            · have hf := g_f cb hf
              refine lv_sipush (v := (1000 : Int32)) C.x C.b dX8_breach_50 (by decide) ?_
              refine lv_iload C.x C.b dX8_breach_53 (lv_at hl 4 rfl) ?_
              refine lv_imul C.x C.b dX8_breach_55 ?_
              refine lv_iload_n C.x C.b dX8_breach_56 rfl (lv_at hl 3 rfl) ?_
              refine lv_iadd C.x C.b dX8_breach_57 ?_
              exact g_eii C G hr hlocks hf dX8_breach_58
      intro σ v2 v3 H locs ls G hl hf
      rw [f_X8_breach_L10] at hf
      refine lv_iload_n C.x C.b dX8_breach_10 rfl (lv_at hl 3 rfl) ?_
      refine lv_sipush (v := (200 : Int32)) C.x C.b dX8_breach_11 (by decide) ?_
      refine lv_icmp_ge (tgt := 71) C.x C.b dX8_breach_14 (by decide) (fun cb => ?_) (fun cb => ?_)
      · have hf := g_t cb hf
        exact pt71 σ _ _ ls G (lv_sub hl [] rfl) hf
      · have hf := g_f cb hf
        refine lv_iconst (v := (0 : Int32)) C.x C.b dX8_breach_17 (by decide) ?_
        refine lv_istore (lv' := [(4, .int (0 : Int32)), (0, .ref (ad 8 0)), (1, .int a1), (2, .int v2), (3, .int v3)]) C.x C.b dX8_breach_18 hl (by decide) rfl (fun ls hl => ?_)
        exact lp20 g_fuel σ v2 v3 (0 : Int32) _ _ ls G (lv_sub hl [1, 2, 3, 4, 0] rfl) hf
  unfold f_X8_breach at hf
  refine lv_iload_n C.x C.b dX8_breach_0 rfl (lv_at hl 1 rfl) ?_
  refine lv_if_ge (tgt := 6) C.x C.b dX8_breach_1 (by decide) (fun cb => ?_) (fun cb => ?_)
  · have hf := g_t cb hf
    refine lv_iconst (v := (0 : Int32)) C.x C.b dX8_breach_6 (by decide) ?_
    refine lv_istore_n (lv' := [(2, .int (0 : Int32)), (0, .ref (ad 8 0)), (1, .int a1)]) C.x C.b dX8_breach_7 rfl hl (by decide) rfl (fun ls hl => ?_)
    refine lv_iconst (v := (0 : Int32)) C.x C.b dX8_breach_8 (by decide) ?_
    refine lv_istore_n (lv' := [(3, .int (0 : Int32)), (2, .int (0 : Int32)), (0, .ref (ad 8 0)), (1, .int a1)]) C.x C.b dX8_breach_9 rfl hl (by decide) rfl (fun ls hl => ?_)
    exact lp10 g_fuel σ (0 : Int32) (0 : Int32) _ _ ls G (lv_sub hl [2, 3, 1, 0] rfl) hf
  · have hf := g_f cb hf
    refine lv_iconst (v := (-1 : Int32)) C.x C.b dX8_breach_4 (by decide) ?_
    exact g_eii C G hr hlocks hf dX8_breach_5
def f_X8_fillings (ad : gA) (σ : gS) (a1 : Int32) : Option (Int32 × gS) := ((f_X8_isYear ad σ a1).bind fun q1 => (if q1 = 0 then (some ((-1 : Int32), σ)) else ((f_X1_search ad σ a1 (-1 : Int32) (-1 : Int32) (0 : Int32)).bind fun σ4 => (if (σ4 1 0 3) = 0 then (some ((σ4 1 0 1), σ4)) else (some ((-8 : Int32), σ4))))))
theorem hd_X8_fillings : yX8_fillings.cls ≠ "java/lang/invoke/MethodHandle" ∧ yX8_fillings.cls ≠ "java/lang/invoke/VarHandle" ∧ (parseMethodDescriptor yX8_fillings.desc).map (fun d => d.parameters.length) = some 1 := by decide +kernel
set_option maxHeartbeats 4000000 in
set_option maxRecDepth 100000 in
theorem c_X8_fillings (l : Launch) (D : va_G) (cy : Nat → ClassId) (A : Nat → Prop) (ad : gA) (L : gL)  (σ : gS) (hT : (8, 0) ∈ L) (a1 : Int32) (r0 : Int32) (σ0 : gS) (hf : f_X8_fillings ad σ a1 = some (r0, σ0)) : g_Mi l yX8_fillings cX8_fillings 2 (some .int) ({ frames := 83, cells := 0, slots := 0, locals := 2752 } : Room) D cy A ad L σ [.ref (ad 8 0), .int a1] r0 σ0 := by
  refine g_met (by decide) (Nat.le_of_ble_eq_true rfl) (fun p e s m below meth c C hr hlocks hnm G ls hl => ?_)
  have hl : lv_has ls 2 [(0, .ref (ad 8 0)), (1, .int a1)] := hl
  unfold f_X8_fillings at hf
  refine lv_iload_n C.x C.b dX8_fillings_0 rfl (lv_at hl 1 rfl) ?_
  obtain ⟨q1, eq1, hf⟩ := g_b hf
  refine g_calli G (g_runS (As := [.int a1]) (rest := []) C G (c_X8_isYear l D cy A ad L σ a1 q1 eq1) ⟨tw419, tw54, tw417, tw418, hd_X8_isYear⟩ (by decide) hl.1 rfl (Nat.le_of_ble_eq_true rfl) dX8_fillings_1 ⟨Nat.le_of_ble_eq_true rfl, Nat.le_of_ble_eq_true rfl⟩) (fun H locs G => ?_)
  refine lv_if_ne (tgt := 9) C.x C.b dX8_fillings_4 (by decide) (fun cb => ?_) (fun cb => ?_)
  · have hf := g_f cb hf
    refine lv_aload_n C.x C.b dX8_fillings_9 rfl (lv_at hl 0 rfl) ?_
    refine g_getr C G 8 0 1 1 hT rfl ginX8 (by decide) tw285 dX8_fillings_10 (fun hL2 => ?_)
    refine lv_aload_n C.x C.b dX8_fillings_13 rfl (lv_at hl 0 rfl) ?_
    refine g_getr C G 8 0 0 6 hT rfl ginX8 (by decide) tw284 dX8_fillings_14 (fun hL3 => ?_)
    refine lv_iload_n C.x C.b dX8_fillings_17 rfl (lv_at hl 1 rfl) ?_
    refine lv_iconst (v := (-1 : Int32)) C.x C.b dX8_fillings_18 (by decide) ?_
    refine lv_iconst (v := (-1 : Int32)) C.x C.b dX8_fillings_19 (by decide) ?_
    refine lv_iconst (v := (0 : Int32)) C.x C.b dX8_fillings_20 (by decide) ?_
    obtain ⟨σ4, eσ4, hf⟩ := g_b hf
    refine g_callv G (g_runV (As := [.ref (ad 6 0), .int a1, .int (-1 : Int32), .int (-1 : Int32), .int (0 : Int32)]) (rest := []) C G 1 0 (c_X1_search l D cy A ad L σ hL2 hL3 a1 (-1 : Int32) (-1 : Int32) (0 : Int32) σ4 eσ4) ⟨tw615, tw57, tw612, ⟨tw613, tw614⟩, hd_X1_search⟩ (by decide) hL2 rfl ⟨rfl, by decide⟩ hl.1 rfl (Nat.le_of_ble_eq_true rfl) dX8_fillings_21 ⟨Nat.le_of_ble_eq_true rfl, Nat.le_of_ble_eq_true rfl⟩) (fun H locs G => ?_)
    refine lv_aload_n C.x C.b dX8_fillings_24 rfl (lv_at hl 0 rfl) ?_
    refine g_getr C G 8 0 1 1 hT rfl ginX8 (by decide) tw285 dX8_fillings_25 (fun hL5 => ?_)
    refine g_geti C G 1 0 3 hL5 rfl ginX1 (by decide) tw168 dX8_fillings_28 ?_
    refine lv_if_eq (tgt := 39) C.x C.b dX8_fillings_31 (by decide) (fun cb => ?_) (fun cb => ?_)
    · have hf := g_t cb hf
      refine lv_aload_n C.x C.b dX8_fillings_39 rfl (lv_at hl 0 rfl) ?_
      refine g_getr C G 8 0 1 1 hT rfl ginX8 (by decide) tw285 dX8_fillings_40 (fun hL6 => ?_)
      refine g_geti C G 1 0 1 hL6 rfl ginX1 (by decide) tw164 dX8_fillings_43 ?_
      exact g_eii C G hr hlocks hf dX8_fillings_46
    · have hf := g_f cb hf
      refine lv_bipush (v := (-8 : Int32)) C.x C.b dX8_fillings_34 (by decide) ?_
      refine lv_goto (tgt := 46) C.x C.b dX8_fillings_36 (by decide) ?_
      exact g_eii C G hr hlocks hf dX8_fillings_46
  · have hf := g_t cb hf
    refine lv_iconst (v := (-1 : Int32)) C.x C.b dX8_fillings_7 (by decide) ?_
    exact g_eii C G hr hlocks hf dX8_fillings_8
def f_X8_fill (ad : gA) (σ : gS) (a1 : Int32) : Option (Int32 × gS) := ((f_X8_isYear ad σ a1).bind fun q1 => (if q1 = 0 then (some ((-1 : Int32), σ)) else ((f_X1_search ad σ a1 (-1 : Int32) (-1 : Int32) (1 : Int32)).bind fun σ4 => (if (σ4 1 0 3) = 0 then (if (σ4 1 0 1) = 0 then (some ((-9 : Int32), σ4)) else ((f_X1_putIn ad σ4 a1).bind fun σ9 => (some ((σ9 1 0 0), σ9)))) else (some ((-8 : Int32), σ4))))))
theorem hd_X8_fill : yX8_fill.cls ≠ "java/lang/invoke/MethodHandle" ∧ yX8_fill.cls ≠ "java/lang/invoke/VarHandle" ∧ (parseMethodDescriptor yX8_fill.desc).map (fun d => d.parameters.length) = some 1 := by decide +kernel
set_option maxHeartbeats 4000000 in
set_option maxRecDepth 100000 in
theorem c_X8_fill (l : Launch) (D : va_G) (cy : Nat → ClassId) (A : Nat → Prop) (ad : gA) (L : gL)  (σ : gS) (hT : (8, 0) ∈ L) (a1 : Int32) (r0 : Int32) (σ0 : gS) (hf : f_X8_fill ad σ a1 = some (r0, σ0)) : g_Mi l yX8_fill cX8_fill 2 (some .int) ({ frames := 83, cells := 0, slots := 0, locals := 2752 } : Room) D cy A ad L σ [.ref (ad 8 0), .int a1] r0 σ0 := by
  refine g_met (by decide) (Nat.le_of_ble_eq_true rfl) (fun p e s m below meth c C hr hlocks hnm G ls hl => ?_)
  have hl : lv_has ls 2 [(0, .ref (ad 8 0)), (1, .int a1)] := hl
  unfold f_X8_fill at hf
  refine lv_iload_n C.x C.b dX8_fill_0 rfl (lv_at hl 1 rfl) ?_
  obtain ⟨q1, eq1, hf⟩ := g_b hf
  refine g_calli G (g_runS (As := [.int a1]) (rest := []) C G (c_X8_isYear l D cy A ad L σ a1 q1 eq1) ⟨tw419, tw54, tw417, tw418, hd_X8_isYear⟩ (by decide) hl.1 rfl (Nat.le_of_ble_eq_true rfl) dX8_fill_1 ⟨Nat.le_of_ble_eq_true rfl, Nat.le_of_ble_eq_true rfl⟩) (fun H locs G => ?_)
  refine lv_if_ne (tgt := 9) C.x C.b dX8_fill_4 (by decide) (fun cb => ?_) (fun cb => ?_)
  · have hf := g_f cb hf
    refine lv_aload_n C.x C.b dX8_fill_9 rfl (lv_at hl 0 rfl) ?_
    refine g_getr C G 8 0 1 1 hT rfl ginX8 (by decide) tw285 dX8_fill_10 (fun hL2 => ?_)
    refine lv_aload_n C.x C.b dX8_fill_13 rfl (lv_at hl 0 rfl) ?_
    refine g_getr C G 8 0 0 6 hT rfl ginX8 (by decide) tw284 dX8_fill_14 (fun hL3 => ?_)
    refine lv_iload_n C.x C.b dX8_fill_17 rfl (lv_at hl 1 rfl) ?_
    refine lv_iconst (v := (-1 : Int32)) C.x C.b dX8_fill_18 (by decide) ?_
    refine lv_iconst (v := (-1 : Int32)) C.x C.b dX8_fill_19 (by decide) ?_
    refine lv_iconst (v := (1 : Int32)) C.x C.b dX8_fill_20 (by decide) ?_
    obtain ⟨σ4, eσ4, hf⟩ := g_b hf
    refine g_callv G (g_runV (As := [.ref (ad 6 0), .int a1, .int (-1 : Int32), .int (-1 : Int32), .int (1 : Int32)]) (rest := []) C G 1 0 (c_X1_search l D cy A ad L σ hL2 hL3 a1 (-1 : Int32) (-1 : Int32) (1 : Int32) σ4 eσ4) ⟨tw615, tw57, tw612, ⟨tw613, tw614⟩, hd_X1_search⟩ (by decide) hL2 rfl ⟨rfl, by decide⟩ hl.1 rfl (Nat.le_of_ble_eq_true rfl) dX8_fill_21 ⟨Nat.le_of_ble_eq_true rfl, Nat.le_of_ble_eq_true rfl⟩) (fun H locs G => ?_)
    refine lv_aload_n C.x C.b dX8_fill_24 rfl (lv_at hl 0 rfl) ?_
    refine g_getr C G 8 0 1 1 hT rfl ginX8 (by decide) tw285 dX8_fill_25 (fun hL5 => ?_)
    refine g_geti C G 1 0 3 hL5 rfl ginX1 (by decide) tw168 dX8_fill_28 ?_
    refine lv_if_eq (tgt := 37) C.x C.b dX8_fill_31 (by decide) (fun cb => ?_) (fun cb => ?_)
    · have hf := g_t cb hf
      refine lv_aload_n C.x C.b dX8_fill_37 rfl (lv_at hl 0 rfl) ?_
      refine g_getr C G 8 0 1 1 hT rfl ginX8 (by decide) tw285 dX8_fill_38 (fun hL6 => ?_)
      refine g_geti C G 1 0 1 hL6 rfl ginX1 (by decide) tw164 dX8_fill_41 ?_
      refine lv_if_ne (tgt := 50) C.x C.b dX8_fill_44 (by decide) (fun cb => ?_) (fun cb => ?_)
      · have hf := g_f cb hf
        refine lv_aload_n C.x C.b dX8_fill_50 rfl (lv_at hl 0 rfl) ?_
        refine g_getr C G 8 0 1 1 hT rfl ginX8 (by decide) tw285 dX8_fill_51 (fun hL7 => ?_)
        refine lv_aload_n C.x C.b dX8_fill_54 rfl (lv_at hl 0 rfl) ?_
        refine g_getr C G 8 0 0 6 hT rfl ginX8 (by decide) tw284 dX8_fill_55 (fun hL8 => ?_)
        refine lv_iload_n C.x C.b dX8_fill_58 rfl (lv_at hl 1 rfl) ?_
        obtain ⟨σ9, eσ9, hf⟩ := g_b hf
        refine g_callv G (g_runV (As := [.ref (ad 6 0), .int a1]) (rest := []) C G 1 0 (c_X1_putIn l D cy A ad L σ4 hL7 hL8 a1 σ9 eσ9) ⟨tw657, tw57, tw654, ⟨tw655, tw656⟩, hd_X1_putIn⟩ (by decide) hL7 rfl ⟨rfl, by decide⟩ hl.1 rfl (Nat.le_of_ble_eq_true rfl) dX8_fill_59 ⟨Nat.le_of_ble_eq_true rfl, Nat.le_of_ble_eq_true rfl⟩) (fun H locs G => ?_)
        refine lv_aload_n C.x C.b dX8_fill_62 rfl (lv_at hl 0 rfl) ?_
        refine g_getr C G 8 0 1 1 hT rfl ginX8 (by decide) tw285 dX8_fill_63 (fun hL10 => ?_)
        refine g_geti C G 1 0 0 hL10 rfl ginX1 (by decide) tw162 dX8_fill_66 ?_
        exact g_eii C G hr hlocks hf dX8_fill_69
      · have hf := g_t cb hf
        refine lv_bipush (v := (-9 : Int32)) C.x C.b dX8_fill_47 (by decide) ?_
        exact g_eii C G hr hlocks hf dX8_fill_49
    · have hf := g_f cb hf
      refine lv_bipush (v := (-8 : Int32)) C.x C.b dX8_fill_34 (by decide) ?_
      exact g_eii C G hr hlocks hf dX8_fill_36
  · have hf := g_t cb hf
    refine lv_iconst (v := (-1 : Int32)) C.x C.b dX8_fill_7 (by decide) ?_
    exact g_eii C G hr hlocks hf dX8_fill_8
def f_X8_among (ad : gA) (σ : gS) (a1 : Int32) (a2 : Int32) (a3 : Int32) : Option (Int32 × gS) := ((f_X6_hasPerson ad σ a1).bind fun q2 => (if q2 = 0 then (some ((-1 : Int32), σ)) else ((f_X6_hasOffice ad σ a2).bind fun q4 => (if q4 = 0 then (some ((-1 : Int32), σ)) else ((f_X8_isYear ad σ a3).bind fun q5 => (if q5 = 0 then (some ((-1 : Int32), σ)) else ((f_X1_search ad σ a3 a1 a2 (0 : Int32)).bind fun σ8 => (if (σ8 1 0 3) = 0 then (some ((σ8 1 0 2), σ8)) else (some ((-8 : Int32), σ8))))))))))
theorem hd_X8_among : yX8_among.cls ≠ "java/lang/invoke/MethodHandle" ∧ yX8_among.cls ≠ "java/lang/invoke/VarHandle" ∧ (parseMethodDescriptor yX8_among.desc).map (fun d => d.parameters.length) = some 3 := by decide +kernel
set_option maxHeartbeats 4000000 in
set_option maxRecDepth 100000 in
theorem c_X8_among (l : Launch) (D : va_G) (cy : Nat → ClassId) (A : Nat → Prop) (ad : gA) (L : gL)  (σ : gS) (hT : (8, 0) ∈ L) (a1 : Int32) (a2 : Int32) (a3 : Int32) (r0 : Int32) (σ0 : gS) (hf : f_X8_among ad σ a1 a2 a3 = some (r0, σ0)) : g_Mi l yX8_among cX8_among 4 (some .int) ({ frames := 83, cells := 0, slots := 0, locals := 2752 } : Room) D cy A ad L σ [.ref (ad 8 0), .int a1, .int a2, .int a3] r0 σ0 := by
  refine g_met (by decide) (Nat.le_of_ble_eq_true rfl) (fun p e s m below meth c C hr hlocks hnm G ls hl => ?_)
  have hl : lv_has ls 4 [(0, .ref (ad 8 0)), (1, .int a1), (2, .int a2), (3, .int a3)] := hl
  unfold f_X8_among at hf
  refine lv_aload_n C.x C.b dX8_among_0 rfl (lv_at hl 0 rfl) ?_
  refine g_getr C G 8 0 0 6 hT rfl ginX8 (by decide) tw284 dX8_among_1 (fun hL1 => ?_)
  refine lv_iload_n C.x C.b dX8_among_4 rfl (lv_at hl 1 rfl) ?_
  obtain ⟨q2, eq2, hf⟩ := g_b hf
  refine g_calli G (g_runV (As := [.int a1]) (rest := []) C G 6 0 (c_X6_hasPerson l D cy A ad L σ hL1 a1 q2 eq2) ⟨tw343, tw55, tw340, ⟨tw341, tw342⟩, hd_X6_hasPerson⟩ (by decide) hL1 rfl ⟨rfl, by decide⟩ hl.1 rfl (Nat.le_of_ble_eq_true rfl) dX8_among_5 ⟨Nat.le_of_ble_eq_true rfl, Nat.le_of_ble_eq_true rfl⟩) (fun H locs G => ?_)
  refine lv_if_eq (tgt := 29) C.x C.b dX8_among_8 (by decide) (fun cb => ?_) (fun cb => ?_)
  · have hf := g_t cb hf
    refine lv_iconst (v := (-1 : Int32)) C.x C.b dX8_among_29 (by decide) ?_
    exact g_eii C G hr hlocks hf dX8_among_30
  · have hf := g_f cb hf
    refine lv_aload_n C.x C.b dX8_among_11 rfl (lv_at hl 0 rfl) ?_
    refine g_getr C G 8 0 0 6 hT rfl ginX8 (by decide) tw284 dX8_among_12 (fun hL3 => ?_)
    refine lv_iload_n C.x C.b dX8_among_15 rfl (lv_at hl 2 rfl) ?_
    obtain ⟨q4, eq4, hf⟩ := g_b hf
    refine g_calli G (g_runV (As := [.int a2]) (rest := []) C G 6 0 (c_X6_hasOffice l D cy A ad L σ hL3 a2 q4 eq4) ⟨tw439, tw55, tw436, ⟨tw437, tw438⟩, hd_X6_hasOffice⟩ (by decide) hL3 rfl ⟨rfl, by decide⟩ hl.1 rfl (Nat.le_of_ble_eq_true rfl) dX8_among_16 ⟨Nat.le_of_ble_eq_true rfl, Nat.le_of_ble_eq_true rfl⟩) (fun H locs G => ?_)
    refine lv_if_eq (tgt := 29) C.x C.b dX8_among_19 (by decide) (fun cb => ?_) (fun cb => ?_)
    · have hf := g_t cb hf
      refine lv_iconst (v := (-1 : Int32)) C.x C.b dX8_among_29 (by decide) ?_
      exact g_eii C G hr hlocks hf dX8_among_30
    · have hf := g_f cb hf
      refine lv_iload_n C.x C.b dX8_among_22 rfl (lv_at hl 3 rfl) ?_
      obtain ⟨q5, eq5, hf⟩ := g_b hf
      refine g_calli G (g_runS (As := [.int a3]) (rest := []) C G (c_X8_isYear l D cy A ad L σ a3 q5 eq5) ⟨tw419, tw54, tw417, tw418, hd_X8_isYear⟩ (by decide) hl.1 rfl (Nat.le_of_ble_eq_true rfl) dX8_among_23 ⟨Nat.le_of_ble_eq_true rfl, Nat.le_of_ble_eq_true rfl⟩) (fun H locs G => ?_)
      refine lv_if_ne (tgt := 31) C.x C.b dX8_among_26 (by decide) (fun cb => ?_) (fun cb => ?_)
      · have hf := g_f cb hf
        refine lv_aload_n C.x C.b dX8_among_31 rfl (lv_at hl 0 rfl) ?_
        refine g_getr C G 8 0 1 1 hT rfl ginX8 (by decide) tw285 dX8_among_32 (fun hL6 => ?_)
        refine lv_aload_n C.x C.b dX8_among_35 rfl (lv_at hl 0 rfl) ?_
        refine g_getr C G 8 0 0 6 hT rfl ginX8 (by decide) tw284 dX8_among_36 (fun hL7 => ?_)
        refine lv_iload_n C.x C.b dX8_among_39 rfl (lv_at hl 3 rfl) ?_
        refine lv_iload_n C.x C.b dX8_among_40 rfl (lv_at hl 1 rfl) ?_
        refine lv_iload_n C.x C.b dX8_among_41 rfl (lv_at hl 2 rfl) ?_
        refine lv_iconst (v := (0 : Int32)) C.x C.b dX8_among_42 (by decide) ?_
        obtain ⟨σ8, eσ8, hf⟩ := g_b hf
        refine g_callv G (g_runV (As := [.ref (ad 6 0), .int a3, .int a1, .int a2, .int (0 : Int32)]) (rest := []) C G 1 0 (c_X1_search l D cy A ad L σ hL6 hL7 a3 a1 a2 (0 : Int32) σ8 eσ8) ⟨tw615, tw57, tw612, ⟨tw613, tw614⟩, hd_X1_search⟩ (by decide) hL6 rfl ⟨rfl, by decide⟩ hl.1 rfl (Nat.le_of_ble_eq_true rfl) dX8_among_43 ⟨Nat.le_of_ble_eq_true rfl, Nat.le_of_ble_eq_true rfl⟩) (fun H locs G => ?_)
        refine lv_aload_n C.x C.b dX8_among_46 rfl (lv_at hl 0 rfl) ?_
        refine g_getr C G 8 0 1 1 hT rfl ginX8 (by decide) tw285 dX8_among_47 (fun hL9 => ?_)
        refine g_geti C G 1 0 3 hL9 rfl ginX1 (by decide) tw168 dX8_among_50 ?_
        refine lv_if_eq (tgt := 61) C.x C.b dX8_among_53 (by decide) (fun cb => ?_) (fun cb => ?_)
        · have hf := g_t cb hf
          refine lv_aload_n C.x C.b dX8_among_61 rfl (lv_at hl 0 rfl) ?_
          refine g_getr C G 8 0 1 1 hT rfl ginX8 (by decide) tw285 dX8_among_62 (fun hL10 => ?_)
          refine g_geti C G 1 0 2 hL10 rfl ginX1 (by decide) tw166 dX8_among_65 ?_
          exact g_eii C G hr hlocks hf dX8_among_68
        · have hf := g_f cb hf
          refine lv_bipush (v := (-8 : Int32)) C.x C.b dX8_among_56 (by decide) ?_
          refine lv_goto (tgt := 68) C.x C.b dX8_among_58 (by decide) ?_
          exact g_eii C G hr hlocks hf dX8_among_68
      · have hf := g_t cb hf
        refine lv_iconst (v := (-1 : Int32)) C.x C.b dX8_among_29 (by decide) ?_
        exact g_eii C G hr hlocks hf dX8_among_30
def f_X8_election (ad : gA) (σ : gS) (a1 : Int32) (a2 : Int32) : Option (Int32 × gS) := (if a1 < (2 : Int32) then (some ((-1 : Int32), σ)) else (if a1 ≤ (4 : Int32) then (if a2 < (1 : Int32) then (some ((-1 : Int32), σ)) else (if (2 : Int32) < a2 then (some ((-1 : Int32), σ)) else (if a2 < a1 then ((f_X0_open ad σ a1 a2).bind fun σ3 => (some ((σ 0 0 2), σ3))) else (some ((-1 : Int32), σ))))) else (some ((-1 : Int32), σ))))
theorem hd_X8_election : yX8_election.cls ≠ "java/lang/invoke/MethodHandle" ∧ yX8_election.cls ≠ "java/lang/invoke/VarHandle" ∧ (parseMethodDescriptor yX8_election.desc).map (fun d => d.parameters.length) = some 2 := by decide +kernel
set_option maxHeartbeats 4000000 in
set_option maxRecDepth 100000 in
theorem c_X8_election (l : Launch) (D : va_G) (cy : Nat → ClassId) (A : Nat → Prop) (ad : gA) (L : gL)  (σ : gS) (hT : (8, 0) ∈ L) (a1 : Int32) (a2 : Int32) (r0 : Int32) (σ0 : gS) (hf : f_X8_election ad σ a1 a2 = some (r0, σ0)) : g_Mi l yX8_election cX8_election 4 (some .int) ({ frames := 2, cells := 0, slots := 0, locals := 45 } : Room) D cy A ad L σ [.ref (ad 8 0), .int a1, .int a2] r0 σ0 := by
  refine g_met (by decide) (Nat.le_of_ble_eq_true rfl) (fun p e s m below meth c C hr hlocks hnm G ls hl => ?_)
  have hl : lv_has ls 4 [(0, .ref (ad 8 0)), (1, .int a1), (2, .int a2)] := hl
  unfold f_X8_election at hf
  refine lv_iload_n C.x C.b dX8_election_0 rfl (lv_at hl 1 rfl) ?_
  refine lv_iconst (v := (2 : Int32)) C.x C.b dX8_election_1 (by decide) ?_
  refine lv_icmp_lt (tgt := 10) C.x C.b dX8_election_2 (by decide) (fun cb => ?_) (fun cb => ?_)
  · have hf := g_t cb hf
    refine lv_iconst (v := (-1 : Int32)) C.x C.b dX8_election_10 (by decide) ?_
    exact g_eii C G hr hlocks hf dX8_election_11
  · have hf := g_f cb hf
    refine lv_iload_n C.x C.b dX8_election_5 rfl (lv_at hl 1 rfl) ?_
    refine lv_iconst (v := (4 : Int32)) C.x C.b dX8_election_6 (by decide) ?_
    refine lv_icmp_le (tgt := 12) C.x C.b dX8_election_7 (by decide) (fun cb => ?_) (fun cb => ?_)
    · have hf := g_t cb hf
      refine lv_iload_n C.x C.b dX8_election_12 rfl (lv_at hl 2 rfl) ?_
      refine lv_iconst (v := (1 : Int32)) C.x C.b dX8_election_13 (by decide) ?_
      refine lv_icmp_lt (tgt := 27) C.x C.b dX8_election_14 (by decide) (fun cb => ?_) (fun cb => ?_)
      · have hf := g_t cb hf
        refine lv_iconst (v := (-1 : Int32)) C.x C.b dX8_election_27 (by decide) ?_
        exact g_eii C G hr hlocks hf dX8_election_28
      · have hf := g_f cb hf
        refine lv_iload_n C.x C.b dX8_election_17 rfl (lv_at hl 2 rfl) ?_
        refine lv_iconst (v := (2 : Int32)) C.x C.b dX8_election_18 (by decide) ?_
        refine lv_icmp_gt (tgt := 27) C.x C.b dX8_election_19 (by decide) (fun cb => ?_) (fun cb => ?_)
        · have hf := g_t cb hf
          refine lv_iconst (v := (-1 : Int32)) C.x C.b dX8_election_27 (by decide) ?_
          exact g_eii C G hr hlocks hf dX8_election_28
        · have hf := g_f cb hf
          refine lv_iload_n C.x C.b dX8_election_22 rfl (lv_at hl 2 rfl) ?_
          refine lv_iload_n C.x C.b dX8_election_23 rfl (lv_at hl 1 rfl) ?_
          refine lv_icmp_lt (tgt := 29) C.x C.b dX8_election_24 (by decide) (fun cb => ?_) (fun cb => ?_)
          · have hf := g_t cb hf
            refine lv_aload_n C.x C.b dX8_election_29 rfl (lv_at hl 0 rfl) ?_
            refine g_getr C G 8 0 2 0 hT rfl ginX8 (by decide) tw286 dX8_election_30 (fun hL1 => ?_)
            refine g_geti C G 0 0 2 hL1 rfl ginX0 (by decide) tw223 dX8_election_33 ?_
            refine lv_istore_n (lv' := [(3, .int (σ 0 0 2)), (0, .ref (ad 8 0)), (1, .int a1), (2, .int a2)]) C.x C.b dX8_election_36 rfl hl (by decide) rfl (fun ls hl => ?_)
            refine lv_aload_n C.x C.b dX8_election_37 rfl (lv_at hl 1 rfl) ?_
            refine g_getr C G 8 0 2 0 hT rfl ginX8 (by decide) tw286 dX8_election_38 (fun hL2 => ?_)
            refine lv_iload_n C.x C.b dX8_election_41 rfl (lv_at hl 2 rfl) ?_
            refine lv_iload_n C.x C.b dX8_election_42 rfl (lv_at hl 3 rfl) ?_
            obtain ⟨σ3, eσ3, hf⟩ := g_b hf
            refine g_callv G (g_runV (As := [.int a1, .int a2]) (rest := []) C G 0 0 (c_X0_open l D cy A ad L σ hL2 a1 a2 σ3 eσ3) ⟨tw670, tw58, tw667, ⟨tw668, tw669⟩, hd_X0_open⟩ (by decide) hL2 rfl ⟨rfl, by decide⟩ hl.1 rfl (Nat.le_of_ble_eq_true rfl) dX8_election_43 ⟨Nat.le_of_ble_eq_true rfl, Nat.le_of_ble_eq_true rfl⟩) (fun H locs G => ?_)
            refine lv_iload_n C.x C.b dX8_election_46 rfl (lv_at hl 0 rfl) ?_
            exact g_eii C G hr hlocks hf dX8_election_47
          · have hf := g_f cb hf
            refine lv_iconst (v := (-1 : Int32)) C.x C.b dX8_election_27 (by decide) ?_
            exact g_eii C G hr hlocks hf dX8_election_28
    · have hf := g_f cb hf
      refine lv_iconst (v := (-1 : Int32)) C.x C.b dX8_election_10 (by decide) ?_
      exact g_eii C G hr hlocks hf dX8_election_11
def f_X8_vote (ad : gA) (σ : gS) (a1 : Int32) (a2 : Int32) : Option (Int32 × gS) := (if a1 < 0 then (some ((-1 : Int32), σ)) else (if (35 : Int32) ≤ a1 then (some ((-1 : Int32), σ)) else ((f_X0_isBallot ad σ a2).bind fun q2 => (if q2 = 0 then (some ((-1 : Int32), σ)) else ((f_X0_take ad σ a1 a2).bind fun q4 => (if q4.1 = 0 then (some ((0 : Int32), q4.2)) else (some ((1 : Int32), q4.2))))))))
theorem hd_X8_vote : yX8_vote.cls ≠ "java/lang/invoke/MethodHandle" ∧ yX8_vote.cls ≠ "java/lang/invoke/VarHandle" ∧ (parseMethodDescriptor yX8_vote.desc).map (fun d => d.parameters.length) = some 2 := by decide +kernel
set_option maxHeartbeats 4000000 in
set_option maxRecDepth 100000 in
theorem c_X8_vote (l : Launch) (D : va_G) (cy : Nat → ClassId) (A : Nat → Prop) (ad : gA) (L : gL)  (σ : gS) (hT : (8, 0) ∈ L) (a1 : Int32) (a2 : Int32) (r0 : Int32) (σ0 : gS) (hf : f_X8_vote ad σ a1 a2 = some (r0, σ0)) : g_Mi l yX8_vote cX8_vote 3 (some .int) ({ frames := 2, cells := 0, slots := 0, locals := 41 } : Room) D cy A ad L σ [.ref (ad 8 0), .int a1, .int a2] r0 σ0 := by
  refine g_met (by decide) (Nat.le_of_ble_eq_true rfl) (fun p e s m below meth c C hr hlocks hnm G ls hl => ?_)
  have hl : lv_has ls 3 [(0, .ref (ad 8 0)), (1, .int a1), (2, .int a2)] := hl
  unfold f_X8_vote at hf
  refine lv_iload_n C.x C.b dX8_vote_0 rfl (lv_at hl 1 rfl) ?_
  refine lv_if_lt (tgt := 21) C.x C.b dX8_vote_1 (by decide) (fun cb => ?_) (fun cb => ?_)
  · have hf := g_t cb hf
    refine lv_iconst (v := (-1 : Int32)) C.x C.b dX8_vote_21 (by decide) ?_
    exact g_eii C G hr hlocks hf dX8_vote_22
  · have hf := g_f cb hf
    refine lv_iload_n C.x C.b dX8_vote_4 rfl (lv_at hl 1 rfl) ?_
    refine lv_bipush (v := (35 : Int32)) C.x C.b dX8_vote_5 (by decide) ?_
    refine lv_icmp_ge (tgt := 21) C.x C.b dX8_vote_7 (by decide) (fun cb => ?_) (fun cb => ?_)
    · have hf := g_t cb hf
      refine lv_iconst (v := (-1 : Int32)) C.x C.b dX8_vote_21 (by decide) ?_
      exact g_eii C G hr hlocks hf dX8_vote_22
    · have hf := g_f cb hf
      refine lv_aload_n C.x C.b dX8_vote_10 rfl (lv_at hl 0 rfl) ?_
      refine g_getr C G 8 0 2 0 hT rfl ginX8 (by decide) tw286 dX8_vote_11 (fun hL1 => ?_)
      refine lv_iload_n C.x C.b dX8_vote_14 rfl (lv_at hl 2 rfl) ?_
      obtain ⟨q2, eq2, hf⟩ := g_b hf
      refine g_calli G (g_runV (As := [.int a2]) (rest := []) C G 0 0 (c_X0_isBallot l D cy A ad L σ hL1 a2 q2 eq2) ⟨tw681, tw58, tw678, ⟨tw679, tw680⟩, hd_X0_isBallot⟩ (by decide) hL1 rfl ⟨rfl, by decide⟩ hl.1 rfl (Nat.le_of_ble_eq_true rfl) dX8_vote_15 ⟨Nat.le_of_ble_eq_true rfl, Nat.le_of_ble_eq_true rfl⟩) (fun H locs G => ?_)
      refine lv_if_ne (tgt := 23) C.x C.b dX8_vote_18 (by decide) (fun cb => ?_) (fun cb => ?_)
      · have hf := g_f cb hf
        refine lv_aload_n C.x C.b dX8_vote_23 rfl (lv_at hl 0 rfl) ?_
        refine g_getr C G 8 0 2 0 hT rfl ginX8 (by decide) tw286 dX8_vote_24 (fun hL3 => ?_)
        refine lv_iload_n C.x C.b dX8_vote_27 rfl (lv_at hl 1 rfl) ?_
        refine lv_iload_n C.x C.b dX8_vote_28 rfl (lv_at hl 2 rfl) ?_
        obtain ⟨q4, eq4, hf⟩ := g_b hf
        refine g_calli G (g_runV (As := [.int a1, .int a2]) (rest := []) C G 0 0 (c_X0_take l D cy A ad L σ hL3 a1 a2 q4.1 q4.2 eq4) ⟨tw691, tw58, tw688, ⟨tw689, tw690⟩, hd_X0_take⟩ (by decide) hL3 rfl ⟨rfl, by decide⟩ hl.1 rfl (Nat.le_of_ble_eq_true rfl) dX8_vote_29 ⟨Nat.le_of_ble_eq_true rfl, Nat.le_of_ble_eq_true rfl⟩) (fun H locs G => ?_)
        refine lv_if_eq (tgt := 39) C.x C.b dX8_vote_32 (by decide) (fun cb => ?_) (fun cb => ?_)
        · have hf := g_t cb hf
          refine lv_iconst (v := (0 : Int32)) C.x C.b dX8_vote_39 (by decide) ?_
          exact g_eii C G hr hlocks hf dX8_vote_40
        · have hf := g_f cb hf
          refine lv_iconst (v := (1 : Int32)) C.x C.b dX8_vote_35 (by decide) ?_
          refine lv_goto (tgt := 40) C.x C.b dX8_vote_36 (by decide) ?_
          exact g_eii C G hr hlocks hf dX8_vote_40
      · have hf := g_t cb hf
        refine lv_iconst (v := (-1 : Int32)) C.x C.b dX8_vote_21 (by decide) ?_
        exact g_eii C G hr hlocks hf dX8_vote_22
def f_X8_elected (ad : gA) (σ : gS) (a1 : Int64) (a3 : Int32) (a4 : Int32) : Option (Int32 × gS) := (if (lg_cmp a1 (0 : Int64)) < 0 then (some ((-1 : Int32), σ)) else (if a3 < 0 then (some ((-1 : Int32), σ)) else (if (σ 0 0 1) ≤ a3 then (some ((-1 : Int32), σ)) else (if a4 < 0 then (some ((-1 : Int32), σ)) else (if a4 ≤ (1 : Int32) then ((f_X0_run ad σ a1).bind fun σ3 => (if a4 = 0 then (if g_ix a3 2 then (some ((σ3 10 0 a3.toNatClampNeg), σ3)) else none) else (if g_ix a3 2 then (some ((σ3 11 0 a3.toNatClampNeg), σ3)) else none))) else (some ((-1 : Int32), σ)))))))
theorem hd_X8_elected : yX8_elected.cls ≠ "java/lang/invoke/MethodHandle" ∧ yX8_elected.cls ≠ "java/lang/invoke/VarHandle" ∧ (parseMethodDescriptor yX8_elected.desc).map (fun d => d.parameters.length) = some 3 := by decide +kernel
set_option maxHeartbeats 4000000 in
set_option maxRecDepth 100000 in
theorem c_X8_elected (l : Launch) (D : va_G) (cy : Nat → ClassId) (A : Nat → Prop) (ad : gA) (L : gL)  (σ : gS) (hT : (8, 0) ∈ L) (a1 : Int64) (a3 : Int32) (a4 : Int32) (r0 : Int32) (σ0 : gS) (hf : f_X8_elected ad σ a1 a3 a4 = some (r0, σ0)) : g_Mi l yX8_elected cX8_elected 5 (some .int) ({ frames := 4, cells := 0, slots := 0, locals := 88 } : Room) D cy A ad L σ [.ref (ad 8 0), .long a1, .int a3, .int a4] r0 σ0 := by
  refine g_met (by decide) (Nat.le_of_ble_eq_true rfl) (fun p e s m below meth c C hr hlocks hnm G ls hl => ?_)
  have hl : lv_has ls 5 [(0, .ref (ad 8 0)), (1, .long a1), (3, .int a3), (4, .int a4)] := hl
  unfold f_X8_elected at hf
  refine lv_lload_n C.x C.b dX8_elected_0 rfl (lv_at hl 1 rfl) ?_
  refine lv_lconst (v := (0 : Int64)) C.x C.b dX8_elected_1 (by decide) ?_
  refine W.lcmp C.x C.b dX8_elected_2 ?_
  refine lv_if_lt (tgt := 32) C.x C.b dX8_elected_3 (by decide) (fun cb => ?_) (fun cb => ?_)
  · have hf := g_t cb hf
    refine lv_iconst (v := (-1 : Int32)) C.x C.b dX8_elected_32 (by decide) ?_
    exact g_eii C G hr hlocks hf dX8_elected_33
  · have hf := g_f cb hf
    refine lv_iload_n C.x C.b dX8_elected_6 rfl (lv_at hl 2 rfl) ?_
    refine lv_if_lt (tgt := 32) C.x C.b dX8_elected_7 (by decide) (fun cb => ?_) (fun cb => ?_)
    · have hf := g_t cb hf
      refine lv_iconst (v := (-1 : Int32)) C.x C.b dX8_elected_32 (by decide) ?_
      exact g_eii C G hr hlocks hf dX8_elected_33
    · have hf := g_f cb hf
      refine lv_iload_n C.x C.b dX8_elected_10 rfl (lv_at hl 2 rfl) ?_
      refine lv_aload_n C.x C.b dX8_elected_11 rfl (lv_at hl 0 rfl) ?_
      refine g_getr C G 8 0 2 0 hT rfl ginX8 (by decide) tw286 dX8_elected_12 (fun hL1 => ?_)
      refine g_geti C G 0 0 1 hL1 rfl ginX0 (by decide) tw221 dX8_elected_15 ?_
      refine lv_icmp_ge (tgt := 32) C.x C.b dX8_elected_18 (by decide) (fun cb => ?_) (fun cb => ?_)
      · have hf := g_t cb hf
        refine lv_iconst (v := (-1 : Int32)) C.x C.b dX8_elected_32 (by decide) ?_
        exact g_eii C G hr hlocks hf dX8_elected_33
      · have hf := g_f cb hf
        refine lv_iload C.x C.b dX8_elected_21 (lv_at hl 3 rfl) ?_
        refine lv_if_lt (tgt := 32) C.x C.b dX8_elected_23 (by decide) (fun cb => ?_) (fun cb => ?_)
        · have hf := g_t cb hf
          refine lv_iconst (v := (-1 : Int32)) C.x C.b dX8_elected_32 (by decide) ?_
          exact g_eii C G hr hlocks hf dX8_elected_33
        · have hf := g_f cb hf
          refine lv_iload C.x C.b dX8_elected_26 (lv_at hl 3 rfl) ?_
          refine lv_iconst (v := (1 : Int32)) C.x C.b dX8_elected_28 (by decide) ?_
          refine lv_icmp_le (tgt := 34) C.x C.b dX8_elected_29 (by decide) (fun cb => ?_) (fun cb => ?_)
          · have hf := g_t cb hf
            refine lv_aload_n C.x C.b dX8_elected_34 rfl (lv_at hl 0 rfl) ?_
            refine g_getr C G 8 0 2 0 hT rfl ginX8 (by decide) tw286 dX8_elected_35 (fun hL2 => ?_)
            refine lv_lload_n C.x C.b dX8_elected_38 rfl (lv_at hl 1 rfl) ?_
            obtain ⟨σ3, eσ3, hf⟩ := g_b hf
            refine g_callv G (g_runV (As := [.long a1]) (rest := []) C G 0 0 (c_X0_run l D cy A ad L σ hL2 a1 σ3 eσ3) ⟨tw699, tw58, tw696, ⟨tw697, tw698⟩, hd_X0_run⟩ (by decide) hL2 rfl ⟨rfl, by decide⟩ hl.1 rfl (Nat.le_of_ble_eq_true rfl) dX8_elected_39 ⟨Nat.le_of_ble_eq_true rfl, Nat.le_of_ble_eq_true rfl⟩) (fun H locs G => ?_)
            refine lv_iload C.x C.b dX8_elected_42 (lv_at hl 3 rfl) ?_
            refine lv_if_ne (tgt := 59) C.x C.b dX8_elected_44 (by decide) (fun cb => ?_) (fun cb => ?_)
            · have hf := g_f cb hf
              refine lv_aload_n C.x C.b dX8_elected_59 rfl (lv_at hl 0 rfl) ?_
              refine g_getr C G 8 0 2 0 hT rfl ginX8 (by decide) tw286 dX8_elected_60 (fun hL4 => ?_)
              refine g_getr C G 0 0 4 11 hL4 rfl ginX0 (by decide) tw227 dX8_elected_63 (fun hL5 => ?_)
              refine lv_iload_n C.x C.b dX8_elected_66 rfl (lv_at hl 2 rfl) ?_
              obtain ⟨hi6, hf⟩ := g_ok hf
              refine g_iald (n := 2) C G 11 0 hL5 (by decide) rfl hi6 dX8_elected_67 ?_
              exact g_eii C G hr hlocks hf dX8_elected_68
            · have hf := g_t cb hf
              refine lv_aload_n C.x C.b dX8_elected_47 rfl (lv_at hl 0 rfl) ?_
              refine g_getr C G 8 0 2 0 hT rfl ginX8 (by decide) tw286 dX8_elected_48 (fun hL7 => ?_)
              refine g_getr C G 0 0 3 10 hL7 rfl ginX0 (by decide) tw225 dX8_elected_51 (fun hL8 => ?_)
              refine lv_iload_n C.x C.b dX8_elected_54 rfl (lv_at hl 2 rfl) ?_
              obtain ⟨hi9, hf⟩ := g_ok hf
              refine g_iald (n := 2) C G 10 0 hL8 (by decide) rfl hi9 dX8_elected_55 ?_
              refine lv_goto (tgt := 68) C.x C.b dX8_elected_56 (by decide) ?_
              exact g_eii C G hr hlocks hf dX8_elected_68
          · have hf := g_f cb hf
            refine lv_iconst (v := (-1 : Int32)) C.x C.b dX8_elected_32 (by decide) ?_
            exact g_eii C G hr hlocks hf dX8_elected_33
def f_X8_sure (ad : gA) (σ : gS) (a1 : Int64) : Option (Int32 × gS) := (if 0 ≤ (lg_cmp a1 (0 : Int64)) then ((f_X0_sureAfter ad σ a1).bind fun q2 => (some (q2.1, q2.2))) else (some ((-1 : Int32), σ)))
theorem hd_X8_sure : yX8_sure.cls ≠ "java/lang/invoke/MethodHandle" ∧ yX8_sure.cls ≠ "java/lang/invoke/VarHandle" ∧ (parseMethodDescriptor yX8_sure.desc).map (fun d => d.parameters.length) = some 1 := by decide +kernel
set_option maxHeartbeats 4000000 in
set_option maxRecDepth 100000 in
theorem c_X8_sure (l : Launch) (D : va_G) (cy : Nat → ClassId) (A : Nat → Prop) (ad : gA) (L : gL)  (σ : gS) (hT : (8, 0) ∈ L) (a1 : Int64) (r0 : Int32) (σ0 : gS) (hf : f_X8_sure ad σ a1 = some (r0, σ0)) : g_Mi l yX8_sure cX8_sure 3 (some .int) ({ frames := 3, cells := 0, slots := 0, locals := 75 } : Room) D cy A ad L σ [.ref (ad 8 0), .long a1] r0 σ0 := by
  refine g_met (by decide) (Nat.le_of_ble_eq_true rfl) (fun p e s m below meth c C hr hlocks hnm G ls hl => ?_)
  have hl : lv_has ls 3 [(0, .ref (ad 8 0)), (1, .long a1)] := hl
  unfold f_X8_sure at hf
  refine lv_lload_n C.x C.b dX8_sure_0 rfl (lv_at hl 1 rfl) ?_
  refine lv_lconst (v := (0 : Int64)) C.x C.b dX8_sure_1 (by decide) ?_
  refine W.lcmp C.x C.b dX8_sure_2 ?_
  refine lv_if_ge (tgt := 10) C.x C.b dX8_sure_3 (by decide) (fun cb => ?_) (fun cb => ?_)
  · have hf := g_t cb hf
    refine lv_aload_n C.x C.b dX8_sure_10 rfl (lv_at hl 0 rfl) ?_
    refine g_getr C G 8 0 2 0 hT rfl ginX8 (by decide) tw286 dX8_sure_11 (fun hL1 => ?_)
    refine lv_lload_n C.x C.b dX8_sure_14 rfl (lv_at hl 1 rfl) ?_
    obtain ⟨q2, eq2, hf⟩ := g_b hf
    refine g_calli G (g_runV (As := [.long a1]) (rest := []) C G 0 0 (c_X0_sureAfter l D cy A ad L σ hL1 a1 q2.1 q2.2 eq2) ⟨tw738, tw58, tw735, ⟨tw736, tw737⟩, hd_X0_sureAfter⟩ (by decide) hL1 rfl ⟨rfl, by decide⟩ hl.1 rfl (Nat.le_of_ble_eq_true rfl) dX8_sure_15 ⟨Nat.le_of_ble_eq_true rfl, Nat.le_of_ble_eq_true rfl⟩) (fun H locs G => ?_)
    exact g_eii C G hr hlocks hf dX8_sure_18
  · have hf := g_f cb hf
    refine lv_iconst (v := (-1 : Int32)) C.x C.b dX8_sure_6 (by decide) ?_
    refine lv_goto (tgt := 18) C.x C.b dX8_sure_7 (by decide) ?_
    exact g_eii C G hr hlocks hf dX8_sure_18
def f_X8_drawn (ad : gA) (σ : gS) (a1 : Int32) (a2 : Int64) (a4 : Int32) : Option (Int32 × gS) := (if a1 < (1 : Int32) then (some ((-1 : Int32), σ)) else (if (35 : Int32) < a1 then (some ((-1 : Int32), σ)) else (if (lg_cmp a2 (0 : Int64)) < 0 then (some ((-1 : Int32), σ)) else (if a4 < 0 then (some ((-1 : Int32), σ)) else (if a4 < a1 then ((f_X8_draw ad σ 31 0 35 a1 a2).bind fun σ2 => (if g_ix a4 35 then (some ((σ2 31 0 a4.toNatClampNeg), σ2)) else none)) else (some ((-1 : Int32), σ)))))))
theorem hd_X8_drawn : yX8_drawn.cls ≠ "java/lang/invoke/MethodHandle" ∧ yX8_drawn.cls ≠ "java/lang/invoke/VarHandle" ∧ (parseMethodDescriptor yX8_drawn.desc).map (fun d => d.parameters.length) = some 3 := by decide +kernel
set_option maxHeartbeats 4000000 in
set_option maxRecDepth 100000 in
theorem c_X8_drawn (l : Launch) (D : va_G) (cy : Nat → ClassId) (A : Nat → Prop) (ad : gA) (L : gL)  (σ : gS) (hT : (8, 0) ∈ L) (a1 : Int32) (a2 : Int64) (a4 : Int32) (r0 : Int32) (σ0 : gS) (hf : f_X8_drawn ad σ a1 a2 a4 = some (r0, σ0)) : g_Mi l yX8_drawn cX8_drawn 5 (some .int) ({ frames := 1, cells := 0, slots := 0, locals := 30 } : Room) D cy A ad L σ [.ref (ad 8 0), .int a1, .long a2, .int a4] r0 σ0 := by
  refine g_met (by decide) (Nat.le_of_ble_eq_true rfl) (fun p e s m below meth c C hr hlocks hnm G ls hl => ?_)
  have hl : lv_has ls 5 [(0, .ref (ad 8 0)), (1, .int a1), (2, .long a2), (4, .int a4)] := hl
  unfold f_X8_drawn at hf
  refine lv_iload_n C.x C.b dX8_drawn_0 rfl (lv_at hl 1 rfl) ?_
  refine lv_iconst (v := (1 : Int32)) C.x C.b dX8_drawn_1 (by decide) ?_
  refine lv_icmp_lt (tgt := 28) C.x C.b dX8_drawn_2 (by decide) (fun cb => ?_) (fun cb => ?_)
  · have hf := g_t cb hf
    refine lv_iconst (v := (-1 : Int32)) C.x C.b dX8_drawn_28 (by decide) ?_
    exact g_eii C G hr hlocks hf dX8_drawn_29
  · have hf := g_f cb hf
    refine lv_iload_n C.x C.b dX8_drawn_5 rfl (lv_at hl 1 rfl) ?_
    refine lv_bipush (v := (35 : Int32)) C.x C.b dX8_drawn_6 (by decide) ?_
    refine lv_icmp_gt (tgt := 28) C.x C.b dX8_drawn_8 (by decide) (fun cb => ?_) (fun cb => ?_)
    · have hf := g_t cb hf
      refine lv_iconst (v := (-1 : Int32)) C.x C.b dX8_drawn_28 (by decide) ?_
      exact g_eii C G hr hlocks hf dX8_drawn_29
    · have hf := g_f cb hf
      refine lv_lload_n C.x C.b dX8_drawn_11 rfl (lv_at hl 2 rfl) ?_
      refine lv_lconst (v := (0 : Int64)) C.x C.b dX8_drawn_12 (by decide) ?_
      refine W.lcmp C.x C.b dX8_drawn_13 ?_
      refine lv_if_lt (tgt := 28) C.x C.b dX8_drawn_14 (by decide) (fun cb => ?_) (fun cb => ?_)
      · have hf := g_t cb hf
        refine lv_iconst (v := (-1 : Int32)) C.x C.b dX8_drawn_28 (by decide) ?_
        exact g_eii C G hr hlocks hf dX8_drawn_29
      · have hf := g_f cb hf
        refine lv_iload C.x C.b dX8_drawn_17 (lv_at hl 3 rfl) ?_
        refine lv_if_lt (tgt := 28) C.x C.b dX8_drawn_19 (by decide) (fun cb => ?_) (fun cb => ?_)
        · have hf := g_t cb hf
          refine lv_iconst (v := (-1 : Int32)) C.x C.b dX8_drawn_28 (by decide) ?_
          exact g_eii C G hr hlocks hf dX8_drawn_29
        · have hf := g_f cb hf
          refine lv_iload C.x C.b dX8_drawn_22 (lv_at hl 3 rfl) ?_
          refine lv_iload_n C.x C.b dX8_drawn_24 rfl (lv_at hl 1 rfl) ?_
          refine lv_icmp_lt (tgt := 30) C.x C.b dX8_drawn_25 (by decide) (fun cb => ?_) (fun cb => ?_)
          · have hf := g_t cb hf
            refine lv_aload_n C.x C.b dX8_drawn_30 rfl (lv_at hl 0 rfl) ?_
            refine g_getr C G 8 0 4 31 hT rfl ginX8 (by decide) tw288 dX8_drawn_31 (fun hL1 => ?_)
            refine lv_iload_n C.x C.b dX8_drawn_34 rfl (lv_at hl 1 rfl) ?_
            refine lv_lload_n C.x C.b dX8_drawn_35 rfl (lv_at hl 2 rfl) ?_
            obtain ⟨σ2, eσ2, hf⟩ := g_b hf
            refine g_callv G (g_runS (As := [.ref (ad 31 0), .int a1, .long a2]) (rest := []) C G (c_X8_draw l D cy A ad L σ 31 0 35 hL1 (by decide) rfl a1 a2 σ2 eσ2) ⟨tw706, tw54, tw747, tw705, hd_X8_draw⟩ (by decide) hl.1 rfl (Nat.le_of_ble_eq_true rfl) dX8_drawn_36 ⟨Nat.le_of_ble_eq_true rfl, Nat.le_of_ble_eq_true rfl⟩) (fun H locs G => ?_)
            refine lv_aload_n C.x C.b dX8_drawn_39 rfl (lv_at hl 0 rfl) ?_
            refine g_getr C G 8 0 4 31 hT rfl ginX8 (by decide) tw288 dX8_drawn_40 (fun hL3 => ?_)
            refine lv_iload C.x C.b dX8_drawn_43 (lv_at hl 3 rfl) ?_
            obtain ⟨hi4, hf⟩ := g_ok hf
            refine g_iald (n := 35) C G 31 0 hL3 (by decide) rfl hi4 dX8_drawn_45 ?_
            exact g_eii C G hr hlocks hf dX8_drawn_46
          · have hf := g_f cb hf
            refine lv_iconst (v := (-1 : Int32)) C.x C.b dX8_drawn_28 (by decide) ?_
            exact g_eii C G hr hlocks hf dX8_drawn_29
def f_X8_province (ad : gA) (σ : gS) (a1 : Int32) (a2 : Int32) (a3 : Int32) (a4 : Int32) (a5 : Int64) : Option (Int32 × gS) := ((f_X6_hasSeat ad σ a1 a2 a3).bind fun q2 => (if q2 = 0 then (some ((-1 : Int32), σ)) else (if a4 < (1 : Int32) then (some ((-1 : Int32), σ)) else (if (9 : Int32) < a4 then (some ((-1 : Int32), σ)) else (if 0 ≤ (lg_cmp a5 (0 : Int64)) then (if g_ix a1 8 then (if σ 25 0 a1.toNatClampNeg < 0 then none else ((f_X3_holder ad σ a1.toNatClampNeg a2 a3).bind fun q8 => (if q8 = (-1 : Int32) then (some ((-3 : Int32), σ)) else ((f_X3_heldAhead ad σ a1.toNatClampNeg a2 a3).bind fun q9 => (if q9 < a4 then ((f_X8_draw ad σ 31 0 35 a4 a5).bind fun σ11 => (if g_ix q9 35 then (some ((σ11 31 0 q9.toNatClampNeg), σ11)) else none)) else (some ((-2 : Int32), σ))))))) else none) else (some ((-1 : Int32), σ)))))))
theorem hd_X8_province : yX8_province.cls ≠ "java/lang/invoke/MethodHandle" ∧ yX8_province.cls ≠ "java/lang/invoke/VarHandle" ∧ (parseMethodDescriptor yX8_province.desc).map (fun d => d.parameters.length) = some 5 := by decide +kernel
set_option maxHeartbeats 4000000 in
set_option maxRecDepth 100000 in
theorem c_X8_province (l : Launch) (D : va_G) (cy : Nat → ClassId) (A : Nat → Prop) (ad : gA) (L : gL)  (σ : gS) (hT : (8, 0) ∈ L) (a1 : Int32) (a2 : Int32) (a3 : Int32) (a4 : Int32) (a5 : Int64) (r0 : Int32) (σ0 : gS) (hf : f_X8_province ad σ a1 a2 a3 a4 a5 = some (r0, σ0)) : g_Mi l yX8_province cX8_province 9 (some .int) ({ frames := 2, cells := 0, slots := 0, locals := 46 } : Room) D cy A ad L σ [.ref (ad 8 0), .int a1, .int a2, .int a3, .int a4, .long a5] r0 σ0 := by
  refine g_met (by decide) (Nat.le_of_ble_eq_true rfl) (fun p e s m below meth c C hr hlocks hnm G ls hl => ?_)
  have hl : lv_has ls 9 [(0, .ref (ad 8 0)), (1, .int a1), (2, .int a2), (3, .int a3), (4, .int a4), (5, .long a5)] := hl
  unfold f_X8_province at hf
  refine lv_aload_n C.x C.b dX8_province_0 rfl (lv_at hl 0 rfl) ?_
  refine g_getr C G 8 0 0 6 hT rfl ginX8 (by decide) tw284 dX8_province_1 (fun hL1 => ?_)
  refine lv_iload_n C.x C.b dX8_province_4 rfl (lv_at hl 1 rfl) ?_
  refine lv_iload_n C.x C.b dX8_province_5 rfl (lv_at hl 2 rfl) ?_
  refine lv_iload_n C.x C.b dX8_province_6 rfl (lv_at hl 3 rfl) ?_
  obtain ⟨q2, eq2, hf⟩ := g_b hf
  refine g_calli G (g_runV (As := [.int a1, .int a2, .int a3]) (rest := []) C G 6 0 (c_X6_hasSeat l D cy A ad L σ hL1 a1 a2 a3 q2 eq2) ⟨tw514, tw55, tw511, ⟨tw512, tw513⟩, hd_X6_hasSeat⟩ (by decide) hL1 rfl ⟨rfl, by decide⟩ hl.1 rfl (Nat.le_of_ble_eq_true rfl) dX8_province_7 ⟨Nat.le_of_ble_eq_true rfl, Nat.le_of_ble_eq_true rfl⟩) (fun H locs G => ?_)
  refine lv_if_eq (tgt := 33) C.x C.b dX8_province_10 (by decide) (fun cb => ?_) (fun cb => ?_)
  · have hf := g_t cb hf
    refine lv_iconst (v := (-1 : Int32)) C.x C.b dX8_province_33 (by decide) ?_
    exact g_eii C G hr hlocks hf dX8_province_34
  · have hf := g_f cb hf
    refine lv_iload C.x C.b dX8_province_13 (lv_at hl 4 rfl) ?_
    refine lv_iconst (v := (1 : Int32)) C.x C.b dX8_province_15 (by decide) ?_
    refine lv_icmp_lt (tgt := 33) C.x C.b dX8_province_16 (by decide) (fun cb => ?_) (fun cb => ?_)
    · have hf := g_t cb hf
      refine lv_iconst (v := (-1 : Int32)) C.x C.b dX8_province_33 (by decide) ?_
      exact g_eii C G hr hlocks hf dX8_province_34
    · have hf := g_f cb hf
      refine lv_iload C.x C.b dX8_province_19 (lv_at hl 4 rfl) ?_
      refine lv_bipush (v := (9 : Int32)) C.x C.b dX8_province_21 (by decide) ?_
      refine lv_icmp_gt (tgt := 33) C.x C.b dX8_province_23 (by decide) (fun cb => ?_) (fun cb => ?_)
      · have hf := g_t cb hf
        refine lv_iconst (v := (-1 : Int32)) C.x C.b dX8_province_33 (by decide) ?_
        exact g_eii C G hr hlocks hf dX8_province_34
      · have hf := g_f cb hf
        refine lv_lload C.x C.b dX8_province_26 (lv_at hl 5 rfl) ?_
        refine lv_lconst (v := (0 : Int64)) C.x C.b dX8_province_28 (by decide) ?_
        refine W.lcmp C.x C.b dX8_province_29 ?_
        refine lv_if_ge (tgt := 35) C.x C.b dX8_province_30 (by decide) (fun cb => ?_) (fun cb => ?_)
        · have hf := g_t cb hf
          refine lv_aload_n C.x C.b dX8_province_35 rfl (lv_at hl 0 rfl) ?_
          refine g_getr C G 8 0 0 6 hT rfl ginX8 (by decide) tw284 dX8_province_36 (fun hL3 => ?_)
          refine g_getr C G 6 0 0 25 hL3 rfl ginX6 (by decide) tw117 dX8_province_39 (fun hL4 => ?_)
          refine lv_iload_n C.x C.b dX8_province_42 rfl (lv_at hl 1 rfl) ?_
          obtain ⟨hi5, hf⟩ := g_ok hf
          obtain ⟨hq6, hf⟩ := g_okn hf
          refine g_aldq (n := 8) C G 25 0 3 hL4 (by decide) rfl rfl hi5 hq6 dX8_province_43 (fun hL7 => ?_)
          refine lv_astore (lv' := [(7, .ref (ad 3 a1.toNatClampNeg)), (0, .ref (ad 8 0)), (1, .int a1), (2, .int a2), (3, .int a3), (4, .int a4), (5, .long a5)]) C.x C.b dX8_province_44 hl (by decide) rfl (fun ls hl => ?_)
          refine lv_aload C.x C.b dX8_province_46 (lv_at hl 0 rfl) ?_
          refine lv_iload_n C.x C.b dX8_province_48 rfl (lv_at hl 3 rfl) ?_
          refine lv_iload_n C.x C.b dX8_province_49 rfl (lv_at hl 4 rfl) ?_
          obtain ⟨q8, eq8, hf⟩ := g_b hf
          refine g_calli G (g_runV (As := [.int a2, .int a3]) (rest := []) C G 3 a1.toNatClampNeg (c_X3_holder l D cy A ad L σ a1.toNatClampNeg hL7 a2 a3 q8 eq8) ⟨tw519, tw61, tw516, ⟨tw517, tw518⟩, hd_X3_holder⟩ (by decide) hL7 rfl ⟨rfl, by decide⟩ hl.1 rfl (Nat.le_of_ble_eq_true rfl) dX8_province_50 ⟨Nat.le_of_ble_eq_true rfl, Nat.le_of_ble_eq_true rfl⟩) (fun H locs G => ?_)
          refine lv_iconst (v := (-1 : Int32)) C.x C.b dX8_province_53 (by decide) ?_
          refine lv_icmp_ne (tgt := 60) C.x C.b dX8_province_54 (by decide) (fun cb => ?_) (fun cb => ?_)
          · have hf := g_f cb hf
            refine lv_aload C.x C.b dX8_province_60 (lv_at hl 0 rfl) ?_
            refine lv_iload_n C.x C.b dX8_province_62 rfl (lv_at hl 3 rfl) ?_
            refine lv_iload_n C.x C.b dX8_province_63 rfl (lv_at hl 4 rfl) ?_
            obtain ⟨q9, eq9, hf⟩ := g_b hf
            refine g_calli G (g_runV (As := [.int a2, .int a3]) (rest := []) C G 3 a1.toNatClampNeg (c_X3_heldAhead l D cy A ad L σ a1.toNatClampNeg hL7 a2 a3 q9 eq9) ⟨tw755, tw61, tw752, ⟨tw753, tw754⟩, hd_X3_heldAhead⟩ (by decide) hL7 rfl ⟨rfl, by decide⟩ hl.1 rfl (Nat.le_of_ble_eq_true rfl) dX8_province_64 ⟨Nat.le_of_ble_eq_true rfl, Nat.le_of_ble_eq_true rfl⟩) (fun H locs G => ?_)
            refine lv_istore (lv' := [(8, .int q9), (7, .ref (ad 3 a1.toNatClampNeg)), (0, .ref (ad 8 0)), (1, .int a1), (2, .int a2), (3, .int a3), (4, .int a4), (5, .long a5)]) C.x C.b dX8_province_67 hl (by decide) rfl (fun ls hl => ?_)
            refine lv_iload C.x C.b dX8_province_69 (lv_at hl 0 rfl) ?_
            refine lv_iload C.x C.b dX8_province_71 (lv_at hl 6 rfl) ?_
            refine lv_icmp_lt (tgt := 79) C.x C.b dX8_province_73 (by decide) (fun cb => ?_) (fun cb => ?_)
            · have hf := g_t cb hf
              refine lv_aload_n C.x C.b dX8_province_79 rfl (lv_at hl 2 rfl) ?_
              refine g_getr C G 8 0 4 31 hT rfl ginX8 (by decide) tw288 dX8_province_80 (fun hL10 => ?_)
              refine lv_iload C.x C.b dX8_province_83 (lv_at hl 6 rfl) ?_
              refine lv_lload C.x C.b dX8_province_85 (lv_at hl 7 rfl) ?_
              obtain ⟨σ11, eσ11, hf⟩ := g_b hf
              refine g_callv G (g_runS (As := [.ref (ad 31 0), .int a4, .long a5]) (rest := []) C G (c_X8_draw l D cy A ad L σ 31 0 35 hL10 (by decide) rfl a4 a5 σ11 eσ11) ⟨tw706, tw54, tw747, tw705, hd_X8_draw⟩ (by decide) hl.1 rfl (Nat.le_of_ble_eq_true rfl) dX8_province_87 ⟨Nat.le_of_ble_eq_true rfl, Nat.le_of_ble_eq_true rfl⟩) (fun H locs G => ?_)
              refine lv_aload_n C.x C.b dX8_province_90 rfl (lv_at hl 2 rfl) ?_
              refine g_getr C G 8 0 4 31 hT rfl ginX8 (by decide) tw288 dX8_province_91 (fun hL12 => ?_)
              refine lv_iload C.x C.b dX8_province_94 (lv_at hl 0 rfl) ?_
              obtain ⟨hi13, hf⟩ := g_ok hf
              refine g_iald (n := 35) C G 31 0 hL12 (by decide) rfl hi13 dX8_province_96 ?_
              exact g_eii C G hr hlocks hf dX8_province_97
            · have hf := g_f cb hf
              refine lv_bipush (v := (-2 : Int32)) C.x C.b dX8_province_76 (by decide) ?_
              exact g_eii C G hr hlocks hf dX8_province_78
          · have hf := g_t cb hf
            refine lv_bipush (v := (-3 : Int32)) C.x C.b dX8_province_57 (by decide) ?_
            exact g_eii C G hr hlocks hf dX8_province_59
        · have hf := g_f cb hf
          refine lv_iconst (v := (-1 : Int32)) C.x C.b dX8_province_33 (by decide) ?_
          exact g_eii C G hr hlocks hf dX8_province_34
def f_X8_count (ad : gA) (σ : gS) (a1 : Int32) : Option Int32 := (if a1 = (0 : Int32) then (some (σ 6 0 3)) else (if a1 = (1 : Int32) then (some (σ 6 0 4)) else (if a1 = (2 : Int32) then (some (σ 6 0 5)) else (if a1 = (3 : Int32) then (some (σ 6 0 6)) else (if a1 = (4 : Int32) then (some (σ 6 0 7)) else (if a1 = (5 : Int32) then (some (σ 0 0 2)) else (some (-1 : Int32))))))))
theorem hd_X8_count : yX8_count.cls ≠ "java/lang/invoke/MethodHandle" ∧ yX8_count.cls ≠ "java/lang/invoke/VarHandle" ∧ (parseMethodDescriptor yX8_count.desc).map (fun d => d.parameters.length) = some 1 := by decide +kernel
set_option maxHeartbeats 4000000 in
set_option maxRecDepth 100000 in
theorem c_X8_count (l : Launch) (D : va_G) (cy : Nat → ClassId) (A : Nat → Prop) (ad : gA) (L : gL)  (σ : gS) (hT : (8, 0) ∈ L) (a1 : Int32) (r0 : Int32) (hf : f_X8_count ad σ a1 = some r0) : g_Mi l yX8_count cX8_count 2 (some .int) ({ frames := 0, cells := 0, slots := 0, locals := 0 } : Room) D cy A ad L σ [.ref (ad 8 0), .int a1] r0 σ := by
  refine g_met (by decide) (Nat.le_of_ble_eq_true rfl) (fun p e s m below meth c C hr hlocks hnm G ls hl => ?_)
  have hl : lv_has ls 2 [(0, .ref (ad 8 0)), (1, .int a1)] := hl
  unfold f_X8_count at hf
  refine lv_iload_n C.x C.b dX8_count_0 rfl (lv_at hl 1 rfl) ?_
  by_cases c0 : a1 = (0 : Int32)
  · have hf := g_t c0 hf
    have e9 := g_swI c0 (show ((0 : Int32)).toInt = 0 from by decide)
    refine lv_tableIn (tgt := 40) C.x C.b dX8_count_1 (by omega) (by omega) (by rw [e9]; rfl) (by decide) ?_
    refine lv_aload_n C.x C.b dX8_count_40 rfl (lv_at hl 0 rfl) ?_
    refine g_getr C G 8 0 0 6 hT rfl ginX8 (by decide) tw284 dX8_count_41 (fun hL1 => ?_)
    refine g_geti C G 6 0 3 hL1 rfl ginX6 (by decide) tw124 dX8_count_44 ?_
    exact g_eip C G hr hlocks hf dX8_count_47
  have hf := g_f c0 hf
  by_cases c1 : a1 = (1 : Int32)
  · have hf := g_t c1 hf
    have e9 := g_swI c1 (show ((1 : Int32)).toInt = 1 from by decide)
    refine lv_tableIn (tgt := 48) C.x C.b dX8_count_1 (by omega) (by omega) (by rw [e9]; rfl) (by decide) ?_
    refine lv_aload_n C.x C.b dX8_count_48 rfl (lv_at hl 0 rfl) ?_
    refine g_getr C G 8 0 0 6 hT rfl ginX8 (by decide) tw284 dX8_count_49 (fun hL2 => ?_)
    refine g_geti C G 6 0 4 hL2 rfl ginX6 (by decide) tw127 dX8_count_52 ?_
    exact g_eip C G hr hlocks hf dX8_count_55
  have hf := g_f c1 hf
  by_cases c2 : a1 = (2 : Int32)
  · have hf := g_t c2 hf
    have e9 := g_swI c2 (show ((2 : Int32)).toInt = 2 from by decide)
    refine lv_tableIn (tgt := 56) C.x C.b dX8_count_1 (by omega) (by omega) (by rw [e9]; rfl) (by decide) ?_
    refine lv_aload_n C.x C.b dX8_count_56 rfl (lv_at hl 0 rfl) ?_
    refine g_getr C G 8 0 0 6 hT rfl ginX8 (by decide) tw284 dX8_count_57 (fun hL3 => ?_)
    refine g_geti C G 6 0 5 hL3 rfl ginX6 (by decide) tw130 dX8_count_60 ?_
    exact g_eip C G hr hlocks hf dX8_count_63
  have hf := g_f c2 hf
  by_cases c3 : a1 = (3 : Int32)
  · have hf := g_t c3 hf
    have e9 := g_swI c3 (show ((3 : Int32)).toInt = 3 from by decide)
    refine lv_tableIn (tgt := 64) C.x C.b dX8_count_1 (by omega) (by omega) (by rw [e9]; rfl) (by decide) ?_
    refine lv_aload_n C.x C.b dX8_count_64 rfl (lv_at hl 0 rfl) ?_
    refine g_getr C G 8 0 0 6 hT rfl ginX8 (by decide) tw284 dX8_count_65 (fun hL4 => ?_)
    refine g_geti C G 6 0 6 hL4 rfl ginX6 (by decide) tw132 dX8_count_68 ?_
    exact g_eip C G hr hlocks hf dX8_count_71
  have hf := g_f c3 hf
  by_cases c4 : a1 = (4 : Int32)
  · have hf := g_t c4 hf
    have e9 := g_swI c4 (show ((4 : Int32)).toInt = 4 from by decide)
    refine lv_tableIn (tgt := 72) C.x C.b dX8_count_1 (by omega) (by omega) (by rw [e9]; rfl) (by decide) ?_
    refine lv_aload_n C.x C.b dX8_count_72 rfl (lv_at hl 0 rfl) ?_
    refine g_getr C G 8 0 0 6 hT rfl ginX8 (by decide) tw284 dX8_count_73 (fun hL5 => ?_)
    refine g_geti C G 6 0 7 hL5 rfl ginX6 (by decide) tw134 dX8_count_76 ?_
    exact g_eip C G hr hlocks hf dX8_count_79
  have hf := g_f c4 hf
  by_cases c5 : a1 = (5 : Int32)
  · have hf := g_t c5 hf
    have e9 := g_swI c5 (show ((5 : Int32)).toInt = 5 from by decide)
    refine lv_tableIn (tgt := 80) C.x C.b dX8_count_1 (by omega) (by omega) (by rw [e9]; rfl) (by decide) ?_
    refine lv_aload_n C.x C.b dX8_count_80 rfl (lv_at hl 0 rfl) ?_
    refine g_getr C G 8 0 2 0 hT rfl ginX8 (by decide) tw286 dX8_count_81 (fun hL6 => ?_)
    refine g_geti C G 0 0 2 hL6 rfl ginX0 (by decide) tw223 dX8_count_84 ?_
    exact g_eip C G hr hlocks hf dX8_count_87
  have hf := g_f c5 hf
  have n0 := lv_neT c0 (show ((0 : Int32)).toInt = 0 from by decide)
  have n1 := lv_neT c1 (show ((1 : Int32)).toInt = 1 from by decide)
  have n2 := lv_neT c2 (show ((2 : Int32)).toInt = 2 from by decide)
  have n3 := lv_neT c3 (show ((3 : Int32)).toInt = 3 from by decide)
  have n4 := lv_neT c4 (show ((4 : Int32)).toInt = 4 from by decide)
  have n5 := lv_neT c5 (show ((5 : Int32)).toInt = 5 from by decide)
  refine lv_tableOut (tgt := 88) C.x C.b dX8_count_1 (by omega) (by decide) ?_
  refine lv_iconst (v := (-1 : Int32)) C.x C.b dX8_count_88 (by decide) ?_
  exact g_eip C G hr hlocks hf dX8_count_89
def f_X8_keep_P62 (ad : gA) (a2 : Int32) (a3 : Int32) (σ : gS) (v4 : Nat) : Option (Int32 × gS) := (if a2 = (3 : Int32) then ((f_X6_hasOffice ad σ a3).bind fun q24 => (if q24 = 0 then (if a2 = (4 : Int32) then ((f_X6_hasPerson ad σ a3).bind fun q26 => (if q26 = 0 then (some ((-1 : Int32), σ)) else (if g_ix a3 24 then (if σ 26 0 a3.toNatClampNeg < 0 then none else ((f_X7_keepLife ad σ v4 a3.toNatClampNeg).bind fun σ32 => (some ((0 : Int32), σ32)))) else none))) else (some ((-1 : Int32), σ))) else (if g_ix a3 8 then (if σ 25 0 a3.toNatClampNeg < 0 then none else ((f_X7_keepHolders ad σ v4 a3.toNatClampNeg).bind fun σ38 => (some ((0 : Int32), σ38)))) else none))) else (if a2 = (4 : Int32) then ((f_X6_hasPerson ad σ a3).bind fun q16 => (if q16 = 0 then (some ((-1 : Int32), σ)) else (if g_ix a3 24 then (if σ 26 0 a3.toNatClampNeg < 0 then none else ((f_X7_keepLife ad σ v4 a3.toNatClampNeg).bind fun σ22 => (some ((0 : Int32), σ22)))) else none))) else (some ((-1 : Int32), σ))))
def f_X8_keep (ad : gA) (σ : gS) (a1 : Int32) (a2 : Int32) (a3 : Int32) : Option (Int32 × gS) := ((f_X8_isShelf ad σ a1).bind fun q1 => (if q1 = 0 then (some ((-1 : Int32), σ)) else (if g_ix a1 8 then (if σ 30 0 a1.toNatClampNeg < 0 then none else (if a2 = 0 then ((f_X7_clear ad σ a1.toNatClampNeg).bind fun σ14 => (some ((0 : Int32), σ14))) else (if a2 = (1 : Int32) then ((f_X6_hasLaw ad σ a3).bind fun q7 => (if q7 = 0 then (f_X8_keep_P62 ad a2 a3 σ a1.toNatClampNeg) else (if g_ix a3 20 then (if σ 27 0 a3.toNatClampNeg < 0 then none else ((f_X7_keepLaw ad σ a1.toNatClampNeg a3.toNatClampNeg).bind fun σ13 => (some ((0 : Int32), σ13)))) else none))) else (f_X8_keep_P62 ad a2 a3 σ a1.toNatClampNeg)))) else none)))
theorem hd_X8_keep : yX8_keep.cls ≠ "java/lang/invoke/MethodHandle" ∧ yX8_keep.cls ≠ "java/lang/invoke/VarHandle" ∧ (parseMethodDescriptor yX8_keep.desc).map (fun d => d.parameters.length) = some 3 := by decide +kernel
set_option maxHeartbeats 4000000 in
set_option maxRecDepth 100000 in
theorem c_X8_keep (l : Launch) (D : va_G) (cy : Nat → ClassId) (A : Nat → Prop) (ad : gA) (L : gL)  (σ : gS) (hT : (8, 0) ∈ L) (a1 : Int32) (a2 : Int32) (a3 : Int32) (r0 : Int32) (σ0 : gS) (hf : f_X8_keep ad σ a1 a2 a3 = some (r0, σ0)) : g_Mi l yX8_keep cX8_keep 5 (some .int) ({ frames := 3, cells := 0, slots := 0, locals := 67 } : Room) D cy A ad L σ [.ref (ad 8 0), .int a1, .int a2, .int a3] r0 σ0 := by
  refine g_met (by decide) (Nat.le_of_ble_eq_true rfl) (fun p e s m below meth c C hr hlocks hnm G ls hl => ?_)
  have hl : lv_has ls 5 [(0, .ref (ad 8 0)), (1, .int a1), (2, .int a2), (3, .int a3)] := hl
  have pt62 : ∀ (σ : gS) (v4 : Nat), (7, v4) ∈ L → ∀ (H : Heap) (locs : List Loc) (ls : Array Slot), g_H D cy A ad L σ s.heap H locs → lv_has ls 5 [(0, .ref (ad 8 0)), (2, .int a2), (3, .int a3), (4, .ref (ad 7 v4))] → f_X8_keep_P62 ad a2 a3 σ v4 = some (r0, σ0) → g_Wi p l e ({ frames := 3, cells := 0, slots := 0, locals := 67 } : Room) s m below meth c H locs 0 0 D cy A ad L [.ref (ad 8 0), .int a1, .int a2, .int a3] r0 σ0 (F0 m 62 ls []) := by
    intro σ v4 hv4 H locs ls G hl hf
    unfold f_X8_keep_P62 at hf
    refine lv_iload_n C.x C.b dX8_keep_62 rfl (lv_at hl 1 rfl) ?_
    refine lv_iconst (v := (3 : Int32)) C.x C.b dX8_keep_63 (by decide) ?_
    refine lv_icmp_ne (tgt := 95) C.x C.b dX8_keep_64 (by decide) (fun cb => ?_) (fun cb => ?_)
    · have hf := g_f cb hf
      refine lv_iload_n C.x C.b dX8_keep_95 rfl (lv_at hl 1 rfl) ?_
      refine lv_iconst (v := (4 : Int32)) C.x C.b dX8_keep_96 (by decide) ?_
      refine lv_icmp_ne (tgt := 128) C.x C.b dX8_keep_97 (by decide) (fun cb => ?_) (fun cb => ?_)
      · have hf := g_f cb hf
        refine lv_iconst (v := (-1 : Int32)) C.x C.b dX8_keep_128 (by decide) ?_
        exact g_eii C G hr hlocks hf dX8_keep_129
      · have hf := g_t cb hf
        refine lv_aload_n C.x C.b dX8_keep_100 rfl (lv_at hl 0 rfl) ?_
        refine g_getr C G 8 0 0 6 hT rfl ginX8 (by decide) tw284 dX8_keep_101 (fun hL15 => ?_)
        refine lv_iload_n C.x C.b dX8_keep_104 rfl (lv_at hl 2 rfl) ?_
        obtain ⟨q16, eq16, hf⟩ := g_b hf
        refine g_calli G (g_runV (As := [.int a3]) (rest := []) C G 6 0 (c_X6_hasPerson l D cy A ad L σ hL15 a3 q16 eq16) ⟨tw343, tw55, tw340, ⟨tw341, tw342⟩, hd_X6_hasPerson⟩ (by decide) hL15 rfl ⟨rfl, by decide⟩ hl.1 rfl (Nat.le_of_ble_eq_true rfl) dX8_keep_105 ⟨Nat.le_of_ble_eq_true rfl, Nat.le_of_ble_eq_true rfl⟩) (fun H locs G => ?_)
        refine lv_if_eq (tgt := 128) C.x C.b dX8_keep_108 (by decide) (fun cb => ?_) (fun cb => ?_)
        · have hf := g_t cb hf
          refine lv_iconst (v := (-1 : Int32)) C.x C.b dX8_keep_128 (by decide) ?_
          exact g_eii C G hr hlocks hf dX8_keep_129
        · have hf := g_f cb hf
          refine lv_aload C.x C.b dX8_keep_111 (lv_at hl 3 rfl) ?_
          refine lv_aload_n C.x C.b dX8_keep_113 rfl (lv_at hl 0 rfl) ?_
          refine g_getr C G 8 0 0 6 hT rfl ginX8 (by decide) tw284 dX8_keep_114 (fun hL17 => ?_)
          refine g_getr C G 6 0 1 26 hL17 rfl ginX6 (by decide) tw119 dX8_keep_117 (fun hL18 => ?_)
          refine lv_iload_n C.x C.b dX8_keep_120 rfl (lv_at hl 2 rfl) ?_
          obtain ⟨hi19, hf⟩ := g_ok hf
          obtain ⟨hq20, hf⟩ := g_okn hf
          refine g_aldq (n := 24) C G 26 0 5 hL18 (by decide) rfl rfl hi19 hq20 dX8_keep_121 (fun hL21 => ?_)
          obtain ⟨σ22, eσ22, hf⟩ := g_b hf
          refine g_callv G (g_runV (As := [.ref (ad 5 a3.toNatClampNeg)]) (rest := []) C G 7 v4 (c_X7_keepLife l D cy A ad L σ v4 hv4 a3.toNatClampNeg hL21 σ22 eσ22) ⟨tw787, tw59, tw784, ⟨tw785, tw786⟩, hd_X7_keepLife⟩ (by decide) hv4 rfl ⟨rfl, by decide⟩ hl.1 rfl (Nat.le_of_ble_eq_true rfl) dX8_keep_122 ⟨Nat.le_of_ble_eq_true rfl, Nat.le_of_ble_eq_true rfl⟩) (fun H locs G => ?_)
          refine lv_goto (tgt := 130) C.x C.b dX8_keep_125 (by decide) ?_
          refine lv_iconst (v := (0 : Int32)) C.x C.b dX8_keep_130 (by decide) ?_
          exact g_eii C G hr hlocks hf dX8_keep_131
    · have hf := g_t cb hf
      refine lv_aload_n C.x C.b dX8_keep_67 rfl (lv_at hl 0 rfl) ?_
      refine g_getr C G 8 0 0 6 hT rfl ginX8 (by decide) tw284 dX8_keep_68 (fun hL23 => ?_)
      refine lv_iload_n C.x C.b dX8_keep_71 rfl (lv_at hl 2 rfl) ?_
      obtain ⟨q24, eq24, hf⟩ := g_b hf
      refine g_calli G (g_runV (As := [.int a3]) (rest := []) C G 6 0 (c_X6_hasOffice l D cy A ad L σ hL23 a3 q24 eq24) ⟨tw439, tw55, tw436, ⟨tw437, tw438⟩, hd_X6_hasOffice⟩ (by decide) hL23 rfl ⟨rfl, by decide⟩ hl.1 rfl (Nat.le_of_ble_eq_true rfl) dX8_keep_72 ⟨Nat.le_of_ble_eq_true rfl, Nat.le_of_ble_eq_true rfl⟩) (fun H locs G => ?_)
      refine lv_if_eq (tgt := 95) C.x C.b dX8_keep_75 (by decide) (fun cb => ?_) (fun cb => ?_)
      · have hf := g_t cb hf
        refine lv_iload_n C.x C.b dX8_keep_95 rfl (lv_at hl 1 rfl) ?_
        refine lv_iconst (v := (4 : Int32)) C.x C.b dX8_keep_96 (by decide) ?_
        refine lv_icmp_ne (tgt := 128) C.x C.b dX8_keep_97 (by decide) (fun cb => ?_) (fun cb => ?_)
        · have hf := g_f cb hf
          refine lv_iconst (v := (-1 : Int32)) C.x C.b dX8_keep_128 (by decide) ?_
          exact g_eii C G hr hlocks hf dX8_keep_129
        · have hf := g_t cb hf
          refine lv_aload_n C.x C.b dX8_keep_100 rfl (lv_at hl 0 rfl) ?_
          refine g_getr C G 8 0 0 6 hT rfl ginX8 (by decide) tw284 dX8_keep_101 (fun hL25 => ?_)
          refine lv_iload_n C.x C.b dX8_keep_104 rfl (lv_at hl 2 rfl) ?_
          obtain ⟨q26, eq26, hf⟩ := g_b hf
          refine g_calli G (g_runV (As := [.int a3]) (rest := []) C G 6 0 (c_X6_hasPerson l D cy A ad L σ hL25 a3 q26 eq26) ⟨tw343, tw55, tw340, ⟨tw341, tw342⟩, hd_X6_hasPerson⟩ (by decide) hL25 rfl ⟨rfl, by decide⟩ hl.1 rfl (Nat.le_of_ble_eq_true rfl) dX8_keep_105 ⟨Nat.le_of_ble_eq_true rfl, Nat.le_of_ble_eq_true rfl⟩) (fun H locs G => ?_)
          refine lv_if_eq (tgt := 128) C.x C.b dX8_keep_108 (by decide) (fun cb => ?_) (fun cb => ?_)
          · have hf := g_t cb hf
            refine lv_iconst (v := (-1 : Int32)) C.x C.b dX8_keep_128 (by decide) ?_
            exact g_eii C G hr hlocks hf dX8_keep_129
          · have hf := g_f cb hf
            refine lv_aload C.x C.b dX8_keep_111 (lv_at hl 3 rfl) ?_
            refine lv_aload_n C.x C.b dX8_keep_113 rfl (lv_at hl 0 rfl) ?_
            refine g_getr C G 8 0 0 6 hT rfl ginX8 (by decide) tw284 dX8_keep_114 (fun hL27 => ?_)
            refine g_getr C G 6 0 1 26 hL27 rfl ginX6 (by decide) tw119 dX8_keep_117 (fun hL28 => ?_)
            refine lv_iload_n C.x C.b dX8_keep_120 rfl (lv_at hl 2 rfl) ?_
            obtain ⟨hi29, hf⟩ := g_ok hf
            obtain ⟨hq30, hf⟩ := g_okn hf
            refine g_aldq (n := 24) C G 26 0 5 hL28 (by decide) rfl rfl hi29 hq30 dX8_keep_121 (fun hL31 => ?_)
            obtain ⟨σ32, eσ32, hf⟩ := g_b hf
            refine g_callv G (g_runV (As := [.ref (ad 5 a3.toNatClampNeg)]) (rest := []) C G 7 v4 (c_X7_keepLife l D cy A ad L σ v4 hv4 a3.toNatClampNeg hL31 σ32 eσ32) ⟨tw787, tw59, tw784, ⟨tw785, tw786⟩, hd_X7_keepLife⟩ (by decide) hv4 rfl ⟨rfl, by decide⟩ hl.1 rfl (Nat.le_of_ble_eq_true rfl) dX8_keep_122 ⟨Nat.le_of_ble_eq_true rfl, Nat.le_of_ble_eq_true rfl⟩) (fun H locs G => ?_)
            refine lv_goto (tgt := 130) C.x C.b dX8_keep_125 (by decide) ?_
            refine lv_iconst (v := (0 : Int32)) C.x C.b dX8_keep_130 (by decide) ?_
            exact g_eii C G hr hlocks hf dX8_keep_131
      · have hf := g_f cb hf
        refine lv_aload C.x C.b dX8_keep_78 (lv_at hl 3 rfl) ?_
        refine lv_aload_n C.x C.b dX8_keep_80 rfl (lv_at hl 0 rfl) ?_
        refine g_getr C G 8 0 0 6 hT rfl ginX8 (by decide) tw284 dX8_keep_81 (fun hL33 => ?_)
        refine g_getr C G 6 0 0 25 hL33 rfl ginX6 (by decide) tw117 dX8_keep_84 (fun hL34 => ?_)
        refine lv_iload_n C.x C.b dX8_keep_87 rfl (lv_at hl 2 rfl) ?_
        obtain ⟨hi35, hf⟩ := g_ok hf
        obtain ⟨hq36, hf⟩ := g_okn hf
        refine g_aldq (n := 8) C G 25 0 3 hL34 (by decide) rfl rfl hi35 hq36 dX8_keep_88 (fun hL37 => ?_)
        obtain ⟨σ38, eσ38, hf⟩ := g_b hf
        refine g_callv G (g_runV (As := [.ref (ad 3 a3.toNatClampNeg)]) (rest := []) C G 7 v4 (c_X7_keepHolders l D cy A ad L σ v4 hv4 a3.toNatClampNeg hL37 σ38 eσ38) ⟨tw782, tw59, tw779, ⟨tw780, tw781⟩, hd_X7_keepHolders⟩ (by decide) hv4 rfl ⟨rfl, by decide⟩ hl.1 rfl (Nat.le_of_ble_eq_true rfl) dX8_keep_89 ⟨Nat.le_of_ble_eq_true rfl, Nat.le_of_ble_eq_true rfl⟩) (fun H locs G => ?_)
        refine lv_goto (tgt := 130) C.x C.b dX8_keep_92 (by decide) ?_
        refine lv_iconst (v := (0 : Int32)) C.x C.b dX8_keep_130 (by decide) ?_
        exact g_eii C G hr hlocks hf dX8_keep_131
  unfold f_X8_keep at hf
  refine lv_iload_n C.x C.b dX8_keep_0 rfl (lv_at hl 1 rfl) ?_
  obtain ⟨q1, eq1, hf⟩ := g_b hf
  refine g_calli G (g_runS (As := [.int a1]) (rest := []) C G (c_X8_isShelf l D cy A ad L σ a1 q1 eq1) ⟨tw766, tw54, tw764, tw765, hd_X8_isShelf⟩ (by decide) hl.1 rfl (Nat.le_of_ble_eq_true rfl) dX8_keep_1 ⟨Nat.le_of_ble_eq_true rfl, Nat.le_of_ble_eq_true rfl⟩) (fun H locs G => ?_)
  refine lv_if_ne (tgt := 9) C.x C.b dX8_keep_4 (by decide) (fun cb => ?_) (fun cb => ?_)
  · have hf := g_f cb hf
    refine lv_aload_n C.x C.b dX8_keep_9 rfl (lv_at hl 0 rfl) ?_
    refine g_getr C G 8 0 3 30 hT rfl ginX8 (by decide) tw287 dX8_keep_10 (fun hL2 => ?_)
    refine lv_iload_n C.x C.b dX8_keep_13 rfl (lv_at hl 1 rfl) ?_
    obtain ⟨hi3, hf⟩ := g_ok hf
    obtain ⟨hq4, hf⟩ := g_okn hf
    refine g_aldq (n := 8) C G 30 0 7 hL2 (by decide) rfl rfl hi3 hq4 dX8_keep_14 (fun hL5 => ?_)
    refine lv_astore (lv' := [(4, .ref (ad 7 a1.toNatClampNeg)), (0, .ref (ad 8 0)), (1, .int a1), (2, .int a2), (3, .int a3)]) C.x C.b dX8_keep_15 hl (by decide) rfl (fun ls hl => ?_)
    refine lv_iload_n C.x C.b dX8_keep_17 rfl (lv_at hl 3 rfl) ?_
    refine lv_if_ne (tgt := 29) C.x C.b dX8_keep_18 (by decide) (fun cb => ?_) (fun cb => ?_)
    · have hf := g_f cb hf
      refine lv_iload_n C.x C.b dX8_keep_29 rfl (lv_at hl 3 rfl) ?_
      refine lv_iconst (v := (1 : Int32)) C.x C.b dX8_keep_30 (by decide) ?_
      refine lv_icmp_ne (tgt := 62) C.x C.b dX8_keep_31 (by decide) (fun cb => ?_) (fun cb => ?_)
      · have hf := g_f cb hf
        exact pt62 σ a1.toNatClampNeg hL5 _ _ ls G (lv_sub hl [1, 3, 4, 0] rfl) hf
      · have hf := g_t cb hf
        refine lv_aload_n C.x C.b dX8_keep_34 rfl (lv_at hl 1 rfl) ?_
        refine g_getr C G 8 0 0 6 hT rfl ginX8 (by decide) tw284 dX8_keep_35 (fun hL6 => ?_)
        refine lv_iload_n C.x C.b dX8_keep_38 rfl (lv_at hl 4 rfl) ?_
        obtain ⟨q7, eq7, hf⟩ := g_b hf
        refine g_calli G (g_runV (As := [.int a3]) (rest := []) C G 6 0 (c_X6_hasLaw l D cy A ad L σ hL6 a3 q7 eq7) ⟨tw486, tw55, tw483, ⟨tw484, tw485⟩, hd_X6_hasLaw⟩ (by decide) hL6 rfl ⟨rfl, by decide⟩ hl.1 rfl (Nat.le_of_ble_eq_true rfl) dX8_keep_39 ⟨Nat.le_of_ble_eq_true rfl, Nat.le_of_ble_eq_true rfl⟩) (fun H locs G => ?_)
        refine lv_if_eq (tgt := 62) C.x C.b dX8_keep_42 (by decide) (fun cb => ?_) (fun cb => ?_)
        · have hf := g_t cb hf
          exact pt62 σ a1.toNatClampNeg hL5 _ _ ls G (lv_sub hl [1, 3, 4, 0] rfl) hf
        · have hf := g_f cb hf
          refine lv_aload C.x C.b dX8_keep_45 (lv_at hl 0 rfl) ?_
          refine lv_aload_n C.x C.b dX8_keep_47 rfl (lv_at hl 1 rfl) ?_
          refine g_getr C G 8 0 0 6 hT rfl ginX8 (by decide) tw284 dX8_keep_48 (fun hL8 => ?_)
          refine g_getr C G 6 0 2 27 hL8 rfl ginX6 (by decide) tw122 dX8_keep_51 (fun hL9 => ?_)
          refine lv_iload_n C.x C.b dX8_keep_54 rfl (lv_at hl 4 rfl) ?_
          obtain ⟨hi10, hf⟩ := g_ok hf
          obtain ⟨hq11, hf⟩ := g_okn hf
          refine g_aldq (n := 20) C G 27 0 2 hL9 (by decide) rfl rfl hi10 hq11 dX8_keep_55 (fun hL12 => ?_)
          obtain ⟨σ13, eσ13, hf⟩ := g_b hf
          refine g_callv G (g_runV (As := [.ref (ad 2 a3.toNatClampNeg)]) (rest := []) C G 7 a1.toNatClampNeg (c_X7_keepLaw l D cy A ad L σ a1.toNatClampNeg hL5 a3.toNatClampNeg hL12 σ13 eσ13) ⟨tw778, tw59, tw775, ⟨tw776, tw777⟩, hd_X7_keepLaw⟩ (by decide) hL5 rfl ⟨rfl, by decide⟩ hl.1 rfl (Nat.le_of_ble_eq_true rfl) dX8_keep_56 ⟨Nat.le_of_ble_eq_true rfl, Nat.le_of_ble_eq_true rfl⟩) (fun H locs G => ?_)
          refine lv_goto (tgt := 130) C.x C.b dX8_keep_59 (by decide) ?_
          refine lv_iconst (v := (0 : Int32)) C.x C.b dX8_keep_130 (by decide) ?_
          exact g_eii C G hr hlocks hf dX8_keep_131
    · have hf := g_t cb hf
      refine lv_aload C.x C.b dX8_keep_21 (lv_at hl 0 rfl) ?_
      obtain ⟨σ14, eσ14, hf⟩ := g_b hf
      refine g_callv G (g_runV (As := []) (rest := []) C G 7 a1.toNatClampNeg (c_X7_clear l D cy A ad L σ a1.toNatClampNeg hL5 σ14 eσ14) ⟨tw770, tw59, tw767, ⟨tw768, tw769⟩, hd_X7_clear⟩ (by decide) hL5 rfl ⟨rfl, by decide⟩ hl.1 rfl (Nat.le_of_ble_eq_true rfl) dX8_keep_23 ⟨Nat.le_of_ble_eq_true rfl, Nat.le_of_ble_eq_true rfl⟩) (fun H locs G => ?_)
      refine lv_goto (tgt := 130) C.x C.b dX8_keep_26 (by decide) ?_
      refine lv_iconst (v := (0 : Int32)) C.x C.b dX8_keep_130 (by decide) ?_
      exact g_eii C G hr hlocks hf dX8_keep_131
  · have hf := g_t cb hf
    refine lv_iconst (v := (-1 : Int32)) C.x C.b dX8_keep_7 (by decide) ?_
    exact g_eii C G hr hlocks hf dX8_keep_8
def f_X8_make (ad : gA) (σ : gS) (a1 : Int32) (a2 : Int32) (a3 : Int32) : Option (Int32 × gS) := ((f_X8_isShelf ad σ a1).bind fun q1 => (if q1 = 0 then (some ((-1 : Int32), σ)) else (if a2 = (3 : Int32) then (if a3 ≤ (60 : Int32) then (if 0 ≤ a3 then (if g_ix a1 8 then (if σ 30 0 a1.toNatClampNeg < 0 then none else ((f_X7_keepZeros ad σ a1.toNatClampNeg a2 a3).bind fun σ6 => (some ((0 : Int32), σ6)))) else none) else (some ((-14 : Int32), σ))) else (some ((-1 : Int32), σ))) else (if a2 = (4 : Int32) then (if a3 ≤ (60 : Int32) then (if 0 ≤ a3 then (if g_ix a1 8 then (if σ 30 0 a1.toNatClampNeg < 0 then none else ((f_X7_keepZeros ad σ a1.toNatClampNeg a2 a3).bind fun σ11 => (some ((0 : Int32), σ11)))) else none) else (some ((-14 : Int32), σ))) else (some ((-1 : Int32), σ))) else (some ((-1 : Int32), σ))))))
theorem hd_X8_make : yX8_make.cls ≠ "java/lang/invoke/MethodHandle" ∧ yX8_make.cls ≠ "java/lang/invoke/VarHandle" ∧ (parseMethodDescriptor yX8_make.desc).map (fun d => d.parameters.length) = some 3 := by decide +kernel
set_option maxHeartbeats 4000000 in
set_option maxRecDepth 100000 in
theorem c_X8_make (l : Launch) (D : va_G) (cy : Nat → ClassId) (A : Nat → Prop) (ad : gA) (L : gL)  (σ : gS) (hT : (8, 0) ∈ L) (a1 : Int32) (a2 : Int32) (a3 : Int32) (r0 : Int32) (σ0 : gS) (hf : f_X8_make ad σ a1 a2 a3 = some (r0, σ0)) : g_Mi l yX8_make cX8_make 4 (some .int) ({ frames := 2, cells := 0, slots := 0, locals := 45 } : Room) D cy A ad L σ [.ref (ad 8 0), .int a1, .int a2, .int a3] r0 σ0 := by
  refine g_met (by decide) (Nat.le_of_ble_eq_true rfl) (fun p e s m below meth c C hr hlocks hnm G ls hl => ?_)
  have hl : lv_has ls 4 [(0, .ref (ad 8 0)), (1, .int a1), (2, .int a2), (3, .int a3)] := hl
  unfold f_X8_make at hf
  refine lv_iload_n C.x C.b dX8_make_0 rfl (lv_at hl 1 rfl) ?_
  obtain ⟨q1, eq1, hf⟩ := g_b hf
  refine g_calli G (g_runS (As := [.int a1]) (rest := []) C G (c_X8_isShelf l D cy A ad L σ a1 q1 eq1) ⟨tw766, tw54, tw764, tw765, hd_X8_isShelf⟩ (by decide) hl.1 rfl (Nat.le_of_ble_eq_true rfl) dX8_make_1 ⟨Nat.le_of_ble_eq_true rfl, Nat.le_of_ble_eq_true rfl⟩) (fun H locs G => ?_)
  refine lv_if_eq (tgt := 23) C.x C.b dX8_make_4 (by decide) (fun cb => ?_) (fun cb => ?_)
  · have hf := g_t cb hf
    refine lv_iconst (v := (-1 : Int32)) C.x C.b dX8_make_23 (by decide) ?_
    exact g_eii C G hr hlocks hf dX8_make_24
  · have hf := g_f cb hf
    refine lv_iload_n C.x C.b dX8_make_7 rfl (lv_at hl 2 rfl) ?_
    refine lv_iconst (v := (3 : Int32)) C.x C.b dX8_make_8 (by decide) ?_
    refine lv_icmp_eq (tgt := 17) C.x C.b dX8_make_9 (by decide) (fun cb => ?_) (fun cb => ?_)
    · have hf := g_t cb hf
      refine lv_iload_n C.x C.b dX8_make_17 rfl (lv_at hl 3 rfl) ?_
      refine lv_bipush (v := (60 : Int32)) C.x C.b dX8_make_18 (by decide) ?_
      refine lv_icmp_le (tgt := 25) C.x C.b dX8_make_20 (by decide) (fun cb => ?_) (fun cb => ?_)
      · have hf := g_t cb hf
        refine lv_iload_n C.x C.b dX8_make_25 rfl (lv_at hl 3 rfl) ?_
        refine lv_if_ge (tgt := 32) C.x C.b dX8_make_26 (by decide) (fun cb => ?_) (fun cb => ?_)
        · have hf := g_t cb hf
          refine lv_aload_n C.x C.b dX8_make_32 rfl (lv_at hl 0 rfl) ?_
          refine g_getr C G 8 0 3 30 hT rfl ginX8 (by decide) tw287 dX8_make_33 (fun hL2 => ?_)
          refine lv_iload_n C.x C.b dX8_make_36 rfl (lv_at hl 1 rfl) ?_
          obtain ⟨hi3, hf⟩ := g_ok hf
          obtain ⟨hq4, hf⟩ := g_okn hf
          refine g_aldq (n := 8) C G 30 0 7 hL2 (by decide) rfl rfl hi3 hq4 dX8_make_37 (fun hL5 => ?_)
          refine lv_iload_n C.x C.b dX8_make_38 rfl (lv_at hl 2 rfl) ?_
          refine lv_iload_n C.x C.b dX8_make_39 rfl (lv_at hl 3 rfl) ?_
          obtain ⟨σ6, eσ6, hf⟩ := g_b hf
          refine g_callv G (g_runV (As := [.int a2, .int a3]) (rest := []) C G 7 a1.toNatClampNeg (c_X7_keepZeros l D cy A ad L σ a1.toNatClampNeg hL5 a2 a3 σ6 eσ6) ⟨tw795, tw59, tw792, ⟨tw793, tw794⟩, hd_X7_keepZeros⟩ (by decide) hL5 rfl ⟨rfl, by decide⟩ hl.1 rfl (Nat.le_of_ble_eq_true rfl) dX8_make_40 ⟨Nat.le_of_ble_eq_true rfl, Nat.le_of_ble_eq_true rfl⟩) (fun H locs G => ?_)
          refine lv_iconst (v := (0 : Int32)) C.x C.b dX8_make_43 (by decide) ?_
          exact g_eii C G hr hlocks hf dX8_make_44
        · have hf := g_f cb hf
          refine lv_bipush (v := (-14 : Int32)) C.x C.b dX8_make_29 (by decide) ?_
          exact g_eii C G hr hlocks hf dX8_make_31
      · have hf := g_f cb hf
        refine lv_iconst (v := (-1 : Int32)) C.x C.b dX8_make_23 (by decide) ?_
        exact g_eii C G hr hlocks hf dX8_make_24
    · have hf := g_f cb hf
      refine lv_iload_n C.x C.b dX8_make_12 rfl (lv_at hl 2 rfl) ?_
      refine lv_iconst (v := (4 : Int32)) C.x C.b dX8_make_13 (by decide) ?_
      refine lv_icmp_ne (tgt := 23) C.x C.b dX8_make_14 (by decide) (fun cb => ?_) (fun cb => ?_)
      · have hf := g_f cb hf
        refine lv_iconst (v := (-1 : Int32)) C.x C.b dX8_make_23 (by decide) ?_
        exact g_eii C G hr hlocks hf dX8_make_24
      · have hf := g_t cb hf
        refine lv_iload_n C.x C.b dX8_make_17 rfl (lv_at hl 3 rfl) ?_
        refine lv_bipush (v := (60 : Int32)) C.x C.b dX8_make_18 (by decide) ?_
        refine lv_icmp_le (tgt := 25) C.x C.b dX8_make_20 (by decide) (fun cb => ?_) (fun cb => ?_)
        · have hf := g_t cb hf
          refine lv_iload_n C.x C.b dX8_make_25 rfl (lv_at hl 3 rfl) ?_
          refine lv_if_ge (tgt := 32) C.x C.b dX8_make_26 (by decide) (fun cb => ?_) (fun cb => ?_)
          · have hf := g_t cb hf
            refine lv_aload_n C.x C.b dX8_make_32 rfl (lv_at hl 0 rfl) ?_
            refine g_getr C G 8 0 3 30 hT rfl ginX8 (by decide) tw287 dX8_make_33 (fun hL7 => ?_)
            refine lv_iload_n C.x C.b dX8_make_36 rfl (lv_at hl 1 rfl) ?_
            obtain ⟨hi8, hf⟩ := g_ok hf
            obtain ⟨hq9, hf⟩ := g_okn hf
            refine g_aldq (n := 8) C G 30 0 7 hL7 (by decide) rfl rfl hi8 hq9 dX8_make_37 (fun hL10 => ?_)
            refine lv_iload_n C.x C.b dX8_make_38 rfl (lv_at hl 2 rfl) ?_
            refine lv_iload_n C.x C.b dX8_make_39 rfl (lv_at hl 3 rfl) ?_
            obtain ⟨σ11, eσ11, hf⟩ := g_b hf
            refine g_callv G (g_runV (As := [.int a2, .int a3]) (rest := []) C G 7 a1.toNatClampNeg (c_X7_keepZeros l D cy A ad L σ a1.toNatClampNeg hL10 a2 a3 σ11 eσ11) ⟨tw795, tw59, tw792, ⟨tw793, tw794⟩, hd_X7_keepZeros⟩ (by decide) hL10 rfl ⟨rfl, by decide⟩ hl.1 rfl (Nat.le_of_ble_eq_true rfl) dX8_make_40 ⟨Nat.le_of_ble_eq_true rfl, Nat.le_of_ble_eq_true rfl⟩) (fun H locs G => ?_)
            refine lv_iconst (v := (0 : Int32)) C.x C.b dX8_make_43 (by decide) ?_
            exact g_eii C G hr hlocks hf dX8_make_44
          · have hf := g_f cb hf
            refine lv_bipush (v := (-14 : Int32)) C.x C.b dX8_make_29 (by decide) ?_
            exact g_eii C G hr hlocks hf dX8_make_31
        · have hf := g_f cb hf
          refine lv_iconst (v := (-1 : Int32)) C.x C.b dX8_make_23 (by decide) ?_
          exact g_eii C G hr hlocks hf dX8_make_24
def f_X8_copy (ad : gA) (σ : gS) (a1 : Int32) (a2 : Int32) (a3 : Int32) (a4 : Int32) (a5 : Int32) : Option (Int32 × gS) := ((f_X8_isShelf ad σ a1).bind fun q1 => (if q1 = 0 then (some ((-1 : Int32), σ)) else ((f_X8_isShelf ad σ a3).bind fun q2 => (if q2 = 0 then (some ((-1 : Int32), σ)) else (if g_ix a1 8 then (if σ 30 0 a1.toNatClampNeg < 0 then none else (if g_ix a3 8 then (if σ 30 0 a3.toNatClampNeg < 0 then none else (if (σ 7 a1.toNatClampNeg 0) = 0 then (some ((-11 : Int32), σ)) else (if (σ 7 a3.toNatClampNeg 0) = 0 then (some ((-11 : Int32), σ)) else ((f_X7_isRow ad σ a1.toNatClampNeg).bind fun q11 => (if q11 = 0 then (some ((-12 : Int32), σ)) else (if (σ 7 a1.toNatClampNeg 0) = (σ 7 a3.toNatClampNeg 0) then ((f_X7_hasSpan ad σ a1.toNatClampNeg a2 a5).bind fun q12 => (if q12 = 0 then (some ((-13 : Int32), σ)) else ((f_X7_hasSpan ad σ a3.toNatClampNeg a4 a5).bind fun q13 => (if q13 = 0 then (some ((-13 : Int32), σ)) else ((f_X7_copyTo ad σ a1.toNatClampNeg a3.toNatClampNeg a2 a4 a5).bind fun σ14 => (some (a5, σ14))))))) else (some ((-12 : Int32), σ)))))))) else none)) else none)))))
theorem hd_X8_copy : yX8_copy.cls ≠ "java/lang/invoke/MethodHandle" ∧ yX8_copy.cls ≠ "java/lang/invoke/VarHandle" ∧ (parseMethodDescriptor yX8_copy.desc).map (fun d => d.parameters.length) = some 5 := by decide +kernel
set_option maxHeartbeats 4000000 in
set_option maxRecDepth 100000 in
theorem c_X8_copy (l : Launch) (D : va_G) (cy : Nat → ClassId) (A : Nat → Prop) (ad : gA) (L : gL)  (σ : gS) (hT : (8, 0) ∈ L) (a1 : Int32) (a2 : Int32) (a3 : Int32) (a4 : Int32) (a5 : Int32) (r0 : Int32) (σ0 : gS) (hf : f_X8_copy ad σ a1 a2 a3 a4 a5 = some (r0, σ0)) : g_Mi l yX8_copy cX8_copy 8 (some .int) ({ frames := 2, cells := 0, slots := 0, locals := 84 } : Room) D cy A ad L σ [.ref (ad 8 0), .int a1, .int a2, .int a3, .int a4, .int a5] r0 σ0 := by
  refine g_met (by decide) (Nat.le_of_ble_eq_true rfl) (fun p e s m below meth c C hr hlocks hnm G ls hl => ?_)
  have hl : lv_has ls 8 [(0, .ref (ad 8 0)), (1, .int a1), (2, .int a2), (3, .int a3), (4, .int a4), (5, .int a5)] := hl
  unfold f_X8_copy at hf
  refine lv_iload_n C.x C.b dX8_copy_0 rfl (lv_at hl 1 rfl) ?_
  obtain ⟨q1, eq1, hf⟩ := g_b hf
  refine g_calli G (g_runS (As := [.int a1]) (rest := []) C G (c_X8_isShelf l D cy A ad L σ a1 q1 eq1) ⟨tw766, tw54, tw764, tw765, hd_X8_isShelf⟩ (by decide) hl.1 rfl (Nat.le_of_ble_eq_true rfl) dX8_copy_1 ⟨Nat.le_of_ble_eq_true rfl, Nat.le_of_ble_eq_true rfl⟩) (fun H locs G => ?_)
  refine lv_if_eq (tgt := 14) C.x C.b dX8_copy_4 (by decide) (fun cb => ?_) (fun cb => ?_)
  · have hf := g_t cb hf
    refine lv_iconst (v := (-1 : Int32)) C.x C.b dX8_copy_14 (by decide) ?_
    exact g_eii C G hr hlocks hf dX8_copy_15
  · have hf := g_f cb hf
    refine lv_iload_n C.x C.b dX8_copy_7 rfl (lv_at hl 3 rfl) ?_
    obtain ⟨q2, eq2, hf⟩ := g_b hf
    refine g_calli G (g_runS (As := [.int a3]) (rest := []) C G (c_X8_isShelf l D cy A ad L σ a3 q2 eq2) ⟨tw766, tw54, tw764, tw765, hd_X8_isShelf⟩ (by decide) hl.1 rfl (Nat.le_of_ble_eq_true rfl) dX8_copy_8 ⟨Nat.le_of_ble_eq_true rfl, Nat.le_of_ble_eq_true rfl⟩) (fun H locs G => ?_)
    refine lv_if_ne (tgt := 16) C.x C.b dX8_copy_11 (by decide) (fun cb => ?_) (fun cb => ?_)
    · have hf := g_f cb hf
      refine lv_aload_n C.x C.b dX8_copy_16 rfl (lv_at hl 0 rfl) ?_
      refine g_getr C G 8 0 3 30 hT rfl ginX8 (by decide) tw287 dX8_copy_17 (fun hL3 => ?_)
      refine lv_iload_n C.x C.b dX8_copy_20 rfl (lv_at hl 1 rfl) ?_
      obtain ⟨hi4, hf⟩ := g_ok hf
      obtain ⟨hq5, hf⟩ := g_okn hf
      refine g_aldq (n := 8) C G 30 0 7 hL3 (by decide) rfl rfl hi4 hq5 dX8_copy_21 (fun hL6 => ?_)
      refine lv_astore (lv' := [(6, .ref (ad 7 a1.toNatClampNeg)), (0, .ref (ad 8 0)), (1, .int a1), (2, .int a2), (3, .int a3), (4, .int a4), (5, .int a5)]) C.x C.b dX8_copy_22 hl (by decide) rfl (fun ls hl => ?_)
      refine lv_aload_n C.x C.b dX8_copy_24 rfl (lv_at hl 1 rfl) ?_
      refine g_getr C G 8 0 3 30 hT rfl ginX8 (by decide) tw287 dX8_copy_25 (fun hL7 => ?_)
      refine lv_iload_n C.x C.b dX8_copy_28 rfl (lv_at hl 4 rfl) ?_
      obtain ⟨hi8, hf⟩ := g_ok hf
      obtain ⟨hq9, hf⟩ := g_okn hf
      refine g_aldq (n := 8) C G 30 0 7 hL7 (by decide) rfl rfl hi8 hq9 dX8_copy_29 (fun hL10 => ?_)
      refine lv_astore (lv' := [(7, .ref (ad 7 a3.toNatClampNeg)), (6, .ref (ad 7 a1.toNatClampNeg)), (0, .ref (ad 8 0)), (1, .int a1), (2, .int a2), (3, .int a3), (4, .int a4), (5, .int a5)]) C.x C.b dX8_copy_30 hl (by decide) rfl (fun ls hl => ?_)
      refine lv_aload C.x C.b dX8_copy_32 (lv_at hl 1 rfl) ?_
      refine g_geti C G 7 a1.toNatClampNeg 0 hL6 rfl ginX7 (by decide) tw265 dX8_copy_34 ?_
      refine lv_if_eq (tgt := 48) C.x C.b dX8_copy_37 (by decide) (fun cb => ?_) (fun cb => ?_)
      · have hf := g_t cb hf
        refine lv_bipush (v := (-11 : Int32)) C.x C.b dX8_copy_48 (by decide) ?_
        exact g_eii C G hr hlocks hf dX8_copy_50
      · have hf := g_f cb hf
        refine lv_aload C.x C.b dX8_copy_40 (lv_at hl 0 rfl) ?_
        refine g_geti C G 7 a3.toNatClampNeg 0 hL10 rfl ginX7 (by decide) tw265 dX8_copy_42 ?_
        refine lv_if_ne (tgt := 51) C.x C.b dX8_copy_45 (by decide) (fun cb => ?_) (fun cb => ?_)
        · have hf := g_f cb hf
          refine lv_aload C.x C.b dX8_copy_51 (lv_at hl 1 rfl) ?_
          obtain ⟨q11, eq11, hf⟩ := g_b hf
          refine g_calli G (g_runV (As := []) (rest := []) C G 7 a1.toNatClampNeg (c_X7_isRow l D cy A ad L σ a1.toNatClampNeg hL6 q11 eq11) ⟨tw805, tw59, tw802, ⟨tw803, tw804⟩, hd_X7_isRow⟩ (by decide) hL6 rfl ⟨rfl, by decide⟩ hl.1 rfl (Nat.le_of_ble_eq_true rfl) dX8_copy_53 ⟨Nat.le_of_ble_eq_true rfl, Nat.le_of_ble_eq_true rfl⟩) (fun H locs G => ?_)
          refine lv_if_eq (tgt := 72) C.x C.b dX8_copy_56 (by decide) (fun cb => ?_) (fun cb => ?_)
          · have hf := g_t cb hf
            refine lv_bipush (v := (-12 : Int32)) C.x C.b dX8_copy_72 (by decide) ?_
            exact g_eii C G hr hlocks hf dX8_copy_74
          · have hf := g_f cb hf
            refine lv_aload C.x C.b dX8_copy_59 (lv_at hl 1 rfl) ?_
            refine g_geti C G 7 a1.toNatClampNeg 0 hL6 rfl ginX7 (by decide) tw265 dX8_copy_61 ?_
            refine lv_aload C.x C.b dX8_copy_64 (lv_at hl 0 rfl) ?_
            refine g_geti C G 7 a3.toNatClampNeg 0 hL10 rfl ginX7 (by decide) tw265 dX8_copy_66 ?_
            refine lv_icmp_eq (tgt := 75) C.x C.b dX8_copy_69 (by decide) (fun cb => ?_) (fun cb => ?_)
            · have hf := g_t cb hf
              refine lv_aload C.x C.b dX8_copy_75 (lv_at hl 1 rfl) ?_
              refine lv_iload_n C.x C.b dX8_copy_77 rfl (lv_at hl 4 rfl) ?_
              refine lv_iload C.x C.b dX8_copy_78 (lv_at hl 7 rfl) ?_
              obtain ⟨q12, eq12, hf⟩ := g_b hf
              refine g_calli G (g_runV (As := [.int a2, .int a5]) (rest := []) C G 7 a1.toNatClampNeg (c_X7_hasSpan l D cy A ad L σ a1.toNatClampNeg hL6 a2 a5 q12 eq12) ⟨tw809, tw59, tw806, ⟨tw807, tw808⟩, hd_X7_hasSpan⟩ (by decide) hL6 rfl ⟨rfl, by decide⟩ hl.1 rfl (Nat.le_of_ble_eq_true rfl) dX8_copy_80 ⟨Nat.le_of_ble_eq_true rfl, Nat.le_of_ble_eq_true rfl⟩) (fun H locs G => ?_)
              refine lv_if_eq (tgt := 98) C.x C.b dX8_copy_83 (by decide) (fun cb => ?_) (fun cb => ?_)
              · have hf := g_t cb hf
                refine lv_bipush (v := (-13 : Int32)) C.x C.b dX8_copy_98 (by decide) ?_
                exact g_eii C G hr hlocks hf dX8_copy_100
              · have hf := g_f cb hf
                refine lv_aload C.x C.b dX8_copy_86 (lv_at hl 0 rfl) ?_
                refine lv_iload C.x C.b dX8_copy_88 (lv_at hl 6 rfl) ?_
                refine lv_iload C.x C.b dX8_copy_90 (lv_at hl 7 rfl) ?_
                obtain ⟨q13, eq13, hf⟩ := g_b hf
                refine g_calli G (g_runV (As := [.int a4, .int a5]) (rest := []) C G 7 a3.toNatClampNeg (c_X7_hasSpan l D cy A ad L σ a3.toNatClampNeg hL10 a4 a5 q13 eq13) ⟨tw809, tw59, tw806, ⟨tw807, tw808⟩, hd_X7_hasSpan⟩ (by decide) hL10 rfl ⟨rfl, by decide⟩ hl.1 rfl (Nat.le_of_ble_eq_true rfl) dX8_copy_92 ⟨Nat.le_of_ble_eq_true rfl, Nat.le_of_ble_eq_true rfl⟩) (fun H locs G => ?_)
                refine lv_if_ne (tgt := 101) C.x C.b dX8_copy_95 (by decide) (fun cb => ?_) (fun cb => ?_)
                · have hf := g_f cb hf
                  refine lv_aload C.x C.b dX8_copy_101 (lv_at hl 1 rfl) ?_
                  refine lv_aload C.x C.b dX8_copy_103 (lv_at hl 0 rfl) ?_
                  refine lv_iload_n C.x C.b dX8_copy_105 rfl (lv_at hl 4 rfl) ?_
                  refine lv_iload C.x C.b dX8_copy_106 (lv_at hl 6 rfl) ?_
                  refine lv_iload C.x C.b dX8_copy_108 (lv_at hl 7 rfl) ?_
                  obtain ⟨σ14, eσ14, hf⟩ := g_b hf
                  refine g_callv G (g_runV (As := [.ref (ad 7 a3.toNatClampNeg), .int a2, .int a4, .int a5]) (rest := []) C G 7 a1.toNatClampNeg (c_X7_copyTo l D cy A ad L σ a1.toNatClampNeg hL6 a3.toNatClampNeg hL10 a2 a4 a5 σ14 eσ14) ⟨tw813, tw59, tw810, ⟨tw811, tw812⟩, hd_X7_copyTo⟩ (by decide) hL6 rfl ⟨rfl, by decide⟩ hl.1 rfl (Nat.le_of_ble_eq_true rfl) dX8_copy_110 ⟨Nat.le_of_ble_eq_true rfl, Nat.le_of_ble_eq_true rfl⟩) (fun H locs G => ?_)
                  refine lv_iload C.x C.b dX8_copy_113 (lv_at hl 7 rfl) ?_
                  exact g_eii C G hr hlocks hf dX8_copy_115
                · have hf := g_t cb hf
                  refine lv_bipush (v := (-13 : Int32)) C.x C.b dX8_copy_98 (by decide) ?_
                  exact g_eii C G hr hlocks hf dX8_copy_100
            · have hf := g_f cb hf
              refine lv_bipush (v := (-12 : Int32)) C.x C.b dX8_copy_72 (by decide) ?_
              exact g_eii C G hr hlocks hf dX8_copy_74
        · have hf := g_t cb hf
          refine lv_bipush (v := (-11 : Int32)) C.x C.b dX8_copy_48 (by decide) ?_
          exact g_eii C G hr hlocks hf dX8_copy_50
    · have hf := g_t cb hf
      refine lv_iconst (v := (-1 : Int32)) C.x C.b dX8_copy_14 (by decide) ?_
      exact g_eii C G hr hlocks hf dX8_copy_15
def f_X8_refusalOfLaw (ad : gA) (σ : gS) (a1 : Int32) : Option Int32 := ((f_X8_isShelf ad σ a1).bind fun q1 => (if q1 = 0 then (some (-1 : Int32)) else (if g_ix a1 8 then (if σ 30 0 a1.toNatClampNeg < 0 then none else (if (σ 7 a1.toNatClampNeg 0) = 0 then (some (-11 : Int32)) else (if g_ix a1 8 then (if σ 30 0 a1.toNatClampNeg < 0 then none else (if σ 7 a1.toNatClampNeg 1 < 0 then (some (-12 : Int32)) else (some (0 : Int32)))) else none))) else none)))
theorem hd_X8_refusalOfLaw : yX8_refusalOfLaw.cls ≠ "java/lang/invoke/MethodHandle" ∧ yX8_refusalOfLaw.cls ≠ "java/lang/invoke/VarHandle" ∧ (parseMethodDescriptor yX8_refusalOfLaw.desc).map (fun d => d.parameters.length) = some 1 := by decide +kernel
set_option maxHeartbeats 4000000 in
set_option maxRecDepth 100000 in
theorem c_X8_refusalOfLaw (l : Launch) (D : va_G) (cy : Nat → ClassId) (A : Nat → Prop) (ad : gA) (L : gL)  (σ : gS) (hT : (8, 0) ∈ L) (a1 : Int32) (r0 : Int32) (hf : f_X8_refusalOfLaw ad σ a1 = some r0) : g_Mi l yX8_refusalOfLaw cX8_refusalOfLaw 2 (some .int) ({ frames := 1, cells := 0, slots := 0, locals := 20 } : Room) D cy A ad L σ [.ref (ad 8 0), .int a1] r0 σ := by
  refine g_met (by decide) (Nat.le_of_ble_eq_true rfl) (fun p e s m below meth c C hr hlocks hnm G ls hl => ?_)
  have hl : lv_has ls 2 [(0, .ref (ad 8 0)), (1, .int a1)] := hl
  unfold f_X8_refusalOfLaw at hf
  refine lv_iload_n C.x C.b dX8_refusalOfLaw_0 rfl (lv_at hl 1 rfl) ?_
  obtain ⟨q1, eq1, hf⟩ := g_b hf
  refine g_calli G (g_runS (As := [.int a1]) (rest := []) C G (c_X8_isShelf l D cy A ad L σ a1 q1 eq1) ⟨tw766, tw54, tw764, tw765, hd_X8_isShelf⟩ (by decide) hl.1 rfl (Nat.le_of_ble_eq_true rfl) dX8_refusalOfLaw_1 ⟨Nat.le_of_ble_eq_true rfl, Nat.le_of_ble_eq_true rfl⟩) (fun H locs G => ?_)
  refine lv_if_ne (tgt := 9) C.x C.b dX8_refusalOfLaw_4 (by decide) (fun cb => ?_) (fun cb => ?_)
  · have hf := g_f cb hf
    refine lv_aload_n C.x C.b dX8_refusalOfLaw_9 rfl (lv_at hl 0 rfl) ?_
    refine g_getr C G 8 0 3 30 hT rfl ginX8 (by decide) tw287 dX8_refusalOfLaw_10 (fun hL2 => ?_)
    refine lv_iload_n C.x C.b dX8_refusalOfLaw_13 rfl (lv_at hl 1 rfl) ?_
    obtain ⟨hi3, hf⟩ := g_ok hf
    obtain ⟨hq4, hf⟩ := g_okn hf
    refine g_aldq (n := 8) C G 30 0 7 hL2 (by decide) rfl rfl hi3 hq4 dX8_refusalOfLaw_14 (fun hL5 => ?_)
    refine g_geti C G 7 a1.toNatClampNeg 0 hL5 rfl ginX7 (by decide) tw265 dX8_refusalOfLaw_15 ?_
    refine lv_if_ne (tgt := 24) C.x C.b dX8_refusalOfLaw_18 (by decide) (fun cb => ?_) (fun cb => ?_)
    · have hf := g_f cb hf
      refine lv_aload_n C.x C.b dX8_refusalOfLaw_24 rfl (lv_at hl 0 rfl) ?_
      refine g_getr C G 8 0 3 30 hT rfl ginX8 (by decide) tw287 dX8_refusalOfLaw_25 (fun hL6 => ?_)
      refine lv_iload_n C.x C.b dX8_refusalOfLaw_28 rfl (lv_at hl 1 rfl) ?_
      obtain ⟨hi7, hf⟩ := g_ok hf
      obtain ⟨hq8, hf⟩ := g_okn hf
      refine g_aldq (n := 8) C G 30 0 7 hL6 (by decide) rfl rfl hi7 hq8 dX8_refusalOfLaw_29 (fun hL9 => ?_)
      refine g_getq C G a1.toNatClampNeg hL9 ginX7 tw267 dX8_refusalOfLaw_30 (fun cb => ?_) (fun cb hL10 => ?_)
      · have hf := g_t cb hf
        refine lv_ifnonnullN C.x C.b dX8_refusalOfLaw_33 ?_
        refine lv_bipush (v := (-12 : Int32)) C.x C.b dX8_refusalOfLaw_36 (by decide) ?_
        refine lv_goto (tgt := 42) C.x C.b dX8_refusalOfLaw_38 (by decide) ?_
        exact g_eip C G hr hlocks hf dX8_refusalOfLaw_42
      · have hf := g_f cb hf
        refine lv_ifnonnull (tgt := 41) C.x C.b dX8_refusalOfLaw_33 (by decide) ?_
        refine lv_iconst (v := (0 : Int32)) C.x C.b dX8_refusalOfLaw_41 (by decide) ?_
        exact g_eip C G hr hlocks hf dX8_refusalOfLaw_42
    · have hf := g_t cb hf
      refine lv_bipush (v := (-11 : Int32)) C.x C.b dX8_refusalOfLaw_21 (by decide) ?_
      exact g_eip C G hr hlocks hf dX8_refusalOfLaw_23
  · have hf := g_t cb hf
    refine lv_iconst (v := (-1 : Int32)) C.x C.b dX8_refusalOfLaw_7 (by decide) ?_
    exact g_eip C G hr hlocks hf dX8_refusalOfLaw_8
def f_X8_weight (ad : gA) (σ : gS) (a1 : Int32) : Option Int32 := ((f_X8_refusalOfLaw ad σ a1).bind fun q1 => (if q1 = 0 then (if g_ix a1 8 then (if σ 30 0 a1.toNatClampNeg < 0 then none else (if σ 7 a1.toNatClampNeg 1 < 0 then none else ((f_X2_heft ad σ ((σ 7 a1.toNatClampNeg 1).toNatClampNeg)).bind fun q7 => (some q7)))) else none) else (some q1)))
theorem hd_X8_weight : yX8_weight.cls ≠ "java/lang/invoke/MethodHandle" ∧ yX8_weight.cls ≠ "java/lang/invoke/VarHandle" ∧ (parseMethodDescriptor yX8_weight.desc).map (fun d => d.parameters.length) = some 1 := by decide +kernel
set_option maxHeartbeats 4000000 in
set_option maxRecDepth 100000 in
theorem c_X8_weight (l : Launch) (D : va_G) (cy : Nat → ClassId) (A : Nat → Prop) (ad : gA) (L : gL)  (σ : gS) (hT : (8, 0) ∈ L) (a1 : Int32) (r0 : Int32) (hf : f_X8_weight ad σ a1 = some r0) : g_Mi l yX8_weight cX8_weight 3 (some .int) ({ frames := 2, cells := 0, slots := 0, locals := 41 } : Room) D cy A ad L σ [.ref (ad 8 0), .int a1] r0 σ := by
  refine g_met (by decide) (Nat.le_of_ble_eq_true rfl) (fun p e s m below meth c C hr hlocks hnm G ls hl => ?_)
  have hl : lv_has ls 3 [(0, .ref (ad 8 0)), (1, .int a1)] := hl
  unfold f_X8_weight at hf
  refine lv_aload_n C.x C.b dX8_weight_0 rfl (lv_at hl 0 rfl) ?_
  refine lv_iload_n C.x C.b dX8_weight_1 rfl (lv_at hl 1 rfl) ?_
  obtain ⟨q1, eq1, hf⟩ := g_b hf
  refine g_calli G (g_runV (As := [.int a1]) (rest := []) C G 8 0 (c_X8_refusalOfLaw l D cy A ad L σ hT a1 q1 eq1) ⟨tw824, tw54, tw821, ⟨tw823, tw16⟩, hd_X8_refusalOfLaw⟩ (by decide) hT rfl ⟨rfl, by decide⟩ hl.1 rfl (Nat.le_of_ble_eq_true rfl) dX8_weight_2 ⟨Nat.le_of_ble_eq_true rfl, Nat.le_of_ble_eq_true rfl⟩) (fun H locs G => ?_)
  refine lv_istore_n (lv' := [(2, .int q1), (0, .ref (ad 8 0)), (1, .int a1)]) C.x C.b dX8_weight_5 rfl hl (by decide) rfl (fun ls hl => ?_)
  refine lv_iload_n C.x C.b dX8_weight_6 rfl (lv_at hl 0 rfl) ?_
  refine lv_if_eq (tgt := 14) C.x C.b dX8_weight_7 (by decide) (fun cb => ?_) (fun cb => ?_)
  · have hf := g_t cb hf
    refine lv_aload_n C.x C.b dX8_weight_14 rfl (lv_at hl 1 rfl) ?_
    refine g_getr C G 8 0 3 30 hT rfl ginX8 (by decide) tw287 dX8_weight_15 (fun hL2 => ?_)
    refine lv_iload_n C.x C.b dX8_weight_18 rfl (lv_at hl 2 rfl) ?_
    obtain ⟨hi3, hf⟩ := g_ok hf
    obtain ⟨hq4, hf⟩ := g_okn hf
    refine g_aldq (n := 8) C G 30 0 7 hL2 (by decide) rfl rfl hi3 hq4 dX8_weight_19 (fun hL5 => ?_)
    refine g_getq C G a1.toNatClampNeg hL5 ginX7 tw267 dX8_weight_20 (fun cb => ?_) (fun cb hL6 => ?_)
    · exact absurd cb (g_okn hf).1
    · have hf := g_f cb hf
      obtain ⟨q7, eq7, hf⟩ := g_b hf
      refine g_calli G (g_runV (As := []) (rest := []) C G 2 ((σ 7 a1.toNatClampNeg 1).toNatClampNeg) (c_X2_heft l D cy A ad L σ ((σ 7 a1.toNatClampNeg 1).toNatClampNeg) hL6 q7 eq7) ⟨tw828, tw64, tw825, ⟨tw826, tw827⟩, hd_X2_heft⟩ (by decide) hL6 rfl ⟨rfl, by decide⟩ hl.1 rfl (Nat.le_of_ble_eq_true rfl) dX8_weight_23 ⟨Nat.le_of_ble_eq_true rfl, Nat.le_of_ble_eq_true rfl⟩) (fun H locs G => ?_)
      exact g_eip C G hr hlocks hf dX8_weight_26
  · have hf := g_f cb hf
    refine lv_iload_n C.x C.b dX8_weight_10 rfl (lv_at hl 0 rfl) ?_
    refine lv_goto (tgt := 26) C.x C.b dX8_weight_11 (by decide) ?_
    exact g_eip C G hr hlocks hf dX8_weight_26
